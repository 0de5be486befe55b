/-! the whole text -/
def rdK (N : Nat) (ty : Int32) (text : Nat → Int32) (L : Nat) (nx tk pa va fa dT dP sh : Int32) (need made skT plT skp whT : Nat → Int32) (l1 b : Int32) : Option (Int32 × Int32 × Int32 × Int32 × Int32 × Int32 × Int32 × Int32 × (Nat → Int32) × (Nat → Int32) × (Nat → Int32) × (Nat → Int32) × (Nat → Int32) × (Nat → Int32) × Int32) :=
  b6 (fX5_takes N ty nx tk pa va fa text b) (fun r nx tk pa va fa => b1 (fX5_isWell N fa) (fun w => if w = 0 then (if tk = (3 : Int32) then b6 (fX5_takes N ty nx tk pa va fa text (1 : Int32)) (fun _ nx tk pa va fa => fX5_read_36 N ty text L nx tk pa va fa dT dP sh need made skT plT skp whT (l1 + 1)) else b6 (fX5_takes N ty nx tk pa va fa text (0 : Int32)) (fun _ nx tk pa va fa => fX5_read_36 N ty text L nx tk pa va fa dT dP sh need made skT plT skp whT (l1 + 1))) else b14 (fX5_readsItem N ty nx tk pa va fa dT dP sh text need made skT plT skp whT r) (fun nx tk pa va fa dT dP sh need made skT plT skp whT => if tk = (3 : Int32) then b6 (fX5_takes N ty nx tk pa va fa text (1 : Int32)) (fun _ nx tk pa va fa => fX5_read_36 N ty text L nx tk pa va fa dT dP sh need made skT plT skp whT (l1 + 1)) else b6 (fX5_takes N ty nx tk pa va fa text (0 : Int32)) (fun _ nx tk pa va fa => fX5_read_36 N ty text L nx tk pa va fa dT dP sh need made skT plT skp whT (l1 + 1)))))
section
variable {N n m i T P e L : Nat} {tb nd yl sp sk pl wh : Nat → Nat} {signs text tokens starts : Nat → Int32} {cuts nx tk pa va trades people ended dT dP sh ty l1 : Int32} {needs yields skips skills places wheel need made skT plT skp whT : Nat → Int32}
theorem rd_no (h0 : ¬ tk = 0) (h1 : ¬ tk = (1 : Int32)) : fX5_read_36 N ty text (L + 1) nx tk pa va (-1 : Int32) dT dP sh need made skT plT skp whT l1 = rdK N ty text L nx tk pa va (-1 : Int32) dT dP sh need made skT plT skp whT l1 (0 : Int32) := by
  rw [fX5_read_36_s, isWellT, b1_s, if_neg (show ¬ (1 : Int32) = 0 by decide), if_neg h0]
  simp only [if_neg h1, ite_self]
  rfl
theorem rd_w0 (h1 : tk = (1 : Int32)) (hv : va = 0) : fX5_read_36 N ty text (L + 1) nx tk pa va (-1 : Int32) dT dP sh need made skT plT skp whT l1 = if (6 : Int32) ≤ dT then rdK N ty text L nx tk pa va (-1 : Int32) dT dP sh need made skT plT skp whT l1 (0 : Int32) else if sh = 0 then rdK N ty text L nx tk pa va (-1 : Int32) dT dP sh need made skT plT skp whT l1 (1 : Int32) else rdK N ty text L nx tk pa va (-1 : Int32) dT dP sh need made skT plT skp whT l1 (0 : Int32) := by
  rw [fX5_read_36_s, isWellT, b1_s, if_neg (show ¬ (1 : Int32) = 0 by decide), if_neg (by rw [h1]; decide), if_pos hv]
  simp only [if_pos h1]
  rfl
theorem rd_w1 (h1 : tk = (1 : Int32)) (hv : va = (1 : Int32)) : fX5_read_36 N ty text (L + 1) nx tk pa va (-1 : Int32) dT dP sh need made skT plT skp whT l1 = if (6 : Int32) ≤ dP then rdK N ty text L nx tk pa va (-1 : Int32) dT dP sh need made skT plT skp whT l1 (0 : Int32) else rdK N ty text L nx tk pa va (-1 : Int32) dT dP sh need made skT plT skp whT l1 (1 : Int32) := by
  rw [fX5_read_36_s, isWellT, b1_s, if_neg (show ¬ (1 : Int32) = 0 by decide), if_neg (by rw [h1]; decide), if_neg (by rw [hv]; decide), if_pos hv]
  simp only [if_pos h1]
  rfl
theorem rd_w5 (h1 : tk = (1 : Int32)) (hv : va = (5 : Int32)) : fX5_read_36 N ty text (L + 1) nx tk pa va (-1 : Int32) dT dP sh need made skT plT skp whT l1 = if dT ≤ 0 then rdK N ty text L nx tk pa va (-1 : Int32) dT dP sh need made skT plT skp whT l1 (0 : Int32) else rdK N ty text L nx tk pa va (-1 : Int32) dT dP sh need made skT plT skp whT l1 (1 : Int32) := by
  rw [fX5_read_36_s, isWellT, b1_s, if_neg (show ¬ (1 : Int32) = 0 by decide), if_neg (by rw [h1]; decide), if_neg (by rw [hv]; decide), if_neg (by rw [hv]; decide), if_pos hv]
  simp only [if_pos h1]
  rfl
theorem rd_w (h1 : tk = (1 : Int32)) (g0 : ¬ va = 0) (g1 : ¬ va = (1 : Int32)) (g5 : ¬ va = (5 : Int32)) : fX5_read_36 N ty text (L + 1) nx tk pa va (-1 : Int32) dT dP sh need made skT plT skp whT l1 = rdK N ty text L nx tk pa va (-1 : Int32) dT dP sh need made skT plT skp whT l1 (1 : Int32) := by
  rw [fX5_read_36_s, isWellT, b1_s, if_neg (show ¬ (1 : Int32) = 0 by decide), if_neg (by rw [h1]; decide), if_neg g0, if_neg g1, if_neg g5]
  simp only [if_pos h1]
  rfl
theorem rdF {f : Nat} (hf : f < 2147483648) : fX5_read_36 N ty text (L + 1) nx tk pa va (nI f) dT dP sh need made skT plT skp whT l1 = some (nx, tk, pa, va, nI f, dT, dP, sh, need, made, skT, plT, skp, whT, l1) := by
  rw [fX5_read_36_s, isWellF N hf, b1_s, if_pos rfl]
theorem rdK_0 (ct : CT n tb m cuts tokens starts) (mu : MU n tb i nx tk pa va) : rdK N (nI n) text (L + 1) nx tk pa va (-1 : Int32) dT dP sh need made skT plT skp whT l1 (0 : Int32) = some (nx, tk, pa, va, nI (stT n tb i), dT, dP, sh, need, made, skT, plT, skp, whT, l1 + 1) := by
  have hf := stT_lt ct (i := i)
  unfold rdK
  rw [takes0 mu, b6_s, isWellF N hf, b1_s, if_pos rfl, takesF hf, takesF hf, b6_s, rdF hf]
  by_cases h : tk = (3 : Int32)
  · rw [if_pos h]
  · rw [if_neg h]
theorem cdI_e {z : Nat × Nat} (h1 : z.1 = 1 → z.2 ≤ 5) (h2 : z.1 = 2 → z.2 ≤ 99) (h4 : z.1 ≤ 4) : (cdI z = (-1 : Int32) → z.1 = 0) ∧ (cdI z = (-2 : Int32) ↔ z.1 = 3) := by
  obtain ⟨k, v⟩ := z
  simp only at h1 h2 h4
  rcases (show k = 0 ∨ k = 1 ∨ k = 2 ∨ k = 3 ∨ k = 4 by omega) with rfl | rfl | rfl | rfl | rfl
  · exact ⟨fun _ => rfl, fun h => absurd h (by decide : ¬ (-1 : Int32) = -2), fun h => absurd h (show ¬ (0 : Nat) = 3 by decide)⟩
  · have := h1 rfl
    rcases (show v = 0 ∨ v = 1 ∨ v = 2 ∨ v = 3 ∨ v = 4 ∨ v = 5 by omega) with rfl | rfl | rfl | rfl | rfl | rfl <;> exact ⟨fun h => absurd h (by decide), fun h => absurd h (by decide), fun h => absurd h (by decide)⟩
  · have h9 := h2 rfl
    have hx : ∀ x : Int32, x < 0 → ¬ cdI (2, v) = x := fun x hx h => by
      have h' : nI v = x := h
      rw [← h'] at hx
      exact nI_pos (by omega) hx
    exact ⟨fun h => absurd h (hx _ (by decide)), fun h => absurd h (hx _ (by decide)), fun h => absurd h (show ¬ (2 : Nat) = 3 by decide)⟩
  · exact ⟨fun h => absurd h (by decide : ¬ (-2 : Int32) = -1), fun _ => rfl, fun _ => rfl⟩
  · exact ⟨fun h => absurd h (by decide : ¬ (-3 : Int32) = -1), fun h => absurd h (by decide : ¬ (-3 : Int32) = -2), fun h => absurd h (show ¬ (4 : Nat) = 3 by decide)⟩
end
/-- both programs behind the last item, or at the fault -/
def REND (n : Nat) (tb : Nat → Nat) (m : Nat) (need0 made0 skT0 plT0 skp0 whT0 : Nat → Int32) (x : Option ((Option Int32) × Int32 × Int32 × Int32 × (Nat → Int32) × (Nat → Int32) × (Nat → Int32) × (Nat → Int32) × (Nat → Int32) × (Nat → Int32) × Int32 × Int32)) (y : Option (Int32 × Int32 × Int32 × Int32 × Int32 × Int32 × Int32 × Int32 × (Nat → Int32) × (Nat → Int32) × (Nat → Int32) × (Nat → Int32) × (Nat → Int32) × (Nat → Int32) × Int32)) : Prop :=
  (∃ (i' it T P e : Nat) (nd yl sp sk pl wh : Nat → Nat) (trades people ended : Int32) (needs yields skips skills places wheel : Nat → Int32) (nx tk pa va dT dP sh : Int32) (need made skT plT skp whT : Nat → Int32), i' ≤ m ∧ it ≤ 400 ∧ x = some (none, trades, people, ended, needs, yields, skips, skills, places, wheel, nI i', nI it) ∧ y = some (nx, tk, pa, va, (-1 : Int32), dT, dP, sh, need, made, skT, plT, skp, whT, nI it) ∧ DR T P e nd yl sp sk pl wh trades people ended needs yields skips skills places wheel dT dP sh need made skT plT skp whT ∧ FR need0 made0 skT0 plT0 skp0 whT0 need made skT plT skp whT) ∨
  (∃ (j : Nat) (trades people ended : Int32) (needs yields skips skills places wheel : Nat → Int32) (nx tk pa va dT dP sh z z' : Int32) (need made skT plT skp whT : Nat → Int32), j ≤ m ∧ x = some (some (-9 : Int32), trades, people, ended, needs, yields, skips, skills, places, wheel, nI j, z) ∧ y = some (nx, tk, pa, va, nI (stT n tb j), dT, dP, sh, need, made, skT, plT, skp, whT, z') ∧ FR need0 made0 skT0 plT0 skp0 whT0 need made skT plT skp whT)
section
variable {N n m i T P e L : Nat} {tb nd yl sp sk pl wh : Nat → Nat} {signs text tokens starts : Nat → Int32} {cuts nx tk pa va trades people ended dT dP sh ty l1 : Int32} {needs yields skips skills places wheel need made skT plT skp whT : Nat → Int32}
theorem REND_no {j : Nat} {z z' : Int32} {need0 made0 skT0 plT0 skp0 whT0 : Nat → Int32} {x : Option ((Option Int32) × Int32 × Int32 × Int32 × (Nat → Int32) × (Nat → Int32) × (Nat → Int32) × (Nat → Int32) × (Nat → Int32) × (Nat → Int32) × Int32 × Int32)} {y : Option (Int32 × Int32 × Int32 × Int32 × Int32 × Int32 × Int32 × Int32 × (Nat → Int32) × (Nat → Int32) × (Nat → Int32) × (Nat → Int32) × (Nat → Int32) × (Nat → Int32) × Int32)} (hj : j ≤ m) (hx : x = some (some (-9 : Int32), trades, people, ended, needs, yields, skips, skills, places, wheel, nI j, z)) (hy : y = some (nx, tk, pa, va, nI (stT n tb j), dT, dP, sh, need, made, skT, plT, skp, whT, z')) (fr : FR need0 made0 skT0 plT0 skp0 whT0 need made skT plT skp whT) : REND n tb m need0 made0 skT0 plT0 skp0 whT0 x y :=
  Or.inr ⟨j, _, _, _, _, _, _, _, _, _, _, _, _, _, _, _, _, _, _, _, _, _, _, _, _, hj, hx, hy, fr⟩
theorem read_end (ct : CT n tb m cuts tokens starts) (hi : i ≤ m) {it f f' : Nat} (h2 : 2 * it ≤ i) (hk : (tkp n tb (stT n tb i)).1 = 0) (mu : MU n tb i nx tk pa va) (dr : DR T P e nd yl sp sk pl wh trades people ended needs yields skips skills places wheel dT dP sh need made skT plT skp whT) :
    REND n tb m need made skT plT skp whT (fX1_readAll_6 N cuts tokens (f + 1) trades people ended needs yields skips skills places wheel (nI i) (nI it)) (fX5_read_36 N (nI n) text (f' + 1) nx tk pa va (-1 : Int32) dT dP sh need made skT plT skp whT (nI it)) := by
  have h1 := ct.1
  have h4 := ct.2.1
  have hc : cdI (tkp n tb (stT n tb i)) = (-1 : Int32) := by
    unfold cdI
    rw [if_pos hk]
  have et : tk = 0 := by rw [mu.2.1, hk]; rfl
  rw [fX1_readAll_6_s, tokC ct hi, b1_s, if_pos hc, fX5_read_36_s, isWellT, b1_s, if_neg (show ¬ (1 : Int32) = 0 by decide), if_pos et]
  exact Or.inl ⟨i, it, T, P, e, nd, yl, sp, sk, pl, wh, _, _, _, _, _, _, _, _, _, _, _, _, _, _, _, _, _, _, _, _, _, _, hi, by omega, rfl, rfl, dr, FR.refl⟩
theorem read_both (hN : 402 ≤ N) (bx : BX n tb signs text) (ct : CT n tb m cuts tokens starts) : ∀ (d i it f f' T P e : Nat) (nd yl sp sk pl wh : Nat → Nat) (trades people ended : Int32) (needs yields skips skills places wheel : Nat → Int32) (nx tk pa va dT dP sh : Int32) (need made skT plT skp whT : Nat → Int32), m - i ≤ d → i ≤ m → d < f → d + 1 < f' → 2 * it ≤ i → MU n tb i nx tk pa va → DR T P e nd yl sp sk pl wh trades people ended needs yields skips skills places wheel dT dP sh need made skT plT skp whT →
    REND n tb m need made skT plT skp whT (fX1_readAll_6 N cuts tokens f trades people ended needs yields skips skills places wheel (nI i) (nI it)) (fX5_read_36 N (nI n) text f' nx tk pa va (-1 : Int32) dT dP sh need made skT plT skp whT (nI it)) := by
  have h1 := ct.1
  have h4 := ct.2.1
  intro d
  induction d with
  | zero =>
    intro i it f f' T P e nd yl sp sk pl wh trades people ended needs yields skips skills places wheel nx tk pa va dT dP sh need made skT plT skp whT hd hi hf hf' h2 mu dr
    obtain ⟨f, rfl⟩ : ∃ z, f = z + 1 := ⟨f - 1, by omega⟩
    obtain ⟨f', rfl⟩ : ∃ z, f' = z + 1 := ⟨f' - 1, by omega⟩
    have him : i = m := by omega
    subst him
    exact read_end ct hi h2 (by rw [lastC ct]) mu dr
  | succ d ih =>
    intro i it f f' T P e nd yl sp sk pl wh trades people ended needs yields skips skills places wheel nx tk pa va dT dP sh need made skT plT skp whT hd hi hf hf' h2 mu dr
    obtain ⟨f, rfl⟩ : ∃ z, f = z + 1 := ⟨f - 1, by omega⟩
    obtain ⟨f', rfl⟩ : ∃ z, f' = z + 1 + 1 := ⟨f' - 2, by omega⟩
    by_cases hk : (tkp n tb (stT n tb i)).1 = 0
    · exact read_end ct hi h2 hk mu dr
    · obtain ⟨k0, k1, k2, k4⟩ := tkp_ok bx (q := stT n tb i)
      obtain ⟨c1', c2'⟩ := cdI_e k1 k2 k4
      have hlt := notLast bx ct hi hk
      obtain ⟨⟨d1, d2, d3⟩, ⟨d4, d5, d6⟩, ⟨d7, d8, d9⟩, _⟩ := id dr
      have e400 : ¬ (400 : Int32) ≤ nI it := by rw [c400, sle (by decide) (by omega)]; omega
      have eit : nI it + (1 : Int32) = nI (it + 1) := by rw [c1, nI_add]
      rw [fX1_readAll_6_s, tokC ct hi, b1_s, if_neg (fun z => hk (c1' z)), if_neg e400]
      by_cases hmay : ∃ v, tkp n tb (stT n tb i) = (1, v) ∧ mayV v T P e
      · obtain ⟨v, hv, hm⟩ := hmay
        have et : tk = (1 : Int32) := by rw [mu.2.1, hv]; rfl
        have ev : va = nI v := by
          have := mu.2.2.2 (Or.inl (by rw [hv]))
          rw [hv] at this
          exact this
        have hK : fX5_read_36 N (nI n) text (f' + 1 + 1) nx tk pa va (-1 : Int32) dT dP sh need made skT plT skp whT (nI it) = rdK N (nI n) text (f' + 1) nx tk pa va (-1 : Int32) dT dP sh need made skT plT skp whT (nI it) (1 : Int32) := by
          rcases hm with ⟨rfl, hT, he⟩ | ⟨rfl, hP⟩ | rfl | rfl | rfl | ⟨rfl, hT⟩
          · rw [rd_w0 et ev, if_neg (by rw [d7, c6, sle (by decide) (by omega)]; omega), if_pos (by rw [d9, he]; rfl)]
          · rw [rd_w1 et ev, if_neg (by rw [d8, c6, sle (by decide) (by omega)]; omega)]
          · exact rd_w et (by rw [ev]; decide) (by rw [ev]; decide) (by rw [ev]; decide)
          · exact rd_w et (by rw [ev]; decide) (by rw [ev]; decide) (by rw [ev]; decide)
          · exact rd_w et (by rw [ev]; decide) (by rw [ev]; decide) (by rw [ev]; decide)
          · rw [rd_w5 et ev, if_neg (by rw [d7, c0, sle (by omega) (by decide)]; omega)]
        obtain ⟨xa, xb, xc, xd, t1, t2⟩ := takes1 (N := N) hN bx mu
        rw [hK]
        unfold rdK
        rw [t1, b6_s, isWellT, b1_s, if_neg (show ¬ (1 : Int32) = 0 by decide), ev]
        rcases item_may hN bx ct hlt hv t2 dr hm with ⟨i', T', P', e', nd', yl', sp', sk', pl', wh', trades', people', ended', needs', yields', skips', skills', places', wheel', nx', tk', pa', va', dT', dP', sh', need', made', skT', plT', skp', whT', hi1, hi2, hx, hy, mu', dr', fr'⟩ | ⟨j, trades', people', ended', needs', yields', skips', skills', places', wheel', nx', tk', pa', va', dT', dP', sh', need', made', skT', plT', skp', whT', hj, hx, hy, fr'⟩
        · obtain ⟨q0, q1, q2, q4⟩ := tkp_ok bx (q := stT n tb i')
          obtain ⟨_, w2⟩ := cdI_e q1 q2 q4
          rw [hx, hy, b11_s, b14_s, if_neg (show ¬ (1 : Int32) = 0 by decide), tokC ct hi2, b1_s]
          by_cases h3 : (tkp n tb (stT n tb i')).1 = 3
          · have hlt' := notLast bx ct hi2 (by omega)
            have et' : tk' = (3 : Int32) := by rw [mu'.2.1, h3]; rfl
            obtain ⟨ya, yb, yc, yd, s1, s2⟩ := takes1 (N := N) hN bx mu'
            rw [if_pos (w2.mpr h3), passC ct hlt', b1_s, if_pos et', s1, b6_s, eit]
            have := ih (i' + 1) (it + 1) f (f' + 1) T' P' e' nd' yl' sp' sk' pl' wh' trades' people' ended' needs' yields' skips' skills' places' wheel' ya yb yc yd dT' dP' sh' need' made' skT' plT' skp' whT' (by omega) (by omega) (by omega) (by omega) (by omega) s2 dr'
            rcases this with ⟨a1, a2, a3, a4, a5, a6, a7, a8, a9, a10, a11, a12, a13, a14, a15, a16, a17, a18, a19, a20, a21, a22, a23, a24, a25, a26, a27, a28, a29, a30, a31, a32, a33, g1, g2, g3, g4, g5, g6⟩ | ⟨a1, a2, a3, a4, a5, a6, a7, a8, a9, a10, a11, a12, a13, a14, a15, a16, a17, a18, a19, a20, a21, a22, a23, a24, a25, g1, g2, g3, g4⟩
            · exact Or.inl ⟨a1, a2, a3, a4, a5, a6, a7, a8, a9, a10, a11, a12, a13, a14, a15, a16, a17, a18, a19, a20, a21, a22, a23, a24, a25, a26, a27, a28, a29, a30, a31, a32, a33, g1, g2, g3, g4, g5, fr'.trans g6⟩
            · exact Or.inr ⟨a1, a2, a3, a4, a5, a6, a7, a8, a9, a10, a11, a12, a13, a14, a15, a16, a17, a18, a19, a20, a21, a22, a23, a24, a25, g1, g2, g3, fr'.trans g4⟩
          · have et' : ¬ tk' = (3 : Int32) := by rw [mu'.2.1, c3, seq (by omega) (by decide)]; exact h3
            rw [if_neg (fun z => h3 (w2.mp z)), if_neg et', takes0 mu', b6_s, rdF (stT_lt ct)]
            exact REND_no (j := i') hi2 rfl rfl fr'
        · rw [hx, hy, b11_s, b14_s, if_pos rfl, takesF (stT_lt ct), takesF (stT_lt ct), b6_s, rdF (stT_lt ct), ite_self]
          exact REND_no (j := j) hj rfl rfl fr'
      · have hn : ∀ v, tkp n tb (stT n tb i) = (1, v) → ¬ mayV v T P e := fun v hv hm => hmay ⟨v, hv, hm⟩
        have hK : fX5_read_36 N (nI n) text (f' + 1 + 1) nx tk pa va (-1 : Int32) dT dP sh need made skT plT skp whT (nI it) = rdK N (nI n) text (f' + 1) nx tk pa va (-1 : Int32) dT dP sh need made skT plT skp whT (nI it) (0 : Int32) := by
          by_cases hk1 : (tkp n tb (stT n tb i)).1 = 1
          · have h5 := k1 hk1
            have et : tk = (1 : Int32) := by rw [mu.2.1, hk1]; rfl
            have ev := mu.2.2.2 (Or.inl hk1)
            have hz := hn (tkp n tb (stT n tb i)).2 (by rw [← hk1])
            generalize (tkp n tb (stT n tb i)).2 = v at *
            unfold mayV at hz
            rcases (show v = 0 ∨ v = 1 ∨ v = 2 ∨ v = 3 ∨ v = 4 ∨ v = 5 by omega) with rfl | rfl | rfl | rfl | rfl | rfl
            · rw [rd_w0 et ev, d7, c6, ic (sle (by decide) (by omega))]
              by_cases hT : 6 ≤ T
              · rw [if_pos hT]
              · rw [if_neg hT, if_neg (by rw [d9, c0, seq (by omega) (by decide)]; omega)]
            · rw [rd_w1 et ev, if_pos (by rw [d8, c6, sle (by decide) (by omega)]; omega)]
            · omega
            · omega
            · omega
            · rw [rd_w5 et ev, if_pos (by rw [d7, c0, sle (by omega) (by decide)]; omega)]
          · exact rd_no (by rw [mu.2.1, c0, seq (by omega) (by decide)]; exact hk) (by rw [mu.2.1, c1, seq (by omega) (by decide)]; exact hk1)
        rw [hK, rdK_0 ct mu, item_not ct bx hlt dr hn, b11_s, if_pos rfl]
        exact REND_no (j := i) hi rfl rfl FR.refl
/-! before and behind the items -/
theorem tellNothing_s (hN : 37 ≤ N) : ∃ sk' kl' pl' wh', fX1_tellNothing N trades people ended skips skills places wheel = some ((0 : Int32), (0 : Int32), (0 : Int32), sk', kl', pl', wh') ∧ (∀ p, p < 6 → sk' p = nI 0 ∧ pl' p = m9) ∧ (∀ k, k < 36 → kl' k = nI 3) ∧ ∀ k, k < 6 → wh' k = nI k := by
  have cc : ∀ k j, decide (j < k + 1) = (decide (j < k) || decide (j = k)) := fun k j => by rw [Bool.eq_iff_iff]; simp only [decide_eq_true_eq, Bool.or_eq_true]; omega
  have q1 := lpN (fun n (z : (Nat → Int32) × Int32) => fX1_tellNothing_17 N n z.1 z.2) (fun k => (ov (fun j => decide (j < k)) wheel nI, nI k)) 6 _
    (fun n k hk => by
      show fX1_tellNothing_17 N (n + 1) _ (nI k) = _
      dsimp only
      rw [fX1_tellNothing_17_s, c6, ic (sle (by omega) (by omega)), if_neg (by omega), sgd (by omega) (by decide), sclamp (by omega), c1, nI_add, ov_upd (c' := fun j => decide (j < k + 1)) (v := nI) rfl (cc k)])
    (fun n => by
      show fX1_tellNothing_17 N (n + 1) _ (nI 6) = _
      dsimp only
      rw [fX1_tellNothing_17_s, c6, ic (sle (by omega) (by omega)), if_pos (Nat.le_refl _)])
    6 0 (by omega) N (by omega)
  have q2 := lpN (fun n (z : (Nat → Int32) × (Nat → Int32) × Int32) => fX1_tellNothing_38 N n z.1 z.2.1 z.2.2) (fun k => (ov (fun j => decide (j < k)) skips (fun _ => nI 0), ov (fun j => decide (j < k)) places (fun _ => m9), nI k)) 6 _
    (fun n k hk => by
      show fX1_tellNothing_38 N (n + 1) _ _ (nI k) = _
      dsimp only
      rw [fX1_tellNothing_38_s, c6, ic (sle (by omega) (by omega)), if_neg (by omega), sgd (by omega) (by decide), sgd (by omega) (by decide), sclamp (by omega), m9e, c0, c1, nI_add, ov_upd (c' := fun j => decide (j < k + 1)) (v := fun _ => nI 0) rfl (cc k), ov_upd (c' := fun j => decide (j < k + 1)) (v := fun _ => m9) rfl (cc k)])
    (fun n => by
      show fX1_tellNothing_38 N (n + 1) _ _ (nI 6) = _
      dsimp only
      rw [fX1_tellNothing_38_s, c6, ic (sle (by omega) (by omega)), if_pos (Nat.le_refl _)])
    6 0 (by omega) N (by omega)
  have q3 := lpN (fun n (z : (Nat → Int32) × Int32) => fX1_tellNothing_67 N n z.1 z.2) (fun k => (ov (fun j => decide (j < k)) skills (fun _ => nI 3), nI k)) 36 _
    (fun n k hk => by
      show fX1_tellNothing_67 N (n + 1) _ (nI k) = _
      dsimp only
      rw [fX1_tellNothing_67_s, c36, ic (sle (by omega) (by omega)), if_neg (by omega), sgd (by omega) (by decide), sclamp (by omega), c3, c1, nI_add, ov_upd (c' := fun j => decide (j < k + 1)) (v := fun _ => nI 3) rfl (cc k)])
    (fun n => by
      show fX1_tellNothing_67 N (n + 1) _ (nI 36) = _
      dsimp only
      rw [fX1_tellNothing_67_s, c36, ic (sle (by omega) (by omega)), if_pos (Nat.le_refl _)])
    36 0 (by omega) N (by omega)
  have h0 : ∀ f v : Nat → Int32, ov (fun j => decide (j < 0)) f v = f := fun f v => ov_0 (fun j => by simp)
  simp only [h0] at q1 q2 q3
  have q1' : fX1_tellNothing_17 N N wheel (0 : Int32) = _ := q1
  have q2' : fX1_tellNothing_38 N N skips places (0 : Int32) = _ := q2
  have q3' : fX1_tellNothing_67 N N skills (0 : Int32) = _ := q3
  refine ⟨_, _, _, _, ?_, fun p hp => ⟨ov_v (c := fun j => decide (j < 6)) (f := skips) (v := fun _ => nI 0) (decide_eq_true hp), ov_v (c := fun j => decide (j < 6)) (f := places) (v := fun _ => m9) (decide_eq_true hp)⟩, fun k hk => ov_v (c := fun j => decide (j < 36)) (f := skills) (v := fun _ => nI 3) (decide_eq_true hk), fun k hk => ov_v (c := fun j => decide (j < 6)) (f := wheel) (v := nI) (decide_eq_true hk)⟩
  unfold fX1_tellNothing
  rw [q1', b2_s, q2', b3_s, q3', b2_s]
/-- where each stands at first -/
def plF (T : Nat) (pl : Nat → Nat) (places : Nat → Int32) (p : Nat) : Nat := if places p = m9 then (if T = 0 then 0 else p % T) else pl p
theorem placeRest_s (hN : 7 ≤ N) (hP : P ≤ 6) (hT : T ≤ 6) (h : ∀ p, p < P → places p = m9 ∨ places p = nI (pl p)) : ∃ pl', fX1_placeTheRest N (nI T) (nI P) places = some pl' ∧ ∀ p, p < P → pl' p = nI (plF T pl places p) := by
  have key := lpI (fun n (z : (Nat → Int32) × Int32) => fX1_placeTheRest_2 N (nI T) (nI P) n z.1 z.2)
    (fun k z => ((∀ j, j < k → z.1 j = nI (plF T pl places j)) ∧ ∀ j, k ≤ j → z.1 j = places j) ∧ z.2 = nI k)
    (fun r => ∀ p, p < P → r.1 p = nI (plF T pl places p)) P
    (fun n k z hk hz => by
      obtain ⟨s1, l1⟩ := z
      obtain ⟨⟨h1, h3⟩, h2⟩ := hz
      simp only [] at h1 h2 h3
      subst h2
      dsimp only
      rw [fX1_placeTheRest_2_s, ic (sle (by omega) (by omega)), if_neg (by omega), sgd (by omega) (by decide), sclamp (by omega), h3 k (Nat.le_refl _), m9e, c1, nI_add]
      have put : ∀ v : Int32, v = nI (plF T pl places k) → (∀ j, j < k + 1 → upd s1 k v j = nI (plF T pl places j)) ∧ ∀ j, k + 1 ≤ j → upd s1 k v j = places j := by
        intro v hv
        refine ⟨fun j hj => ?_, fun j hj => ?_⟩
        · by_cases e : j = k
          · rw [e, up_s, hv]
          · rw [up_n e]; exact h1 j (by omega)
        · rw [up_n (by omega)]; exact h3 j (by omega)
      by_cases hm : places k = m9
      · rw [if_pos hm, c0, ic (seq (by omega) (by decide))]
        by_cases hz : T = 0
        · rw [if_pos hz, sgd (by omega) (by decide)]
          exact ⟨(_, nI (k + 1)), rfl, put _ (by unfold plF; rw [if_pos hm, if_pos hz]), rfl⟩
        · rw [if_neg hz, sgz (by omega) (by omega), sgd (by omega) (by decide), pk_rem (by omega) (by omega) (by omega)]
          exact ⟨(_, nI (k + 1)), rfl, put _ (by unfold plF; rw [if_pos hm, if_neg hz]), rfl⟩
      · rw [if_neg hm]
        refine ⟨(s1, nI (k + 1)), rfl, ⟨fun j hj => ?_, fun j hj => h3 j (by omega)⟩, rfl⟩
        show s1 j = _
        by_cases e : j = k
        · rw [e, h3 k (Nat.le_refl _)]
          unfold plF
          rw [if_neg hm]
          rcases h k hk with h' | h'
          · exact absurd h' hm
          · exact h'
        · exact h1 j (by omega))
    (fun n z hz => by
      obtain ⟨s1, l1⟩ := z
      obtain ⟨⟨h1, h3⟩, h2⟩ := hz
      simp only [] at h1 h2 h3
      subst h2
      dsimp only
      refine ⟨(s1, nI P), ?_, h1⟩
      rw [fX1_placeTheRest_2_s, if_pos (nI_le (Nat.le_refl _) (by omega))])
    P 0 (by omega) N (by omega) (places, nI 0) ⟨⟨fun j hj => by omega, fun j _ => rfl⟩, rfl⟩
  obtain ⟨⟨s', z⟩, h1, h2⟩ := key
  have h1' : fX1_placeTheRest_2 N (nI T) (nI P) N places (0 : Int32) = _ := h1
  refine ⟨s', ?_, h2⟩
  unfold fX1_placeTheRest
  rw [h1', b2_s]
theorem read218_s (hN : 7 ≤ N) (hP : P ≤ 6) (hT : T ≤ 6) (h : ∀ p, p < P → (places p = m9 ∧ plT (6 + p) = m9) ∨ (places p = nI (pl p) ∧ pl p < T ∧ plT (6 + p) = nI (pl p))) :
    ∃ need' made' plT' skp' whT', (∃ z, fX5_read_218 N (nI T) (nI P) N need made plT skp whT (0 : Int32) = some (need', made', plT', skp', whT', z)) ∧ (∀ k, k < 6 → need' k = need (6 + k) ∧ made' k = made (6 + k) ∧ skp' k = skp (6 + k) ∧ whT' k = whT (6 + k)) ∧ ∀ p, p < P → plT' p = nI (plF T pl places p) := by
  have key := lpI (fun n (z : (Nat → Int32) × (Nat → Int32) × (Nat → Int32) × (Nat → Int32) × (Nat → Int32) × Int32) => fX5_read_218 N (nI T) (nI P) n z.1 z.2.1 z.2.2.1 z.2.2.2.1 z.2.2.2.2.1 z.2.2.2.2.2)
    (fun k z => (∀ j, j < k → z.1 j = need (6 + j) ∧ z.2.1 j = made (6 + j) ∧ z.2.2.2.1 j = skp (6 + j) ∧ z.2.2.2.2.1 j = whT (6 + j)) ∧ (∀ j, j < k → j < P → z.2.2.1 j = nI (plF T pl places j)) ∧ (∀ j, 6 ≤ j → z.1 j = need j ∧ z.2.1 j = made j ∧ z.2.2.1 j = plT j ∧ z.2.2.2.1 j = skp j ∧ z.2.2.2.2.1 j = whT j) ∧ z.2.2.2.2.2 = nI k)
    (fun r => (∀ k, k < 6 → r.1 k = need (6 + k) ∧ r.2.1 k = made (6 + k) ∧ r.2.2.2.1 k = skp (6 + k) ∧ r.2.2.2.2.1 k = whT (6 + k)) ∧ ∀ p, p < P → r.2.2.1 p = nI (plF T pl places p)) 6
    (fun n k z hk hz => by
      obtain ⟨s1, s2, s3, s4, s5, l1⟩ := z
      obtain ⟨h1, h2, h3, h4⟩ := hz
      simp only [] at h1 h2 h3 h4
      subst h4
      dsimp only
      obtain ⟨u1, u2, u3, u4, u5⟩ := h3 (6 + k) (by omega)
      have e6 : (6 : Int32) + nI k = nI (6 + k) := by rw [c6, nI_add]
      have g1 : ∀ {α : Type} (x : Option α), gd (nI (6 + k)) 12 x = x := fun x => sgd (by omega) (by decide)
      have g2 : ∀ {α : Type} (x : Option α), gd (nI k) 12 x = x := fun x => sgd (by omega) (by decide)
      have g3 : (nI (6 + k)).toNatClampNeg = 6 + k := sclamp (by omega)
      have g4 : (nI k).toNatClampNeg = k := sclamp (by omega)
      have g5 : nI k + (1 : Int32) = nI (k + 1) := by rw [c1, nI_add]
      rw [fX5_read_218_s, show (if (6 : Int32) ≤ nI k then _ else _) = _ from if_neg (by rw [c6, sle (by decide) (by omega)]; omega)]
      simp only [e6, g1, g2, g3, g4, g5, u1, u2, u3, u4, u5]
      have put : ∀ v : Int32, (k < P → v = nI (plF T pl places k)) → ((∀ j, j < k + 1 → upd s1 k (need (6 + k)) j = need (6 + j) ∧ upd s2 k (made (6 + k)) j = made (6 + j) ∧ upd s4 k (skp (6 + k)) j = skp (6 + j) ∧ upd s5 k (whT (6 + k)) j = whT (6 + j)) ∧ (∀ j, j < k + 1 → j < P → upd s3 k v j = nI (plF T pl places j)) ∧ (∀ j, 6 ≤ j → upd s1 k (need (6 + k)) j = need j ∧ upd s2 k (made (6 + k)) j = made j ∧ upd s3 k v j = plT j ∧ upd s4 k (skp (6 + k)) j = skp j ∧ upd s5 k (whT (6 + k)) j = whT j)) := by
        intro v hv
        refine ⟨fun j hj => ?_, fun j hj hjP => ?_, fun j hj => ?_⟩
        · by_cases e : j = k
          · subst e; rw [up_s, up_s, up_s, up_s]; exact ⟨rfl, rfl, rfl, rfl⟩
          · rw [up_n e, up_n e, up_n e, up_n e]; exact h1 j (by omega)
        · by_cases e : j = k
          · subst e; rw [up_s]; exact hv hjP
          · rw [up_n e]; exact h2 j (by omega) hjP
        · rw [up_n (by omega), up_n (by omega), up_n (by omega), up_n (by omega), up_n (by omega)]; exact h3 j hj
      rw [ic (sle (by omega) (by omega))]
      by_cases hp : P ≤ k
      · rw [if_pos hp]
        obtain ⟨p1, p2, p3⟩ := put (0 : Int32) (fun z => by omega)
        exact ⟨(_, _, _, _, _, nI (k + 1)), rfl, p1, p2, p3, rfl⟩
      · rw [if_neg hp, c0, ic (seq (by omega) (by decide))]
        by_cases hz : T = 0
        · rw [if_pos hz]
          obtain ⟨p1, p2, p3⟩ := put (nI 0) (fun z => by
            unfold plF
            rcases h k z with ⟨w1, w2⟩ | ⟨w1, w2, w3⟩
            · rw [if_pos w1, if_pos hz]
            · omega)
          exact ⟨(_, _, _, _, _, nI (k + 1)), rfl, p1, p2, p3, rfl⟩
        · rw [if_neg hz, m9e]
          rcases h k (by omega) with ⟨w1, w2⟩ | ⟨w1, w2, w3⟩
          · rw [if_pos w2, sgz (by omega) (by omega), pk_rem (by omega) (by omega) (by omega)]
            obtain ⟨p1, p2, p3⟩ := put (nI (k % T)) (fun z => by unfold plF; rw [if_pos w1, if_neg hz])
            exact ⟨(_, _, _, _, _, nI (k + 1)), rfl, p1, p2, p3, rfl⟩
          · rw [w3, ic (seqm (by omega)), if_neg id]
            obtain ⟨p1, p2, p3⟩ := put (nI (pl k)) (fun z => by unfold plF; rw [if_neg (by rw [w1, seqm (by omega)]; exact id)])
            exact ⟨(_, _, _, _, _, nI (k + 1)), rfl, p1, p2, p3, rfl⟩)
    (fun n z hz => by
      obtain ⟨s1, s2, s3, s4, s5, l1⟩ := z
      obtain ⟨h1, h2, h3, h4⟩ := hz
      simp only [] at h1 h2 h3 h4
      subst h4
      dsimp only
      refine ⟨(s1, s2, s3, s4, s5, nI 6), ?_, h1, fun p hp => h2 p (by omega) hp⟩
      rw [fX5_read_218_s, c6, if_pos (nI_le (Nat.le_refl _) (by omega))])
    6 0 (by omega) N (by omega) (need, made, plT, skp, whT, nI 0) ⟨fun j hj => by omega, fun j hj => by omega, fun j _ => ⟨rfl, rfl, rfl, rfl, rfl⟩, rfl⟩
  obtain ⟨⟨s1, s2, s3, s4, s5, z⟩, h1, h2, h3⟩ := key
  exact ⟨s1, s2, s3, s4, s5, ⟨z, h1⟩, h2, h3⟩
theorem read349_s (hN : 37 ≤ N) : ∃ skT', (∃ z, fX5_read_349 N N skT (0 : Int32) = some (skT', z)) ∧ ∀ k, k < 36 → skT' k = skT (36 + k) := by
  have key := lpI (fun n (z : (Nat → Int32) × Int32) => fX5_read_349 N n z.1 z.2)
    (fun k z => (∀ j, j < k → z.1 j = skT (36 + j)) ∧ (∀ j, 36 ≤ j → z.1 j = skT j) ∧ z.2 = nI k)
    (fun r => ∀ k, k < 36 → r.1 k = skT (36 + k)) 36
    (fun n k z hk hz => by
      obtain ⟨s1, l1⟩ := z
      obtain ⟨h1, h2, h3⟩ := hz
      simp only [] at h1 h2 h3
      subst h3
      dsimp only
      rw [fX5_read_349_s, c36, ic (sle (by omega) (by omega)), if_neg (by omega), nI_add, sgd (by omega) (by decide), sgd (by omega) (by decide), sclamp (by omega), sclamp (by omega), c1, nI_add, h2 _ (by omega)]
      refine ⟨(_, nI (k + 1)), rfl, fun j hj => ?_, fun j hj => ?_, rfl⟩
      · show upd _ _ _ _ = _
        by_cases e : j = k
        · subst e; rw [up_s]
        · rw [up_n e]; exact h1 j (by omega)
      · show upd _ _ _ _ = _
        rw [up_n (by omega)]; exact h2 j hj)
    (fun n z hz => by
      obtain ⟨s1, l1⟩ := z
      obtain ⟨h1, h2, h3⟩ := hz
      simp only [] at h1 h2 h3
      subst h3
      dsimp only
      refine ⟨(s1, nI 36), ?_, h1⟩
      rw [fX5_read_349_s, c36, if_pos (nI_le (Nat.le_refl _) (by omega))])
    36 0 (by omega) N (by omega) (skT, nI 0) ⟨fun j hj => by omega, fun j _ => rfl, rfl⟩
  obtain ⟨⟨s1, z⟩, h1, h2⟩ := key
  exact ⟨s1, ⟨z, h1⟩, h2⟩
end
