/-! items, on both sides -/
theorem gb1' {α : Type} {x : Option α} : gb (1 : Int32) x = x := sgb1
theorem gb0' {α : Type} {x : Option α} : gb (0 : Int32) x = x := sgb0
theorem win_any (N : Nat) (x a b : Int32) : fX4_within N x a b = some (nI 1) ∨ fX4_within N x a b = some (nI 0) := by
  unfold fX4_within
  by_cases h : x < a
  · rw [if_pos h]; exact Or.inr rfl
  · rw [if_neg h]
    by_cases g : b < x
    · rw [if_pos g]; exact Or.inr rfl
    · rw [if_neg g]; exact Or.inl rfl
/-- what a range of numbers lets through -/
def RGE (a : Nat) (hi : Int32) (P : Nat → Prop) : Prop := ∀ v, v ≤ 99 → (P v ∧ ∀ N, fX4_within N (nI v) (nI a) hi = some (nI 1)) ∨ (∀ N, fX4_within N (nI v) (nI a) hi = some (nI 0))
theorem RGE_c {a b : Nat} (ha : a ≤ 99) (hb : b ≤ 99) : RGE a (nI b) (fun v => a ≤ v ∧ v ≤ b) := by
  intro v hv
  rcases rng (nI v) a b (by omega) (by omega) with ⟨k, h1, h2, h3, h4⟩ | ⟨h4, _⟩
  · have : v = k := (nI_eq (by omega) (by omega)).mp h3
    subst this
    exact Or.inl ⟨⟨h1, h2⟩, h4⟩
  · exact Or.inr h4
theorem RGE_T {T : Nat} (hT : T ≤ 6) : RGE 0 (nI T - (1 : Int32)) (fun v => v < T) := by
  intro v hv
  by_cases h0 : T = 0
  · right
    intro N
    subst h0
    unfold fX4_within
    rw [if_neg (show ¬ nI v < nI 0 by rw [slt (by omega) (by decide)]; omega), if_pos (show nI 0 - (1 : Int32) < nI v by
      rw [Int32.lt_iff_toInt_lt, nI_toInt (by omega)]
      have e1 : (nI 0 - (1 : Int32)).toInt = -1 := by decide
      omega)]
    rfl
  · have e : nI T - (1 : Int32) = nI (T - 1) := by rw [c1, ssub (by omega)]
    rw [e]
    rcases RGE_c (a := 0) (b := T - 1) (by omega) (by omega) v hv with ⟨h1, h2⟩ | h
    · exact Or.inl ⟨by omega, h2⟩
    · exact Or.inr h
theorem isWellT (N : Nat) : fX5_isWell N (-1 : Int32) = some (1 : Int32) := rfl
theorem isWellF (N : Nat) {f : Nat} (hf : f < 2147483648) : fX5_isWell N (nI f) = some (0 : Int32) := by
  unfold fX5_isWell
  rw [if_pos (by rw [c0, sle (by decide) hf]; omega)]
section
variable {N n m : Nat} {tb : Nat → Nat} {signs text tokens starts : Nat → Int32} {cuts nx tk pa va : Int32}
theorem tkp_ok (bx : BX n tb signs text) {q : Nat} : ((tkp n tb q).1 = 0 → n ≤ q) ∧ ((tkp n tb q).1 = 1 → (tkp n tb q).2 ≤ 5) ∧ ((tkp n tb q).1 = 2 → (tkp n tb q).2 ≤ 99) ∧ (tkp n tb q).1 ≤ 4 := by
  unfold tkp
  by_cases h : n ≤ q
  · rw [if_pos h]; exact ⟨fun _ => h, fun z => (by cases z), fun z => (by cases z), by decide⟩
  · rw [if_neg h]
    cases hl : ltr (tb q) with
    | true =>
      rw [if_pos rfl]
      unfold wdx
      cases wdM tb q (enT n tb q) (wdB 0) <;> cases wdM tb q (enT n tb q) (wdB 1) <;> cases wdM tb q (enT n tb q) (wdB 2) <;> cases wdM tb q (enT n tb q) (wdB 3) <;> cases wdM tb q (enT n tb q) (wdB 4) <;> cases wdM tb q (enT n tb q) (wdB 5) <;> exact ⟨fun z => absurd z (by decide), fun _ => by decide, fun z => absurd z (by decide), by decide⟩
    | false =>
      rw [if_neg (by decide)]
      cases hf : fgr (tb q) with
      | true =>
        have hf' := fgr_t.mp hf
        rw [if_pos rfl]
        unfold nmx
        by_cases e1 : enT n tb q - q = 1
        · rw [if_pos e1]; exact ⟨fun z => (by cases z), fun z => (by cases z), fun _ => by show tb q - 48 ≤ 99; omega, Nat.le_of_ble_eq_true rfl⟩
        · rw [if_neg e1]
          by_cases e2 : enT n tb q - q = 2 ∧ tb q ≠ 48
          · have hin := (run_p (c := fun j => fgr (tb j)) (n := n) _ (q + 1) rfl).2.2 (q + 1) (Nat.le_refl _) (by
              have : enT n tb q = run (fun j => fgr (tb j)) n (q + 1) := by unfold enT; rw [if_neg (by rw [hl]; decide), if_pos hf]
              omega)
            have hin' := fgr_t.mp hin
            rw [if_pos e2]; exact ⟨fun z => (by cases z), fun z => (by cases z), fun _ => by show 10 * (tb q - 48) + (tb (q + 1) - 48) ≤ 99; omega, Nat.le_of_ble_eq_true rfl⟩
          · rw [if_neg e2]; exact ⟨fun z => (by cases z), fun z => (by cases z), fun z => (by cases z), by decide⟩
      | false =>
        rw [if_neg (by decide)]
        by_cases h9 : tb q = 59
        · rw [if_pos h9]; exact ⟨fun z => (by cases z), fun z => (by cases z), fun z => (by cases z), by decide⟩
        · rw [if_neg h9]; exact ⟨fun z => (by cases z), fun z => (by cases z), fun z => (by cases z), by decide⟩
theorem cdI_neg {z : Nat × Nat} (h2 : z.1 ≠ 2) (h1 : z.1 = 1 → z.2 ≤ 5) (h4 : z.1 ≤ 4) : cdI z < 0 := by
  obtain ⟨k, v⟩ := z
  simp only at h1 h2 h4
  rcases (show k = 0 ∨ k = 1 ∨ k = 3 ∨ k = 4 by omega) with rfl | rfl | rfl | rfl
  · exact (by decide : (-1 : Int32) < 0)
  · have := h1 rfl
    rcases (show v = 0 ∨ v = 1 ∨ v = 2 ∨ v = 3 ∨ v = 4 ∨ v = 5 by omega) with rfl | rfl | rfl | rfl | rfl | rfl <;> exact (by decide)
  · exact (by decide : (-2 : Int32) < 0)
  · exact (by decide : (-3 : Int32) < 0)
theorem tokC (ct : CT n tb m cuts tokens starts) {i : Nat} (hi : i ≤ m) : fX0_token N (nI i) tokens = some (cdI (tkp n tb (stT n tb i))) := by
  have h1 := ct.1
  have h2 := ct.2.1
  unfold fX0_token
  rw [sgd (by omega) (by decide), sclamp (by omega), (ct.2.2.2.2.2 i hi).1]
theorem passC (ct : CT n tb m cuts tokens starts) {i : Nat} (hi : i < m) : fX0_pass N cuts (nI i) = some (nI (i + 1)) := by
  have h1 := ct.1
  have h2 := ct.2.1
  unfold fX0_pass
  rw [ct.2.2.1, c1, ssub (by omega), ic (sle (by omega) (by omega)), if_neg (by omega), nI_add]
theorem lastC (ct : CT n tb m cuts tokens starts) : tkp n tb (stT n tb m) = (0, 0) := by
  unfold tkp
  rw [ct.2.2.2.2.1, if_pos (Nat.le_refl _)]
theorem notLast (bx : BX n tb signs text) (ct : CT n tb m cuts tokens starts) {i : Nat} (hi : i ≤ m) (hk : (tkp n tb (stT n tb i)).1 ≠ 0) : i < m := by
  by_cases h : i = m
  · subst h
    rw [lastC ct] at hk
    exact absurd rfl hk
  · omega
theorem stT_lt (ct : CT n tb m cuts tokens starts) {i : Nat} : stT n tb i < 2147483648 := by
  have h2 := ct.2.1
  have := stT_le (n := n) (tb := tb) i
  omega
theorem takes1 (hN : 402 ≤ N) (bx : BX n tb signs text) {i : Nat} (mu : MU n tb i nx tk pa va) : ∃ a b c v, fX5_takes N (nI n) nx tk pa va (-1 : Int32) text (1 : Int32) = some (va, a, b, c, v, (-1 : Int32)) ∧ MU n tb (i + 1) a b c v := by
  obtain ⟨a, b, c, v, h1, h2⟩ := adv_s hN bx (i + 1) tk pa va
  refine ⟨a, b, c, v, ?_, h2⟩
  unfold fX5_takes
  rw [mu.1, isWellT, b1_s, if_neg (by decide), if_neg (by decide), h1, b4_s]
theorem takes0 {i : Nat} (mu : MU n tb i nx tk pa va) : fX5_takes N (nI n) nx tk pa va (-1 : Int32) text (0 : Int32) = some ((0 : Int32), nx, tk, pa, va, nI (stT n tb i)) := by
  unfold fX5_takes
  rw [isWellT, b1_s, if_neg (by decide), if_pos rfl, mu.2.2.1]
theorem takesF {ty : Int32} {f : Nat} (hf : f < 2147483648) (b : Int32) : fX5_takes N ty nx tk pa va (nI f) text b = some ((0 : Int32), nx, tk, pa, va, nI f) := by
  unfold fX5_takes
  rw [isWellF N hf, b1_s, if_pos rfl]
theorem numF {ty : Int32} {f : Nat} (hf : f < 2147483648) (lo hi : Int32) : fX5_number N ty nx tk pa va (nI f) text lo hi = some ((0 : Int32), nx, tk, pa, va, nI f) := by
  unfold fX5_number
  rw [in_e, takesF hf, takesF hf, b6_s]
  by_cases h : tk = (2 : Int32)
  · rw [if_pos h]
    rcases win_any N va lo hi with g | g
    · rw [g, b1_s, if10]
    · rw [g, b1_s, if00]
  · rw [if_neg h]
theorem num_both (hN : 402 ≤ N) (bx : BX n tb signs text) (ct : CT n tb m cuts tokens starts) {i : Nat} (hi : i ≤ m) (mu : MU n tb i nx tk pa va) {a : Nat} {hi' : Int32} {P : Nat → Prop} (ha : a ≤ 1) (hP : RGE a hi' P) :
    (∃ v b c d e, i < m ∧ v ≤ 99 ∧ P v ∧ fX0_number N cuts (nI i) tokens (nI a) hi' = some (nI v, nI (i + 1)) ∧ fX5_number N (nI n) nx tk pa va (-1 : Int32) text (nI a) hi' = some (nI v, b, c, d, e, (-1 : Int32)) ∧ MU n tb (i + 1) b c d e) ∨
    (fX0_number N cuts (nI i) tokens (nI a) hi' = some (m9, nI i) ∧ fX5_number N (nI n) nx tk pa va (-1 : Int32) text (nI a) hi' = some ((0 : Int32), nx, tk, pa, va, nI (stT n tb i))) := by
  obtain ⟨k0, k1, k2, k4⟩ := tkp_ok bx (q := stT n tb i)
  unfold fX0_number fX5_number
  rw [tokC ct hi, b1_s, in_e, takes0 mu, b6_s]
  by_cases h2 : (tkp n tb (stT n tb i)).1 = 2
  · have hv := k2 h2
    have hlt := notLast bx ct hi (by omega)
    have ev : va = nI (tkp n tb (stT n tb i)).2 := mu.2.2.2 (Or.inr h2)
    have et : tk = (2 : Int32) := by rw [mu.2.1, h2]; rfl
    have ec : cdI (tkp n tb (stT n tb i)) = nI (tkp n tb (stT n tb i)).2 := by
      unfold cdI
      rw [if_neg (by omega), if_neg (by omega), if_pos h2]
    obtain ⟨b, c, d, e, t1, t2⟩ := takes1 (N := N) hN bx mu
    rw [if_pos et, ec, t1, b6_s, passC ct hlt, b1_s, ev]
    rcases hP _ hv with ⟨g1, g2⟩ | g
    · rw [g2 N, b1_s, b1_s, if10, if10]
      exact Or.inl ⟨_, b, c, d, e, hlt, hv, g1, rfl, rfl, t2⟩
    · rw [g N, b1_s, b1_s, if00, if00]
      exact Or.inr ⟨rfl, rfl⟩
  · have hn := cdI_neg h2 k1 k4
    have et : ¬ tk = (2 : Int32) := by rw [mu.2.1, c2, seq (by omega) (by decide)]; exact h2
    rw [inN_s N hn (by omega), b1_s, if00, if_neg et]
    exact Or.inr ⟨rfl, rfl⟩
end
/-- what is told so far, on both sides -/
def DR (T P e : Nat) (nd yl sp sk pl wh : Nat → Nat) (trades people ended : Int32) (needs yields skips skills places wheel : Nat → Int32) (dT dP sh : Int32) (need made skT plT skp whT : Nat → Int32) : Prop :=
  (T ≤ 6 ∧ P ≤ 6 ∧ e ≤ 1) ∧ (trades = nI T ∧ people = nI P ∧ ended = nI e) ∧ (dT = nI T ∧ dP = nI P ∧ sh = nI e) ∧
  (∀ k, k < T → (nd k ≤ 99 ∧ 1 ≤ yl k ∧ yl k ≤ 9) ∧ needs k = nI (nd k) ∧ yields k = nI (yl k) ∧ need (6 + k) = nI (nd k) ∧ made (6 + k) = nI (yl k)) ∧
  (∀ p, p < P → sp p < 64 ∧ skips p = nI (sp p) ∧ skp (6 + p) = nI (sp p)) ∧
  (∀ p, P ≤ p → p < 6 → skips p = nI 0 ∧ places p = m9 ∧ ∀ k, k < 6 → skills (p * 6 + k) = nI 3) ∧
  (∀ p, p < P → ∀ k, k < 6 → sk (p * 6 + k) ≤ 9 ∧ skills (p * 6 + k) = nI (sk (p * 6 + k)) ∧ skT (36 + 6 * p + k) = nI (sk (p * 6 + k))) ∧
  (∀ p, p < P → (places p = m9 ∧ plT (6 + p) = m9) ∨ (pl p < T ∧ places p = nI (pl p) ∧ plT (6 + p) = nI (pl p))) ∧
  (∀ k, k < T → wh k < T ∧ wheel k = nI (wh k) ∧ whT (6 + k) = nI (wh k)) ∧ (e = 0 → ∀ k, k < 6 → wheel k = nI k)
abbrev CO11 : Type := Int32 × Int32 × Int32 × Int32 × (Nat → Int32) × (Nat → Int32) × (Nat → Int32) × (Nat → Int32) × (Nat → Int32) × (Nat → Int32) × Int32
abbrev MO14 : Type := Int32 × Int32 × Int32 × Int32 × Int32 × Int32 × Int32 × Int32 × (Nat → Int32) × (Nat → Int32) × (Nat → Int32) × (Nat → Int32) × (Nat → Int32) × (Nat → Int32)
/-- an item was read on both sides, or can't stand there on both -/
def FR (need made skT plT skp whT need' made' skT' plT' skp' whT' : Nat → Int32) : Prop := (∀ j, j < 6 → need' j = need j ∧ made' j = made j ∧ plT' j = plT j ∧ skp' j = skp j ∧ whT' j = whT j) ∧ ∀ j, j < 36 → skT' j = skT j
theorem FR.refl {need made skT plT skp whT : Nat → Int32} : FR need made skT plT skp whT need made skT plT skp whT := ⟨fun _ _ => ⟨rfl, rfl, rfl, rfl, rfl⟩, fun _ _ => rfl⟩
theorem FR.trans {a1 a2 a3 a4 a5 a6 b1 b2 b3 b4 b5 b6 c1 c2 c3 c4 c5 c6 : Nat → Int32} (h : FR a1 a2 a3 a4 a5 a6 b1 b2 b3 b4 b5 b6) (g : FR b1 b2 b3 b4 b5 b6 c1 c2 c3 c4 c5 c6) : FR a1 a2 a3 a4 a5 a6 c1 c2 c3 c4 c5 c6 := by
  refine ⟨fun j hj => ?_, fun j hj => (g.2 j hj).trans (h.2 j hj)⟩
  obtain ⟨h1, h2, h3, h4, h5⟩ := h.1 j hj
  obtain ⟨g1, g2, g3, g4, g5⟩ := g.1 j hj
  exact ⟨g1.trans h1, g2.trans h2, g3.trans h3, g4.trans h4, g5.trans h5⟩
def OUT (n : Nat) (tb : Nat → Nat) (m i : Nat) (need0 made0 skT0 plT0 skp0 whT0 : Nat → Int32) (x : Option CO11) (y : Option MO14) : Prop :=
  (∃ (i' T P e : Nat) (nd yl sp sk pl wh : Nat → Nat) (trades people ended : Int32) (needs yields skips skills places wheel : Nat → Int32) (nx tk pa va dT dP sh : Int32) (need made skT plT skp whT : Nat → Int32), i ≤ i' ∧ i' ≤ m ∧ x = some ((1 : Int32), trades, people, ended, needs, yields, skips, skills, places, wheel, nI i') ∧ y = some (nx, tk, pa, va, (-1 : Int32), dT, dP, sh, need, made, skT, plT, skp, whT) ∧ MU n tb i' nx tk pa va ∧ DR T P e nd yl sp sk pl wh trades people ended needs yields skips skills places wheel dT dP sh need made skT plT skp whT ∧ FR need0 made0 skT0 plT0 skp0 whT0 need made skT plT skp whT) ∨
  (∃ (j : Nat) (trades people ended : Int32) (needs yields skips skills places wheel : Nat → Int32) (nx tk pa va dT dP sh : Int32) (need made skT plT skp whT : Nat → Int32), j ≤ m ∧ x = some ((0 : Int32), trades, people, ended, needs, yields, skips, skills, places, wheel, nI j) ∧ y = some (nx, tk, pa, va, nI (stT n tb j), dT, dP, sh, need, made, skT, plT, skp, whT) ∧ FR need0 made0 skT0 plT0 skp0 whT0 need made skT plT skp whT)
theorem OUT_no {n m i j : Nat} {tb : Nat → Nat} {trades people ended nx tk pa va dT dP sh : Int32} {needs yields skips skills places wheel need made skT plT skp whT need0 made0 skT0 plT0 skp0 whT0 : Nat → Int32} {x : Option CO11} {y : Option MO14} (hj : j ≤ m) (hx : x = some ((0 : Int32), trades, people, ended, needs, yields, skips, skills, places, wheel, nI j)) (hy : y = some (nx, tk, pa, va, nI (stT n tb j), dT, dP, sh, need, made, skT, plT, skp, whT)) (fr : FR need0 made0 skT0 plT0 skp0 whT0 need made skT plT skp whT) : OUT n tb m i need0 made0 skT0 plT0 skp0 whT0 x y := Or.inr ⟨j, _, _, _, _, _, _, _, _, _, _, _, _, _, _, _, _, _, _, _, _, _, _, hj, hx, hy, fr⟩
theorem OUT_yes {n m i i' T P e : Nat} {tb nd yl sp sk pl wh : Nat → Nat} {trades people ended nx tk pa va dT dP sh : Int32} {needs yields skips skills places wheel need made skT plT skp whT need0 made0 skT0 plT0 skp0 whT0 : Nat → Int32} {x : Option CO11} {y : Option MO14} (hi : i ≤ i') (hm : i' ≤ m) (hx : x = some ((1 : Int32), trades, people, ended, needs, yields, skips, skills, places, wheel, nI i')) (hy : y = some (nx, tk, pa, va, (-1 : Int32), dT, dP, sh, need, made, skT, plT, skp, whT)) (mu : MU n tb i' nx tk pa va) (dr : DR T P e nd yl sp sk pl wh trades people ended needs yields skips skills places wheel dT dP sh need made skT plT skp whT) (fr : FR need0 made0 skT0 plT0 skp0 whT0 need made skT plT skp whT) : OUT n tb m i need0 made0 skT0 plT0 skp0 whT0 x y := Or.inl ⟨i', T, P, e, nd, yl, sp, sk, pl, wh, _, _, _, _, _, _, _, _, _, _, _, _, _, _, _, _, _, _, _, _, _, _, hi, hm, hx, hy, mu, dr, fr⟩
theorem k10 : ((1 : Int32) = (0 : Int32)) = False := eq_false (by decide)
theorem k15 : ((1 : Int32) = (5 : Int32)) = False := eq_false (by decide)
theorem k12 : ((1 : Int32) = (2 : Int32)) = False := eq_false (by decide)
theorem k13 : ((1 : Int32) = (3 : Int32)) = False := eq_false (by decide)
theorem k20 : ((2 : Int32) = (0 : Int32)) = False := eq_false (by decide)
theorem k21 : ((2 : Int32) = (1 : Int32)) = False := eq_false (by decide)
theorem k25 : ((2 : Int32) = (5 : Int32)) = False := eq_false (by decide)
theorem k23 : ((2 : Int32) = (3 : Int32)) = False := eq_false (by decide)
theorem k30 : ((3 : Int32) = (0 : Int32)) = False := eq_false (by decide)
theorem k31 : ((3 : Int32) = (1 : Int32)) = False := eq_false (by decide)
theorem k35 : ((3 : Int32) = (5 : Int32)) = False := eq_false (by decide)
theorem k32 : ((3 : Int32) = (2 : Int32)) = False := eq_false (by decide)
theorem k40 : ((4 : Int32) = (0 : Int32)) = False := eq_false (by decide)
theorem k41 : ((4 : Int32) = (1 : Int32)) = False := eq_false (by decide)
theorem k45 : ((4 : Int32) = (5 : Int32)) = False := eq_false (by decide)
theorem k42 : ((4 : Int32) = (2 : Int32)) = False := eq_false (by decide)
theorem k43 : ((4 : Int32) = (3 : Int32)) = False := eq_false (by decide)
theorem k50 : ((5 : Int32) = (0 : Int32)) = False := eq_false (by decide)
theorem k51 : ((5 : Int32) = (1 : Int32)) = False := eq_false (by decide)
theorem k52 : ((5 : Int32) = (2 : Int32)) = False := eq_false (by decide)
theorem k53 : ((5 : Int32) = (3 : Int32)) = False := eq_false (by decide)
theorem kl2 : ((2 : Int32) ≤ (1 : Int32)) = False := eq_false (by decide)
theorem kl3 : ((3 : Int32) ≤ (1 : Int32)) = False := eq_false (by decide)
theorem kl4 : ((4 : Int32) ≤ (1 : Int32)) = False := eq_false (by decide)
theorem kl5 : ((5 : Int32) ≤ (1 : Int32)) = False := eq_false (by decide)
theorem kl1 : ((1 : Int32) ≤ (1 : Int32)) = True := eq_true (by decide)
theorem kl0 : ((0 : Int32) ≤ (1 : Int32)) = True := eq_true (by decide)
theorem kq (x : Int32) : (x = x) = True := eq_self x
section
variable {N n m i T P e : Nat} {tb nd yl sp sk pl wh : Nat → Nat} {signs text tokens starts : Nat → Int32} {cuts nx tk pa va trades people ended dT dP sh : Int32} {needs yields skips skills places wheel need made skT plT skp whT : Nat → Int32}
theorem it_trade (hN : 402 ≤ N) (bx : BX n tb signs text) (ct : CT n tb m cuts tokens starts) (hi : i ≤ m) (mu : MU n tb i nx tk pa va) (dr : DR T P e nd yl sp sk pl wh trades people ended needs yields skips skills places wheel dT dP sh need made skT plT skp whT) (hT : T < 6) (he : e = 0) :
    OUT n tb m i need made skT plT skp whT (b5 (fX1_readTrade N trades needs yields cuts (nI i) tokens) (fun r t nn y c => gb r (some (r, t, people, ended, nn, y, skips, skills, places, wheel, c)))) (fX5_readsItem N (nI n) nx tk pa va (-1 : Int32) dT dP sh text need made skT plT skp whT (0 : Int32)) := by
  subst he
  obtain ⟨⟨d1, d2, d3⟩, ⟨d4, d5, d6⟩, ⟨d7, d8, d9⟩, d10, d11, d12, d13, d14, d15, d16⟩ := id dr
  have e6 : (6 : Int32) + dT = nI (6 + T) := by rw [d7, c6, nI_add]
  have cc : ∀ {α : Type} (x : Option α), gd ((6 : Int32) + dT) 12 x = x := fun x => by rw [e6, sgd (by omega) (by decide)]
  have sh0 : sh = (0 : Int32) := d9
  have cc2 : ((6 : Int32) + dT).toNatClampNeg = 6 + T := by rw [e6, sclamp (by omega)]
  have nn : ∀ v, v ≤ 99 → ¬ nI v = (-9 : Int32) := fun v hv => by rw [m9e, seqm (by omega)]; exact id
  unfold fX1_readTrade fX5_readsItem
  rw [if_pos (show (0 : Int32) = 0 from rfl)]
  simp only [cc, cc2, if_pos sh0, if_pos (show (0 : Int32) ≤ 1 by decide)]
  rcases num_both (N := N) hN bx ct hi mu (a := 0) (hi' := nI 99) (by omega) (RGE_c (by omega) (by omega)) with ⟨v1, xb, xc, xd, xe, l1, l2, p1, q1, q2, mu1⟩ | ⟨q1, q2⟩
  · have q1' : fX0_number N cuts (nI i) tokens (0 : Int32) (99 : Int32) = _ := q1
    have q2' : fX5_number N (nI n) nx tk pa va (-1 : Int32) text (0 : Int32) (99 : Int32) = _ := q2
    rw [q1', q2', b2_s, b6_s, if_neg (nn v1 l2)]
    rcases num_both (N := N) hN bx ct (i := i + 1) (by omega) mu1 (a := 1) (hi' := nI 9) (by omega) (RGE_c (by omega) (by omega)) with ⟨v2, yb, yc, yd, ye, l3, l4, p2, r1, r2, mu2⟩ | ⟨r1, r2⟩
    · have r1' : fX0_number N cuts (nI (i + 1)) tokens (1 : Int32) (9 : Int32) = _ := r1
      have r2' : fX5_number N (nI n) xb xc xd xe (-1 : Int32) text (1 : Int32) (9 : Int32) = _ := r2
      rw [r1', r2', b2_s, b6_s, if_neg (nn v2 l4), d4, sgd (by omega) (by decide), sgd (by omega) (by decide), sclamp (by omega), b5_s, gb1']
      refine OUT_yes (i' := i + 1 + 1) (T := T + 1) (P := P) (e := 0) (nd := fun k => if k = T then v1 else nd k) (yl := fun k => if k = T then v2 else yl k) (sp := sp) (sk := sk) (pl := pl) (wh := fun k => if k = T then T else wh k) (by omega) (by omega) rfl rfl mu2 ⟨⟨by omega, d2, by omega⟩, ⟨by rw [c1, nI_add], d5, d6⟩, ⟨by rw [d7, c1, nI_add], d8, rfl⟩, fun k hk => ?_, d11, d12, d13, fun p hp => ?_, fun k hk => ?_, fun _ => d16 rfl⟩ ⟨fun j hj => ⟨by first | rfl | rw [up_n (by omega)], by first | rfl | rw [up_n (by omega)], by first | rfl | rw [up_n (by omega)], by first | rfl | rw [up_n (by omega)], by first | rfl | rw [up_n (by omega)]⟩, fun j hj => by first | rfl | rw [up_n (by omega)]⟩
      · show ((if k = T then v1 else nd k) ≤ 99 ∧ 1 ≤ (if k = T then v2 else yl k) ∧ (if k = T then v2 else yl k) ≤ 9) ∧ upd needs T (nI v1) k = nI (if k = T then v1 else nd k) ∧ upd yields T (nI v2) k = nI (if k = T then v2 else yl k) ∧ upd need (6 + T) (nI v1) (6 + k) = nI (if k = T then v1 else nd k) ∧ upd made (6 + T) (nI v2) (6 + k) = nI (if k = T then v2 else yl k)
        by_cases e : k = T
        · simp only [if_pos e]
          rw [e, up_s, up_s, up_s, up_s]
          exact ⟨⟨by omega, by omega, by omega⟩, rfl, rfl, rfl, rfl⟩
        · simp only [if_neg e]
          rw [up_n e, up_n e, up_n (by omega), up_n (by omega)]
          exact d10 k (by omega)
      · rcases d14 p hp with h | ⟨h1, h2⟩
        · exact Or.inl h
        · exact Or.inr ⟨by omega, h2⟩
      · show (if k = T then T else wh k) < T + 1 ∧ wheel k = nI (if k = T then T else wh k) ∧ upd whT (6 + T) dT (6 + k) = nI (if k = T then T else wh k)
        by_cases e : k = T
        · simp only [if_pos e]
          rw [e, up_s]
          exact ⟨by omega, d16 rfl T (by omega), d7⟩
        · have h := d15 k (by omega)
          simp only [if_neg e]
          rw [up_n (by omega)]
          exact ⟨by omega, h.2⟩
    · have r1' : fX0_number N cuts (nI (i + 1)) tokens (1 : Int32) (9 : Int32) = _ := r1
      have r2' : fX5_number N (nI n) xb xc xd xe (-1 : Int32) text (1 : Int32) (9 : Int32) = _ := r2
      rw [r1', r2', b2_s, b6_s, if_pos (show m9 = (-9 : Int32) from rfl), b5_s, gb0']
      exact OUT_no (j := i + 1) (by omega) rfl rfl ⟨fun j hj => ⟨by first | rfl | rw [up_n (by omega)], by first | rfl | rw [up_n (by omega)], by first | rfl | rw [up_n (by omega)], by first | rfl | rw [up_n (by omega)], by first | rfl | rw [up_n (by omega)]⟩, fun j hj => by first | rfl | rw [up_n (by omega)]⟩
  · have q1' : fX0_number N cuts (nI i) tokens (0 : Int32) (99 : Int32) = _ := q1
    have q2' : fX5_number N (nI n) nx tk pa va (-1 : Int32) text (0 : Int32) (99 : Int32) = _ := q2
    rw [q1', q2', b2_s, b6_s, if_pos (show m9 = (-9 : Int32) from rfl), b5_s, gb0', numF (stT_lt ct), b6_s]
    exact OUT_no (j := i) hi rfl rfl ⟨fun j hj => ⟨by first | rfl | rw [up_n (by omega)], by first | rfl | rw [up_n (by omega)], by first | rfl | rw [up_n (by omega)], by first | rfl | rw [up_n (by omega)], by first | rfl | rw [up_n (by omega)]⟩, fun j hj => by first | rfl | rw [up_n (by omega)]⟩
theorem it78_s (hN : 7 ≤ N) {P : Nat} (hP : P < 6) : ∃ s', (∃ z, fX5_readsItem_78 N (nI P) N skT (0 : Int32) = some (s', z)) ∧ (∀ k, k < 6 → s' (36 + 6 * P + k) = nI 3) ∧ ∀ j, (j < 36 + 6 * P ∨ 36 + 6 * P + 6 ≤ j) → s' j = skT j := by
  have key := lpI (fun n (z : (Nat → Int32) × Int32) => fX5_readsItem_78 N (nI P) n z.1 z.2)
    (fun k z => ((∀ j, j < k → z.1 (36 + 6 * P + j) = nI 3) ∧ ∀ j, (j < 36 + 6 * P ∨ 36 + 6 * P + 6 ≤ j) → z.1 j = skT j) ∧ z.2 = nI k)
    (fun r => (∀ k, k < 6 → r.1 (36 + 6 * P + k) = nI 3) ∧ ∀ j, (j < 36 + 6 * P ∨ 36 + 6 * P + 6 ≤ j) → r.1 j = skT j) 6
    (fun n k z hk hz => by
      obtain ⟨s1, l1⟩ := z
      obtain ⟨⟨h1, h3⟩, h2⟩ := hz
      simp only [] at h1 h2 h3
      subst h2
      dsimp only
      rw [fX5_readsItem_78_s, c6, c36, ic (sle (by omega) (by omega)), if_neg (by omega), pk_mul, nI_add, nI_add, sgd (by omega) (by decide), sclamp (by omega), c3, c1, nI_add]
      refine ⟨(_, nI (k + 1)), rfl, ⟨fun j hj => ?_, fun j hj => ?_⟩, rfl⟩
      · show upd _ _ _ _ = _
        by_cases e : j = k
        · subst e; rw [up_s]
        · rw [up_n (by omega), h1 j (by omega)]
      · show upd _ _ _ _ = _
        rw [up_n (by omega), h3 j hj])
    (fun n z hz => by
      obtain ⟨s1, l1⟩ := z
      obtain ⟨h1, h2⟩ := hz
      simp only [] at h1 h2
      subst h2
      dsimp only
      refine ⟨(s1, nI 6), ?_, h1⟩
      rw [fX5_readsItem_78_s, c6, ic (sle (by omega) (by omega)), if_pos (Nat.le_refl _)])
    6 0 (by omega) N (by omega) (skT, nI 0) ⟨⟨fun j hj => by omega, fun j _ => rfl⟩, rfl⟩
  obtain ⟨⟨s', z⟩, h1, h2, h3⟩ := key
  exact ⟨s', ⟨z, h1⟩, h2, h3⟩
theorem it_person (hN : 402 ≤ N) (bx : BX n tb signs text) (ct : CT n tb m cuts tokens starts) (hi : i ≤ m) (mu : MU n tb i nx tk pa va) (dr : DR T P e nd yl sp sk pl wh trades people ended needs yields skips skills places wheel dT dP sh need made skT plT skp whT) (hP : P < 6) :
    OUT n tb m i need made skT plT skp whT (b2 (fX1_readPerson N people) (fun r p => gb r (some (r, trades, p, ended, needs, yields, skips, skills, places, wheel, nI i)))) (fX5_readsItem N (nI n) nx tk pa va (-1 : Int32) dT dP sh text need made skT plT skp whT (1 : Int32)) := by
  obtain ⟨⟨d1, d2, d3⟩, ⟨d4, d5, d6⟩, ⟨d7, d8, d9⟩, d10, d11, d12, d13, d14, d15, d16⟩ := id dr
  obtain ⟨s', ⟨z, h1⟩, h2, h3⟩ := it78_s (N := N) (skT := skT) (by omega) hP
  have e6 : (6 : Int32) + dP = nI (6 + P) := by rw [d8, c6, nI_add]
  rw [← d8] at h1
  unfold fX1_readPerson fX5_readsItem
  simp only [k10, k15, k12, k13, k20, k21, k25, k23, k30, k31, k35, k32, k40, k41, k45, k42, k43, k50, k51, k52, k53, kl0, kl1, kl2, kl3, kl4, kl5, kq, if_true, if_false, ite_self]
  rw [h1, b2_s, b2_s, gb1', e6, sgd (by omega) (by decide), sgd (by omega) (by decide), sclamp (by omega)]
  have tail : (if sh = (0 : Int32) then some (nx, tk, pa, va, (-1 : Int32), dT, dP + 1, (0 : Int32), need, made, s', upd plT (6 + P) (-9 : Int32), upd skp (6 + P) (0 : Int32), whT) else some (nx, tk, pa, va, (-1 : Int32), dT, dP + 1, (1 : Int32), need, made, s', upd plT (6 + P) (-9 : Int32), upd skp (6 + P) (0 : Int32), whT)) = some (nx, tk, pa, va, (-1 : Int32), dT, dP + 1, nI e, need, made, s', upd plT (6 + P) (-9 : Int32), upd skp (6 + P) (0 : Int32), whT) := by
    rw [d9]
    rcases (show e = 0 ∨ e = 1 by omega) with rfl | rfl
    · rw [if00]; rfl
    · rw [if10]; rfl
  rw [tail]
  refine OUT_yes (i' := i) (T := T) (P := P + 1) (e := e) (nd := nd) (yl := yl) (sp := fun p => if p = P then 0 else sp p) (sk := fun j => if j / 6 = P then 3 else sk j) (pl := pl) (wh := wh) (by omega) hi rfl rfl mu ⟨⟨d1, by omega, d3⟩, ⟨d4, by rw [d5, c1, nI_add], d6⟩, ⟨d7, by rw [d8, c1, nI_add], rfl⟩, d10, fun p hp => ?_, fun p hp hp6 => d12 p (by omega) hp6, fun p hp k hk => ?_, fun p hp => ?_, d15, d16⟩ ⟨fun j hj => ⟨by first | rfl | rw [up_n (by omega)], by first | rfl | rw [up_n (by omega)], by first | rfl | rw [up_n (by omega)], by first | rfl | rw [up_n (by omega)], by first | rfl | rw [up_n (by omega)]⟩, fun j hj => h3 j (by omega)⟩
  · show (if p = P then 0 else sp p) < 64 ∧ skips p = nI (if p = P then 0 else sp p) ∧ upd skp (6 + P) (0 : Int32) (6 + p) = nI (if p = P then 0 else sp p)
    by_cases e : p = P
    · simp only [if_pos e]
      rw [e, up_s]
      exact ⟨by omega, (d12 P (Nat.le_refl _) hP).1, rfl⟩
    · simp only [if_neg e]
      rw [up_n (by omega)]
      exact d11 p (by omega)
  · have ed : (p * 6 + k) / 6 = p := by omega
    show (if (p * 6 + k) / 6 = P then 3 else sk (p * 6 + k)) ≤ 9 ∧ skills (p * 6 + k) = nI (if (p * 6 + k) / 6 = P then 3 else sk (p * 6 + k)) ∧ s' (36 + 6 * p + k) = nI (if (p * 6 + k) / 6 = P then 3 else sk (p * 6 + k))
    rw [ed]
    by_cases e : p = P
    · simp only [if_pos e]
      rw [e, h2 k hk]
      exact ⟨by omega, (d12 P (Nat.le_refl _) hP).2.2 k hk, rfl⟩
    · simp only [if_neg e]
      rw [h3 _ (by omega)]
      exact d13 p (by omega) k hk
  · by_cases e : p = P
    · rw [e, up_s]
      exact Or.inl ⟨(d12 P (Nat.le_refl _) hP).2.1, rfl⟩
    · rw [up_n (by omega)]
      exact d14 p (by omega)
theorem it_skill (hN : 402 ≤ N) (bx : BX n tb signs text) (ct : CT n tb m cuts tokens starts) (hi : i ≤ m) (mu : MU n tb i nx tk pa va) (dr : DR T P e nd yl sp sk pl wh trades people ended needs yields skips skills places wheel dT dP sh need made skT plT skp whT) :
    OUT n tb m i need made skT plT skp whT (b4 (fX1_readSkill N trades people ended skills cuts (nI i) tokens) (fun r e s c => gb r (some (r, trades, people, e, needs, yields, skips, s, places, wheel, c)))) (fX5_readsItem N (nI n) nx tk pa va (-1 : Int32) dT dP sh text need made skT plT skp whT (2 : Int32)) := by
  obtain ⟨⟨d1, d2, d3⟩, ⟨d4, d5, d6⟩, ⟨d7, d8, d9⟩, d10, d11, d12, d13, d14, d15, d16⟩ := id dr
  have nn : ∀ v, v ≤ 99 → ¬ nI v = (-9 : Int32) := fun v hv => by rw [m9e, seqm (by omega)]; exact id
  have ff : ∀ j, fX5_isWell N (nI (stT n tb j)) = some (0 : Int32) := fun j => isWellF N (stT_lt ct)
  unfold fX1_readSkill fX5_readsItem
  simp only [k10, k15, k12, k13, k20, k21, k25, k23, k30, k31, k35, k32, k40, k41, k45, k42, k43, k50, k51, k52, k53, kl0, kl1, kl2, kl3, kl4, kl5, kq, if_true, if_false, ite_self]
  rw [d4, d5, d7, d8]
  rcases num_both (N := N) hN bx ct hi mu (a := 0) (by omega) (RGE_T d2) with ⟨p, xb, xc, xd, xe, l1, l2, p1, q1, q2, mu1⟩ | ⟨q1, q2⟩
  · have q1' : fX0_number N cuts (nI i) tokens (0 : Int32) (nI P - (1 : Int32)) = _ := q1
    have q2' : fX5_number N (nI n) nx tk pa va (-1 : Int32) text (0 : Int32) (nI P - (1 : Int32)) = _ := q2
    rw [q1', q2', b2_s, b6_s, if_neg (nn p l2)]
    rcases num_both (N := N) hN bx ct (i := i + 1) (by omega) mu1 (a := 0) (by omega) (RGE_T d1) with ⟨k, yb, yc, yd, ye, l3, l4, p2, r1, r2, mu2⟩ | ⟨r1, r2⟩
    · have r1' : fX0_number N cuts (nI (i + 1)) tokens (0 : Int32) (nI T - (1 : Int32)) = _ := r1
      have r2' : fX5_number N (nI n) xb xc xd xe (-1 : Int32) text (0 : Int32) (nI T - (1 : Int32)) = _ := r2
      have i1 : ((36 : Int32) + (6 : Int32) * nI p) + nI k = nI (36 + 6 * p + k) := by rw [c6, c36, pk_mul, nI_add, nI_add]
      have i2 : (6 : Int32) + nI p = nI (6 + p) := by rw [c6, nI_add]
      rw [r1', r2', b2_s, b6_s, if_neg (nn k l4)]
      rcases num_both (N := N) hN bx ct (i := i + 1 + 1) (by omega) mu2 (a := 0) (hi' := nI 9) (by omega) (RGE_c (by omega) (by omega)) with ⟨v, zb, zc, zd, ze, l5, l6, p3, t1, t2, mu3⟩ | ⟨t1, t2⟩
      · have t1' : fX0_number N cuts (nI (i + 1 + 1)) tokens (0 : Int32) (9 : Int32) = _ := t1
        have t2' : fX5_number N (nI n) yb yc yd ye (-1 : Int32) text (0 : Int32) (9 : Int32) = _ := t2
        rw [t1', t2', b2_s, b6_s, if_neg (nn v l6), cell_s, b1_s, sgd (by omega) (by decide), sclamp (by omega), b4_s, gb1', isWellT, b1_s]
        simp only [k10, k15, k12, k13, k20, k21, k25, k23, k30, k31, k35, k32, k40, k41, k45, k42, k43, k50, k51, k52, k53, kl0, kl1, kl2, kl3, kl4, kl5, kq, if_true, if_false, ite_self]
        rw [i1, sgd (by omega) (by decide), sclamp (by omega)]
        refine OUT_yes (i' := i + 1 + 1 + 1) (T := T) (P := P) (e := 1) (nd := nd) (yl := yl) (sp := sp) (sk := fun j => if j = p * 6 + k then v else sk j) (pl := pl) (wh := wh) (by omega) (by omega) rfl rfl mu3 ⟨⟨d1, d2, Nat.le_refl _⟩, ⟨rfl, rfl, rfl⟩, ⟨rfl, rfl, rfl⟩, d10, d11, fun q hq hq6 => ⟨(d12 q hq hq6).1, (d12 q hq hq6).2.1, fun j hj => ?_⟩, fun q hq j hj => ?_, d14, d15, fun z => by omega⟩ ⟨fun j hj => ⟨by first | rfl | rw [up_n (by omega)], by first | rfl | rw [up_n (by omega)], by first | rfl | rw [up_n (by omega)], by first | rfl | rw [up_n (by omega)], by first | rfl | rw [up_n (by omega)]⟩, fun j hj => by first | rfl | rw [up_n (by omega)]⟩
        · rw [up_n (by omega)]
          exact (d12 q hq hq6).2.2 j hj
        · show (if q * 6 + j = p * 6 + k then v else sk (q * 6 + j)) ≤ 9 ∧ upd skills (p * 6 + k) (nI v) (q * 6 + j) = nI (if q * 6 + j = p * 6 + k then v else sk (q * 6 + j)) ∧ upd skT (36 + 6 * p + k) (nI v) (36 + 6 * q + j) = nI (if q * 6 + j = p * 6 + k then v else sk (q * 6 + j))
          by_cases e : q * 6 + j = p * 6 + k
          · have e2 : 36 + 6 * q + j = 36 + 6 * p + k := by omega
            simp only [if_pos e]
            rw [e, e2, up_s, up_s]
            exact ⟨by omega, rfl, rfl⟩
          · simp only [if_neg e]
            rw [up_n e, up_n (by omega)]
            exact d13 q hq j hj
      · have t1' : fX0_number N cuts (nI (i + 1 + 1)) tokens (0 : Int32) (9 : Int32) = _ := t1
        have t2' : fX5_number N (nI n) yb yc yd ye (-1 : Int32) text (0 : Int32) (9 : Int32) = _ := t2
        rw [t1', t2', b2_s, b6_s, if_pos (show m9 = (-9 : Int32) from rfl), b4_s, gb0']
        simp only [ff, b1_s, k10, k15, k12, k13, k20, k21, k25, k23, k30, k31, k35, k32, k40, k41, k45, k42, k43, k50, k51, k52, k53, kl0, kl1, kl2, kl3, kl4, kl5, kq, if_true, if_false, ite_self]
        exact OUT_no (j := i + 1 + 1) (by omega) rfl rfl ⟨fun j hj => ⟨by first | rfl | rw [up_n (by omega)], by first | rfl | rw [up_n (by omega)], by first | rfl | rw [up_n (by omega)], by first | rfl | rw [up_n (by omega)], by first | rfl | rw [up_n (by omega)]⟩, fun j hj => by first | rfl | rw [up_n (by omega)]⟩
    · have r1' : fX0_number N cuts (nI (i + 1)) tokens (0 : Int32) (nI T - (1 : Int32)) = _ := r1
      have r2' : fX5_number N (nI n) xb xc xd xe (-1 : Int32) text (0 : Int32) (nI T - (1 : Int32)) = _ := r2
      rw [r1', r2', b2_s, b6_s, if_pos (show m9 = (-9 : Int32) from rfl), b4_s, gb0', numF (stT_lt ct), b6_s]
      simp only [ff, b1_s, k10, k15, k12, k13, k20, k21, k25, k23, k30, k31, k35, k32, k40, k41, k45, k42, k43, k50, k51, k52, k53, kl0, kl1, kl2, kl3, kl4, kl5, kq, if_true, if_false, ite_self]
      exact OUT_no (j := i + 1) (by omega) rfl rfl ⟨fun j hj => ⟨by first | rfl | rw [up_n (by omega)], by first | rfl | rw [up_n (by omega)], by first | rfl | rw [up_n (by omega)], by first | rfl | rw [up_n (by omega)], by first | rfl | rw [up_n (by omega)]⟩, fun j hj => by first | rfl | rw [up_n (by omega)]⟩
  · have q1' : fX0_number N cuts (nI i) tokens (0 : Int32) (nI P - (1 : Int32)) = _ := q1
    have q2' : fX5_number N (nI n) nx tk pa va (-1 : Int32) text (0 : Int32) (nI P - (1 : Int32)) = _ := q2
    rw [q1', q2', b2_s, b6_s, if_pos (show m9 = (-9 : Int32) from rfl), b4_s, gb0', numF (stT_lt ct), b6_s, numF (stT_lt ct), b6_s]
    simp only [ff, b1_s, k10, k15, k12, k13, k20, k21, k25, k23, k30, k31, k35, k32, k40, k41, k45, k42, k43, k50, k51, k52, k53, kl0, kl1, kl2, kl3, kl4, kl5, kq, if_true, if_false, ite_self]
    exact OUT_no (j := i) hi rfl rfl ⟨fun j hj => ⟨by first | rfl | rw [up_n (by omega)], by first | rfl | rw [up_n (by omega)], by first | rfl | rw [up_n (by omega)], by first | rfl | rw [up_n (by omega)], by first | rfl | rw [up_n (by omega)]⟩, fun j hj => by first | rfl | rw [up_n (by omega)]⟩
theorem it_skip (hN : 402 ≤ N) (bx : BX n tb signs text) (ct : CT n tb m cuts tokens starts) (hi : i ≤ m) (mu : MU n tb i nx tk pa va) (dr : DR T P e nd yl sp sk pl wh trades people ended needs yields skips skills places wheel dT dP sh need made skT plT skp whT) :
    OUT n tb m i need made skT plT skp whT (b4 (fX1_readSkip N trades people ended skips cuts (nI i) tokens) (fun r e s c => gb r (some (r, trades, people, e, needs, yields, s, skills, places, wheel, c)))) (fX5_readsItem N (nI n) nx tk pa va (-1 : Int32) dT dP sh text need made skT plT skp whT (3 : Int32)) := by
  obtain ⟨⟨d1, d2, d3⟩, ⟨d4, d5, d6⟩, ⟨d7, d8, d9⟩, d10, d11, d12, d13, d14, d15, d16⟩ := id dr
  have nn : ∀ v, v ≤ 99 → ¬ nI v = (-9 : Int32) := fun v hv => by rw [m9e, seqm (by omega)]; exact id
  have ff : ∀ j, fX5_isWell N (nI (stT n tb j)) = some (0 : Int32) := fun j => isWellF N (stT_lt ct)
  unfold fX1_readSkip fX5_readsItem
  simp only [k10, k15, k12, k13, k20, k21, k25, k23, k30, k31, k35, k32, k40, k41, k45, k42, k43, k50, k51, k52, k53, kl0, kl1, kl2, kl3, kl4, kl5, kq, if_true, if_false, ite_self]
  rw [d4, d5, d7, d8]
  rcases num_both (N := N) hN bx ct hi mu (a := 0) (by omega) (RGE_T d2) with ⟨p, xb, xc, xd, xe, l1, l2, p1, q1, q2, mu1⟩ | ⟨q1, q2⟩
  · have q1' : fX0_number N cuts (nI i) tokens (0 : Int32) (nI P - (1 : Int32)) = _ := q1
    have q2' : fX5_number N (nI n) nx tk pa va (-1 : Int32) text (0 : Int32) (nI P - (1 : Int32)) = _ := q2
    rw [q1', q2', b2_s, b6_s, if_neg (nn p l2)]
    rcases num_both (N := N) hN bx ct (i := i + 1) (by omega) mu1 (a := 0) (by omega) (RGE_T d1) with ⟨k, yb, yc, yd, ye, l3, l4, p2, r1, r2, mu2⟩ | ⟨r1, r2⟩
    · have r1' : fX0_number N cuts (nI (i + 1)) tokens (0 : Int32) (nI T - (1 : Int32)) = _ := r1
      have r2' : fX5_number N (nI n) xb xc xd xe (-1 : Int32) text (0 : Int32) (nI T - (1 : Int32)) = _ := r2
      have i1 : ((36 : Int32) + (6 : Int32) * nI p) + nI k = nI (36 + 6 * p + k) := by rw [c6, c36, pk_mul, nI_add, nI_add]
      have i2 : (6 : Int32) + nI p = nI (6 + p) := by rw [c6, nI_add]
      rw [r1', r2', b2_s, b6_s, if_neg (nn k l4)]
      have s5 := (d11 p p1).2.1
      have s6 := (d11 p p1).2.2
      have s4 := (d11 p p1).1
      rw [sgd (by omega) (by decide), sgd (by omega) (by decide), sclamp (by omega), s5, ill_or s4 (by omega), b4_s, gb1']
      simp only [isWellT, b1_s, k10, k15, k12, k13, k20, k21, k25, k23, k30, k31, k35, k32, k40, k41, k45, k42, k43, k50, k51, k52, k53, kl0, kl1, kl2, kl3, kl4, kl5, kq, if_true, if_false, ite_self]
      rw [i2, sgd (by omega) (by decide), sgd (by omega) (by decide), sclamp (by omega), s6, ill_or s4 (by omega)]
      refine OUT_yes (i' := i + 1 + 1) (T := T) (P := P) (e := 1) (nd := nd) (yl := yl) (sp := fun q => if q = p then sp p ||| 2 ^ k else sp q) (sk := sk) (pl := pl) (wh := wh) (by omega) (by omega) rfl rfl mu2 ⟨⟨d1, d2, Nat.le_refl _⟩, ⟨rfl, rfl, rfl⟩, ⟨rfl, rfl, rfl⟩, d10, fun q hq => ?_, fun q hq hq6 => ⟨?_, (d12 q hq hq6).2⟩, d13, d14, d15, fun z => by omega⟩ ⟨fun j hj => ⟨by first | rfl | rw [up_n (by omega)], by first | rfl | rw [up_n (by omega)], by first | rfl | rw [up_n (by omega)], by first | rfl | rw [up_n (by omega)], by first | rfl | rw [up_n (by omega)]⟩, fun j hj => by first | rfl | rw [up_n (by omega)]⟩
      · show (if q = p then sp p ||| 2 ^ k else sp q) < 64 ∧ upd skips p (nI (sp p ||| 2 ^ k)) q = nI (if q = p then sp p ||| 2 ^ k else sp q) ∧ upd skp (6 + p) (nI (sp p ||| 2 ^ k)) (6 + q) = nI (if q = p then sp p ||| 2 ^ k else sp q)
        by_cases e : q = p
        · simp only [if_pos e]
          rw [e, up_s, up_s]
          exact ⟨or_lt ⟨sp p, s4⟩ ⟨k, by omega⟩, rfl, rfl⟩
        · simp only [if_neg e]
          rw [up_n e, up_n (by omega)]
          exact d11 q hq
      · rw [up_n (by omega)]
        exact (d12 q hq hq6).1
    · have r1' : fX0_number N cuts (nI (i + 1)) tokens (0 : Int32) (nI T - (1 : Int32)) = _ := r1
      have r2' : fX5_number N (nI n) xb xc xd xe (-1 : Int32) text (0 : Int32) (nI T - (1 : Int32)) = _ := r2
      rw [r1', r2', b2_s, b6_s, if_pos (show m9 = (-9 : Int32) from rfl), b4_s, gb0']
      simp only [ff, b1_s, k10, k15, k12, k13, k20, k21, k25, k23, k30, k31, k35, k32, k40, k41, k45, k42, k43, k50, k51, k52, k53, kl0, kl1, kl2, kl3, kl4, kl5, kq, if_true, if_false, ite_self]
      exact OUT_no (j := i + 1) (by omega) rfl rfl ⟨fun j hj => ⟨by first | rfl | rw [up_n (by omega)], by first | rfl | rw [up_n (by omega)], by first | rfl | rw [up_n (by omega)], by first | rfl | rw [up_n (by omega)], by first | rfl | rw [up_n (by omega)]⟩, fun j hj => by first | rfl | rw [up_n (by omega)]⟩
  · have q1' : fX0_number N cuts (nI i) tokens (0 : Int32) (nI P - (1 : Int32)) = _ := q1
    have q2' : fX5_number N (nI n) nx tk pa va (-1 : Int32) text (0 : Int32) (nI P - (1 : Int32)) = _ := q2
    rw [q1', q2', b2_s, b6_s, if_pos (show m9 = (-9 : Int32) from rfl), b4_s, gb0', numF (stT_lt ct), b6_s]
    simp only [ff, b1_s, k10, k15, k12, k13, k20, k21, k25, k23, k30, k31, k35, k32, k40, k41, k45, k42, k43, k50, k51, k52, k53, kl0, kl1, kl2, kl3, kl4, kl5, kq, if_true, if_false, ite_self]
    exact OUT_no (j := i) hi rfl rfl ⟨fun j hj => ⟨by first | rfl | rw [up_n (by omega)], by first | rfl | rw [up_n (by omega)], by first | rfl | rw [up_n (by omega)], by first | rfl | rw [up_n (by omega)], by first | rfl | rw [up_n (by omega)]⟩, fun j hj => by first | rfl | rw [up_n (by omega)]⟩
theorem it_place (hN : 402 ≤ N) (bx : BX n tb signs text) (ct : CT n tb m cuts tokens starts) (hi : i ≤ m) (mu : MU n tb i nx tk pa va) (dr : DR T P e nd yl sp sk pl wh trades people ended needs yields skips skills places wheel dT dP sh need made skT plT skp whT) :
    OUT n tb m i need made skT plT skp whT (b4 (fX1_readPlace N trades people ended places cuts (nI i) tokens) (fun r e s c => gb r (some (r, trades, people, e, needs, yields, skips, skills, s, wheel, c)))) (fX5_readsItem N (nI n) nx tk pa va (-1 : Int32) dT dP sh text need made skT plT skp whT (4 : Int32)) := by
  obtain ⟨⟨d1, d2, d3⟩, ⟨d4, d5, d6⟩, ⟨d7, d8, d9⟩, d10, d11, d12, d13, d14, d15, d16⟩ := id dr
  have nn : ∀ v, v ≤ 99 → ¬ nI v = (-9 : Int32) := fun v hv => by rw [m9e, seqm (by omega)]; exact id
  have ff : ∀ j, fX5_isWell N (nI (stT n tb j)) = some (0 : Int32) := fun j => isWellF N (stT_lt ct)
  unfold fX1_readPlace fX5_readsItem
  simp only [k10, k15, k12, k13, k20, k21, k25, k23, k30, k31, k35, k32, k40, k41, k45, k42, k43, k50, k51, k52, k53, kl0, kl1, kl2, kl3, kl4, kl5, kq, if_true, if_false, ite_self]
  rw [d4, d5, d7, d8]
  rcases num_both (N := N) hN bx ct hi mu (a := 0) (by omega) (RGE_T d2) with ⟨p, xb, xc, xd, xe, l1, l2, p1, q1, q2, mu1⟩ | ⟨q1, q2⟩
  · have q1' : fX0_number N cuts (nI i) tokens (0 : Int32) (nI P - (1 : Int32)) = _ := q1
    have q2' : fX5_number N (nI n) nx tk pa va (-1 : Int32) text (0 : Int32) (nI P - (1 : Int32)) = _ := q2
    rw [q1', q2', b2_s, b6_s, if_neg (nn p l2)]
    rcases num_both (N := N) hN bx ct (i := i + 1) (by omega) mu1 (a := 0) (by omega) (RGE_T d1) with ⟨k, yb, yc, yd, ye, l3, l4, p2, r1, r2, mu2⟩ | ⟨r1, r2⟩
    · have r1' : fX0_number N cuts (nI (i + 1)) tokens (0 : Int32) (nI T - (1 : Int32)) = _ := r1
      have r2' : fX5_number N (nI n) xb xc xd xe (-1 : Int32) text (0 : Int32) (nI T - (1 : Int32)) = _ := r2
      have i1 : ((36 : Int32) + (6 : Int32) * nI p) + nI k = nI (36 + 6 * p + k) := by rw [c6, c36, pk_mul, nI_add, nI_add]
      have i2 : (6 : Int32) + nI p = nI (6 + p) := by rw [c6, nI_add]
      rw [r1', r2', b2_s, b6_s, if_neg (nn k l4)]
      rw [sgd (by omega) (by decide), sclamp (by omega), b4_s, gb1']
      simp only [isWellT, b1_s, k10, k15, k12, k13, k20, k21, k25, k23, k30, k31, k35, k32, k40, k41, k45, k42, k43, k50, k51, k52, k53, kl0, kl1, kl2, kl3, kl4, kl5, kq, if_true, if_false, ite_self]
      rw [i2, sgd (by omega) (by decide), sclamp (by omega)]
      refine OUT_yes (i' := i + 1 + 1) (T := T) (P := P) (e := 1) (nd := nd) (yl := yl) (sp := sp) (sk := sk) (pl := fun q => if q = p then k else pl q) (wh := wh) (by omega) (by omega) rfl rfl mu2 ⟨⟨d1, d2, Nat.le_refl _⟩, ⟨rfl, rfl, rfl⟩, ⟨rfl, rfl, rfl⟩, d10, d11, fun q hq hq6 => ⟨(d12 q hq hq6).1, ?_, (d12 q hq hq6).2.2⟩, d13, fun q hq => ?_, d15, fun z => by omega⟩ ⟨fun j hj => ⟨by first | rfl | rw [up_n (by omega)], by first | rfl | rw [up_n (by omega)], by first | rfl | rw [up_n (by omega)], by first | rfl | rw [up_n (by omega)], by first | rfl | rw [up_n (by omega)]⟩, fun j hj => by first | rfl | rw [up_n (by omega)]⟩
      · rw [up_n (by omega)]
        exact (d12 q hq hq6).2.1
      · show (upd places p (nI k) q = m9 ∧ upd plT (6 + p) (nI k) (6 + q) = m9) ∨ ((if q = p then k else pl q) < T ∧ upd places p (nI k) q = nI (if q = p then k else pl q) ∧ upd plT (6 + p) (nI k) (6 + q) = nI (if q = p then k else pl q))
        by_cases e : q = p
        · simp only [if_pos e]
          rw [e, up_s, up_s]
          exact Or.inr ⟨p2, rfl, rfl⟩
        · simp only [if_neg e]
          rw [up_n e, up_n (by omega)]
          exact d14 q hq
    · have r1' : fX0_number N cuts (nI (i + 1)) tokens (0 : Int32) (nI T - (1 : Int32)) = _ := r1
      have r2' : fX5_number N (nI n) xb xc xd xe (-1 : Int32) text (0 : Int32) (nI T - (1 : Int32)) = _ := r2
      rw [r1', r2', b2_s, b6_s, if_pos (show m9 = (-9 : Int32) from rfl), b4_s, gb0']
      simp only [ff, b1_s, k10, k15, k12, k13, k20, k21, k25, k23, k30, k31, k35, k32, k40, k41, k45, k42, k43, k50, k51, k52, k53, kl0, kl1, kl2, kl3, kl4, kl5, kq, if_true, if_false, ite_self]
      exact OUT_no (j := i + 1) (by omega) rfl rfl ⟨fun j hj => ⟨by first | rfl | rw [up_n (by omega)], by first | rfl | rw [up_n (by omega)], by first | rfl | rw [up_n (by omega)], by first | rfl | rw [up_n (by omega)], by first | rfl | rw [up_n (by omega)]⟩, fun j hj => by first | rfl | rw [up_n (by omega)]⟩
  · have q1' : fX0_number N cuts (nI i) tokens (0 : Int32) (nI P - (1 : Int32)) = _ := q1
    have q2' : fX5_number N (nI n) nx tk pa va (-1 : Int32) text (0 : Int32) (nI P - (1 : Int32)) = _ := q2
    rw [q1', q2', b2_s, b6_s, if_pos (show m9 = (-9 : Int32) from rfl), b4_s, gb0', numF (stT_lt ct), b6_s]
    simp only [ff, b1_s, k10, k15, k12, k13, k20, k21, k25, k23, k30, k31, k35, k32, k40, k41, k45, k42, k43, k50, k51, k52, k53, kl0, kl1, kl2, kl3, kl4, kl5, kq, if_true, if_false, ite_self]
    exact OUT_no (j := i) hi rfl rfl ⟨fun j hj => ⟨by first | rfl | rw [up_n (by omega)], by first | rfl | rw [up_n (by omega)], by first | rfl | rw [up_n (by omega)], by first | rfl | rw [up_n (by omega)], by first | rfl | rw [up_n (by omega)]⟩, fun j hj => by first | rfl | rw [up_n (by omega)]⟩
end
