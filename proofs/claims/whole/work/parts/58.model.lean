/-! the reference's round: skills, places, favours -/
section
variable {N : Nat} {t : TS} {w : WS} {trades people : Int32} {need made skips tunes s makes works : Nat → Int32}
theorem takesNeeds_s (hN : 7 ≤ N) (ht : tOK t) (hw : wOK t w) (rn : RN t trades people need made skips tunes) {s0 : Nat → Int32} (rm : RM t w s0) (rg : RG t w s0 (tP t) s) :
    ∃ s', fX5_takesNeeds N trades need tunes s = some (nI (lks t w (tT t)), s') ∧ (∀ k, k < tT t → s' (2 + k) = nI (gs t w (tP t) k - want t w k)) ∧ (∀ k, k < tT t → s' (8 + k) = nI (wLa w k + lk t w k)) ∧ s' 1 = nI (wFe (step t w)) ∧ ∀ j, (j < 1 ∨ 14 ≤ j) → s' j = s0 j := by
  obtain ⟨⟨s1, a, b⟩, h1, ⟨h2, h3, h4⟩, h5⟩ := takesNeeds_l hN ht hw rn rm rg
  simp only [] at h2 h3 h4 h5
  subst h5
  have hT : tT t ≤ 6 := ht.1
  have hl := lks_le (w := w) ht (tT t) (Nat.le_refl _)
  have hfl := ht.2.2.2.2.2.2.2
  have n7 := rn.2.2.2.2.2.2
  have e1 : s1 1 = nI (wFe w) := (h4 1 (by omega)).trans rm.2.1
  unfold fX5_takesNeeds
  rw [c0, h1, b3_s, c1, c2, sgd (by decide) (by decide), sgd (by decide) (by decide), sclamp (by decide), sclamp (by decide), n7, e1, ic (slt (by omega) (by omega)), nI_add, nI_add, sgd (by decide) (by decide), sgd (by decide) (by decide)]
  have com : ∀ x : Int32, x = nI (wFe (step t w)) → (∀ k, k < tT t → upd s1 1 x (2 + k) = nI (gs t w (tP t) k - want t w k)) ∧ (∀ k, k < tT t → upd s1 1 x (8 + k) = nI (wLa w k + lk t w k)) ∧ upd s1 1 x 1 = nI (wFe (step t w)) ∧ ∀ j, (j < 1 ∨ 14 ≤ j) → upd s1 1 x j = s0 j := by
    intro x hx
    refine ⟨fun k hk => ?_, fun k hk => ?_, ?_, fun j hj => ?_⟩
    · rw [up_n (by omega), h2 k hk, if_pos hk]
    · rw [up_n (by omega), h3 k hk, if_pos hk]
    · rw [up_s, hx]
    · rw [up_n (by omega), h4 j (by omega)]
  by_cases hf : lks t w (tT t) < tFl t
  · rw [if_pos hf]
    refine ⟨_, rfl, com _ ?_⟩
    show nI (wFe w + 0) = nI (wFe w + (if tFl t ≤ lks t w (tT t) then 1 else 0))
    rw [if_neg (by omega)]
  · rw [if_neg hf]
    refine ⟨_, rfl, com _ ?_⟩
    show nI (wFe w + 1) = nI (wFe w + (if tFl t ≤ lks t w (tT t) then 1 else 0))
    rw [if_pos (by omega)]
theorem skillsChange_l (hN : 7 ≤ N) (ht : tOK t) (hw : wOK t w) {p : Nat} (hp : p < tP t) {fd : Nat} (hfd : (fd = 0 ↔ fades t w = false)) (hfd1 : fd ≤ 1) (hsk : ∀ k, k < tT t → s (33 + 6 * p + k) = nI (wSk w (p * 6 + k))) :
    ∃ r : (Nat → Int32) × Int32, fX5_skillsChange_56 N (nI (tT t)) (nI p) (eN (wt t w p)) (nI fd) N s (nI 0) = some r ∧ (∀ k, k < tT t → r.1 (33 + 6 * p + k) = nI (skN t w (p * 6 + k))) ∧ ∀ j, (j < 33 + 6 * p ∨ 33 + 6 * p + tT t ≤ j) → r.1 j = s j := by
  have hP : tP t ≤ 6 := ht.2.1
  have hT : tT t ≤ 6 := ht.1
  have key := lpI (fun n (z : (Nat → Int32) × Int32) => fX5_skillsChange_56 N (nI (tT t)) (nI p) (eN (wt t w p)) (nI fd) n z.1 z.2)
    (fun k z => ((∀ i, i < tT t → z.1 (33 + 6 * p + i) = if i < k then nI (skN t w (p * 6 + i)) else nI (wSk w (p * 6 + i))) ∧ ∀ j, (j < 33 + 6 * p ∨ 33 + 6 * p + tT t ≤ j) → z.1 j = s j) ∧ z.2 = nI k)
    (fun r => (∀ k, k < tT t → r.1 (33 + 6 * p + k) = nI (skN t w (p * 6 + k))) ∧ ∀ j, (j < 33 + 6 * p ∨ 33 + 6 * p + tT t ≤ j) → r.1 j = s j) (tT t)
    (fun n k z hk hz => by
      obtain ⟨s1, l4⟩ := z
      obtain ⟨⟨h1, h3⟩, h2⟩ := hz
      simp only [] at h1 h2 h3
      subst h2
      have q := h1 k hk
      rw [if_neg (Nat.lt_irrefl k)] at q
      have l9 := hw.2.2.2.1 p hp k hk
      have i1 : (p * 6 + k) / 6 = p := by omega
      have i2 : (p * 6 + k) % 6 = k := by omega
      have sv : skN t w (p * 6 + k) = if wt t w p = some k then min (wSk w (p * 6 + k) + 1) 9 else if fades t w then wSk w (p * 6 + k) - 1 else wSk w (p * 6 + k) := by unfold skN; rw [i1, i2]
      have dn : ∀ x : Int32, x = nI (skN t w (p * 6 + k)) → (∀ i, i < tT t → upd s1 (33 + 6 * p + k) x (33 + 6 * p + i) = if i < k + 1 then nI (skN t w (p * 6 + i)) else nI (wSk w (p * 6 + i))) ∧ ∀ j, (j < 33 + 6 * p ∨ 33 + 6 * p + tT t ≤ j) → upd s1 (33 + 6 * p + k) x j = s j := by
        intro x hx
        refine ⟨fun i hi => ?_, fun j hj => by rw [up_n (by omega), h3 j hj]⟩
        by_cases e : i = k
        · subst e; rw [up_s, hx, if_pos (by omega)]
        · rw [up_n (by omega), h1 i hi]
          by_cases e2 : i < k
          · rw [if_pos e2, if_pos (by omega)]
          · rw [if_neg e2, if_neg (by omega)]
      have dec : (nI k = eN (wt t w p)) = (wt t w p = some k) := by
        cases hq : wt t w p with
        | none => rw [eN_n, seqm (by omega)]; simp
        | some a =>
          have := wt_lt hw hp hq
          rw [eN_s, seq (by omega) (by omega)]
          apply propext
          constructor
          · intro h; rw [h]
          · intro h; cases h; rfl
      dsimp only
      rw [fX5_skillsChange_56_s, ic (sle (by omega) (by omega)), if_neg (by omega), ic dec, c33, c6, pk_mul, nI_add, nI_add, sclamp (by omega), q, c1, nI_add, c0, c9, nI_add, nI_add, ic (sle (by omega) (by omega)), ic (sle (by omega) (by omega)), sgd (by omega) (by decide), sgd (by omega) (by decide), sgd (by omega) (by decide), sgd (by omega) (by decide)]
      by_cases hd : wt t w p = some k
      · rw [if_pos hd]
        by_cases h9 : 9 ≤ wSk w (p * 6 + k)
        · refine ⟨(upd s1 (33 + 6 * p + k) (nI (wSk w (p * 6 + k) + 0)), nI (k + 1)), by rw [if_pos h9], dn _ ?_, rfl⟩
          rw [sv, if_pos hd]; congr 1; omega
        · refine ⟨(upd s1 (33 + 6 * p + k) (nI (wSk w (p * 6 + k) + 1)), nI (k + 1)), by rw [if_neg h9], dn _ ?_, rfl⟩
          rw [sv, if_pos hd]; congr 1; omega
      · rw [if_neg hd]
        by_cases hf : fades t w = false
        · have f0 : fd = 0 := hfd.mpr hf
          subst f0
          refine ⟨(s1, nI (k + 1)), by rw [if_pos rfl], ⟨?_, h3⟩, rfl⟩
          intro i hi
          show s1 _ = _
          rw [h1 i hi]
          by_cases e : i = k
          · subst e; rw [if_neg (by omega), if_pos (by omega), sv, if_neg hd, hf]; rfl
          · by_cases e2 : i < k
            · rw [if_pos e2, if_pos (by omega)]
            · rw [if_neg e2, if_neg (by omega)]
        · have f1 : fd = 1 := by
            have : fd ≠ 0 := fun h => hf (hfd.mp h)
            omega
          subst f1
          have hf : fades t w = true := by simpa using hf
          rw [if_neg (by decide), sgd (by omega) (by decide)]
          by_cases hz : wSk w (p * 6 + k) ≤ 0
          · refine ⟨(upd s1 (33 + 6 * p + k) (nI (wSk w (p * 6 + k) - 0)), nI (k + 1)), by rw [if_pos hz, ssub (by omega), sgd (by omega) (by decide), sgd (by omega) (by decide)], dn _ ?_, rfl⟩
            rw [sv, if_neg hd, hf, if_pos rfl]; congr 1; omega
          · refine ⟨(upd s1 (33 + 6 * p + k) (nI (wSk w (p * 6 + k) - 1)), nI (k + 1)), by rw [if_neg hz, ssub (by omega), sgd (by omega) (by decide), sgd (by omega) (by decide)], dn _ ?_, rfl⟩
            rw [sv, if_neg hd, hf, if_pos rfl])
    (fun n z hz => by
      obtain ⟨s1, l4⟩ := z
      obtain ⟨⟨h1, h3⟩, h2⟩ := hz
      simp only [] at h1 h2 h3
      subst h2
      refine ⟨(s1, nI (tT t)), ?_, fun k hk => ?_, h3⟩
      · show fX5_skillsChange_56 N (nI (tT t)) (nI p) (eN (wt t w p)) (nI fd) (n + 1) s1 (nI (tT t)) = _
        rw [fX5_skillsChange_56_s, if_pos (nI_le (Nat.le_refl _) (by omega))]
      · have := h1 k hk
        rw [if_pos hk] at this
        exact this)
    (tT t) 0 (by omega) N (by omega) (s, nI 0) ⟨⟨fun i hi => by rw [if_neg (by omega)]; exact hsk i hi, fun j _ => rfl⟩, rfl⟩
  exact key
theorem skillsChange_s (hN : 7 ≤ N) (ht : tOK t) (hw : wOK t w) (rn : RN t trades people need made skips tunes) {p : Nat} (hp : p < tP t) (h0 : s 0 = nI (wRd w)) (h32 : s 32 = nI (wIl w)) (hwo : works p = eN ((wk t w p).map (wWh w))) (hsk : ∀ k, k < tT t → s (33 + 6 * p + k) = nI (wSk w (p * 6 + k))) :
    ∃ s', fX5_skillsChange N trades tunes s works (nI p) = some s' ∧ (∀ k, k < tT t → s' (33 + 6 * p + k) = nI (skN t w (p * 6 + k))) ∧ ∀ j, (j < 33 + 6 * p ∨ 33 + 6 * p + tT t ≤ j) → s' j = s j := by
  have hP : tP t ≤ 6 := ht.2.1
  obtain ⟨n1, n2, n3, n4, n5, n6, n7⟩ := rn
  have hfd := ht.2.2.2.2.1
  have hrd := hw.1
  have l0 : (nI (tFd t) ≤ 0) = (tFd t = 0) := by
    rw [c0, sle (by omega) (by omega)]; apply propext; omega
  -- what both halves come to
  have com : ∀ d : Int32, d = eN (wt t w p) → ∃ s', (gd (0 : Int32) 3 (if nI (tFd t) ≤ 0 then b2 (fX5_skillsChange_56 N trades (nI p) d (0 : Int32) N s (0 : Int32)) (fun o_s_6 l4_7 => some o_s_6) else gd (0 : Int32) 105 (gd (0 : Int32) 3 (gz (nI (tFd t)) (if ((nI (wRd w) + (1 : Int32)) - (nI (wRd w) + (1 : Int32)) / nI (tFd t) * nI (tFd t)) = 0 then b2 (fX5_skillsChange_56 N trades (nI p) d (1 : Int32) N s (0 : Int32)) (fun o_s_14 l4_15 => some o_s_14) else b2 (fX5_skillsChange_56 N trades (nI p) d (0 : Int32) N s (0 : Int32)) (fun o_s_12 l4_13 => some o_s_12)))))) = some s' ∧ (∀ k, k < tT t → s' (33 + 6 * p + k) = nI (skN t w (p * 6 + k))) ∧ ∀ j, (j < 33 + 6 * p ∨ 33 + 6 * p + tT t ≤ j) → s' j = s j := by
    intro d hd
    subst hd
    rw [n1, ic l0]
    have use : ∀ fd : Nat, (fd = 0 ↔ fades t w = false) → fd ≤ 1 → ∃ s', b2 (fX5_skillsChange_56 N (nI (tT t)) (nI p) (eN (wt t w p)) (nI fd) N s (nI 0)) (fun a _ => some a) = some s' ∧ (∀ k, k < tT t → s' (33 + 6 * p + k) = nI (skN t w (p * 6 + k))) ∧ ∀ j, (j < 33 + 6 * p ∨ 33 + 6 * p + tT t ≤ j) → s' j = s j := by
      intro fd h1 h2
      obtain ⟨⟨s', l⟩, q1, q2, q3⟩ := skillsChange_l hN ht hw hp h1 h2 hsk
      exact ⟨s', by rw [q1, b2_s], q2, q3⟩
    rw [c0, c1, sgd (by decide) (by decide), sgd (by decide) (by decide), sgd (by decide) (by decide)]
    by_cases hz : tFd t = 0
    · rw [if_pos hz]
      exact use 0 (by unfold fades; simp [hz]) (by omega)
    · have hrem : (nI (wRd w) + nI 1) - (nI (wRd w) + nI 1) / nI (tFd t) * nI (tFd t) = nI ((wRd w + 1) % tFd t) := by
        rw [nI_add]; exact pk_rem (by omega) (by omega) (by omega)
      have lt := Nat.mod_lt (wRd w + 1) (show 0 < tFd t by omega)
      rw [if_neg hz, sgz (by omega) (by omega), hrem, ic (seq (by omega) (by omega))]
      by_cases hm : (wRd w + 1) % tFd t = 0
      · rw [if_pos hm]
        exact use 1 (by unfold fades; simp [hm]; omega) (by omega)
      · rw [if_neg hm]
        exact use 0 (by unfold fades; simp [hm]) (by omega)
  unfold fX5_skillsChange
  rw [isIllM_s h32 hw.2.1 (by omega), b1_s, show (0 : Int32).toNatClampNeg = 0 from rfl, n5, h0, sgd (by omega) (by decide), sclamp (by omega), hwo]
  cases hb : Nat.testBit (wIl w) p with
  | true =>
    rw [if_neg (by decide)]
    exact com _ (by rw [wt_of, hb]; rfl)
  | false =>
    rw [if_pos (by decide)]
    exact com _ (by rw [wt_of, hb]; rfl)
/-- the row as the people go on, the first n of them gone -/
def RW (t : TS) (w : WS) (s0 : Nat → Int32) (n : Nat) (s : Nat → Int32) : Prop := (∀ p, p < tP t → s (20 + p) = nI (if p < n then plN t w p else wPl w p)) ∧ (∀ p, p < tP t → ∀ k, k < tT t → s (33 + 6 * p + k) = nI (if p < n then skN t w (p * 6 + k) else wSk w (p * 6 + k))) ∧ (∀ q, q < tP t → ∀ p, p < tP t → s (69 + 6 * q + p) = nI (if p < n then wFa w (q * 6 + p) + (if wHp w q = p + 1 then 1 else 0) else wFa w (q * 6 + p))) ∧ ∀ j, (j < 20 ∨ (26 ≤ j ∧ j < 33)) → s j = s0 j
theorem rem_bh {T a : Nat} (ha : a < T) (hT : T ≤ 6) : (nI a + nI 1) - (nI a + nI 1) / nI T * nI T = nI (bh T a) := by
  rw [nI_add, pk_rem (by omega) (by omega) (by omega)]
  congr 1
  unfold bh
  split
  · exact Nat.mod_eq_of_lt (by assumption)
  · have : a + 1 = T := by omega
    rw [this, Nat.mod_self]
theorem goesBy_l (hN : 7 ≤ N) (ht : tOK t) (hw : wOK t w) (rn : RN t trades people need made skips tunes) (hT0 : 0 < tT t) {s0 : Nat → Int32} (h0 : s0 0 = nI (wRd w)) (hwh : ∀ k, k < tT t → s0 (14 + k) = nI (wWh w k)) (h32 : s0 32 = nI (wIl w))
    (hh : ∀ p, p < tP t → (s0 (26 + p) = m9 ∧ ∀ q, q < tP t → wHp w q ≠ p + 1) ∨ ∃ q, q < tP t ∧ s0 (26 + p) = nI q ∧ wHp w q = p + 1) (hwo : ∀ p, p < tP t → works p = eN ((wk t w p).map (wWh w))) (hs : RW t w s0 0 s) :
    ∃ r : (Nat → Int32) × Int32, fX5_goesBy_11 N trades people skips tunes works N s (nI 0) = some r ∧ RW t w s0 (tP t) r.1 := by
  have hP : tP t ≤ 6 := ht.2.1
  have hT : tT t ≤ 6 := ht.1
  obtain ⟨n1, n2, n3, n4, n5, n6, n7⟩ := id rn
  have key := lpI (fun n (z : (Nat → Int32) × Int32) => fX5_goesBy_11 N trades people skips tunes works n z.1 z.2) (fun p z => RW t w s0 p z.1 ∧ z.2 = nI p) (fun r => RW t w s0 (tP t) r.1) (tP t)
    (fun n p z hp hz => by
      obtain ⟨s1, l2⟩ := z
      obtain ⟨⟨h1, h2, h3, h4⟩, h5⟩ := hz
      simp only [] at h1 h2 h3 h4 h5
      subst h5
      have pl := h1 p hp
      rw [if_neg (Nat.lt_irrefl p)] at pl
      have p5 := hw.2.2.2.2.1 p hp
      obtain ⟨s2, k1, k2, k3⟩ := skillsChange_s (s := s1) hN ht hw rn hp ((h4 0 (by omega)).trans h0) ((h4 32 (by omega)).trans h32) (hwo p hp) (fun k hk => by have := h2 p hp k hk; rw [if_neg (Nat.lt_irrefl p)] at this; exact this)
      have pl2 : s2 (20 + p) = nI (wPl w p) := (k3 (20 + p) (by omega)).trans pl
      have hp2 : s2 (26 + p) = s0 (26 + p) := (k3 (26 + p) (by omega)).trans (h4 (26 + p) (by omega))
      dsimp only
      rw [fX5_goesBy_11_s, n2, ic (sle (by omega) (by omega)), if_neg (by omega), ← n2, placeOf_s hN ht hw hp n1 (n4 p hp) (fun k hk => (h4 (14 + k) (by omega)).trans (hwh k hk)) pl, b1_s, k1, b1_s]
      -- what a place v, then perhaps a favour, make of the row
      have nofav : ∀ v : Int32, v = nI (plN t w p) → (∀ q, q < tP t → wHp w q ≠ p + 1) → RW t w s0 (p + 1) (upd s2 (20 + p) v) := by
        intro v hv hno
        refine ⟨fun q hq => ?_, fun q hq k hk => ?_, fun q hq r hr => ?_, fun j hj => ?_⟩
        · by_cases e : q = p
          · subst e; rw [up_s, hv, if_pos (by omega)]
          · rw [up_n (by omega), k3 _ (by omega), h1 q hq]
            by_cases e2 : q < p
            · rw [if_pos e2, if_pos (by omega)]
            · rw [if_neg e2, if_neg (by omega)]
        · rw [up_n (by omega)]
          by_cases e : q = p
          · subst e; rw [k2 k hk, if_pos (by omega)]
          · rw [k3 _ (by omega), h2 q hq k hk]
            by_cases e2 : q < p
            · rw [if_pos e2, if_pos (by omega)]
            · rw [if_neg e2, if_neg (by omega)]
        · rw [up_n (by omega), k3 _ (by omega), h3 q hq r hr]
          by_cases e : r = p
          · subst e; rw [if_neg (by omega), if_pos (by omega), if_neg (hno q hq)]; rfl
          · by_cases e2 : r < p
            · rw [if_pos e2, if_pos (show r < p + 1 by omega)]
            · rw [if_neg e2, if_neg (show ¬ r < p + 1 by omega)]
        · rw [up_n (by omega), k3 _ (by omega), h4 j hj]
      have fav : ∀ (v x : Int32) (q : Nat), v = nI (plN t w p) → q < tP t → wHp w q = p + 1 → x = s2 (69 + 6 * q + p) + nI 1 → RW t w s0 (p + 1) (upd (upd s2 (20 + p) v) (69 + 6 * q + p) x) := by
        intro v x q hv hq hh1 hx
        have uni : ∀ r, r < tP t → wHp w r = p + 1 → r = q := fun r hr h => hw.2.2.2.2.2.2.2.1 r q (by omega) (by omega) (by omega) (by omega)
        refine ⟨fun r hr => ?_, fun r hr k hk => ?_, fun r hr r' hr' => ?_, fun j hj => ?_⟩
        · rw [up_n (by omega)]
          by_cases e : r = p
          · subst e; rw [up_s, hv, if_pos (by omega)]
          · rw [up_n (by omega), k3 _ (by omega), h1 r hr]
            by_cases e2 : r < p
            · rw [if_pos e2, if_pos (by omega)]
            · rw [if_neg e2, if_neg (by omega)]
        · rw [up_n (by omega), up_n (by omega)]
          by_cases e : r = p
          · subst e; rw [k2 k hk, if_pos (by omega)]
          · rw [k3 _ (by omega), h2 r hr k hk]
            by_cases e2 : r < p
            · rw [if_pos e2, if_pos (by omega)]
            · rw [if_neg e2, if_neg (by omega)]
        · by_cases e : r = q ∧ r' = p
          · obtain ⟨e1, e2⟩ := e
            subst e1 e2
            rw [up_s, hx, k3 _ (by omega), h3 r hr r' hr', if_neg (by omega), if_pos (by omega), if_pos hh1, nI_add]
          · rw [up_n (by omega), up_n (by omega), k3 _ (by omega), h3 r hr r' hr']
            by_cases e3 : r' = p
            · subst e3
              rw [if_neg (by omega), if_pos (by omega), if_neg (fun z => e ⟨uni r hr z, rfl⟩)]
              rfl
            · by_cases e2 : r' < p
              · rw [if_pos e2, if_pos (show r' < p + 1 by omega)]
              · rw [if_neg e2, if_neg (show ¬ r' < p + 1 by omega)]
        · rw [up_n (by omega), up_n (by omega), k3 _ (by omega), h4 j hj]
      have body : ∀ a : Nat, a < tT t → plN t w p = bh (tT t) a → ∃ s' : (Nat → Int32) × Int32, (gz trades (gd ((20 : Int32) + nI p) 105 (gd ((26 : Int32) + nI p) 105 (if ((upd s2 ((20 : Int32) + nI p).toNatClampNeg ((nI a + (1 : Int32)) - (nI a + (1 : Int32)) / trades * trades)) ((26 : Int32) + nI p).toNatClampNeg) = (-9 : Int32) then fX5_goesBy_11 N trades people skips tunes works n (upd s2 ((20 : Int32) + nI p).toNatClampNeg ((nI a + (1 : Int32)) - (nI a + (1 : Int32)) / trades * trades)) (nI p + 1) else gd ((26 : Int32) + nI p) 105 (gd (((69 : Int32) + ((6 : Int32) * ((upd s2 ((20 : Int32) + nI p).toNatClampNeg ((nI a + (1 : Int32)) - (nI a + (1 : Int32)) / trades * trades)) ((26 : Int32) + nI p).toNatClampNeg))) + nI p) 105 (gd (((69 : Int32) + ((6 : Int32) * ((upd s2 ((20 : Int32) + nI p).toNatClampNeg ((nI a + (1 : Int32)) - (nI a + (1 : Int32)) / trades * trades)) ((26 : Int32) + nI p).toNatClampNeg))) + nI p) 105 (fX5_goesBy_11 N trades people skips tunes works n (upd (upd s2 ((20 : Int32) + nI p).toNatClampNeg ((nI a + (1 : Int32)) - (nI a + (1 : Int32)) / trades * trades)) (((69 : Int32) + ((6 : Int32) * ((upd s2 ((20 : Int32) + nI p).toNatClampNeg ((nI a + (1 : Int32)) - (nI a + (1 : Int32)) / trades * trades)) ((26 : Int32) + nI p).toNatClampNeg))) + nI p).toNatClampNeg (((upd s2 ((20 : Int32) + nI p).toNatClampNeg ((nI a + (1 : Int32)) - (nI a + (1 : Int32)) / trades * trades)) (((69 : Int32) + ((6 : Int32) * ((upd s2 ((20 : Int32) + nI p).toNatClampNeg ((nI a + (1 : Int32)) - (nI a + (1 : Int32)) / trades * trades)) ((26 : Int32) + nI p).toNatClampNeg))) + nI p).toNatClampNeg) + (1 : Int32))) (nI p + 1)))))))) = fX5_goesBy_11 N trades people skips tunes works n s'.1 s'.2 ∧ RW t w s0 (p + 1) s'.1 ∧ s'.2 = nI (p + 1) := by
        intro a ha hpl
        have hh' := hh p hp
        rw [n1, c1, rem_bh ha hT, ← n1, c20, c26, c69, c6, nI_add, nI_add, nI_add, sclamp (by omega), sclamp (by omega), up_n (by omega), hp2, n1, sgz (by omega) (by omega), ← n1, sgd (by omega) (by decide), sgd (by omega) (by decide), sgd (by omega) (by decide), m9e]
        rcases hh' with ⟨e1, e2⟩ | ⟨q, hq, e1, e2⟩
        · rw [e1, if_pos rfl]
          exact ⟨(_, nI (p + 1)), rfl, nofav _ (by rw [hpl]) e2, rfl⟩
        · rw [e1, ic (seqm (by omega)), if_neg id, pk_mul, nI_add, nI_add, sgd (by omega) (by decide), sgd (by omega) (by decide), sclamp (by omega), up_n (by omega)]
          exact ⟨(_, nI (p + 1)), rfl, fav _ _ q (by rw [hpl]) hq e2 rfl, rfl⟩
      cases hq : wk t w p with
      | none =>
        have hpl : plN t w p = bh (tT t) (wPl w p) := by unfold plN; rw [hq]
        rw [eN_n, m9e, if_pos rfl]
        obtain ⟨s', r1, r2, r3⟩ := body (wPl w p) (by omega) hpl
        rw [← pl2] at r1
        refine ⟨s', ?_, r2, r3⟩
        rw [← r1, m9e, c20, c26, nI_add, nI_add, sclamp (by omega), sclamp (by omega), pl2, sgd (by omega) (by decide)]
      | some a =>
        have ha := wk_lt hw hp hq
        have hpl : plN t w p = bh (tT t) a := by unfold plN; rw [hq]
        rw [eN_s, m9e, ic (seqm (by omega)), if_neg id, ← m9e]
        exact body a ha hpl)
    (fun n z hz => by
      obtain ⟨s1, l2⟩ := z
      obtain ⟨h1, h5⟩ := hz
      simp only [] at h1 h5
      subst h5
      refine ⟨(s1, nI (tP t)), ?_, h1⟩
      show fX5_goesBy_11 N trades people skips tunes works (n + 1) s1 (nI (tP t)) = _
      rw [fX5_goesBy_11_s, n2, if_pos (nI_le (Nat.le_refl _) (by omega))])
    (tP t) 0 (by omega) N (by omega) (s, nI 0) ⟨hs, rfl⟩
  exact key
theorem goesBy_h (hN : 7 ≤ N) (hpe : people = nI (tP t)) (hP : tP t ≤ 6) : ∃ r : (Nat → Int32) × Int32, fX5_goesBy_113 N people N s (nI 0) = some r ∧ (∀ p, p < tP t → r.1 (26 + p) = m9) ∧ ∀ j, (j < 26 ∨ 32 ≤ j) → r.1 j = s j := by
  have key := lpI (fun n (z : (Nat → Int32) × Int32) => fX5_goesBy_113 N people n z.1 z.2) (fun k z => ((∀ p, p < k → z.1 (26 + p) = m9) ∧ ∀ j, (j < 26 ∨ 32 ≤ j) → z.1 j = s j) ∧ z.2 = nI k) (fun r => (∀ p, p < tP t → r.1 (26 + p) = m9) ∧ ∀ j, (j < 26 ∨ 32 ≤ j) → r.1 j = s j) (tP t)
    (fun n k z hk hz => by
      obtain ⟨s1, l2⟩ := z
      obtain ⟨⟨h1, h2⟩, h3⟩ := hz
      simp only [] at h1 h2 h3
      subst h3
      dsimp only
      rw [fX5_goesBy_113_s, hpe, ic (sle (by omega) (by omega)), if_neg (by omega), c26, nI_add, sgd (by omega) (by decide), sclamp (by omega), m9e, c1, nI_add, ← hpe]
      refine ⟨(upd s1 (26 + k) m9, nI (k + 1)), rfl, ⟨fun p hp => ?_, fun j hj => ?_⟩, rfl⟩
      · show upd s1 (26 + k) m9 (26 + p) = m9
        by_cases e : p = k
        · subst e; rw [up_s]
        · rw [up_n (by omega)]; exact h1 p (by omega)
      · show upd s1 (26 + k) m9 j = s j
        rw [up_n (by omega)]; exact h2 j hj)
    (fun n z hz => by
      obtain ⟨s1, l2⟩ := z
      obtain ⟨h1, h3⟩ := hz
      simp only [] at h1 h3
      subst h3
      refine ⟨(s1, nI (tP t)), ?_, h1⟩
      show fX5_goesBy_113 N people (n + 1) s1 (nI (tP t)) = _
      rw [fX5_goesBy_113_s, hpe, if_pos (nI_le (Nat.le_refl _) (by omega))])
    (tP t) 0 (by omega) N (by omega) (s, nI 0) ⟨⟨fun p hp => by omega, fun j _ => rfl⟩, rfl⟩
  exact key
theorem goesBy_s (hN : 7 ≤ N) (ht : tOK t) (hw : wOK t w) (hT0 : 0 < tT t) (rn : RN t trades people need made skips tunes) (rm : RM t w s) :
    ∃ s' mk' wo', fX5_goesBy N trades people need made skips tunes s makes works = some (nI (lks t w (tT t)), s', mk', wo') ∧ RM t (step t w) s' := by
  have hP : tP t ≤ 6 := ht.2.1
  have hT : tT t ≤ 6 := ht.1
  obtain ⟨s1, mk, wo, a1, a2, a3⟩ := workAll_s (makes := makes) (works := works) hN ht hw rn rm
  obtain ⟨s2, b1', b2', b3', b4', b5'⟩ := takesNeeds_s hN ht hw rn rm a2
  obtain ⟨m1, m2, m3, m4, m5, m6, m7, m8, m9', m10⟩ := rm
  obtain ⟨⟨s3, l3⟩, c1', c2', c3', c4', c5'⟩ := goesBy_l (s := s2) (s0 := s2) (works := wo) hN ht hw rn hT0 ((b5' 0 (by omega)).trans m1) (fun k hk => (b5' (14 + k) (by omega)).trans (m5 k hk)) ((b5' 32 (by omega)).trans m8)
    (fun p hp => by rw [b5' (26 + p) (by omega)]; exact m7 p hp) a3
    ⟨fun p hp => by rw [if_neg (by omega), b5' (20 + p) (by omega)]; exact m6 p hp, fun p hp k hk => by rw [if_neg (by omega), b5' _ (by omega)]; exact m9' p hp k hk, fun q hq p hp => by rw [if_neg (by omega), b5' _ (by omega)]; exact m10 q hq p hp, fun j _ => rfl⟩
  simp only [] at c2' c3' c4' c5'
  obtain ⟨⟨s4, l4⟩, d1, d2, d3⟩ := goesBy_h (N := N) (t := t) (people := people) (s := s3) hN rn.2.1 hP
  simp only [] at d2 d3
  have s40 : s4 0 = nI (wRd w) := by rw [d3 0 (by omega), c5' 0 (by omega), b5' 0 (by omega), m1]
  refine ⟨upd (upd s4 32 (nI 0)) 0 (nI (wRd w) + nI 1), mk, wo, ?_, ?_⟩
  · unfold fX5_goesBy
    rw [a1, b3_s, b1', b2_s, c0, c1', b2_s, d1, b2_s, c32, c1, sgd (by decide) (by decide), sgd (by decide) (by decide), sgd (by decide) (by decide), sclamp (by decide), sclamp (by decide), up_n (by omega), s40]
  · refine ⟨?_, ?_, fun k hk => ?_, fun k hk => ?_, fun k hk => ?_, fun p hp => ?_, fun p hp => ?_, ?_, fun p hp k hk => ?_, fun q hq p hp => ?_⟩
    · rw [up_s, nI_add]; rfl
    · rw [up_n (by omega), up_n (by omega), d3 1 (by omega), c5' 1 (by omega), b4']
    · rw [up_n (by omega), up_n (by omega), d3 _ (by omega), c5' _ (by omega), b2' k hk]; rfl
    · rw [up_n (by omega), up_n (by omega), d3 _ (by omega), c5' _ (by omega), b3' k hk]; rfl
    · rw [up_n (by omega), up_n (by omega), d3 _ (by omega), c5' _ (by omega), b5' _ (by omega), m5 k hk]; rfl
    · rw [up_n (by omega), up_n (by omega), d3 _ (by omega), c2' p hp, if_pos hp]; rfl
    · refine Or.inl ⟨?_, fun q _ => ?_⟩
      · rw [up_n (by omega), up_n (by omega), d2 p hp]
      · show (0 : Nat) ≠ p + 1
        omega
    · rw [up_n (by omega), up_s]; rfl
    · rw [up_n (by omega), up_n (by omega), d3 _ (by omega), c3' p hp k hk, if_pos hp]; rfl
    · rw [up_n (by omega), up_n (by omega), d3 _ (by omega), c4' q hq p hp, if_pos hp]
      have i1 : (q * 6 + p) / 6 = q := by omega
      have i2 : (q * 6 + p) % 6 = p := by omega
      show _ = nI (wFa w (q * 6 + p) + (if wHp w ((q * 6 + p) / 6) = (q * 6 + p) % 6 + 1 then 1 else 0))
      rw [i1, i2]
end
