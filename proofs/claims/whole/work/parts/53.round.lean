/-! the class's round: goods, needs, skills, places, helps -/
section
variable {N : Nat} {t : TS} {w : WS} {trades people fade winter fall round fell ills : Int32} {needs yields skips skills places stores lacked helpers favours wheel works : Nat → Int32}
theorem works_at {p : Nat} (hp : p < tP t) {works : Nat → Int32} : ov (fun j => decide (j < tP t)) works (fun p => eN (wk t w p)) p = eN (wk t w p) := ov_v (by simp [hp])
/-- workedAt, with the places of work found -/
theorem workedAt_s (ht : tOK t) (hw : wOK t w) (rc : RC t w round fell ills skills places stores lacked helpers favours wheel) (hwk : ∀ p, p < tP t → works p = eN (wk t w p)) {p : Nat} (hp : p < tP t) : fX3_workedAt N ills wheel works (nI p) = some (eN (wt t w p)) := by
  have hP : tP t ≤ 6 := ht.2.1
  have hT : tT t ≤ 6 := ht.1
  obtain ⟨d1, d2, d3, d4, d5, d6, d7, d8, d9, d10⟩ := rc
  have hil := hw.2.1
  unfold fX3_workedAt wt
  have e := hwk p hp
  cases hk : wk t w p with
  | none =>
    rw [hk, eN_n] at e
    rw [sgd (by omega) (by decide), sclamp (by omega), e, m9e, if_pos rfl]
    cases Nat.testBit (wIl w) p <;> rfl
  | some k =>
    have hkT := wk_lt hw hp hk
    rw [hk, eN_s] at e
    rw [d3, isIll_s N hil (show p < 6 by omega), sgd (by omega) (by decide), sclamp (by omega), e, m9e, b1_s]
    cases Nat.testBit (wIl w) p <;> simp (disch := omega) only [↓m9e, c0, c1, c2, c3, c4, c6, c8, c9, c10, c14, c20, c26, c32, c33, c36, c69, c99, c105, c400, sclamp, sle, slt, seq, seqm, seqm2, nI_add, pk_mul, sub_rem, ssub, sdiv, sgd, sgz, b1_s, b2_s, b3_s, b4_s, b5_s, b6_s, b7_s, b8_s, b9_s, b10_s, b11_s, b12_s, rjn_, rjs_, if_pos, if_neg, bit_s, Nat.reduceAdd, Nat.zero_add, Nat.add_zero, up_s, up_n, sgb0, sgb1, if_true, if_false, d10 k hkT, Option.map, eN]
    all_goals rfl
theorem wt_lt (hw : wOK t w) {p a : Nat} (hp : p < tP t) (h : wt t w p = some a) : a < tT t := by
  unfold wt at h
  split at h
  · cases h
  · cases hk : wk t w p with
    | none => rw [hk] at h; cases h
    | some k =>
      rw [hk] at h
      cases h
      exact hw.2.2.2.2.2.2.2.2 k (wk_lt hw hp hk)
theorem wt_ill {p : Nat} (h : Nat.testBit (wIl w) p = true) : wt t w p = none := by unfold wt; rw [if_pos h]
theorem cell_s {a b : Nat} : fX4_cell N (nI a) (nI b) = some (nI (a * 6 + b)) := by
  unfold fX4_cell
  simp (disch := omega) only [↓m9e, c0, c1, c2, c3, c4, c6, c8, c9, c10, c14, c20, c26, c32, c33, c36, c69, c99, c105, c400, sclamp, sle, slt, seq, seqm, seqm2, nI_add, pk_mul, sub_rem, ssub, sdiv, sgd, sgz, b1_s, b2_s, b3_s, b4_s, b5_s, b6_s, b7_s, b8_s, b9_s, b10_s, b11_s, b12_s, rjn_, rjs_, if_pos, if_neg, bit_s, Nat.reduceAdd, Nat.zero_add, Nat.add_zero, up_s, up_n, sgb0, sgb1, if_true, if_false]
theorem hnd_le (ht : tOK t) (hw : wOK t w) {p k : Nat} (hp : p < tP t) (hk : k < tT t) : hnd w p k ≤ 9 := by
  have h4 := hw.2.2.2.1
  have h7 := hw.2.2.2.2.2.2.1 p (by have := ht.2.1; omega)
  have hP : tP t ≤ 6 := ht.2.1
  unfold hnd
  split
  · exact h4 p hp k hk
  · split
    · exact h4 p hp k hk
    · rename_i h0 _
      have h9 := h4 (wHp w p - 1) (by omega) k hk
      have h8 := h4 p hp k hk
      omega
theorem skillAtHand_s (ht : tOK t) (hw : wOK t w) (rc : RC t w round fell ills skills places stores lacked helpers favours wheel) {p k : Nat} (hp : p < tP t) (hk : k < tT t) : fX3_skillAtHand N ills skills helpers (nI p) (nI k) = some (nI (hnd w p k)) := by
  have hP : tP t ≤ 6 := ht.2.1
  have hT : tT t ≤ 6 := ht.1
  obtain ⟨d1, d2, d3, d4, d5, d6, d7, d8, d9, d10⟩ := rc
  have hil := hw.2.1
  have h4 := hw.2.2.2.1
  have h7 := hw.2.2.2.2.2.2.1 p (by omega)
  unfold fX3_skillAtHand
  have e8 := d8 p (by omega)
  have s1 := d4 p hp k hk
  have l1 := h4 p hp k hk
  rw [cell_s, b1_s, sgd (by omega) (by decide), sgd (by omega) (by decide), sclamp (by omega), sclamp (by omega), s1, e8, m9e]
  unfold hnd
  by_cases h0 : wHp w p = 0
  · rw [if_pos h0, if_pos h0, if_pos rfl]
  · have s2 := d4 (wHp w p - 1) (by omega) k hk
    have l2 := h4 (wHp w p - 1) (by omega) k hk
    rw [if_neg h0, if_neg h0, ic (seqm (by omega)), if_neg id, d3, isIll_s N hil (by omega), b1_s, c0]
    cases hb : Nat.testBit (wIl w) (wHp w p - 1) with
    | true => rfl
    | false =>
      show _ = some (nI (max (wSk w (p * 6 + k)) (wSk w ((wHp w p - 1) * 6 + k))))
      rw [if_pos (show nI (if false = true then 1 else 0) = nI 0 from rfl), cell_s, b1_s, sgd (by omega) (by decide), sclamp (by omega), s2, ic (slt (by omega) (by omega))]
      by_cases hlt : wSk w (p * 6 + k) < wSk w ((wHp w p - 1) * 6 + k)
      · rw [if_pos hlt]
        congr 2
        omega
      · rw [if_neg hlt]
        congr 2
        omega
/-- the stores' contents behind the goods of the first people -/
def gI (t : TS) (w : WS) (stores : Nat → Int32) : Nat → Nat → Int32
  | 0 => stores
  | p + 1 => match wt t w p with
    | none => gI t w stores p
    | some k => upd (gI t w stores p) k (gI t w stores p k + nI (tYl t k) * nI (hnd w p k))
theorem gI_s {p : Nat} : gI t w stores (p + 1) = match wt t w p with
    | none => gI t w stores p
    | some k => upd (gI t w stores p) k (gI t w stores p k + nI (tYl t k) * nI (hnd w p k)) := rfl
theorem gs_s {p : Nat} : gs t w (p + 1) = match wt t w p with
    | none => gs t w p
    | some k => fun j => if j = k then gs t w p k + tYl t k * hnd w p k else gs t w p j := rfl
theorem gI_gs (h : ∀ k, k < tT t → stores k = nI (wSt w k)) : ∀ p j, j < tT t → gI t w stores p j = nI (gs t w p j) := by
  intro p
  induction p with
  | zero => intro j hj; exact h j hj
  | succ p ih =>
    intro j hj
    rw [gI_s, gs_s]
    cases hk : wt t w p with
    | none => exact ih j hj
    | some k =>
      by_cases e : j = k
      · subst e
        simp only [up_s, ih j hj, if_true, pk_mul, nI_add]
      · simp only [up_n e, ih j hj, if_neg e]
theorem gs_le (ht : tOK t) (hw : wOK t w) : ∀ p, p ≤ tP t → ∀ j, j < tT t → gs t w p j ≤ 486 * wRd w + 81 * p := by
  intro p
  induction p with
  | zero => intro _ j hj; exact (hw.2.2.2.2.2.1 j hj).1
  | succ p ih =>
    intro hp j hj
    have i1 := ih (by omega) j hj
    rw [gs_s]
    cases hk : wt t w p with
    | none => simp only []; omega
    | some k =>
      have hkT := wt_lt hw (by omega) hk
      have y := (ht.2.2.1 k hkT).2.2
      have hh := hnd_le ht hw (p := p) (k := k) (by omega) hkT
      have m : tYl t k * hnd w p k ≤ 9 * 9 := Nat.mul_le_mul y hh
      simp only []
      split
      · rename_i e
        subst e
        omega
      · omega
theorem makeGoods_s (hN : 7 ≤ N) (ht : tOK t) (hw : wOK t w) (rt : RT t trades people needs yields skips) (rc : RC t w round fell ills skills places stores lacked helpers favours wheel) (hwk : ∀ p, p < tP t → works p = eN (wk t w p)) : fX3_makeGoods N ills skills stores helpers wheel works people yields = some (gI t w stores (tP t)) := by
  have hP : tP t ≤ 6 := ht.2.1
  have hT : tT t ≤ 6 := ht.1
  have e2 := rt.2.1
  have e3 := rt.2.2.1
  have key := lpN (fun n (s : (Nat → Int32) × Int32) => fX3_makeGoods_2 N ills skills helpers wheel works people yields n s.1 s.2) (fun k => (gI t w stores k, nI k)) (tP t) (gI t w stores (tP t), nI (tP t))
    (fun n p hp => by
      show fX3_makeGoods_2 N ills skills helpers wheel works people yields (n + 1) _ (nI p) = fX3_makeGoods_2 N ills skills helpers wheel works people yields n _ (nI (p + 1))
      rw [fX3_makeGoods_2_s, workedAt_s ht hw rc hwk hp, e2, ic (sle (by omega) (by omega)), if_neg (by omega), b1_s, ← e2, m9e, c1, nI_add]
      show _ = fX3_makeGoods_2 N ills skills helpers wheel works people yields n (gI t w stores (p + 1)) (nI (p + 1))
      rw [gI_s]
      cases hk : wt t w p with
      | none => rw [eN_n, if_pos rfl]
      | some k =>
        have hkT := wt_lt hw hp hk
        rw [eN_s, skillAtHand_s ht hw rc hp hkT]
        simp (disch := omega) only [↓m9e, c0, c1, c2, c3, c4, c6, c8, c9, c10, c14, c20, c26, c32, c33, c36, c69, c99, c105, c400, sclamp, sle, slt, seq, seqm, seqm2, nI_add, pk_mul, sub_rem, ssub, sdiv, sgd, sgz, b1_s, b2_s, b3_s, b4_s, b5_s, b6_s, b7_s, b8_s, b9_s, b10_s, b11_s, b12_s, rjn_, rjs_, if_pos, if_neg, bit_s, Nat.reduceAdd, Nat.zero_add, Nat.add_zero, up_s, up_n, sgb0, sgb1, if_true, if_false, (e3 k hkT).2])
    (fun n => by
      show fX3_makeGoods_2 N ills skills helpers wheel works people yields (n + 1) _ (nI (tP t)) = _
      rw [fX3_makeGoods_2_s, e2]
      simp (disch := omega) only [↓m9e, c0, c1, c2, c3, c4, c6, c8, c9, c10, c14, c20, c26, c32, c33, c36, c69, c99, c105, c400, sclamp, sle, slt, seq, seqm, seqm2, nI_add, pk_mul, sub_rem, ssub, sdiv, sgd, sgz, b1_s, b2_s, b3_s, b4_s, b5_s, b6_s, b7_s, b8_s, b9_s, b10_s, b11_s, b12_s, rjn_, rjs_, if_pos, if_neg, bit_s, Nat.reduceAdd, Nat.zero_add, Nat.add_zero, up_s, up_n, sgb0, sgb1, if_true, if_false])
    (tP t) 0 (by omega) N (by omega)
  unfold fX3_makeGoods
  rw [c0]
  exact (congrArg (fun x => b2 x (fun a b => some a)) key)
theorem want_le (ht : tOK t) {k : Nat} (hk : k < tT t) : want t w k ≤ 297 := by
  have h := (ht.2.2.1 k hk).1
  have hwi := ht.2.2.2.2.2.1
  unfold want
  have : tNd t k * (if wRd w % 4 = 3 then 10 + tWi t else 10) ≤ 99 * 30 := Nat.mul_le_mul h (by split <;> omega)
  omega
theorem lk_le (ht : tOK t) {k : Nat} (hk : k < tT t) : lk t w k ≤ 297 := by
  have := want_le (w := w) ht hk
  unfold lk
  omega
theorem lks_le (ht : tOK t) : ∀ k, k ≤ tT t → lks t w k ≤ 297 * k := by
  intro k
  induction k with
  | zero => intro _; exact Nat.le_refl _
  | succ k ih =>
    intro h
    have h1 := ih (by omega)
    have h2 := lk_le (w := w) ht (show k < tT t by omega)
    unfold lks
    omega
theorem max0 {a b : Nat} (ha : a < 1000000) (hb : b < 1000000) : (0 ≤ nI a - nI b) = (b ≤ a) := by
  apply propext
  rw [Int32.le_iff_toInt_le, pk_sub_toInt (by omega) (by omega), show (0 : Int32).toInt = 0 from rfl]
  omega
theorem lt0 {a b : Nat} (ha : a < 1000000) (hb : b < 1000000) : (nI a - nI b < 0) = (a < b) := by
  apply propext
  rw [Int32.lt_iff_toInt_lt, pk_sub_toInt (by omega) (by omega), show (0 : Int32).toInt = 0 from rfl]
  omega
theorem sub_neg {x a b : Nat} (h : a ≤ b) : nI x - (nI a - nI b) = nI (x + (b - a)) := by
  have e : nI b = nI a + nI (b - a) := by rw [nI_add]; congr 1; omega
  rw [e, ← nI_add]
  have : ∀ u v z : Int32, u - (v - (v + z)) = u + z := by
    intro u v z
    grind
  exact this _ _ _
end
