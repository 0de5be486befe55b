/-! images -/
def RI (t : TS) (i : Nat) (kept isKept mkept : Nat → Int32) (round fell ills : Int32) (skills places stores lacked helpers favours wheel : Nat → Int32) : Prop := (kept i = nI 0 ∧ isKept i = nI 0) ∨ (kept i = nI 1 ∧ isKept i = nI 1 ∧ ∃ w', wOK t w' ∧ RC t w' round fell ills skills places stores lacked helpers favours wheel ∧ RM t w' (fun j => mkept (105 * i + j)))
theorem c105' : (105 : Int32) = nI 105 := rfl
theorem nb1 : vp_nar .boolean (1 : Int32) = nI 1 := rfl
theorem nb0 : vp_nar .boolean (0 : Int32) = nI 0 := rfl
section
variable {N : Nat} {t : TS} {w : WS} {trades people fade winter fall round fell ills mtrades mpeople thrown typed len r0 f0 i0 r1 f1 j1 : Int32} {needs yields skips skills places stores lacked helpers favours wheel works need made mskips tunes s makes mworks kept isKept mkept a1 a2 a3 a4 a5 a6 a7 b1' b2' b3' b4' b5' b6' b7' : Nat → Int32}
theorem keep_l (hN : 106 ≤ N) {i : Nat} (hi : i < 2) : ∃ k', (∃ z, fX5_keep_18 N s (nI i) N mkept (nI 0) = some (k', z)) ∧ (∀ j, j < 105 → k' (105 * i + j) = s j) ∧ ∀ j, (j < 105 * i ∨ 105 * i + 105 ≤ j) → k' j = mkept j := by
  have key := lpI (fun n (z : (Nat → Int32) × Int32) => fX5_keep_18 N s (nI i) n z.1 z.2)
    (fun k z => ((∀ j, j < k → z.1 (105 * i + j) = s j) ∧ ∀ j, (j < 105 * i ∨ 105 * i + 105 ≤ j) → z.1 j = mkept j) ∧ z.2 = nI k)
    (fun r => (∀ j, j < 105 → r.1 (105 * i + j) = s j) ∧ ∀ j, (j < 105 * i ∨ 105 * i + 105 ≤ j) → r.1 j = mkept j) 105
    (fun n k z hk hz => by
      obtain ⟨s1, l1⟩ := z
      obtain ⟨⟨h1, h3⟩, h2⟩ := hz
      simp only [] at h1 h2 h3
      subst h2
      dsimp only
      rw [fX5_keep_18_s, c105, ic (sle (by omega) (by omega)), if_neg (by omega), pk_mul, nI_add, sgd (by omega) (by decide), sgd (by omega) (by decide), sclamp (by omega), sclamp (by omega), c1, nI_add]
      refine ⟨(_, nI (k + 1)), rfl, ⟨fun j hj => ?_, fun j hj => ?_⟩, rfl⟩
      · show upd _ _ _ _ = _
        by_cases e : j = k
        · subst e; rw [up_s]
        · rw [up_n (by omega), h1 j (by omega)]
      · show upd _ _ _ _ = _
        rw [up_n (by omega), h3 j hj])
    (fun n z hz => by
      obtain ⟨s1, l1⟩ := z
      obtain ⟨h1, h2⟩ := hz
      simp only [] at h1 h2
      subst h2
      dsimp only
      refine ⟨(s1, nI 105), ?_, h1⟩
      rw [fX5_keep_18_s, c105, ic (sle (by omega) (by omega)), if_pos (Nat.le_refl _)])
    105 0 (by omega) N (by omega) (mkept, nI 0) ⟨⟨fun j hj => by omega, fun j _ => rfl⟩, rfl⟩
  obtain ⟨⟨k', z⟩, h1, h2, h3⟩ := key
  exact ⟨k', ⟨z, h1⟩, h2, h3⟩
theorem back_l (hN : 106 ≤ N) {i : Nat} (hi : i < 2) : ∃ s', (∃ z, fX5_back_30 N mkept (nI i) N s (nI 0) = some (s', z)) ∧ (∀ j, j < 105 → s' j = mkept (105 * i + j)) := by
  have key := lpN (fun n (z : (Nat → Int32) × Int32) => fX5_back_30 N mkept (nI i) n z.1 z.2) (fun k => (ov (fun j => decide (j < k)) s (fun j => mkept (105 * i + j)), nI k)) 105 _
    (fun n k hk => by
      show fX5_back_30 N mkept (nI i) (n + 1) _ (nI k) = _
      dsimp only
      have cc : ∀ j, decide (j < k + 1) = (decide (j < k) || decide (j = k)) := fun j => by rw [Bool.eq_iff_iff]; simp only [decide_eq_true_eq, Bool.or_eq_true]; omega
      rw [fX5_back_30_s, c105, ic (sle (by omega) (by omega)), if_neg (by omega), pk_mul, nI_add, sgd (by omega) (by decide), sgd (by omega) (by decide), sclamp (by omega), sclamp (by omega), c1, nI_add, ov_upd (c' := fun j => decide (j < k + 1)) (v := fun j => mkept (105 * i + j)) rfl cc])
    (fun n => by
      show fX5_back_30 N mkept (nI i) (n + 1) _ (nI 105) = _
      dsimp only
      rw [fX5_back_30_s, c105, ic (sle (by omega) (by omega)), if_pos (Nat.le_refl _)])
    105 0 (by omega) N (by omega)
  have h0 : ov (fun j => decide (j < 0)) s (fun j => mkept (105 * i + j)) = s := ov_0 (fun j => by simp)
  simp only [h0] at key
  exact ⟨_, ⟨_, key⟩, fun j hj => ov_v (by simp [hj])⟩
theorem q_keep (hN : 106 ≤ N) (ht : tOK t) (hw : wOK t w) (rc : RC t w round fell ills skills places stores lacked helpers favours wheel) (rm : RM t w s) (g0 : RI t 0 kept isKept mkept r0 f0 i0 a1 a2 a3 a4 a5 a6 a7) (g1 : RI t 1 kept isKept mkept r1 f1 j1 b1' b2' b3' b4' b5' b6' b7') (i1 : Int32) :
    ∃ r r0' f0' i0' x1 x2 x3 x4 x5 x6 x7 r1' f1' j1' y1 y2 y3 y4 y5 y6 y7 kept' mkept' isKept', fX4_keep N round fell ills skills places stores lacked helpers favours wheel r0 f0 i0 a1 a2 a3 a4 a5 a6 a7 r1 f1 j1 b1' b2' b3' b4' b5' b6' b7' kept i1 = some (r, r0', f0', i0', x1, x2, x3, x4, x5, x6, x7, r1', f1', j1', y1, y2, y3, y4, y5, y6, y7, kept') ∧ fX5_keep N thrown s mkept isKept i1 = some (r, 0, mkept', isKept') ∧ RI t 0 kept' isKept' mkept' r0' f0' i0' x1 x2 x3 x4 x5 x6 x7 ∧ RI t 1 kept' isKept' mkept' r1' f1' j1' y1 y2 y3 y4 y5 y6 y7 := by
  unfold fX4_keep fX5_keep
  rw [in_e]
  rcases rng i1 0 1 (by decide) (by decide) with ⟨i, _, hi, rfl, h⟩ | ⟨h, _⟩
  · have e0 := rm.1
    obtain ⟨k', ⟨z, q1⟩, q2, q3⟩ := keep_l (N := N) (s := s) (mkept := mkept) hN (i := i) (by omega)
    rw [show (0 : Int32) = nI 0 from rfl, show (1 : Int32) = nI 1 from rfl, h N, b1_s, b1_s]
    simp only [if10, if00, if10', if00']
    rw [q1, b2_s, sgd (by omega) (by decide), sgd (by omega) (by decide), sgd (by omega) (by decide), sclamp (by omega), sclamp (by omega), e0, show vp_nar .boolean (nI 1) = nI 1 from rfl]
    rcases (show i = 0 ∨ i = 1 by omega) with rfl | rfl
    · obtain ⟨x1, x2, x3, x4, x5, x6, x7, k1, k2⟩ := becomes_s (N := N) (r2 := r0) (f2 := f0) (i2 := i0) (x1 := a1) (x2 := a2) (x3 := a3) (x4 := a4) (x5 := a5) (x6 := a6) (x7 := a7) ht rc
      rw [if_pos rfl, k1, b10_s, sgd (by omega) (by decide), rc.1]
      refine ⟨_, _, _, _, _, _, _, _, _, _, _, _, _, _, _, _, _, _, _, _, _, _, _, _, rfl, rfl, ?_, ?_⟩
      · refine Or.inr ⟨up_s, up_s, w, hw, rc.1 ▸ k2, RM_congr ht (fun j hj => ?_) rm⟩
        exact q2 j hj
      · rcases g1 with ⟨u1, u2⟩ | ⟨u1, u2, w', u3, u4, u5⟩
        · exact Or.inl ⟨by rw [up_n (by omega)]; exact u1, by rw [up_n (by omega)]; exact u2⟩
        · exact Or.inr ⟨by rw [up_n (by omega)]; exact u1, by rw [up_n (by omega)]; exact u2, w', u3, u4, RM_congr ht (fun j hj => q3 _ (by omega)) u5⟩
    · obtain ⟨x1, x2, x3, x4, x5, x6, x7, k1, k2⟩ := becomes_s (N := N) (r2 := r1) (f2 := f1) (i2 := j1) (x1 := b1') (x2 := b2') (x3 := b3') (x4 := b4') (x5 := b5') (x6 := b6') (x7 := b7') ht rc
      rw [if_neg (by decide), if_pos rfl, k1, b10_s, sgd (by omega) (by decide), rc.1]
      refine ⟨_, _, _, _, _, _, _, _, _, _, _, _, _, _, _, _, _, _, _, _, _, _, _, _, rfl, rfl, ?_, ?_⟩
      · rcases g0 with ⟨u1, u2⟩ | ⟨u1, u2, w', u3, u4, u5⟩
        · exact Or.inl ⟨by rw [up_n (by omega)]; exact u1, by rw [up_n (by omega)]; exact u2⟩
        · exact Or.inr ⟨by rw [up_n (by omega)]; exact u1, by rw [up_n (by omega)]; exact u2, w', u3, u4, RM_congr ht (fun j hj => q3 _ (by omega)) u5⟩
      · refine Or.inr ⟨up_s, up_s, w, hw, rc.1 ▸ k2, RM_congr ht (fun j hj => ?_) rm⟩
        exact q2 j hj
  · rw [show (0 : Int32) = nI 0 from rfl, show (1 : Int32) = nI 1 from rfl, h N, b1_s, b1_s]
    simp only [if10, if00, if10', if00']
    exact ⟨_, _, _, _, _, _, _, _, _, _, _, _, _, _, _, _, _, _, _, _, _, _, _, _, rfl, rfl, g0, g1⟩
theorem q_back (hN : 106 ≤ N) (ht : tOK t) (hw : wOK t w) (rc : RC t w round fell ills skills places stores lacked helpers favours wheel) (rm : RM t w s) (g0 : RI t 0 kept isKept mkept r0 f0 i0 a1 a2 a3 a4 a5 a6 a7) (g1 : RI t 1 kept isKept mkept r1 f1 j1 b1' b2' b3' b4' b5' b6' b7') (i1 : Int32) :
    ∃ r r0' f0' i0' x1 x2 x3 x4 x5 x6 x7 s' w', fX4_back N round fell ills skills places stores lacked helpers favours wheel r0 f0 i0 a1 a2 a3 a4 a5 a6 a7 r1 f1 j1 b1' b2' b3' b4' b5' b6' b7' kept i1 = some (r, r0', f0', i0', x1, x2, x3, x4, x5, x6, x7) ∧ fX5_back N thrown s mkept isKept i1 = some (r, 0, s') ∧ wOK t w' ∧ RC t w' r0' f0' i0' x1 x2 x3 x4 x5 x6 x7 ∧ RM t w' s' := by
  unfold fX4_back fX5_back
  rw [in_e]
  rcases rng i1 0 1 (by decide) (by decide) with ⟨i, _, hi, rfl, h⟩ | ⟨h, _⟩
  · obtain ⟨s1, ⟨z, q1⟩, q2⟩ := back_l (N := N) (s := s) (mkept := mkept) hN (i := i) (by omega)
    rw [show (0 : Int32) = nI 0 from rfl, show (1 : Int32) = nI 1 from rfl, h N, b1_s, b1_s]
    simp only [if10, if00, if10', if00']
    rw [q1, b2_s, sgd (by omega) (by decide), sgd (by omega) (by decide), sgd (by omega) (by decide), sgd (by omega) (by decide), sclamp (by omega), sclamp (by omega)]
    rcases (show i = 0 ∨ i = 1 by omega) with rfl | rfl
    · rcases g0 with ⟨u1, u2⟩ | ⟨u1, u2, w', u3, u4, u5⟩
      · rw [u1, u2, if_pos rfl, if_pos rfl]
        exact ⟨_, _, _, _, _, _, _, _, _, _, _, _, w, rfl, rfl, hw, rc, rm⟩
      · obtain ⟨x1, x2, x3, x4, x5, x6, x7, k1, k2⟩ := becomes_s (N := N) (r2 := round) (f2 := fell) (i2 := ills) (x1 := skills) (x2 := places) (x3 := stores) (x4 := lacked) (x5 := helpers) (x6 := favours) (x7 := wheel) ht u4
        have e1 : s1 0 = r0 := (q2 0 (by omega)).trans (u5.1.trans u4.1.symm)
        rw [u1, u2, if_neg (by decide), if_neg (by decide), if_pos rfl, k1, b10_s, e1]
        exact ⟨_, _, _, _, _, _, _, _, _, _, _, _, w', rfl, rfl, u3, k2, RM_congr ht (fun j hj => q2 j hj) u5⟩
    · rcases g1 with ⟨u1, u2⟩ | ⟨u1, u2, w', u3, u4, u5⟩
      · rw [u1, u2, if_pos rfl, if_pos rfl]
        exact ⟨_, _, _, _, _, _, _, _, _, _, _, _, w, rfl, rfl, hw, rc, rm⟩
      · obtain ⟨x1, x2, x3, x4, x5, x6, x7, k1, k2⟩ := becomes_s (N := N) (r2 := round) (f2 := fell) (i2 := ills) (x1 := skills) (x2 := places) (x3 := stores) (x4 := lacked) (x5 := helpers) (x6 := favours) (x7 := wheel) ht u4
        have e1 : s1 0 = r1 := (q2 0 (by omega)).trans (u5.1.trans u4.1.symm)
        rw [u1, u2, if_neg (by decide), if_neg (by decide), if_neg (by decide), if_pos rfl, k1, b10_s, e1]
        exact ⟨_, _, _, _, _, _, _, _, _, _, _, _, w', rfl, rfl, u3, k2, RM_congr ht (fun j hj => q2 j hj) u5⟩
  · rw [show (0 : Int32) = nI 0 from rfl, show (1 : Int32) = nI 1 from rfl, h N, b1_s, b1_s]
    simp only [if10, if00, if10', if00']
    exact ⟨_, _, _, _, _, _, _, _, _, _, _, _, w, rfl, rfl, hw, rc, rm⟩
end
