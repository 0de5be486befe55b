/-! the reference: rounds, copies, its start -/
section
variable {N : Nat} {t : TS} {w : WS} {trades people : Int32} {need made skips tunes s makes works : Nat → Int32}
theorem RM_congr {s' : Nat → Int32} (ht : tOK t) (h : ∀ j, j < 105 → s' j = s j) (rm : RM t w s) : RM t w s' := by
  have hP : tP t ≤ 6 := ht.2.1
  have hT : tT t ≤ 6 := ht.1
  obtain ⟨m1, m2, m3, m4, m5, m6, m7, m8, m9', m10⟩ := rm
  refine ⟨?_, ?_, fun k hk => ?_, fun k hk => ?_, fun k hk => ?_, fun p hp => ?_, fun p hp => ?_, ?_, fun p hp k hk => ?_, fun q hq p hp => ?_⟩
  · rw [h 0 (by omega)]; exact m1
  · rw [h 1 (by omega)]; exact m2
  · rw [h _ (by omega)]; exact m3 k hk
  · rw [h _ (by omega)]; exact m4 k hk
  · rw [h _ (by omega)]; exact m5 k hk
  · rw [h _ (by omega)]; exact m6 p hp
  · rw [h _ (by omega)]; exact m7 p hp
  · rw [h 32 (by omega)]; exact m8
  · rw [h _ (by omega)]; exact m9' p hp k hk
  · rw [h _ (by omega)]; exact m10 q hq p hp
theorem lacksIn_l (hN : 7 ≤ N) (ht : tOK t) (hw : wOK t w) (hT0 : 0 < tT t) (rn : RN t trades people need made skips tunes) {c : Nat} (hc : c < 2147483648) :
    ∀ (d i n : Nat), i + d = min c (99 - wRd w) → d < n → ∀ (s makes works : Nat → Int32), RM t (wn t w i) s →
      ∃ (s' mk' wo' : Nat → Int32) (z : Int32), fX5_lacksIn_12 N trades people need made skips tunes (nI c) n s makes works (nI (tot t w i)) (nI i) = some (s', mk', wo', nI (tot t w (min c (99 - wRd w))), z) ∧ RM t (wn t w (min c (99 - wRd w))) s' := by
  have h99 := hw.1
  intro d
  induction d with
  | zero =>
    intro i n hi hn s makes works rm
    obtain ⟨n, rfl⟩ : ∃ z, n = z + 1 := ⟨n - 1, by omega⟩
    have hi' : i = min c (99 - wRd w) := by omega
    subst hi'
    have e0 := rm.1
    rw [wn_rd] at e0
    refine ⟨s, makes, works, nI (min c (99 - wRd w)), ?_, rm⟩
    rw [fX5_lacksIn_12_s]
    by_cases hle : c ≤ min c (99 - wRd w)
    · rw [ic (sle (by omega) (by omega)), if_pos hle]
    · rw [ic (sle (by omega) (by omega)), if_neg hle, c0, sgd (by decide) (by decide), sclamp (by decide), e0, c99, ic (sle (by omega) (by omega)), if_pos (by omega)]
  | succ d ih =>
    intro i n hi hn s makes works rm
    obtain ⟨n, rfl⟩ : ∃ z, n = z + 1 := ⟨n - 1, by omega⟩
    have e0 := rm.1
    rw [wn_rd] at e0
    obtain ⟨s1, mk1, wo1, h1, h2⟩ := goesBy_s (makes := makes) (works := works) hN ht (wn_ok ht hw i (by omega)) hT0 rn rm
    obtain ⟨s', mk', wo', z, h3, h4⟩ := ih (i + 1) n (by omega) (by omega) s1 mk1 wo1 h2
    refine ⟨s', mk', wo', z, ?_, h4⟩
    rw [fX5_lacksIn_12_s, ic (sle (by omega) (by omega)), if_neg (by omega), c0, sgd (by decide) (by decide), sclamp (by decide), e0, c99, ic (sle (by omega) (by omega)), if_neg (by omega), h1, b4_s, nI_add, c1, nI_add]
    exact h3
theorem lacksIn_s {falling : Int32} (hN : 100 ≤ N) (ht : tOK t) (hw : wOK t w) (hT0 : 0 < tT t) (rn : RN t trades people need made skips tunes) (rm : RM t w s) {c : Nat} (hc : c < 2147483648) :
    ∃ (s' mk' wo' : Nat → Int32), fX5_lacksIn N trades people falling need made skips tunes s makes works (nI c) = some (nI (tot t w (min c (99 - wRd w))), nI (wFe (wn t w (min c (99 - wRd w)))) - nI (wFe w), s', mk', wo') ∧ RM t (wn t w (min c (99 - wRd w))) s' := by
  have h99 := hw.1
  obtain ⟨s', mk', wo', z, h1, h2⟩ := lacksIn_l (N := N) (by omega) ht hw hT0 rn hc (min c (99 - wRd w)) 0 N (by omega) (by omega) s makes works rm
  refine ⟨s', mk', wo', ?_, h2⟩
  have h1' : fX5_lacksIn_12 N trades people need made skips tunes (nI c) N s makes works (0 : Int32) (0 : Int32) = some (s', mk', wo', nI (tot t w (min c (99 - wRd w))), z) := h1
  have e1 := rm.2.1
  have e2 := h2.2.1
  unfold fX5_lacksIn
  rw [h1', b5_s, c1, sgd (by decide) (by decide), sgd (by decide) (by decide), sclamp (by decide), e1, e2]
theorem go_l (hN : 7 ≤ N) (ht : tOK t) (hw : wOK t w) (hT0 : 0 < tT t) (rn : RN t trades people need made skips tunes) {c : Nat} (hc : c < 2147483648) :
    ∀ (d i n : Nat), i + d = min c (99 - wRd w) → d < n → ∀ (s makes works : Nat → Int32), RM t (wn t w i) s →
      ∃ (s' mk' wo' : Nat → Int32) (z : Int32), fX5_go_42 N trades people need made skips tunes (nI c) n s makes works (nI (tot t w i)) (nI i) = some (s', mk', wo', nI (tot t w (min c (99 - wRd w))), z) ∧ RM t (wn t w (min c (99 - wRd w))) s' := by
  have h99 := hw.1
  intro d
  induction d with
  | zero =>
    intro i n hi hn s makes works rm
    obtain ⟨n, rfl⟩ : ∃ z, n = z + 1 := ⟨n - 1, by omega⟩
    have hi' : i = min c (99 - wRd w) := by omega
    subst hi'
    have e0 := rm.1
    rw [wn_rd] at e0
    refine ⟨s, makes, works, nI (min c (99 - wRd w)), ?_, rm⟩
    rw [fX5_go_42_s]
    by_cases hle : c ≤ min c (99 - wRd w)
    · rw [ic (sle (by omega) (by omega)), if_pos hle]
    · rw [ic (sle (by omega) (by omega)), if_neg hle, c0, sgd (by decide) (by decide), sclamp (by decide), e0, c99, ic (sle (by omega) (by omega)), if_pos (by omega)]
  | succ d ih =>
    intro i n hi hn s makes works rm
    obtain ⟨n, rfl⟩ : ∃ z, n = z + 1 := ⟨n - 1, by omega⟩
    have e0 := rm.1
    rw [wn_rd] at e0
    obtain ⟨s1, mk1, wo1, h1, h2⟩ := goesBy_s (makes := makes) (works := works) hN ht (wn_ok ht hw i (by omega)) hT0 rn rm
    obtain ⟨s', mk', wo', z, h3, h4⟩ := ih (i + 1) n (by omega) (by omega) s1 mk1 wo1 h2
    refine ⟨s', mk', wo', z, ?_, h4⟩
    rw [fX5_go_42_s, ic (sle (by omega) (by omega)), if_neg (by omega), c0, sgd (by decide) (by decide), sclamp (by decide), e0, c99, ic (sle (by omega) (by omega)), if_neg (by omega), h1, b4_s, nI_add, c1, nI_add]
    exact h3
theorem aside_1 {spare : Nat → Int32} (hN : 106 ≤ N) : ∃ sp', fX5_aside N s spare (nI 1) = some (s, sp') ∧ ∀ j, j < 105 → sp' j = s j := by
  have key := lpN (fun n (z : (Nat → Int32) × (Nat → Int32) × Int32) => fX5_aside_2 N (nI 1) n z.1 z.2.1 z.2.2) (fun k => (s, ov (fun j => decide (j < k)) spare s, nI k)) 105 _
    (fun n k hk => by
      show fX5_aside_2 N (nI 1) (n + 1) s _ (nI k) = _
      dsimp only
      have cc : ∀ j, decide (j < k + 1) = (decide (j < k) || decide (j = k)) := fun j => by rw [Bool.eq_iff_iff]; simp only [decide_eq_true_eq, Bool.or_eq_true]; omega
      rw [fX5_aside_2_s, c105, ic (sle (by omega) (by omega)), if_neg (by omega), if_neg (by decide), sgd (by omega) (by decide), sgd (by omega) (by decide), sclamp (by omega), c1, nI_add, ov_upd (c' := fun j => decide (j < k + 1)) (v := s) rfl cc])
    (fun n => by
      show fX5_aside_2 N (nI 1) (n + 1) s _ (nI 105) = _
      dsimp only
      rw [fX5_aside_2_s, c105, ic (sle (by omega) (by omega)), if_pos (Nat.le_refl _)])
    105 0 (by omega) N (by omega)
  have h0 : ov (fun j => decide (j < 0)) spare s = spare := ov_0 (fun j => by simp)
  simp only [h0] at key
  refine ⟨ov (fun j => decide (j < 105)) spare s, ?_, fun j hj => ov_v (by simp [hj])⟩
  unfold fX5_aside
  rw [c0]
  exact (congrArg (fun x => b3 x (fun a b _ => some (a, b))) key)
theorem aside_0 {spare : Nat → Int32} (hN : 106 ≤ N) : ∃ s', fX5_aside N s spare (nI 0) = some (s', spare) ∧ ∀ j, j < 105 → s' j = spare j := by
  have key := lpN (fun n (z : (Nat → Int32) × (Nat → Int32) × Int32) => fX5_aside_2 N (nI 0) n z.1 z.2.1 z.2.2) (fun k => (ov (fun j => decide (j < k)) s spare, spare, nI k)) 105 _
    (fun n k hk => by
      show fX5_aside_2 N (nI 0) (n + 1) _ spare (nI k) = _
      dsimp only
      have cc : ∀ j, decide (j < k + 1) = (decide (j < k) || decide (j = k)) := fun j => by rw [Bool.eq_iff_iff]; simp only [decide_eq_true_eq, Bool.or_eq_true]; omega
      rw [fX5_aside_2_s, c105, ic (sle (by omega) (by omega)), if_neg (by omega), if_pos (by decide), sgd (by omega) (by decide), sgd (by omega) (by decide), sclamp (by omega), c1, nI_add, ov_upd (c' := fun j => decide (j < k + 1)) (v := spare) rfl cc])
    (fun n => by
      show fX5_aside_2 N (nI 0) (n + 1) _ spare (nI 105) = _
      dsimp only
      rw [fX5_aside_2_s, c105, ic (sle (by omega) (by omega)), if_pos (Nat.le_refl _)])
    105 0 (by omega) N (by omega)
  have h0 : ov (fun j => decide (j < 0)) s spare = s := ov_0 (fun j => by simp)
  simp only [h0] at key
  refine ⟨ov (fun j => decide (j < 105)) s spare, ?_, fun j hj => ov_v (by simp [hj])⟩
  unfold fX5_aside
  rw [c0]
  exact (congrArg (fun x => b3 x (fun a b _ => some (a, b))) key)
end
/-- how a world begins -/
def w0 (sk pl wh : Nat → Nat) : WS := (0, 0, 0, sk, pl, fun _ => 0, fun _ => 0, fun _ => 0, fun _ => 0, wh)
def RS (t : TS) (sk pl wh : Nat → Nat) (tskills tplaces twheel skillTold placeTold wheelTold : Nat → Int32) : Prop := (∀ p, p < tP t → ∀ k, k < tT t → tskills (p * 6 + k) = nI (sk (p * 6 + k)) ∧ skillTold (6 * p + k) = nI (sk (p * 6 + k))) ∧ (∀ p, p < tP t → tplaces p = nI (pl p) ∧ placeTold p = nI (pl p)) ∧ (∀ k, k < tT t → twheel k = nI (wh k) ∧ wheelTold k = nI (wh k)) ∧ wOK t (w0 sk pl wh)
section
variable {N : Nat} {t : TS} {w : WS} {sk pl wh : Nat → Nat} {tskills tplaces twheel skillTold placeTold wheelTold s skills places stores lacked helpers favours wheel : Nat → Int32} {round fell ills : Int32}
theorem begins_s (hN : 106 ≤ N) (ht : tOK t) (rs : RS t sk pl wh tskills tplaces twheel skillTold placeTold wheelTold) : ∃ s', fX5_begins N skillTold placeTold wheelTold s = some s' ∧ RM t (w0 sk pl wh) s' := by
  have hP : tP t ≤ 6 := ht.2.1
  have hT : tT t ≤ 6 := ht.1
  have k1 := lpN (fun n (z : (Nat → Int32) × Int32) => fX5_begins_2 N n z.1 z.2) (fun k => (ov (fun j => decide (j < k)) s (fun _ => nI 0), nI k)) 105 _
    (fun n k hk => by
      show fX5_begins_2 N (n + 1) _ (nI k) = _
      dsimp only
      have cc : ∀ j, decide (j < k + 1) = (decide (j < k) || decide (j = k)) := fun j => by rw [Bool.eq_iff_iff]; simp only [decide_eq_true_eq, Bool.or_eq_true]; omega
      rw [fX5_begins_2_s, c105, ic (sle (by omega) (by omega)), if_neg (by omega), sgd (by omega) (by decide), sclamp (by omega), c0, c1, nI_add, ov_upd (c' := fun j => decide (j < k + 1)) (v := fun _ => nI 0) rfl cc])
    (fun n => by
      show fX5_begins_2 N (n + 1) _ (nI 105) = _
      dsimp only
      rw [fX5_begins_2_s, c105, ic (sle (by omega) (by omega)), if_pos (Nat.le_refl _)])
    105 0 (by omega) N (by omega)
  have h0 : ov (fun j => decide (j < 0)) s (fun _ => nI 0) = s := ov_0 (fun j => by simp)
  simp only [h0] at k1
  have k2 := lpI (fun n (z : (Nat → Int32) × Int32) => fX5_begins_23 N placeTold wheelTold n z.1 z.2)
    (fun k z => ((∀ i, i < k → z.1 (14 + i) = wheelTold i ∧ z.1 (20 + i) = placeTold i ∧ z.1 (26 + i) = m9) ∧ ∀ j, j < 105 → (j < 14 ∨ 32 ≤ j) → z.1 j = nI 0) ∧ z.2 = nI k)
    (fun r => (∀ i, i < 6 → r.1 (14 + i) = wheelTold i ∧ r.1 (20 + i) = placeTold i ∧ r.1 (26 + i) = m9) ∧ ∀ j, j < 105 → (j < 14 ∨ 32 ≤ j) → r.1 j = nI 0) 6
    (fun n k z hk hz => by
      obtain ⟨s1, l1⟩ := z
      obtain ⟨⟨h1, h3⟩, h2⟩ := hz
      simp only [] at h1 h2 h3
      subst h2
      dsimp only
      rw [fX5_begins_23_s, c6, ic (sle (by omega) (by omega)), if_neg (by omega), c14, c20, c26, nI_add, nI_add, nI_add, sgd (by omega) (by decide), sgd (by omega) (by decide), sgd (by omega) (by decide), sgd (by omega) (by decide), sgd (by omega) (by decide), sclamp (by omega), sclamp (by omega), sclamp (by omega), sclamp (by omega), m9e, c1, nI_add]
      refine ⟨(_, nI (k + 1)), rfl, ⟨fun i hi => ?_, fun j hj hj2 => ?_⟩, rfl⟩
      · show upd _ _ _ _ = _ ∧ upd _ _ _ _ = _ ∧ upd _ _ _ _ = _
        by_cases e : i = k
        · subst e
          exact ⟨by rw [up_n (by omega), up_n (by omega), up_s], by rw [up_n (by omega), up_s], by rw [up_s]⟩
        · obtain ⟨a1, a2, a3⟩ := h1 i (by omega)
          exact ⟨by rw [up_n (by omega), up_n (by omega), up_n (by omega), a1], by rw [up_n (by omega), up_n (by omega), up_n (by omega), a2], by rw [up_n (by omega), up_n (by omega), up_n (by omega), a3]⟩
      · show upd _ _ _ _ = _
        rw [up_n (by omega), up_n (by omega), up_n (by omega), h3 j hj hj2])
    (fun n z hz => by
      obtain ⟨s1, l1⟩ := z
      obtain ⟨h1, h2⟩ := hz
      simp only [] at h1 h2
      subst h2
      dsimp only
      refine ⟨(s1, nI 6), ?_, h1⟩
      rw [fX5_begins_23_s, c6, ic (sle (by omega) (by omega)), if_pos (Nat.le_refl _)])
    6 0 (by omega) N (by omega) (ov (fun j => decide (j < 105)) s (fun _ => nI 0), nI 0) ⟨⟨fun i hi => by omega, fun j hj _ => ov_v (c := fun j => decide (j < 105)) (f := s) (v := fun _ => nI 0) (decide_eq_true hj)⟩, rfl⟩
  obtain ⟨⟨s2, l2⟩, q1, q2, q3⟩ := k2
  simp only [] at q2 q3
  have k3 := lpI (fun n (z : (Nat → Int32) × Int32) => fX5_begins_78 N skillTold n z.1 z.2)
    (fun k z => ((∀ i, i < k → z.1 (33 + i) = skillTold i) ∧ ∀ j, (j < 33 ∨ 69 ≤ j) → z.1 j = s2 j) ∧ z.2 = nI k)
    (fun r => (∀ i, i < 36 → r.1 (33 + i) = skillTold i) ∧ ∀ j, (j < 33 ∨ 69 ≤ j) → r.1 j = s2 j) 36
    (fun n k z hk hz => by
      obtain ⟨s1, l1⟩ := z
      obtain ⟨⟨h1, h3⟩, h2⟩ := hz
      simp only [] at h1 h2 h3
      subst h2
      dsimp only
      rw [fX5_begins_78_s, c36, ic (sle (by omega) (by omega)), if_neg (by omega), c33, nI_add, sgd (by omega) (by decide), sgd (by omega) (by decide), sclamp (by omega), sclamp (by omega), c1, nI_add]
      refine ⟨(_, nI (k + 1)), rfl, ⟨fun i hi => ?_, fun j hj => ?_⟩, rfl⟩
      · show upd _ _ _ _ = _
        by_cases e : i = k
        · subst e; rw [up_s]
        · rw [up_n (by omega), h1 i (by omega)]
      · show upd _ _ _ _ = _
        rw [up_n (by omega), h3 j hj])
    (fun n z hz => by
      obtain ⟨s1, l1⟩ := z
      obtain ⟨h1, h2⟩ := hz
      simp only [] at h1 h2
      subst h2
      dsimp only
      refine ⟨(s1, nI 36), ?_, h1⟩
      rw [fX5_begins_78_s, c36, ic (sle (by omega) (by omega)), if_pos (Nat.le_refl _)])
    36 0 (by omega) N (by omega) (s2, nI 0) ⟨⟨fun i hi => by omega, fun j _ => rfl⟩, rfl⟩
  obtain ⟨⟨s3, l3⟩, r1, r2, r3⟩ := k3
  simp only [] at r2 r3
  refine ⟨s3, ?_, ?_⟩
  · unfold fX5_begins
    rw [c0, k1, b2_s, q1, b2_s, r1, b2_s]
  · obtain ⟨a1, a2, a3, a4⟩ := rs
    refine ⟨?_, ?_, fun k hk => ?_, fun k hk => ?_, fun k hk => ?_, fun p hp => ?_, fun p hp => ?_, ?_, fun p hp k hk => ?_, fun q hq p hp => ?_⟩
    · rw [r3 0 (by omega), q3 0 (by omega) (by omega)]; rfl
    · rw [r3 1 (by omega), q3 1 (by omega) (by omega)]; rfl
    · rw [r3 _ (by omega), q3 _ (by omega) (by omega)]; rfl
    · rw [r3 _ (by omega), q3 _ (by omega) (by omega)]; rfl
    · rw [r3 _ (by omega), (q2 k (by omega)).1, (a3 k hk).2]; rfl
    · rw [r3 _ (by omega), (q2 p (by omega)).2.1, (a2 p hp).2]; rfl
    · refine Or.inl ⟨?_, fun q _ => ?_⟩
      · rw [r3 _ (by omega), (q2 p (by omega)).2.2]
      · show (0 : Nat) ≠ p + 1
        omega
    · rw [r3 _ (by omega), q3 _ (by omega) (by omega)]; rfl
    · rw [Nat.add_assoc, r2 _ (by omega), (a1 p hp k hk).2]; rfl
    · rw [r3 _ (by omega), q3 _ (by omega) (by omega)]; rfl
theorem cpy_at {f g : Nat → Int32} {n j : Nat} (h : j < n) : va_cpy f g 0 0 n j = f j := by
  unfold va_cpy
  rw [if_pos (by omega)]
  congr 1
  omega
theorem startAs_s (hN : 37 ≤ N) (ht : tOK t) (rs : RS t sk pl wh tskills tplaces twheel skillTold placeTold wheelTold) :
    ∃ (rd' fe' il' : Int32) (sk' pl' st' la' he' fa' wh' : Nat → Int32), fX3_startAs N round fell ills skills places stores lacked helpers favours wheel tskills tplaces twheel = some (rd', fe', il', sk', pl', st', la', he', fa', wh') ∧ RC t (w0 sk pl wh) rd' fe' il' sk' pl' st' la' he' fa' wh' := by
  have hP : tP t ≤ 6 := ht.2.1
  have hT : tT t ≤ 6 := ht.1
  have cc : ∀ k j, decide (j < k + 1) = (decide (j < k) || decide (j = k)) := fun k j => by rw [Bool.eq_iff_iff]; simp only [decide_eq_true_eq, Bool.or_eq_true]; omega
  have k1 := lpN (fun n (z : (Nat → Int32) × (Nat → Int32) × Int32) => fX3_startAs_65 N n z.1 z.2.1 z.2.2) (fun k => (ov (fun j => decide (j < k)) stores (fun _ => nI 0), ov (fun j => decide (j < k)) lacked (fun _ => nI 0), nI k)) 6 _
    (fun n k hk => by
      show fX3_startAs_65 N (n + 1) _ _ (nI k) = _
      dsimp only
      rw [fX3_startAs_65_s, c6, ic (sle (by omega) (by omega)), if_neg (by omega), sgd (by omega) (by decide), sgd (by omega) (by decide), sclamp (by omega), c0, c1, nI_add, ov_upd (c' := fun j => decide (j < k + 1)) (v := fun _ => nI 0) rfl (cc k), ov_upd (c' := fun j => decide (j < k + 1)) (v := fun _ => nI 0) rfl (cc k)])
    (fun n => by
      show fX3_startAs_65 N (n + 1) _ _ (nI 6) = _
      dsimp only
      rw [fX3_startAs_65_s, c6, ic (sle (by omega) (by omega)), if_pos (Nat.le_refl _)])
    6 0 (by omega) N (by omega)
  have k2 := lpN (fun n (z : (Nat → Int32) × Int32) => fX3_startAs_93 N n z.1 z.2) (fun k => (ov (fun j => decide (j < k)) helpers (fun _ => m9), nI k)) 6 _
    (fun n k hk => by
      show fX3_startAs_93 N (n + 1) _ (nI k) = _
      dsimp only
      rw [fX3_startAs_93_s, c6, ic (sle (by omega) (by omega)), if_neg (by omega), sgd (by omega) (by decide), sclamp (by omega), m9e, c1, nI_add, ov_upd (c' := fun j => decide (j < k + 1)) (v := fun _ => m9) rfl (cc k)])
    (fun n => by
      show fX3_startAs_93 N (n + 1) _ (nI 6) = _
      dsimp only
      rw [fX3_startAs_93_s, c6, ic (sle (by omega) (by omega)), if_pos (Nat.le_refl _)])
    6 0 (by omega) N (by omega)
  have k3 := lpN (fun n (z : (Nat → Int32) × Int32) => fX3_startAs_115 N n z.1 z.2) (fun k => (ov (fun j => decide (j < k)) favours (fun _ => nI 0), nI k)) 36 _
    (fun n k hk => by
      show fX3_startAs_115 N (n + 1) _ (nI k) = _
      dsimp only
      rw [fX3_startAs_115_s, c36, ic (sle (by omega) (by omega)), if_neg (by omega), sgd (by omega) (by decide), sclamp (by omega), c0, c1, nI_add, ov_upd (c' := fun j => decide (j < k + 1)) (v := fun _ => nI 0) rfl (cc k)])
    (fun n => by
      show fX3_startAs_115 N (n + 1) _ (nI 36) = _
      dsimp only
      rw [fX3_startAs_115_s, c36, ic (sle (by omega) (by omega)), if_pos (Nat.le_refl _)])
    36 0 (by omega) N (by omega)
  have h0 : ∀ f v : Nat → Int32, ov (fun j => decide (j < 0)) f v = f := fun f v => ov_0 (fun j => by simp)
  simp only [h0] at k1 k2 k3
  obtain ⟨a1, a2, a3, a4⟩ := rs
  unfold fX3_startAs
  rw [c0, k1, b3_s, k2, b2_s, k3, b2_s]
  refine ⟨_, _, _, _, _, _, _, _, _, _, rfl, rfl, rfl, rfl, fun p hp k hk => ?_, fun p hp => ?_, fun k hk => ?_, fun k hk => ?_, fun q hq => ?_, fun q hq p hp => ?_, fun k hk => ?_⟩
  · rw [cpy_at (by omega), (a1 p hp k hk).1]; rfl
  · rw [cpy_at (by omega), (a2 p hp).1]; rfl
  · rw [ov_v (by simp; omega)]; rfl
  · rw [ov_v (by simp; omega)]; rfl
  · rw [ov_v (by simp; omega)]; rfl
  · rw [ov_v (by simp; omega)]; rfl
  · rw [cpy_at (by omega), (a3 k hk).1]; rfl
theorem becomes_s {r2 f2 i2 : Int32} {x1 x2 x3 x4 x5 x6 x7 : Nat → Int32} (ht : tOK t) (rc : RC t w round fell ills skills places stores lacked helpers favours wheel) :
    ∃ (sk' pl' st' la' he' fa' wh' : Nat → Int32), fX3_becomes N r2 f2 i2 x1 x2 x3 x4 x5 x6 x7 round fell ills skills places stores lacked helpers favours wheel = some (round, fell, ills, sk', pl', st', la', he', fa', wh') ∧ RC t w round fell ills sk' pl' st' la' he' fa' wh' := by
  have hP : tP t ≤ 6 := ht.2.1
  have hT : tT t ≤ 6 := ht.1
  obtain ⟨d1, d2, d3, d4, d5, d6, d7, d8, d9, d10⟩ := rc
  unfold fX3_becomes
  refine ⟨_, _, _, _, _, _, _, rfl, d1, d2, d3, fun p hp k hk => ?_, fun p hp => ?_, fun k hk => ?_, fun k hk => ?_, fun q hq => ?_, fun q hq p hp => ?_, fun k hk => ?_⟩
  · rw [cpy_at (by omega)]; exact d4 p hp k hk
  · rw [cpy_at (by omega)]; exact d5 p hp
  · rw [cpy_at (by omega)]; exact d6 k hk
  · rw [cpy_at (by omega)]; exact d7 k hk
  · rw [cpy_at (by omega)]; exact d8 q hq
  · rw [cpy_at (by omega)]; exact d9 q hq p hp
  · rw [cpy_at (by omega)]; exact d10 k hk
end
