/-! the reference's tokens -/
/-- the letters from q on, so many, as one number -/
def hsh (tb : Nat → Nat) (q : Nat) : Nat → Nat
  | 0 => 0
  | j + 1 => 256 * hsh tb q j + tb (q + j)
theorem wd_0 {tb : Nat → Nat} {q e : Nat} (hlet : ∀ j, q ≤ j → j < e → 97 ≤ tb j ∧ tb j ≤ 122) (hqe : q < e) : (hsh tb q (min 7 (e - q)) = 500135191653) ↔ wdM tb q e (wdB 0) = true := by
  have hW : wdM tb q e (wdB 0) = (decide (5 = e - q) && (((((true && decide (nI 116 = nI (tb (q + 0)))) && decide (nI 114 = nI (tb (q + 1)))) && decide (nI 97 = nI (tb (q + 2)))) && decide (nI 100 = nI (tb (q + 3)))) && decide (nI 101 = nI (tb (q + 4))))) := rfl
  have g : ∀ j, j < e - q → 97 ≤ tb (q + j) ∧ tb (q + j) ≤ 122 := fun j hj => hlet _ (by omega) (by omega)
  rw [hW]
  rcases (show min 7 (e - q) = 1 ∨ min 7 (e - q) = 2 ∨ min 7 (e - q) = 3 ∨ min 7 (e - q) = 4 ∨ min 7 (e - q) = 5 ∨ min 7 (e - q) = 6 ∨ min 7 (e - q) = 7 by omega) with h | h | h | h | h | h | h
  · rw [h]
    have g0 := g 0 (by omega)
    have hne : ¬ (5 = e - q) := by omega
    rw [decide_eq_false hne, Bool.false_and]
    constructor
    · intro z
      have z2 : 256 * (0) + tb (q + 0) = 500135191653 := z
      omega
    · intro z; cases z
  · rw [h]
    have g0 := g 0 (by omega)
    have g1 := g 1 (by omega)
    have hne : ¬ (5 = e - q) := by omega
    rw [decide_eq_false hne, Bool.false_and]
    constructor
    · intro z
      have z2 : 256 * (256 * (0) + tb (q + 0)) + tb (q + 1) = 500135191653 := z
      omega
    · intro z; cases z
  · rw [h]
    have g0 := g 0 (by omega)
    have g1 := g 1 (by omega)
    have g2 := g 2 (by omega)
    have hne : ¬ (5 = e - q) := by omega
    rw [decide_eq_false hne, Bool.false_and]
    constructor
    · intro z
      have z2 : 256 * (256 * (256 * (0) + tb (q + 0)) + tb (q + 1)) + tb (q + 2) = 500135191653 := z
      omega
    · intro z; cases z
  · rw [h]
    have g0 := g 0 (by omega)
    have g1 := g 1 (by omega)
    have g2 := g 2 (by omega)
    have g3 := g 3 (by omega)
    have hne : ¬ (5 = e - q) := by omega
    rw [decide_eq_false hne, Bool.false_and]
    constructor
    · intro z
      have z2 : 256 * (256 * (256 * (256 * (0) + tb (q + 0)) + tb (q + 1)) + tb (q + 2)) + tb (q + 3) = 500135191653 := z
      omega
    · intro z; cases z
  · rw [h]
    have g0 := g 0 (by omega)
    have g1 := g 1 (by omega)
    have g2 := g 2 (by omega)
    have g3 := g 3 (by omega)
    have g4 := g 4 (by omega)
    have he : 5 = e - q := by omega
    rw [decide_eq_true he, Bool.true_and]
    constructor
    · intro z
      have z2 : 256 * (256 * (256 * (256 * (256 * (0) + tb (q + 0)) + tb (q + 1)) + tb (q + 2)) + tb (q + 3)) + tb (q + 4) = 500135191653 := z
      have e0 : tb (q + 0) = 116 := by omega
      have e1 : tb (q + 1) = 114 := by omega
      have e2 : tb (q + 2) = 97 := by omega
      have e3 : tb (q + 3) = 100 := by omega
      have e4 : tb (q + 4) = 101 := by omega
      rw [e0, e1, e2, e3, e4]
      rfl
    · intro z
      simp only [Bool.and_eq_true, decide_eq_true_eq] at z
      obtain ⟨⟨⟨⟨⟨_, z0⟩, z1⟩, z2⟩, z3⟩, z4⟩ := z
      have y0 := (nI_eq (by omega) (by omega)).mp z0
      have y1 := (nI_eq (by omega) (by omega)).mp z1
      have y2 := (nI_eq (by omega) (by omega)).mp z2
      have y3 := (nI_eq (by omega) (by omega)).mp z3
      have y4 := (nI_eq (by omega) (by omega)).mp z4
      show 256 * (256 * (256 * (256 * (256 * (0) + tb (q + 0)) + tb (q + 1)) + tb (q + 2)) + tb (q + 3)) + tb (q + 4) = 500135191653
      omega
  · rw [h]
    have g0 := g 0 (by omega)
    have g1 := g 1 (by omega)
    have g2 := g 2 (by omega)
    have g3 := g 3 (by omega)
    have g4 := g 4 (by omega)
    have g5 := g 5 (by omega)
    have hne : ¬ (5 = e - q) := by omega
    rw [decide_eq_false hne, Bool.false_and]
    constructor
    · intro z
      have z2 : 256 * (256 * (256 * (256 * (256 * (256 * (0) + tb (q + 0)) + tb (q + 1)) + tb (q + 2)) + tb (q + 3)) + tb (q + 4)) + tb (q + 5) = 500135191653 := z
      omega
    · intro z; cases z
  · rw [h]
    have g0 := g 0 (by omega)
    have g1 := g 1 (by omega)
    have g2 := g 2 (by omega)
    have g3 := g 3 (by omega)
    have g4 := g 4 (by omega)
    have g5 := g 5 (by omega)
    have g6 := g 6 (by omega)
    have hne : ¬ (5 = e - q) := by omega
    rw [decide_eq_false hne, Bool.false_and]
    constructor
    · intro z
      have z2 : 256 * (256 * (256 * (256 * (256 * (256 * (256 * (0) + tb (q + 0)) + tb (q + 1)) + tb (q + 2)) + tb (q + 3)) + tb (q + 4)) + tb (q + 5)) + tb (q + 6) = 500135191653 := z
      omega
    · intro z; cases z
theorem wd_1 {tb : Nat → Nat} {q e : Nat} (hlet : ∀ j, q ≤ j → j < e → 97 ≤ tb j ∧ tb j ≤ 122) (hqe : q < e) : (hsh tb q (min 7 (e - q)) = 123581014175598) ↔ wdM tb q e (wdB 1) = true := by
  have hW : wdM tb q e (wdB 1) = (decide (6 = e - q) && ((((((true && decide (nI 112 = nI (tb (q + 0)))) && decide (nI 101 = nI (tb (q + 1)))) && decide (nI 114 = nI (tb (q + 2)))) && decide (nI 115 = nI (tb (q + 3)))) && decide (nI 111 = nI (tb (q + 4)))) && decide (nI 110 = nI (tb (q + 5))))) := rfl
  have g : ∀ j, j < e - q → 97 ≤ tb (q + j) ∧ tb (q + j) ≤ 122 := fun j hj => hlet _ (by omega) (by omega)
  rw [hW]
  rcases (show min 7 (e - q) = 1 ∨ min 7 (e - q) = 2 ∨ min 7 (e - q) = 3 ∨ min 7 (e - q) = 4 ∨ min 7 (e - q) = 5 ∨ min 7 (e - q) = 6 ∨ min 7 (e - q) = 7 by omega) with h | h | h | h | h | h | h
  · rw [h]
    have g0 := g 0 (by omega)
    have hne : ¬ (6 = e - q) := by omega
    rw [decide_eq_false hne, Bool.false_and]
    constructor
    · intro z
      have z2 : 256 * (0) + tb (q + 0) = 123581014175598 := z
      omega
    · intro z; cases z
  · rw [h]
    have g0 := g 0 (by omega)
    have g1 := g 1 (by omega)
    have hne : ¬ (6 = e - q) := by omega
    rw [decide_eq_false hne, Bool.false_and]
    constructor
    · intro z
      have z2 : 256 * (256 * (0) + tb (q + 0)) + tb (q + 1) = 123581014175598 := z
      omega
    · intro z; cases z
  · rw [h]
    have g0 := g 0 (by omega)
    have g1 := g 1 (by omega)
    have g2 := g 2 (by omega)
    have hne : ¬ (6 = e - q) := by omega
    rw [decide_eq_false hne, Bool.false_and]
    constructor
    · intro z
      have z2 : 256 * (256 * (256 * (0) + tb (q + 0)) + tb (q + 1)) + tb (q + 2) = 123581014175598 := z
      omega
    · intro z; cases z
  · rw [h]
    have g0 := g 0 (by omega)
    have g1 := g 1 (by omega)
    have g2 := g 2 (by omega)
    have g3 := g 3 (by omega)
    have hne : ¬ (6 = e - q) := by omega
    rw [decide_eq_false hne, Bool.false_and]
    constructor
    · intro z
      have z2 : 256 * (256 * (256 * (256 * (0) + tb (q + 0)) + tb (q + 1)) + tb (q + 2)) + tb (q + 3) = 123581014175598 := z
      omega
    · intro z; cases z
  · rw [h]
    have g0 := g 0 (by omega)
    have g1 := g 1 (by omega)
    have g2 := g 2 (by omega)
    have g3 := g 3 (by omega)
    have g4 := g 4 (by omega)
    have hne : ¬ (6 = e - q) := by omega
    rw [decide_eq_false hne, Bool.false_and]
    constructor
    · intro z
      have z2 : 256 * (256 * (256 * (256 * (256 * (0) + tb (q + 0)) + tb (q + 1)) + tb (q + 2)) + tb (q + 3)) + tb (q + 4) = 123581014175598 := z
      omega
    · intro z; cases z
  · rw [h]
    have g0 := g 0 (by omega)
    have g1 := g 1 (by omega)
    have g2 := g 2 (by omega)
    have g3 := g 3 (by omega)
    have g4 := g 4 (by omega)
    have g5 := g 5 (by omega)
    have he : 6 = e - q := by omega
    rw [decide_eq_true he, Bool.true_and]
    constructor
    · intro z
      have z2 : 256 * (256 * (256 * (256 * (256 * (256 * (0) + tb (q + 0)) + tb (q + 1)) + tb (q + 2)) + tb (q + 3)) + tb (q + 4)) + tb (q + 5) = 123581014175598 := z
      have e0 : tb (q + 0) = 112 := by omega
      have e1 : tb (q + 1) = 101 := by omega
      have e2 : tb (q + 2) = 114 := by omega
      have e3 : tb (q + 3) = 115 := by omega
      have e4 : tb (q + 4) = 111 := by omega
      have e5 : tb (q + 5) = 110 := by omega
      rw [e0, e1, e2, e3, e4, e5]
      rfl
    · intro z
      simp only [Bool.and_eq_true, decide_eq_true_eq] at z
      obtain ⟨⟨⟨⟨⟨⟨_, z0⟩, z1⟩, z2⟩, z3⟩, z4⟩, z5⟩ := z
      have y0 := (nI_eq (by omega) (by omega)).mp z0
      have y1 := (nI_eq (by omega) (by omega)).mp z1
      have y2 := (nI_eq (by omega) (by omega)).mp z2
      have y3 := (nI_eq (by omega) (by omega)).mp z3
      have y4 := (nI_eq (by omega) (by omega)).mp z4
      have y5 := (nI_eq (by omega) (by omega)).mp z5
      show 256 * (256 * (256 * (256 * (256 * (256 * (0) + tb (q + 0)) + tb (q + 1)) + tb (q + 2)) + tb (q + 3)) + tb (q + 4)) + tb (q + 5) = 123581014175598
      omega
  · rw [h]
    have g0 := g 0 (by omega)
    have g1 := g 1 (by omega)
    have g2 := g 2 (by omega)
    have g3 := g 3 (by omega)
    have g4 := g 4 (by omega)
    have g5 := g 5 (by omega)
    have g6 := g 6 (by omega)
    have hne : ¬ (6 = e - q) := by omega
    rw [decide_eq_false hne, Bool.false_and]
    constructor
    · intro z
      have z2 : 256 * (256 * (256 * (256 * (256 * (256 * (256 * (0) + tb (q + 0)) + tb (q + 1)) + tb (q + 2)) + tb (q + 3)) + tb (q + 4)) + tb (q + 5)) + tb (q + 6) = 123581014175598 := z
      omega
    · intro z; cases z
theorem wd_2 {tb : Nat → Nat} {q e : Nat} (hlet : ∀ j, q ≤ j → j < e → 97 ≤ tb j ∧ tb j ≤ 122) (hqe : q < e) : (hsh tb q (min 7 (e - q)) = 495723310188) ↔ wdM tb q e (wdB 2) = true := by
  have hW : wdM tb q e (wdB 2) = (decide (5 = e - q) && (((((true && decide (nI 115 = nI (tb (q + 0)))) && decide (nI 107 = nI (tb (q + 1)))) && decide (nI 105 = nI (tb (q + 2)))) && decide (nI 108 = nI (tb (q + 3)))) && decide (nI 108 = nI (tb (q + 4))))) := rfl
  have g : ∀ j, j < e - q → 97 ≤ tb (q + j) ∧ tb (q + j) ≤ 122 := fun j hj => hlet _ (by omega) (by omega)
  rw [hW]
  rcases (show min 7 (e - q) = 1 ∨ min 7 (e - q) = 2 ∨ min 7 (e - q) = 3 ∨ min 7 (e - q) = 4 ∨ min 7 (e - q) = 5 ∨ min 7 (e - q) = 6 ∨ min 7 (e - q) = 7 by omega) with h | h | h | h | h | h | h
  · rw [h]
    have g0 := g 0 (by omega)
    have hne : ¬ (5 = e - q) := by omega
    rw [decide_eq_false hne, Bool.false_and]
    constructor
    · intro z
      have z2 : 256 * (0) + tb (q + 0) = 495723310188 := z
      omega
    · intro z; cases z
  · rw [h]
    have g0 := g 0 (by omega)
    have g1 := g 1 (by omega)
    have hne : ¬ (5 = e - q) := by omega
    rw [decide_eq_false hne, Bool.false_and]
    constructor
    · intro z
      have z2 : 256 * (256 * (0) + tb (q + 0)) + tb (q + 1) = 495723310188 := z
      omega
    · intro z; cases z
  · rw [h]
    have g0 := g 0 (by omega)
    have g1 := g 1 (by omega)
    have g2 := g 2 (by omega)
    have hne : ¬ (5 = e - q) := by omega
    rw [decide_eq_false hne, Bool.false_and]
    constructor
    · intro z
      have z2 : 256 * (256 * (256 * (0) + tb (q + 0)) + tb (q + 1)) + tb (q + 2) = 495723310188 := z
      omega
    · intro z; cases z
  · rw [h]
    have g0 := g 0 (by omega)
    have g1 := g 1 (by omega)
    have g2 := g 2 (by omega)
    have g3 := g 3 (by omega)
    have hne : ¬ (5 = e - q) := by omega
    rw [decide_eq_false hne, Bool.false_and]
    constructor
    · intro z
      have z2 : 256 * (256 * (256 * (256 * (0) + tb (q + 0)) + tb (q + 1)) + tb (q + 2)) + tb (q + 3) = 495723310188 := z
      omega
    · intro z; cases z
  · rw [h]
    have g0 := g 0 (by omega)
    have g1 := g 1 (by omega)
    have g2 := g 2 (by omega)
    have g3 := g 3 (by omega)
    have g4 := g 4 (by omega)
    have he : 5 = e - q := by omega
    rw [decide_eq_true he, Bool.true_and]
    constructor
    · intro z
      have z2 : 256 * (256 * (256 * (256 * (256 * (0) + tb (q + 0)) + tb (q + 1)) + tb (q + 2)) + tb (q + 3)) + tb (q + 4) = 495723310188 := z
      have e0 : tb (q + 0) = 115 := by omega
      have e1 : tb (q + 1) = 107 := by omega
      have e2 : tb (q + 2) = 105 := by omega
      have e3 : tb (q + 3) = 108 := by omega
      have e4 : tb (q + 4) = 108 := by omega
      rw [e0, e1, e2, e3, e4]
      rfl
    · intro z
      simp only [Bool.and_eq_true, decide_eq_true_eq] at z
      obtain ⟨⟨⟨⟨⟨_, z0⟩, z1⟩, z2⟩, z3⟩, z4⟩ := z
      have y0 := (nI_eq (by omega) (by omega)).mp z0
      have y1 := (nI_eq (by omega) (by omega)).mp z1
      have y2 := (nI_eq (by omega) (by omega)).mp z2
      have y3 := (nI_eq (by omega) (by omega)).mp z3
      have y4 := (nI_eq (by omega) (by omega)).mp z4
      show 256 * (256 * (256 * (256 * (256 * (0) + tb (q + 0)) + tb (q + 1)) + tb (q + 2)) + tb (q + 3)) + tb (q + 4) = 495723310188
      omega
  · rw [h]
    have g0 := g 0 (by omega)
    have g1 := g 1 (by omega)
    have g2 := g 2 (by omega)
    have g3 := g 3 (by omega)
    have g4 := g 4 (by omega)
    have g5 := g 5 (by omega)
    have hne : ¬ (5 = e - q) := by omega
    rw [decide_eq_false hne, Bool.false_and]
    constructor
    · intro z
      have z2 : 256 * (256 * (256 * (256 * (256 * (256 * (0) + tb (q + 0)) + tb (q + 1)) + tb (q + 2)) + tb (q + 3)) + tb (q + 4)) + tb (q + 5) = 495723310188 := z
      omega
    · intro z; cases z
  · rw [h]
    have g0 := g 0 (by omega)
    have g1 := g 1 (by omega)
    have g2 := g 2 (by omega)
    have g3 := g 3 (by omega)
    have g4 := g 4 (by omega)
    have g5 := g 5 (by omega)
    have g6 := g 6 (by omega)
    have hne : ¬ (5 = e - q) := by omega
    rw [decide_eq_false hne, Bool.false_and]
    constructor
    · intro z
      have z2 : 256 * (256 * (256 * (256 * (256 * (256 * (256 * (0) + tb (q + 0)) + tb (q + 1)) + tb (q + 2)) + tb (q + 3)) + tb (q + 4)) + tb (q + 5)) + tb (q + 6) = 495723310188 := z
      omega
    · intro z; cases z
theorem wd_3 {tb : Nat → Nat} {q e : Nat} (hlet : ∀ j, q ≤ j → j < e → 97 ≤ tb j ∧ tb j ≤ 122) (hqe : q < e) : (hsh tb q (min 7 (e - q)) = 1936419184) ↔ wdM tb q e (wdB 3) = true := by
  have hW : wdM tb q e (wdB 3) = (decide (4 = e - q) && ((((true && decide (nI 115 = nI (tb (q + 0)))) && decide (nI 107 = nI (tb (q + 1)))) && decide (nI 105 = nI (tb (q + 2)))) && decide (nI 112 = nI (tb (q + 3))))) := rfl
  have g : ∀ j, j < e - q → 97 ≤ tb (q + j) ∧ tb (q + j) ≤ 122 := fun j hj => hlet _ (by omega) (by omega)
  rw [hW]
  rcases (show min 7 (e - q) = 1 ∨ min 7 (e - q) = 2 ∨ min 7 (e - q) = 3 ∨ min 7 (e - q) = 4 ∨ min 7 (e - q) = 5 ∨ min 7 (e - q) = 6 ∨ min 7 (e - q) = 7 by omega) with h | h | h | h | h | h | h
  · rw [h]
    have g0 := g 0 (by omega)
    have hne : ¬ (4 = e - q) := by omega
    rw [decide_eq_false hne, Bool.false_and]
    constructor
    · intro z
      have z2 : 256 * (0) + tb (q + 0) = 1936419184 := z
      omega
    · intro z; cases z
  · rw [h]
    have g0 := g 0 (by omega)
    have g1 := g 1 (by omega)
    have hne : ¬ (4 = e - q) := by omega
    rw [decide_eq_false hne, Bool.false_and]
    constructor
    · intro z
      have z2 : 256 * (256 * (0) + tb (q + 0)) + tb (q + 1) = 1936419184 := z
      omega
    · intro z; cases z
  · rw [h]
    have g0 := g 0 (by omega)
    have g1 := g 1 (by omega)
    have g2 := g 2 (by omega)
    have hne : ¬ (4 = e - q) := by omega
    rw [decide_eq_false hne, Bool.false_and]
    constructor
    · intro z
      have z2 : 256 * (256 * (256 * (0) + tb (q + 0)) + tb (q + 1)) + tb (q + 2) = 1936419184 := z
      omega
    · intro z; cases z
  · rw [h]
    have g0 := g 0 (by omega)
    have g1 := g 1 (by omega)
    have g2 := g 2 (by omega)
    have g3 := g 3 (by omega)
    have he : 4 = e - q := by omega
    rw [decide_eq_true he, Bool.true_and]
    constructor
    · intro z
      have z2 : 256 * (256 * (256 * (256 * (0) + tb (q + 0)) + tb (q + 1)) + tb (q + 2)) + tb (q + 3) = 1936419184 := z
      have e0 : tb (q + 0) = 115 := by omega
      have e1 : tb (q + 1) = 107 := by omega
      have e2 : tb (q + 2) = 105 := by omega
      have e3 : tb (q + 3) = 112 := by omega
      rw [e0, e1, e2, e3]
      rfl
    · intro z
      simp only [Bool.and_eq_true, decide_eq_true_eq] at z
      obtain ⟨⟨⟨⟨_, z0⟩, z1⟩, z2⟩, z3⟩ := z
      have y0 := (nI_eq (by omega) (by omega)).mp z0
      have y1 := (nI_eq (by omega) (by omega)).mp z1
      have y2 := (nI_eq (by omega) (by omega)).mp z2
      have y3 := (nI_eq (by omega) (by omega)).mp z3
      show 256 * (256 * (256 * (256 * (0) + tb (q + 0)) + tb (q + 1)) + tb (q + 2)) + tb (q + 3) = 1936419184
      omega
  · rw [h]
    have g0 := g 0 (by omega)
    have g1 := g 1 (by omega)
    have g2 := g 2 (by omega)
    have g3 := g 3 (by omega)
    have g4 := g 4 (by omega)
    have hne : ¬ (4 = e - q) := by omega
    rw [decide_eq_false hne, Bool.false_and]
    constructor
    · intro z
      have z2 : 256 * (256 * (256 * (256 * (256 * (0) + tb (q + 0)) + tb (q + 1)) + tb (q + 2)) + tb (q + 3)) + tb (q + 4) = 1936419184 := z
      omega
    · intro z; cases z
  · rw [h]
    have g0 := g 0 (by omega)
    have g1 := g 1 (by omega)
    have g2 := g 2 (by omega)
    have g3 := g 3 (by omega)
    have g4 := g 4 (by omega)
    have g5 := g 5 (by omega)
    have hne : ¬ (4 = e - q) := by omega
    rw [decide_eq_false hne, Bool.false_and]
    constructor
    · intro z
      have z2 : 256 * (256 * (256 * (256 * (256 * (256 * (0) + tb (q + 0)) + tb (q + 1)) + tb (q + 2)) + tb (q + 3)) + tb (q + 4)) + tb (q + 5) = 1936419184 := z
      omega
    · intro z; cases z
  · rw [h]
    have g0 := g 0 (by omega)
    have g1 := g 1 (by omega)
    have g2 := g 2 (by omega)
    have g3 := g 3 (by omega)
    have g4 := g 4 (by omega)
    have g5 := g 5 (by omega)
    have g6 := g 6 (by omega)
    have hne : ¬ (4 = e - q) := by omega
    rw [decide_eq_false hne, Bool.false_and]
    constructor
    · intro z
      have z2 : 256 * (256 * (256 * (256 * (256 * (256 * (256 * (0) + tb (q + 0)) + tb (q + 1)) + tb (q + 2)) + tb (q + 3)) + tb (q + 4)) + tb (q + 5)) + tb (q + 6) = 1936419184 := z
      omega
    · intro z; cases z
theorem wd_4 {tb : Nat → Nat} {q e : Nat} (hlet : ∀ j, q ≤ j → j < e → 97 ≤ tb j ∧ tb j ≤ 122) (hqe : q < e) : (hsh tb q (min 7 (e - q)) = 24948) ↔ wdM tb q e (wdB 4) = true := by
  have hW : wdM tb q e (wdB 4) = (decide (2 = e - q) && ((true && decide (nI 97 = nI (tb (q + 0)))) && decide (nI 116 = nI (tb (q + 1))))) := rfl
  have g : ∀ j, j < e - q → 97 ≤ tb (q + j) ∧ tb (q + j) ≤ 122 := fun j hj => hlet _ (by omega) (by omega)
  rw [hW]
  rcases (show min 7 (e - q) = 1 ∨ min 7 (e - q) = 2 ∨ min 7 (e - q) = 3 ∨ min 7 (e - q) = 4 ∨ min 7 (e - q) = 5 ∨ min 7 (e - q) = 6 ∨ min 7 (e - q) = 7 by omega) with h | h | h | h | h | h | h
  · rw [h]
    have g0 := g 0 (by omega)
    have hne : ¬ (2 = e - q) := by omega
    rw [decide_eq_false hne, Bool.false_and]
    constructor
    · intro z
      have z2 : 256 * (0) + tb (q + 0) = 24948 := z
      omega
    · intro z; cases z
  · rw [h]
    have g0 := g 0 (by omega)
    have g1 := g 1 (by omega)
    have he : 2 = e - q := by omega
    rw [decide_eq_true he, Bool.true_and]
    constructor
    · intro z
      have z2 : 256 * (256 * (0) + tb (q + 0)) + tb (q + 1) = 24948 := z
      have e0 : tb (q + 0) = 97 := by omega
      have e1 : tb (q + 1) = 116 := by omega
      rw [e0, e1]
      rfl
    · intro z
      simp only [Bool.and_eq_true, decide_eq_true_eq] at z
      obtain ⟨⟨_, z0⟩, z1⟩ := z
      have y0 := (nI_eq (by omega) (by omega)).mp z0
      have y1 := (nI_eq (by omega) (by omega)).mp z1
      show 256 * (256 * (0) + tb (q + 0)) + tb (q + 1) = 24948
      omega
  · rw [h]
    have g0 := g 0 (by omega)
    have g1 := g 1 (by omega)
    have g2 := g 2 (by omega)
    have hne : ¬ (2 = e - q) := by omega
    rw [decide_eq_false hne, Bool.false_and]
    constructor
    · intro z
      have z2 : 256 * (256 * (256 * (0) + tb (q + 0)) + tb (q + 1)) + tb (q + 2) = 24948 := z
      omega
    · intro z; cases z
  · rw [h]
    have g0 := g 0 (by omega)
    have g1 := g 1 (by omega)
    have g2 := g 2 (by omega)
    have g3 := g 3 (by omega)
    have hne : ¬ (2 = e - q) := by omega
    rw [decide_eq_false hne, Bool.false_and]
    constructor
    · intro z
      have z2 : 256 * (256 * (256 * (256 * (0) + tb (q + 0)) + tb (q + 1)) + tb (q + 2)) + tb (q + 3) = 24948 := z
      omega
    · intro z; cases z
  · rw [h]
    have g0 := g 0 (by omega)
    have g1 := g 1 (by omega)
    have g2 := g 2 (by omega)
    have g3 := g 3 (by omega)
    have g4 := g 4 (by omega)
    have hne : ¬ (2 = e - q) := by omega
    rw [decide_eq_false hne, Bool.false_and]
    constructor
    · intro z
      have z2 : 256 * (256 * (256 * (256 * (256 * (0) + tb (q + 0)) + tb (q + 1)) + tb (q + 2)) + tb (q + 3)) + tb (q + 4) = 24948 := z
      omega
    · intro z; cases z
  · rw [h]
    have g0 := g 0 (by omega)
    have g1 := g 1 (by omega)
    have g2 := g 2 (by omega)
    have g3 := g 3 (by omega)
    have g4 := g 4 (by omega)
    have g5 := g 5 (by omega)
    have hne : ¬ (2 = e - q) := by omega
    rw [decide_eq_false hne, Bool.false_and]
    constructor
    · intro z
      have z2 : 256 * (256 * (256 * (256 * (256 * (256 * (0) + tb (q + 0)) + tb (q + 1)) + tb (q + 2)) + tb (q + 3)) + tb (q + 4)) + tb (q + 5) = 24948 := z
      omega
    · intro z; cases z
  · rw [h]
    have g0 := g 0 (by omega)
    have g1 := g 1 (by omega)
    have g2 := g 2 (by omega)
    have g3 := g 3 (by omega)
    have g4 := g 4 (by omega)
    have g5 := g 5 (by omega)
    have g6 := g 6 (by omega)
    have hne : ¬ (2 = e - q) := by omega
    rw [decide_eq_false hne, Bool.false_and]
    constructor
    · intro z
      have z2 : 256 * (256 * (256 * (256 * (256 * (256 * (256 * (0) + tb (q + 0)) + tb (q + 1)) + tb (q + 2)) + tb (q + 3)) + tb (q + 4)) + tb (q + 5)) + tb (q + 6) = 24948 := z
      omega
    · intro z; cases z
theorem wd_5 {tb : Nat → Nat} {q e : Nat} (hlet : ∀ j, q ≤ j → j < e → 97 ≤ tb j ∧ tb j ≤ 122) (hqe : q < e) : (hsh tb q (min 7 (e - q)) = 512852583788) ↔ wdM tb q e (wdB 5) = true := by
  have hW : wdM tb q e (wdB 5) = (decide (5 = e - q) && (((((true && decide (nI 119 = nI (tb (q + 0)))) && decide (nI 104 = nI (tb (q + 1)))) && decide (nI 101 = nI (tb (q + 2)))) && decide (nI 101 = nI (tb (q + 3)))) && decide (nI 108 = nI (tb (q + 4))))) := rfl
  have g : ∀ j, j < e - q → 97 ≤ tb (q + j) ∧ tb (q + j) ≤ 122 := fun j hj => hlet _ (by omega) (by omega)
  rw [hW]
  rcases (show min 7 (e - q) = 1 ∨ min 7 (e - q) = 2 ∨ min 7 (e - q) = 3 ∨ min 7 (e - q) = 4 ∨ min 7 (e - q) = 5 ∨ min 7 (e - q) = 6 ∨ min 7 (e - q) = 7 by omega) with h | h | h | h | h | h | h
  · rw [h]
    have g0 := g 0 (by omega)
    have hne : ¬ (5 = e - q) := by omega
    rw [decide_eq_false hne, Bool.false_and]
    constructor
    · intro z
      have z2 : 256 * (0) + tb (q + 0) = 512852583788 := z
      omega
    · intro z; cases z
  · rw [h]
    have g0 := g 0 (by omega)
    have g1 := g 1 (by omega)
    have hne : ¬ (5 = e - q) := by omega
    rw [decide_eq_false hne, Bool.false_and]
    constructor
    · intro z
      have z2 : 256 * (256 * (0) + tb (q + 0)) + tb (q + 1) = 512852583788 := z
      omega
    · intro z; cases z
  · rw [h]
    have g0 := g 0 (by omega)
    have g1 := g 1 (by omega)
    have g2 := g 2 (by omega)
    have hne : ¬ (5 = e - q) := by omega
    rw [decide_eq_false hne, Bool.false_and]
    constructor
    · intro z
      have z2 : 256 * (256 * (256 * (0) + tb (q + 0)) + tb (q + 1)) + tb (q + 2) = 512852583788 := z
      omega
    · intro z; cases z
  · rw [h]
    have g0 := g 0 (by omega)
    have g1 := g 1 (by omega)
    have g2 := g 2 (by omega)
    have g3 := g 3 (by omega)
    have hne : ¬ (5 = e - q) := by omega
    rw [decide_eq_false hne, Bool.false_and]
    constructor
    · intro z
      have z2 : 256 * (256 * (256 * (256 * (0) + tb (q + 0)) + tb (q + 1)) + tb (q + 2)) + tb (q + 3) = 512852583788 := z
      omega
    · intro z; cases z
  · rw [h]
    have g0 := g 0 (by omega)
    have g1 := g 1 (by omega)
    have g2 := g 2 (by omega)
    have g3 := g 3 (by omega)
    have g4 := g 4 (by omega)
    have he : 5 = e - q := by omega
    rw [decide_eq_true he, Bool.true_and]
    constructor
    · intro z
      have z2 : 256 * (256 * (256 * (256 * (256 * (0) + tb (q + 0)) + tb (q + 1)) + tb (q + 2)) + tb (q + 3)) + tb (q + 4) = 512852583788 := z
      have e0 : tb (q + 0) = 119 := by omega
      have e1 : tb (q + 1) = 104 := by omega
      have e2 : tb (q + 2) = 101 := by omega
      have e3 : tb (q + 3) = 101 := by omega
      have e4 : tb (q + 4) = 108 := by omega
      rw [e0, e1, e2, e3, e4]
      rfl
    · intro z
      simp only [Bool.and_eq_true, decide_eq_true_eq] at z
      obtain ⟨⟨⟨⟨⟨_, z0⟩, z1⟩, z2⟩, z3⟩, z4⟩ := z
      have y0 := (nI_eq (by omega) (by omega)).mp z0
      have y1 := (nI_eq (by omega) (by omega)).mp z1
      have y2 := (nI_eq (by omega) (by omega)).mp z2
      have y3 := (nI_eq (by omega) (by omega)).mp z3
      have y4 := (nI_eq (by omega) (by omega)).mp z4
      show 256 * (256 * (256 * (256 * (256 * (0) + tb (q + 0)) + tb (q + 1)) + tb (q + 2)) + tb (q + 3)) + tb (q + 4) = 512852583788
      omega
  · rw [h]
    have g0 := g 0 (by omega)
    have g1 := g 1 (by omega)
    have g2 := g 2 (by omega)
    have g3 := g 3 (by omega)
    have g4 := g 4 (by omega)
    have g5 := g 5 (by omega)
    have hne : ¬ (5 = e - q) := by omega
    rw [decide_eq_false hne, Bool.false_and]
    constructor
    · intro z
      have z2 : 256 * (256 * (256 * (256 * (256 * (256 * (0) + tb (q + 0)) + tb (q + 1)) + tb (q + 2)) + tb (q + 3)) + tb (q + 4)) + tb (q + 5) = 512852583788 := z
      omega
    · intro z; cases z
  · rw [h]
    have g0 := g 0 (by omega)
    have g1 := g 1 (by omega)
    have g2 := g 2 (by omega)
    have g3 := g 3 (by omega)
    have g4 := g 4 (by omega)
    have g5 := g 5 (by omega)
    have g6 := g 6 (by omega)
    have hne : ¬ (5 = e - q) := by omega
    rw [decide_eq_false hne, Bool.false_and]
    constructor
    · intro z
      have z2 : 256 * (256 * (256 * (256 * (256 * (256 * (256 * (0) + tb (q + 0)) + tb (q + 1)) + tb (q + 2)) + tb (q + 3)) + tb (q + 4)) + tb (q + 5)) + tb (q + 6) = 512852583788 := z
      omega
    · intro z; cases z
theorem named_0 (N : Nat) : fX5_named N (116 : Int32) (114 : Int32) (97 : Int32) (100 : Int32) (101 : Int32) (0 : Int32) = some (lN 500135191653) := rfl
theorem named_1 (N : Nat) : fX5_named N (112 : Int32) (101 : Int32) (114 : Int32) (115 : Int32) (111 : Int32) (110 : Int32) = some (lN 123581014175598) := rfl
theorem named_2 (N : Nat) : fX5_named N (115 : Int32) (107 : Int32) (105 : Int32) (108 : Int32) (108 : Int32) (0 : Int32) = some (lN 495723310188) := rfl
theorem named_3 (N : Nat) : fX5_named N (115 : Int32) (107 : Int32) (105 : Int32) (112 : Int32) (0 : Int32) (0 : Int32) = some (lN 1936419184) := rfl
theorem named_4 (N : Nat) : fX5_named N (97 : Int32) (116 : Int32) (0 : Int32) (0 : Int32) (0 : Int32) (0 : Int32) = some (lN 24948) := rfl
theorem named_5 (N : Nat) : fX5_named N (119 : Int32) (104 : Int32) (101 : Int32) (101 : Int32) (108 : Int32) (0 : Int32) = some (lN 512852583788) := rfl
theorem hsh_lt {tb : Nat → Nat} {q : Nat} : ∀ m, (∀ j, j < m → tb (q + j) < 256) → hsh tb q m < 256 ^ m
  | 0, _ => by show (0 : Nat) < 1; omega
  | m + 1, h => by
    have h1 := hsh_lt m (fun j hj => h j (by omega))
    have h2 := h m (by omega)
    show 256 * hsh tb q m + tb (q + m) < 256 ^ (m + 1)
    rw [Nat.pow_succ]
    omega
theorem lgc {a b : Nat} (ha : a < 4611686018427387904) (hb : b < 4611686018427387904) : (lg_cmp (lN a) (lN b) = 0) = (a = b) := by
  apply propext
  unfold lg_cmp
  constructor
  · intro h
    by_cases e : lN a = lN b
    · have h1 : (lN a).toInt = (a : Int) := lg_ofNat_toInt (by omega)
      have h2 : (lN b).toInt = (b : Int) := lg_ofNat_toInt (by omega)
      rw [e] at h1
      omega
    · by_cases g : lN a > lN b
      · rw [if_pos g] at h
        exact absurd h (by decide)
      · rw [if_neg g, if_neg e] at h
        exact absurd h (by decide)
  · intro h
    subst h
    rw [if_neg (Int64.lt_irrefl), if_pos rfl]
theorem wordM_s {N h : Nat} (hh : h < 4611686018427387904) : fX5_wordOf N (lN h) = some (if h = 500135191653 then nI 0 else if h = 123581014175598 then nI 1 else if h = 495723310188 then nI 2 else if h = 1936419184 then nI 3 else if h = 24948 then nI 4 else if h = 512852583788 then nI 5 else m9) := by
  unfold fX5_wordOf
  rw [named_0, named_1, named_2, named_3, named_4, named_5]
  simp only [b1_s]
  rw [ic (lgc hh (by decide))]
  by_cases h0 : h = 500135191653
  · rw [if_pos h0, if_pos h0]; rfl
  · rw [if_neg h0, if_neg h0, ic (lgc hh (by decide))]
    by_cases h1 : h = 123581014175598
    · rw [if_pos h1, if_pos h1]; rfl
    · rw [if_neg h1, if_neg h1, ic (lgc hh (by decide))]
      by_cases h2 : h = 495723310188
      · rw [if_pos h2, if_pos h2]; rfl
      · rw [if_neg h2, if_neg h2, if_true, ic (lgc hh (by decide))]
        by_cases h3 : h = 1936419184
        · rw [if_pos h3, if_pos h3]; rfl
        · rw [if_neg h3, if_neg h3, ic (lgc hh (by decide))]
          by_cases h4 : h = 24948
          · rw [if_pos h4, if_pos h4]; rfl
          · rw [if_neg h4, if_neg h4, ic (lgc hh (by decide))]
            by_cases h5 : h = 512852583788
            · rw [if_pos h5, if_pos h5]; rfl
            · rw [if_neg h5, if_neg h5]; rfl
theorem i2l_s {c : Nat} (h : c < 2147483648) : (nI c).toInt64 = lN c := by
  apply Int64.toInt_inj.mp
  rw [Int32.toInt_toInt64, nI_toInt (by omega)]
  exact (lg_ofNat_toInt (by omega)).symm
theorem inM_s (N : Nat) {b lo hi : Nat} (hb : b < 2147483648) (hlo : lo < 2147483648) (hhi : hi < 2147483648) : fX5_in N (nI b) (nI lo) (nI hi) = some (nI (if (decide (lo ≤ b) && decide (b ≤ hi)) = true then 1 else 0)) := by
  rw [in_e]
  unfold fX4_within
  rw [ic (slt (by omega) (by omega)), ic (slt (by omega) (by omega))]
  by_cases h1 : b < lo
  · rw [if_pos h1, decide_eq_false (by omega)]; rfl
  · rw [if_neg h1, decide_eq_true (show lo ≤ b by omega)]
    by_cases h2 : hi < b
    · rw [if_pos h2, decide_eq_false (by omega)]; rfl
    · rw [if_neg h2, decide_eq_true (show b ≤ hi by omega)]; rfl
theorem inN_s (N : Nat) {x : Int32} {lo : Nat} {hi : Int32} (hx : x < 0) (hlo : lo < 2147483648) : fX4_within N x (nI lo) hi = some (nI 0) := by
  unfold fX4_within
  rw [if_pos (show x < nI lo by
    rw [Int32.lt_iff_toInt_lt] at hx ⊢
    rw [nI_toInt (by omega)]
    have : (0 : Int32).toInt = 0 := rfl
    omega)]
  rfl
def vnN (tb : Nat → Nat) (q : Nat) : Nat → Nat
  | 0 => 0
  | j + 1 => if vnN tb q j ≤ 99 then 10 * vnN tb q j + (tb (q + j) - 48) else vnN tb q j
theorem vnN_le {tb : Nat → Nat} {q : Nat} : ∀ m, (∀ j, j < m → 48 ≤ tb (q + j) ∧ tb (q + j) ≤ 57) → vnN tb q m ≤ 999
  | 0, _ => by show (0 : Nat) ≤ 999; omega
  | m + 1, h => by
    have h1 := vnN_le m (fun j hj => h j (by omega))
    have h2 := h m (by omega)
    show (if vnN tb q m ≤ 99 then 10 * vnN tb q m + (tb (q + m) - 48) else vnN tb q m) ≤ 999
    split <;> omega
theorem vnN_big {tb : Nat → Nat} {q : Nat} {k : Nat} (hk : 99 < vnN tb q k) : ∀ m, k ≤ m → 99 < vnN tb q m
  | 0, h => by have : k = 0 := by omega
               subst this; exact hk
  | m + 1, h => by
    by_cases e : k = m + 1
    · subst e; exact hk
    · have h1 := vnN_big hk m (by omega)
      show 99 < (if vnN tb q m ≤ 99 then 10 * vnN tb q m + (tb (q + m) - 48) else vnN tb q m)
      rw [if_neg (by omega)]
      exact h1
section
variable {N n : Nat} {tb : Nat → Nat} {signs text : Nat → Int32}
theorem byteAt_s (bx : BX n tb signs text) {k : Nat} (hk : k ≤ n) : fX5_byteAt N (nI n) text (nI k) = some (if k < n then nI (tb k) else -1) := by
  have h4 := bx.1
  unfold fX5_byteAt
  rw [ic (sle (by omega) (by omega))]
  by_cases h : k < n
  · rw [if_neg (by omega), if_pos h, sgd (by omega) (by decide), sclamp (by omega), (bx.2 k h).2.2]
  · rw [if_pos (by omega), if_neg h]
theorem adv0_s (bx : BX n tb signs text) : ∀ (d p f : Nat), n - p = d → p ≤ n → d < f → fX5_advances_0 N (nI n) text f (nI p) = some (nI (run (spc tb) n p)) := by
  have h4 := bx.1
  intro d
  induction d with
  | zero =>
    intro p f h hp hf
    obtain ⟨f, rfl⟩ : ∃ z, f = z + 1 := ⟨f - 1, by omega⟩
    rw [fX5_advances_0_s, byteAt_s bx hp, if_neg (by omega), b1_s, if_neg (by decide), run_end (by omega)]
  | succ d ih =>
    intro p f h hp hf
    obtain ⟨f, rfl⟩ : ∃ z, f = z + 1 := ⟨f - 1, by omega⟩
    have h1 := (bx.2 p (by omega)).1
    rw [fX5_advances_0_s, byteAt_s bx hp, if_pos (by omega), b1_s, c32, ic (seq (by omega) (by omega))]
    by_cases hs : tb p = 32
    · rw [if_pos hs, c1, nI_add, run_yes (by omega) (show spc tb p = true from decide_eq_true hs)]
      exact ih (p + 1) f (by omega) (by omega) (by omega)
    · rw [if_neg hs, run_no (show spc tb p = false from decide_eq_false hs)]
theorem inL_s (N : Nat) {b : Nat} (hb : b < 256) : fX5_in N (nI b) (97 : Int32) (122 : Int32) = some (nI (if ltr b = true then 1 else 0)) := inM_s N (lo := 97) (hi := 122) (by omega) (by decide) (by decide)
theorem inF_s (N : Nat) {b : Nat} (hb : b < 256) : fX5_in N (nI b) (48 : Int32) (57 : Int32) = some (nI (if fgr b = true then 1 else 0)) := inM_s N (lo := 48) (hi := 57) (by omega) (by decide) (by decide)
theorem adv68_s (bx : BX n tb signs text) {q : Nat} : ∀ (d p f : Nat), n - p = d → q ≤ p → p ≤ n → d < f → fX5_advances_68 N (nI n) (nI q) text f (nI p) (lN (hsh tb q (min 7 (p - q)))) = some (nI (run (fun j => ltr (tb j)) n p), lN (hsh tb q (min 7 (run (fun j => ltr (tb j)) n p - q)))) := by
  have h4 := bx.1
  intro d
  induction d with
  | zero =>
    intro p f h hq hp hf
    obtain ⟨f, rfl⟩ : ∃ z, f = z + 1 := ⟨f - 1, by omega⟩
    rw [fX5_advances_68_s, byteAt_s bx hp, if_neg (by omega), b1_s, show fX5_in N (-1 : Int32) (97 : Int32) (122 : Int32) = some (nI 0) from inN_s N (lo := 97) (by decide) (by decide), b1_s, if00, run_end (by omega)]
  | succ d ih =>
    intro p f h hq hp hf
    obtain ⟨f, rfl⟩ : ∃ z, f = z + 1 := ⟨f - 1, by omega⟩
    have h1 := (bx.2 p (by omega)).1
    rw [fX5_advances_68_s, byteAt_s bx hp, if_pos (by omega), b1_s, b1_s, inL_s N h1, b1_s, ssub hq, show (7 : Int32) = nI 7 from rfl, ic (sle (by decide) (by omega))]
    cases hb : ltr (tb p) with
    | true =>
      have hb' := ltr_t.mp hb
      have ih' := ih (p + 1) f (by omega) (by omega) (by omega) (by omega)
      rw [if_neg (show ¬ nI (if true = true then 1 else 0) = (0 : Int32) by decide), run_yes (c := fun j => ltr (tb j)) (p := p) (by omega) hb, c1, nI_add]
      by_cases h7 : 7 ≤ p - q
      · rw [if_pos h7, show min 7 (p - q) = min 7 (p + 1 - q) by omega]
        exact ih'
      · rw [if_neg h7]
        unfold fX5_add
        rw [if_neg (show ¬ nI (tb p) = (0 : Int32) by rw [c0, seq (by omega) (by decide)]; omega), b1_s, i2l_s (by omega), show (256 : Int64) = lN 256 from rfl, lN_mul, lN_add]
        have e : 256 * hsh tb q (min 7 (p - q)) + tb p = hsh tb q (min 7 (p + 1 - q)) := by
          rw [show min 7 (p + 1 - q) = (p - q) + 1 by omega, show min 7 (p - q) = p - q by omega]
          show _ = 256 * hsh tb q (p - q) + tb (q + (p - q))
          rw [show q + (p - q) = p by omega]
        rw [e]
        exact ih'
    | false => rw [if_pos (show nI (if false = true then 1 else 0) = (0 : Int32) from rfl), run_no (c := fun j => ltr (tb j)) (p := p) hb]
theorem adv175_s (bx : BX n tb signs text) {q : Nat} : ∀ (d p f : Nat), n - p = d → q ≤ p → p ≤ n → d < f → (∀ j, j < p - q → 48 ≤ tb (q + j) ∧ tb (q + j) ≤ 57) → fX5_advances_175 N (nI n) text f (nI p) (nI (vnN tb q (p - q))) = some (nI (run (fun j => fgr (tb j)) n p), nI (vnN tb q (run (fun j => fgr (tb j)) n p - q))) := by
  have h4 := bx.1
  intro d
  induction d with
  | zero =>
    intro p f h hq hp hf _
    obtain ⟨f, rfl⟩ : ∃ z, f = z + 1 := ⟨f - 1, by omega⟩
    rw [fX5_advances_175_s, byteAt_s bx hp, if_neg (by omega), b1_s, show fX5_in N (-1 : Int32) (48 : Int32) (57 : Int32) = some (nI 0) from inN_s N (lo := 48) (by decide) (by decide), b1_s, if00, run_end (by omega)]
  | succ d ih =>
    intro p f h hq hp hf hfg
    obtain ⟨f, rfl⟩ : ∃ z, f = z + 1 := ⟨f - 1, by omega⟩
    have h1 := (bx.2 p (by omega)).1
    have hv := vnN_le (tb := tb) (q := q) (p - q) hfg
    rw [fX5_advances_175_s, byteAt_s bx hp, if_pos (by omega), b1_s, b1_s, inF_s N h1, b1_s, show (99 : Int32) = nI 99 from rfl, ic (sle (by omega) (by decide))]
    cases hb : fgr (tb p) with
    | true =>
      have hb' := fgr_t.mp hb
      have ih' := ih (p + 1) f (by omega) (by omega) (by omega) (by omega) (fun j hj => by
        by_cases e : j = p - q
        · rw [e, show q + (p - q) = p by omega]; exact hb'
        · exact hfg j (by omega))
      have e2 : vnN tb q (p + 1 - q) = if vnN tb q (p - q) ≤ 99 then 10 * vnN tb q (p - q) + (tb p - 48) else vnN tb q (p - q) := by
        rw [show p + 1 - q = (p - q) + 1 by omega]
        show (if vnN tb q (p - q) ≤ 99 then 10 * vnN tb q (p - q) + (tb (q + (p - q)) - 48) else vnN tb q (p - q)) = _
        rw [show q + (p - q) = p by omega]
      rw [if_neg (show ¬ nI (if true = true then 1 else 0) = (0 : Int32) by decide), run_yes (c := fun j => fgr (tb j)) (p := p) (by omega) hb, c1, nI_add]
      by_cases h9 : vnN tb q (p - q) ≤ 99
      · rw [if_pos h9] at e2
        rw [if_pos h9, c10, pk_mul, nI_add, show (48 : Int32) = nI 48 from rfl, ssub (by omega), show 10 * vnN tb q (p - q) + tb p - 48 = vnN tb q (p + 1 - q) by omega]
        exact ih'
      · rw [if_neg h9] at e2
        rw [if_neg h9, ← e2]
        exact ih'
    | false => rw [if_pos (show nI (if false = true then 1 else 0) = (0 : Int32) from rfl), run_no (c := fun j => fgr (tb j)) (p := p) hb]
/-- after a token: what the reference holds -/
def MU (n : Nat) (tb : Nat → Nat) (i : Nat) (next token place value : Int32) : Prop := next = nI (psT n tb (i + 1)) ∧ token = nI (tkp n tb (stT n tb i)).1 ∧ place = nI (stT n tb i) ∧ (((tkp n tb (stT n tb i)).1 = 1 ∨ (tkp n tb (stT n tb i)).1 = 2) → value = nI (tkp n tb (stT n tb i)).2)
theorem adv_s (hN : 402 ≤ N) (bx : BX n tb signs text) (i : Nat) (token place value : Int32) : ∃ a b c v, fX5_advances N (nI n) (nI (psT n tb i)) token place value text = some (a, b, c, v) ∧ MU n tb i a b c v := by
  have h4 := bx.1
  have hp := psT_le (n := n) (tb := tb) i
  have hst := stT_le (n := n) (tb := tb) i
  have hps : psT n tb (i + 1) = if stT n tb i < n then enT n tb (stT n tb i) else n := rfl
  unfold fX5_advances MU
  rw [adv0_s bx _ _ N rfl hp (by omega), b1_s]
  rw [show run (spc tb) n (psT n tb i) = stT n tb i from rfl]
  rw [byteAt_s bx hst, b1_s, hps]
  generalize hq' : stT n tb i = q at *
  by_cases hq : q < n
  · have h1 := (bx.2 q hq).1
    rw [if_pos hq, if_pos hq, if_pos (show (0 : Int32) ≤ nI (tb q) by rw [c0, sle (by decide) (by omega)]; omega), inL_s N h1, inF_s N h1, b1_s, b1_s]
    have hb := enT_b (tb := tb) hq
    cases hl : ltr (tb q) with
    | true =>
      rw [if_neg (show ¬ nI (if true = true then 1 else 0) = (0 : Int32) by decide)]
      have k1 := adv68_s (N := N) bx (q := q) _ q N rfl (Nat.le_refl _) (by omega) (by omega)
      have e0 : lN (hsh tb q (min 7 (q - q))) = (0 : Int64) := by rw [Nat.sub_self]; rfl
      rw [e0] at k1
      have k1' := k1
      have er : run (fun j => ltr (tb j)) n q = enT n tb q := by
        rw [run_yes (c := fun j => ltr (tb j)) (p := q) hq hl]
        unfold enT
        rw [if_pos hl]
      rw [er] at k1'
      have hlet : ∀ j, q ≤ j → j < enT n tb q → 97 ≤ tb j ∧ tb j ≤ 122 := fun j j1 j2 => by
        rw [← er] at j2
        exact ltr_t.mp ((run_p (c := fun j => ltr (tb j)) (n := n) _ q rfl).2.2 j j1 j2)
      have hlt := hsh_lt (tb := tb) (q := q) (min 7 (enT n tb q - q)) (fun j hj => by have := hlet (q + j) (by omega) (by omega); omega)
      have hlt2 : hsh tb q (min 7 (enT n tb q - q)) < 4611686018427387904 := by
        have : 256 ^ (min 7 (enT n tb q - q)) ≤ 256 ^ 7 := Nat.pow_le_pow_right (by omega) (by omega)
        omega
      have tk : tkp n tb q = wdx tb q (enT n tb q) := by
        unfold tkp
        rw [if_neg (by omega), if_pos hl]
      rw [k1', b2_s, wordM_s hlt2, b1_s, tk]
      have w0 := wd_0 hlet (by omega)
      have w1 := wd_1 hlet (by omega)
      have w2 := wd_2 hlet (by omega)
      have w3 := wd_3 hlet (by omega)
      have w4 := wd_4 hlet (by omega)
      have w5 := wd_5 hlet (by omega)
      unfold wdx
      generalize hsh tb q (min 7 (enT n tb q - q)) = H at *
      by_cases x0 : H = 500135191653
      · rw [if_pos x0, if_pos (w0.mp x0)]; exact ⟨_, _, _, _, rfl, rfl, rfl, rfl, fun _ => rfl⟩
      · rw [if_neg x0, if_neg (fun z => x0 (w0.mpr z))]
        by_cases x1 : H = 123581014175598
        · rw [if_pos x1, if_pos (w1.mp x1)]; exact ⟨_, _, _, _, rfl, rfl, rfl, rfl, fun _ => rfl⟩
        · rw [if_neg x1, if_neg (fun z => x1 (w1.mpr z))]
          by_cases x2 : H = 495723310188
          · rw [if_pos x2, if_pos (w2.mp x2)]; exact ⟨_, _, _, _, rfl, rfl, rfl, rfl, fun _ => rfl⟩
          · rw [if_neg x2, if_neg (fun z => x2 (w2.mpr z))]
            by_cases x3 : H = 1936419184
            · rw [if_pos x3, if_pos (w3.mp x3)]; exact ⟨_, _, _, _, rfl, rfl, rfl, rfl, fun _ => rfl⟩
            · rw [if_neg x3, if_neg (fun z => x3 (w3.mpr z))]
              by_cases x4 : H = 24948
              · rw [if_pos x4, if_pos (w4.mp x4)]; exact ⟨_, _, _, _, rfl, rfl, rfl, rfl, fun _ => rfl⟩
              · rw [if_neg x4, if_neg (fun z => x4 (w4.mpr z))]
                by_cases x5 : H = 512852583788
                · rw [if_pos x5, if_pos (w5.mp x5)]; exact ⟨_, _, _, _, rfl, rfl, rfl, rfl, fun _ => rfl⟩
                · rw [if_neg x5, if_neg (fun z => x5 (w5.mpr z))]; exact ⟨_, _, _, _, rfl, rfl, rfl, rfl, fun z => by rcases z with z | z <;> cases z⟩
    | false =>
      rw [if_pos (show nI (if false = true then 1 else 0) = (0 : Int32) from rfl)]
      cases hf : fgr (tb q) with
      | true =>
        rw [if_neg (show ¬ nI (if true = true then 1 else 0) = (0 : Int32) by decide)]
        have hf' := fgr_t.mp hf
        have k1 := adv175_s (N := N) bx (q := q) _ q N rfl (Nat.le_refl _) (by omega) (by omega) (fun j hj => by omega)
        have e0 : nI (vnN tb q (q - q)) = (0 : Int32) := by rw [Nat.sub_self]; rfl
        rw [e0] at k1
        have k1' := k1
        have er : run (fun j => fgr (tb j)) n q = enT n tb q := by
          rw [run_yes (c := fun j => fgr (tb j)) (p := q) hq hf]
          unfold enT
          rw [if_neg (by rw [hl]; decide), if_pos hf]
        rw [er] at k1'
        have hfg : ∀ j, q ≤ j → j < enT n tb q → 48 ≤ tb j ∧ tb j ≤ 57 := fun j j1 j2 => by
          rw [← er] at j2
          exact fgr_t.mp ((run_p (c := fun j => fgr (tb j)) (n := n) _ q rfl).2.2 j j1 j2)
        have hv := vnN_le (tb := tb) (q := q) (enT n tb q - q) (fun j hj => hfg (q + j) (by omega) (by omega))
        have tk : tkp n tb q = nmx tb q (enT n tb q) := by
          unfold tkp
          rw [if_neg (by omega), if_neg (by rw [hl]; decide), if_pos hf]
        rw [k1', b2_s, tk, show (99 : Int32) = nI 99 from rfl, ic (slt (by decide) (by omega)), show (48 : Int32) = nI 48 from rfl, ic (seq (by omega) (by decide)), ssub (by omega), c1, ic (sle (by omega) (by decide))]
        have v1 : vnN tb q 1 = tb q - 48 := by
          show (if (0 : Nat) ≤ 99 then 10 * 0 + (tb (q + 0) - 48) else 0) = _
          rw [if_pos (by omega), Nat.add_zero]
          omega
        have v2 : vnN tb q 2 = 10 * (tb q - 48) + (tb (q + 1) - 48) := by
          show (if vnN tb q 1 ≤ 99 then 10 * vnN tb q 1 + (tb (q + 1) - 48) else vnN tb q 1) = _
          rw [v1, if_pos (by omega)]
        unfold nmx
        by_cases e1 : enT n tb q - q = 1
        · rw [e1, v1, if_pos rfl, if_neg (by omega)]
          by_cases e3 : tb q = 48
          · rw [if_pos e3, if_pos (by omega)]; exact ⟨_, _, _, _, rfl, rfl, rfl, rfl, fun _ => rfl⟩
          · rw [if_neg e3]; exact ⟨_, _, _, _, rfl, rfl, rfl, rfl, fun _ => rfl⟩
        · rw [if_neg e1]
          by_cases e2 : enT n tb q - q = 2
          · have hq1 := hfg (q + 1) (by omega) (by omega)
            rw [e2, v2, if_neg (by omega)]
            by_cases e3 : tb q = 48
            · rw [if_pos e3, if_neg (by omega), if_neg (fun z => z.2 e3)]; exact ⟨_, _, _, _, rfl, rfl, rfl, rfl, fun z => by rcases z with z | z <;> cases z⟩
            · rw [if_neg e3, if_pos ⟨rfl, e3⟩]; exact ⟨_, _, _, _, rfl, rfl, rfl, rfl, fun _ => rfl⟩
          · rw [if_neg (show ¬ (enT n tb q - q = 2 ∧ tb q ≠ 48) from fun z => e2 z.1)]
            by_cases h99 : 99 < vnN tb q (enT n tb q - q)
            · rw [if_pos h99]; exact ⟨_, _, _, _, rfl, rfl, rfl, rfl, fun z => by rcases z with z | z <;> cases z⟩
            · rw [if_neg h99]
              by_cases e3 : tb q = 48
              · rw [if_pos e3, if_neg (by omega)]; exact ⟨_, _, _, _, rfl, rfl, rfl, rfl, fun z => by rcases z with z | z <;> cases z⟩
              · exfalso
                have q1 := hfg (q + 1) (by omega) (by omega)
                have q2 := hfg (q + 2) (by omega) (by omega)
                have v3 : vnN tb q 3 = 10 * vnN tb q 2 + (tb (q + 2) - 48) := by
                  show (if vnN tb q 2 ≤ 99 then 10 * vnN tb q 2 + (tb (q + 2) - 48) else vnN tb q 2) = _
                  rw [v2, if_pos (by omega)]
                exact h99 (vnN_big (k := 3) (by omega) _ (by omega))
      | false =>
        rw [if_pos (show nI (if false = true then 1 else 0) = (0 : Int32) from rfl), show (59 : Int32) = nI 59 from rfl, ic (seq (by omega) (by decide)), c1, nI_add]
        have ee : enT n tb q = q + 1 := by
          unfold enT
          rw [if_neg (by rw [hl]; decide), if_neg (by rw [hf]; decide)]
        have tk : tkp n tb q = if tb q = 59 then (3, 0) else (4, 0) := by
          unfold tkp
          rw [if_neg (by omega), if_neg (by rw [hl]; decide), if_neg (by rw [hf]; decide)]
        rw [ee, tk]
        by_cases h : tb q = 59
        · rw [if_pos h, if_pos h]; exact ⟨_, _, _, _, rfl, rfl, rfl, rfl, fun z => by rcases z with z | z <;> cases z⟩
        · rw [if_neg h, if_neg h]; exact ⟨_, _, _, _, rfl, rfl, rfl, rfl, fun z => by rcases z with z | z <;> cases z⟩
  · have e : q = n := by omega
    have tk : tkp n tb q = (0, 0) := by
      unfold tkp
      rw [if_pos (by omega)]
    rw [if_neg hq, if_neg hq, if_neg (show ¬ (0 : Int32) ≤ -1 by decide), tk]
    exact ⟨_, _, _, _, rfl, by rw [e], rfl, rfl, fun z => by rcases z with z | z <;> cases z⟩
end
