/-! call by call: counts, images, the text's bytes -/
def im (hp : Nat → Nat) : Nat → Nat → Bool
  | 0, _ => false
  | n + 1, p => im hp n p || decide (hp n = p + 1)
theorem im_f {hp : Nat → Nat} {p : Nat} : ∀ n, im hp n p = true ↔ ∃ q, q < n ∧ hp q = p + 1
  | 0 => by simp [im]
  | n + 1 => by
    unfold im
    rw [Bool.or_eq_true, im_f n, decide_eq_true_eq]
    constructor
    · rintro (⟨q, h1, h2⟩ | h)
      · exact ⟨q, by omega, h2⟩
      · exact ⟨n, by omega, h⟩
    · rintro ⟨q, h1, h2⟩
      by_cases e : q = n
      · subst e; exact Or.inr h2
      · exact Or.inl ⟨q, by omega, h2⟩
theorem cnt_or {c : Nat → Bool} {p0 : Nat} (h0 : c p0 = false) : ∀ n, cnt (fun p => c p || decide (p0 = p)) n = cnt c n + (if p0 < n then 1 else 0)
  | 0 => rfl
  | n + 1 => by
    unfold cnt
    rw [cnt_or h0 n]
    by_cases e : p0 = n
    · subst e
      rw [h0, if_neg (Nat.lt_irrefl p0), if_pos (Nat.lt_succ_self p0)]
      simp
    · simp only [decide_eq_false e, Bool.or_false]
      by_cases h : p0 < n
      · rw [if_pos h, if_pos (by omega)]; omega
      · rw [if_neg h, if_neg (by omega)]
theorem cnt_im {hp : Nat → Nat} {P : Nat} (hin : ∀ q r, q < 6 → r < 6 → hp q = hp r → hp q ≠ 0 → q = r) (hle : ∀ q, q < 6 → hp q ≤ P) : ∀ n, n ≤ 6 → cnt (fun q => decide (hp q ≠ 0)) n = cnt (im hp n) P
  | 0, _ => by
    have : ∀ m, cnt (im hp 0) m = 0 := by
      intro m
      induction m with
      | zero => rfl
      | succ m ih => unfold cnt; rw [ih]; rfl
    rw [this]
    rfl
  | n + 1, hn => by
    have ih := cnt_im hin hle n (by omega)
    show cnt (fun q => decide (hp q ≠ 0)) n + (if decide (hp n ≠ 0) = true then 1 else 0) = _
    rw [ih]
    by_cases h0 : hp n = 0
    · rw [if_neg (by simp [h0]), Nat.add_zero]
      refine cnt_ext P (fun p _ => ?_)
      show im hp n p = (im hp n p || decide (hp n = p + 1))
      rw [decide_eq_false (by omega), Bool.or_false]
    · rw [if_pos (by simp [h0])]
      have hl := hle n (by omega)
      have hf : im hp n (hp n - 1) = false := by
        cases hb : im hp n (hp n - 1) with
        | false => rfl
        | true =>
          obtain ⟨q, h1, h2⟩ := (im_f n).mp hb
          have := hin n q (by omega) (by omega) (by omega) h0
          omega
      have e := cnt_or (c := im hp n) (p0 := hp n - 1) hf P
      rw [if_pos (by omega)] at e
      rw [← e]
      refine cnt_ext P (fun p _ => ?_)
      show (im hp n p || decide (hp n - 1 = p)) = (im hp n p || decide (hp n = p + 1))
      congr 1
      rw [Bool.eq_iff_iff, decide_eq_true_eq, decide_eq_true_eq]
      omega
section
variable {N : Nat} {t : TS} {w : WS} {trades people fade winter fall round fell ills mtrades mpeople thrown typed len : Int32} {needs yields skips skills places stores lacked helpers favours wheel works need made mskips tunes s makes mworks : Nat → Int32}
theorem helpsTold_s (hN : 7 ≤ N) (hw : wOK t w) (ht : tOK t) (rc : RC t w round fell ills skills places stores lacked helpers favours wheel) : fX3_helpsTold N helpers = some (nI (cnt (fun q => decide (wHp w q ≠ 0)) 6)) := by
  have hP : tP t ≤ 6 := ht.2.1
  have d8 := rc.2.2.2.2.2.2.2.1
  have key := lpN (fun n (z : Int32 × Int32) => fX3_helpsTold_4 N helpers n z.1 z.2) (fun k => (nI (cnt (fun q => decide (wHp w q ≠ 0)) k), nI k)) 6 _
    (fun n q hq => by
      show fX3_helpsTold_4 N helpers (n + 1) _ (nI q) = fX3_helpsTold_4 N helpers n (nI (cnt (fun q => decide (wHp w q ≠ 0)) q + (if decide (wHp w q ≠ 0) = true then 1 else 0))) (nI (q + 1))
      dsimp only
      have h7 := hw.2.2.2.2.2.2.1 q hq
      rw [fX3_helpsTold_4_s, c6, ic (sle (by omega) (by omega)), if_neg (by omega), sgd (by omega) (by decide), sclamp (by omega), d8 q hq, m9e, c1, nI_add, nI_add]
      by_cases h0 : wHp w q = 0
      · rw [if_pos h0, if_pos rfl, if_neg (by simp [h0])]; rfl
      · rw [if_neg h0, ic (seqm (by omega)), if_neg id, if_pos (by simp [h0])])
    (fun n => by
      show fX3_helpsTold_4 N helpers (n + 1) _ (nI 6) = _
      dsimp only
      rw [fX3_helpsTold_4_s, c6, ic (sle (by omega) (by omega)), if_pos (Nat.le_refl _)])
    6 0 (by omega) N (by omega)
  unfold fX3_helpsTold
  rw [c0]
  have key' : fX3_helpsTold_4 N helpers N (nI 0) (nI 0) = _ := key
  rw [key', b2_s]
theorem q_count (hN : 7 ≤ N) (ht : tOK t) (hw : wOK t w) (rt : RT t trades people needs yields skips) (rc : RC t w round fell ills skills places stores lacked helpers favours wheel) (rn : RN t mtrades mpeople need made mskips tunes) (rm : RM t w s) (hl : len = typed) (i1 : Int32) :
    ∃ r, fX4_count N len ills helpers trades people i1 = some r ∧ fX5_count N thrown typed mtrades mpeople s i1 = some (r, 0) := by
  have hP : tP t ≤ 6 := ht.2.1
  have hT : tT t ≤ 6 := ht.1
  have e8 := rm.2.2.2.2.2.2.2.1
  have key := lpN (fun n (z : Int32 × Int32 × Int32) => fX5_count_12 N mpeople s n z.1 z.2.1 z.2.2) (fun k => (nI (cnt (im (wHp w) 6) k), nI (cnt (fun p => Nat.testBit (wIl w) p) k), nI k)) (tP t) _
    (fun n p hp => by
      show fX5_count_12 N mpeople s (n + 1) _ _ (nI p) = fX5_count_12 N mpeople s n (nI (cnt (im (wHp w) 6) p + (if im (wHp w) 6 p = true then 1 else 0))) (nI (cnt (fun p => Nat.testBit (wIl w) p) p + (if Nat.testBit (wIl w) p = true then 1 else 0))) (nI (p + 1))
      dsimp only
      rw [fX5_count_12_s, rn.2.1, ic (sle (by omega) (by omega)), if_neg (by omega), ← rn.2.1, c26, nI_add, sgd (by omega) (by decide), sclamp (by omega), isIllM_s e8 hw.2.1 (by omega), b1_s, b1_s, m9e, c1, c0, nI_add, nI_add, nI_add, nI_add, nI_add]
      rcases helps_at ht hw rm hp with ⟨h1, h2⟩ | ⟨q, hq, h1, h2, h3⟩
      · have hf : im (wHp w) 6 p = false := by
          cases hb : im (wHp w) 6 p with
          | false => rfl
          | true => obtain ⟨q, h3, h4⟩ := (im_f 6).mp hb; exact absurd h4 (h2 q h3)
        rw [if_pos h1, hf]
        cases Nat.testBit (wIl w) p <;> rfl
      · have hf : im (wHp w) 6 p = true := (im_f 6).mpr ⟨q, by omega, h2⟩
        rw [h1, ic (seqm (by omega)), if_neg id, hf]
        cases Nat.testBit (wIl w) p <;> rfl)
    (fun n => by
      show fX5_count_12 N mpeople s (n + 1) _ _ (nI (tP t)) = _
      dsimp only
      rw [fX5_count_12_s, rn.2.1, ic (sle (by omega) (by omega)), if_pos (Nat.le_refl _)])
    (tP t) 0 (by omega) N (by omega)
  have key' : fX5_count_12 N mpeople s N (nI 0) (nI 0) (nI 0) = _ := key
  have c1' := cnt_im (P := tP t) (hw.2.2.2.2.2.2.2.1) (fun q hq => (hw.2.2.2.2.2.2.1 q hq).1) 6 (Nat.le_refl _)
  have c2' : cnt (fun p => Nat.testBit (wIl w) p) 6 = cnt (fun p => Nat.testBit (wIl w) p) (tP t) := cnt_more 6 hP (fun k h1 _ => hw.2.2.1 k h1)
  have c3' : (if Nat.testBit (wIl w) 0 then 1 else 0) + (if Nat.testBit (wIl w) 1 then 1 else 0) + (if Nat.testBit (wIl w) 2 then 1 else 0) + (if Nat.testBit (wIl w) 3 then 1 else 0) + (if Nat.testBit (wIl w) 4 then 1 else 0) + (if Nat.testBit (wIl w) 5 then 1 else 0) = cnt (fun p => Nat.testBit (wIl w) p) 6 := by
    simp [cnt]
  unfold fX4_count fX5_count
  rw [helpsTold_s hN hw ht rc, rc.2.2.1, bits6 ⟨wIl w, hw.2.1⟩ N, c0, key', b3_s, b1_s, b1_s, c3', c1', c2', rt.1, rt.2.1, rn.1, rn.2.1, hl]
  by_cases h0 : i1 = nI 0
  · rw [if_pos h0, if_pos h0]; exact ⟨_, rfl, rfl⟩
  · rw [if_neg h0, if_neg h0]
    by_cases h1 : i1 = 1
    · rw [if_pos h1, if_pos h1]; exact ⟨_, rfl, rfl⟩
    · rw [if_neg h1, if_neg h1]
      by_cases h2 : i1 = 2
      · rw [if_pos h2, if_pos h2]; exact ⟨_, rfl, rfl⟩
      · rw [if_neg h2, if_neg h2]
        by_cases h3 : i1 = 3
        · rw [if_pos h3, if_pos h3]; exact ⟨_, rfl, rfl⟩
        · rw [if_neg h3, if_neg h3]
          by_cases h4 : i1 = 4
          · rw [if_pos h4, if_pos h4]; exact ⟨_, rfl, rfl⟩
          · rw [if_neg h4, if_neg h4]; exact ⟨_, rfl, rfl⟩
end
