/-! what a round is, over natural numbers -/
def bh (T k : Nat) : Nat := if k + 1 < T then k + 1 else 0
/-- the place whose trade one works at: from k on, at most so many looked at -/
def wpl (T m : Nat) (wh : Nat → Nat) : Nat → Nat → Option Nat
  | 0, _ => none
  | i + 1, k => if Nat.testBit m (wh k) then wpl T m wh i (bh T k) else some k
theorem bh_lt {T k : Nat} (h : 0 < T) : bh T k < T := by
  unfold bh
  split <;> omega
theorem wpl_lt {T m : Nat} {wh : Nat → Nat} : ∀ (i k a : Nat), k < T → wpl T m wh i k = some a → a < T := by
  intro i
  induction i with
  | zero => intro k a _ h; cases h
  | succ i ih =>
    intro k a hk h
    unfold wpl at h
    split at h
    · exact ih _ _ (bh_lt (by omega)) h
    · cases h; exact hk
-- the class: behind, workplace
theorem behind_s (N : Nat) {T k : Nat} (hT : T ≤ 6) (hk : k ≤ 6) : fX1_behind N (nI T) (nI k) = some (nI (bh T k)) := by
  unfold fX1_behind bh
  by_cases h : k + 1 < T
  · simp (disch := omega) only [↓m9e, c0, c1, c2, c3, c4, c6, c8, c9, c10, c14, c20, c26, c32, c33, c36, c69, c99, c105, c400, sclamp, sle, slt, seq, seqm, seqm2, nI_add, pk_mul, sub_rem, ssub, sdiv, sgd, sgz, b1_s, b2_s, b3_s, b4_s, b5_s, b6_s, b7_s, b8_s, b9_s, b10_s, b11_s, b12_s, rjn_, rjs_, if_pos, if_neg, bit_s, Nat.reduceAdd, Nat.zero_add, Nat.add_zero, up_s, up_n, sgb0, sgb1, if_true, if_false, h]
  · simp (disch := omega) only [↓m9e, c0, c1, c2, c3, c4, c6, c8, c9, c10, c14, c20, c26, c32, c33, c36, c69, c99, c105, c400, sclamp, sle, slt, seq, seqm, seqm2, nI_add, pk_mul, sub_rem, ssub, sdiv, sgd, sgz, b1_s, b2_s, b3_s, b4_s, b5_s, b6_s, b7_s, b8_s, b9_s, b10_s, b11_s, b12_s, rjn_, rjs_, if_pos, if_neg, bit_s, Nat.reduceAdd, Nat.zero_add, Nat.add_zero, up_s, up_n, sgb0, sgb1, if_true, if_false, h]
theorem workplace_l (N : Nat) {T m p : Nat} {wheel skips : Nat → Int32} {wh : Nat → Nat} (hT : T ≤ 6) (hp : p < 6) (hm : m < 64) (hs : skips p = nI m) (hw : ∀ k, k < T → wheel k = nI (wh k)) (hw6 : ∀ k, k < T → wh k < 6) : ∀ (d i k n : Nat), i + d = T → d < n → (k < T ∨ d = 0) → ∃ a b, fX3_workplace_10 N wheel (nI T) skips (nI p) n (nI k) (nI i) = some ((wpl T m wh d k).map nI, a, b) := by
  intro d
  induction d with
  | zero =>
    intro i k n hi hn hk
    obtain ⟨n, rfl⟩ : ∃ z, n = z + 1 := ⟨n - 1, by omega⟩
    refine ⟨nI k, nI i, ?_⟩
    rw [fX3_workplace_10_s]
    simp (disch := omega) only [↓m9e, c0, c1, c2, c3, c4, c6, c8, c9, c10, c14, c20, c26, c32, c33, c36, c69, c99, c105, c400, sclamp, sle, slt, seq, seqm, seqm2, nI_add, pk_mul, sub_rem, ssub, sdiv, sgd, sgz, b1_s, b2_s, b3_s, b4_s, b5_s, b6_s, b7_s, b8_s, b9_s, b10_s, b11_s, b12_s, rjn_, rjs_, if_pos, if_neg, bit_s, Nat.reduceAdd, Nat.zero_add, Nat.add_zero, up_s, up_n, sgb0, sgb1, if_true, if_false, wpl, Option.map]
  | succ d ih =>
    intro i k n hi hn hk
    obtain ⟨n, rfl⟩ : ∃ z, n = z + 1 := ⟨n - 1, by omega⟩
    have hk : k < T := by omega
    have h6 := hw6 k hk
    rw [fX3_workplace_10_s]
    cases hb : Nat.testBit m (wh k) with
    | true =>
      obtain ⟨a, b, hab⟩ := ih (i + 1) (bh T k) n (by omega) (by omega) (Or.inl (bh_lt (by omega)))
      refine ⟨a, b, ?_⟩
      have e : wpl T m wh (d + 1) k = wpl T m wh d (bh T k) := by rw [wpl, if_pos hb]
      rw [e, ← hab]
      simp (disch := omega) only [↓m9e, c0, c1, c2, c3, c4, c6, c8, c9, c10, c14, c20, c26, c32, c33, c36, c69, c99, c105, c400, sclamp, sle, slt, seq, seqm, seqm2, nI_add, pk_mul, sub_rem, ssub, sdiv, sgd, sgz, b1_s, b2_s, b3_s, b4_s, b5_s, b6_s, b7_s, b8_s, b9_s, b10_s, b11_s, b12_s, rjn_, rjs_, if_pos, if_neg, bit_s, Nat.reduceAdd, Nat.zero_add, Nat.add_zero, up_s, up_n, sgb0, sgb1, if_true, if_false, hs, hw k hk, hb, behind_s N hT (show k ≤ 6 by omega)]
      all_goals rfl
    | false =>
      refine ⟨nI k, nI i, ?_⟩
      have e : wpl T m wh (d + 1) k = some k := by rw [wpl, if_neg (by rw [hb]; decide)]
      rw [e]
      simp (disch := omega) only [↓m9e, c0, c1, c2, c3, c4, c6, c8, c9, c10, c14, c20, c26, c32, c33, c36, c69, c99, c105, c400, sclamp, sle, slt, seq, seqm, seqm2, nI_add, pk_mul, sub_rem, ssub, sdiv, sgd, sgz, b1_s, b2_s, b3_s, b4_s, b5_s, b6_s, b7_s, b8_s, b9_s, b10_s, b11_s, b12_s, rjn_, rjs_, if_pos, if_neg, bit_s, Nat.reduceAdd, Nat.zero_add, Nat.add_zero, up_s, up_n, sgb0, sgb1, if_true, if_false, hs, hw k hk, hb, Option.map]
      all_goals rfl
