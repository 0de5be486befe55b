/-! the reference's round -/
theorem lpI {σ ρ : Type} (g : Nat → σ → Option ρ) (I : Nat → σ → Prop) (Q : ρ → Prop) (e : Nat) (hs : ∀ n k s, k < e → I k s → ∃ s', g (n + 1) s = g n s' ∧ I (k + 1) s') (he : ∀ n s, I e s → ∃ r, g (n + 1) s = some r ∧ Q r) : ∀ (d k : Nat), k + d = e → ∀ n, d < n → ∀ s, I k s → ∃ r, g n s = some r ∧ Q r := by
  intro d
  induction d with
  | zero =>
    intro k hk n hn s h
    obtain ⟨n, rfl⟩ : ∃ m, n = m + 1 := ⟨n - 1, by omega⟩
    have : k = e := by omega
    subst this
    exact he n s h
  | succ d ih =>
    intro k hk n hn s h
    obtain ⟨n, rfl⟩ : ∃ m, n = m + 1 := ⟨n - 1, by omega⟩
    obtain ⟨s', h1, h2⟩ := hs n k s (by omega) h
    obtain ⟨r, h3, h4⟩ := ih (k + 1) (by omega) n (by omega) s' h2
    exact ⟨r, h1.trans h3, h4⟩
/-- the reference's told numbers -/
def RN (t : TS) (trades people : Int32) (need made skips tunes : Nat → Int32) : Prop := trades = nI (tT t) ∧ people = nI (tP t) ∧ (∀ k, k < tT t → need k = nI (tNd t k) ∧ made k = nI (tYl t k)) ∧ (∀ p, p < tP t → skips p = nI (tSp t p)) ∧ tunes 0 = nI (tFd t) ∧ tunes 1 = nI (tWi t) ∧ tunes 2 = nI (tFl t)
/-- the reference's row -/
def RM (t : TS) (w : WS) (s : Nat → Int32) : Prop := s 0 = nI (wRd w) ∧ s 1 = nI (wFe w) ∧ (∀ k, k < tT t → s (2 + k) = nI (wSt w k)) ∧ (∀ k, k < tT t → s (8 + k) = nI (wLa w k)) ∧ (∀ k, k < tT t → s (14 + k) = nI (wWh w k)) ∧ (∀ p, p < tP t → s (20 + p) = nI (wPl w p)) ∧
  (∀ p, p < tP t → (s (26 + p) = m9 ∧ ∀ q, q < tP t → wHp w q ≠ p + 1) ∨ ∃ q, q < tP t ∧ s (26 + p) = nI q ∧ wHp w q = p + 1) ∧ s 32 = nI (wIl w) ∧ (∀ p, p < tP t → ∀ k, k < tT t → s (33 + 6 * p + k) = nI (wSk w (p * 6 + k))) ∧ (∀ q, q < tP t → ∀ p, p < tP t → s (69 + 6 * q + p) = nI (wFa w (q * 6 + p)))
theorem bh_mod {T k i : Nat} (hk : k < T) : (k + (i + 1)) % T = bh T ((k + i) % T) := by
  have h1 : (k + (i + 1)) % T = ((k + i) % T + 1) % T := by rw [Nat.mod_add_mod, Nat.add_assoc]
  rw [h1]
  have h2 : (k + i) % T < T := Nat.mod_lt _ (by omega)
  unfold bh
  split
  · exact Nat.mod_eq_of_lt (by assumption)
  · have : (k + i) % T + 1 = T := by omega
    rw [this, Nat.mod_self]
section
variable {N : Nat} {t : TS} {w : WS} {trades people : Int32} {need made skips tunes s makes works : Nat → Int32}
theorem placeOf_l (ht : tOK t) (hw : wOK t w) {p : Nat} (hp : p < tP t) (hsk : skips p = nI (tSp t p)) (hwh : ∀ k, k < tT t → s (14 + k) = nI (wWh w k)) {k0 : Nat} (hpl : s (20 + p) = nI k0) (hk0 : k0 < tT t) : ∀ (d i n : Nat), i + d = tT t → d < n → ∃ b, fX5_placeOf_2 N (nI (tT t)) skips s (nI p) n (nI i) = some ((wpl (tT t) (tSp t p) (wWh w) d ((k0 + i) % tT t)).map nI, b) := by
  have hP : tP t ≤ 6 := ht.2.1
  have hT : tT t ≤ 6 := ht.1
  have h64 := ht.2.2.2.1 p hp
  intro d
  induction d with
  | zero =>
    intro i n hi hn
    obtain ⟨n, rfl⟩ : ∃ z, n = z + 1 := ⟨n - 1, by omega⟩
    refine ⟨nI i, ?_⟩
    rw [fX5_placeOf_2_s]
    simp (disch := omega) only [↓m9e, c0, c1, c2, c3, c4, c6, c8, c9, c10, c14, c20, c26, c32, c33, c36, c69, c99, c105, c400, sclamp, sle, slt, seq, seqm, seqm2, nI_add, pk_mul, sub_rem, ssub, sdiv, sgd, sgz, b1_s, b2_s, b3_s, b4_s, b5_s, b6_s, b7_s, b8_s, b9_s, b10_s, b11_s, b12_s, rjn_, rjs_, if_pos, if_neg, bit_s, Nat.reduceAdd, Nat.zero_add, Nat.add_zero, up_s, up_n, sgb0, sgb1, if_true, if_false, wpl, Option.map]
  | succ d ih =>
    intro i n hi hn
    obtain ⟨n, rfl⟩ : ∃ z, n = z + 1 := ⟨n - 1, by omega⟩
    have hm : (k0 + i) % tT t < tT t := Nat.mod_lt _ (by omega)
    have h9 := hw.2.2.2.2.2.2.2.2 _ hm
    rw [fX5_placeOf_2_s]
    cases hb : Nat.testBit (tSp t p) (wWh w ((k0 + i) % tT t)) with
    | true =>
      obtain ⟨b, hab⟩ := ih (i + 1) n (by omega) (by omega)
      refine ⟨b, ?_⟩
      have e : wpl (tT t) (tSp t p) (wWh w) (d + 1) ((k0 + i) % tT t) = wpl (tT t) (tSp t p) (wWh w) d ((k0 + (i + 1)) % tT t) := by rw [wpl, if_pos hb, bh_mod hk0]
      rw [e, ← hab]
      simp (disch := omega) only [↓m9e, c0, c1, c2, c3, c4, c6, c8, c9, c10, c14, c20, c26, c32, c33, c36, c69, c99, c105, c400, sclamp, sle, slt, seq, seqm, seqm2, nI_add, pk_mul, sub_rem, ssub, sdiv, sgd, sgz, b1_s, b2_s, b3_s, b4_s, b5_s, b6_s, b7_s, b8_s, b9_s, b10_s, b11_s, b12_s, rjn_, rjs_, if_pos, if_neg, bit_s, Nat.reduceAdd, Nat.zero_add, Nat.add_zero, up_s, up_n, sgb0, sgb1, if_true, if_false, hpl, hsk, hwh _ hm, hb]
      all_goals rfl
    | false =>
      refine ⟨nI i, ?_⟩
      have e : wpl (tT t) (tSp t p) (wWh w) (d + 1) ((k0 + i) % tT t) = some ((k0 + i) % tT t) := by rw [wpl, if_neg (by rw [hb]; decide)]
      rw [e]
      simp (disch := omega) only [↓m9e, c0, c1, c2, c3, c4, c6, c8, c9, c10, c14, c20, c26, c32, c33, c36, c69, c99, c105, c400, sclamp, sle, slt, seq, seqm, seqm2, nI_add, pk_mul, sub_rem, ssub, sdiv, sgd, sgz, b1_s, b2_s, b3_s, b4_s, b5_s, b6_s, b7_s, b8_s, b9_s, b10_s, b11_s, b12_s, rjn_, rjs_, if_pos, if_neg, bit_s, Nat.reduceAdd, Nat.zero_add, Nat.add_zero, up_s, up_n, sgb0, sgb1, if_true, if_false, hpl, hsk, hwh _ hm, hb, Option.map]
      all_goals rfl
theorem placeOf_s (hN : 7 ≤ N) (ht : tOK t) (hw : wOK t w) {p : Nat} (hp : p < tP t) (htr : trades = nI (tT t)) (hsk : skips p = nI (tSp t p)) (hwh : ∀ k, k < tT t → s (14 + k) = nI (wWh w k)) (hpl : s (20 + p) = nI (wPl w p)) : fX5_placeOf N trades skips s (nI p) = some (eN (wk t w p)) := by
  unfold fX5_placeOf wk
  subst htr
  by_cases h0 : tT t = 0
  · obtain ⟨n, rfl⟩ : ∃ z, N = z + 1 := ⟨N - 1, by omega⟩
    rw [h0, fX5_placeOf_2_s, c0, if_pos (nI_le (Nat.le_refl _) (by decide))]
    rfl
  · have h5 := hw.2.2.2.2.1 p hp
    obtain ⟨b, hb⟩ := placeOf_l (N := N) ht hw hp hsk hwh hpl (by omega) (tT t) 0 N (by omega) (by have := ht.1; omega)
    rw [Nat.add_zero, Nat.mod_eq_of_lt (by omega)] at hb
    rw [c0, hb, b2_s]
    cases wpl (tT t) (tSp t p) (wWh w) (tT t) (wPl w p) <;> rfl
theorem worksAt_s (hN : 7 ≤ N) (ht : tOK t) (hw : wOK t w) {p : Nat} (hp : p < tP t) (htr : trades = nI (tT t)) (hsk : skips p = nI (tSp t p)) (hwh : ∀ k, k < tT t → s (14 + k) = nI (wWh w k)) (hpl : s (20 + p) = nI (wPl w p)) : fX5_worksAt N trades skips s (nI p) = some (eN ((wk t w p).map (wWh w))) := by
  have hT : tT t ≤ 6 := ht.1
  unfold fX5_worksAt
  rw [placeOf_s hN ht hw hp htr hsk hwh hpl, b1_s]
  cases hk : wk t w p with
  | none => rfl
  | some k =>
    have := wk_lt hw hp hk
    simp (disch := omega) only [↓m9e, c0, c1, c2, c3, c4, c6, c8, c9, c10, c14, c20, c26, c32, c33, c36, c69, c99, c105, c400, sclamp, sle, slt, seq, seqm, seqm2, nI_add, pk_mul, sub_rem, ssub, sdiv, sgd, sgz, b1_s, b2_s, b3_s, b4_s, b5_s, b6_s, b7_s, b8_s, b9_s, b10_s, b11_s, b12_s, rjn_, rjs_, if_pos, if_neg, bit_s, Nat.reduceAdd, Nat.zero_add, Nat.add_zero, up_s, up_n, sgb0, sgb1, if_true, if_false, eN, Option.map, hwh k this]
    all_goals rfl
theorem bit_1 {a k : Nat} (ha : a < 64) (hk : k < 6) : (((nI a >>> (nI k &&& 31)) &&& (1 : Int32)) = (1 : Int32)) = (Nat.testBit a k = true) := by
  rw [c1, bit_s ha hk]
  cases Nat.testBit a k <;> simp <;> decide
theorem isIllM_s {il p : Nat} (h : s 32 = nI il) (hil : il < 64) (hp : p < 6) : fX5_isIll N s (nI p) = some (nI (if Nat.testBit il p then 1 else 0)) := by
  unfold fX5_isIll
  rw [c32, sgd (by decide) (by decide), sclamp (by decide), h, ic (bit_1 hil hp)]
  cases Nat.testBit il p <;> rfl
theorem helperOf_s (hN : 7 ≤ N) (ht : tOK t) (hw : wOK t w) (hpe : people = nI (tP t)) (hh : ∀ p, p < tP t → (s (26 + p) = m9 ∧ ∀ q, q < tP t → wHp w q ≠ p + 1) ∨ ∃ q, q < tP t ∧ s (26 + p) = nI q ∧ wHp w q = p + 1) {q : Nat} (hq : q < tP t) : fX5_helperOf N people s (nI q) = some (if wHp w q = 0 then m9 else nI (wHp w q - 1)) := by
  have hP : tP t ≤ 6 := ht.2.1
  have h7 := hw.2.2.2.2.2.2.1
  have key : ∀ (d p n : Nat), p + d = tP t → d < n → (∀ a, a < p → wHp w q ≠ a + 1) → ∃ b, fX5_helperOf_2 N (nI (tP t)) s (nI q) n (nI p) = some (if wHp w q = 0 then none else some (nI (wHp w q - 1)), b) := by
    intro d
    induction d with
    | zero =>
      intro p n hpd hn hno
      obtain ⟨n, rfl⟩ : ∃ z, n = z + 1 := ⟨n - 1, by omega⟩
      refine ⟨nI p, ?_⟩
      have h0 : wHp w q = 0 := by
        have := (h7 q (by omega)).1
        by_cases h : wHp w q = 0
        · exact h
        · exact absurd (show wHp w q = (wHp w q - 1) + 1 by omega) (hno (wHp w q - 1) (by omega))
      rw [fX5_helperOf_2_s, if_pos (nI_le (by omega) (by omega)), if_pos h0]
    | succ d ih =>
      intro p n hpd hn hno
      obtain ⟨n, rfl⟩ : ∃ z, n = z + 1 := ⟨n - 1, by omega⟩
      rw [fX5_helperOf_2_s, ic (sle (by omega) (by omega)), if_neg (by omega), c26, nI_add, sgd (by omega) (by decide), sclamp (by omega), c1, nI_add]
      rcases hh p (by omega) with ⟨h1, h2⟩ | ⟨r, hr, h1, h2⟩
      · rw [h1, ic (seqm2 (by omega)), if_neg id]
        exact ih (p + 1) n (by omega) (by omega) (fun a ha => by
          by_cases e : a = p
          · subst e; exact h2 q hq
          · exact hno a (by omega))
      · rw [h1, ic (seq (by omega) (by omega))]
        by_cases e : r = q
        · subst e
          exact ⟨nI p, by rw [if_pos rfl, if_neg (by omega), h2]; rfl⟩
        · rw [if_neg e]
          exact ih (p + 1) n (by omega) (by omega) (fun a ha he => by
            by_cases e2 : a = p
            · subst e2
              exact e (hw.2.2.2.2.2.2.2.1 r q (by omega) (by omega) (by rw [h2, he]) (by omega))
            · exact hno a (by omega) he)
  unfold fX5_helperOf
  obtain ⟨b, hb⟩ := key (tP t) 0 N (by omega) (by omega) (fun a ha => by omega)
  rw [hpe, c0, hb, b2_s]
  by_cases h : wHp w q = 0
  · rw [if_pos h, if_pos h]; rfl
  · rw [if_neg h, if_neg h]; rfl
end
