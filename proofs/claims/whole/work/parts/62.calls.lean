/-! call by call: what is asked of trades and people -/
section
variable {N : Nat} {t : TS} {w : WS} {trades people fade winter fall round fell ills mtrades mpeople thrown : Int32} {needs yields skips skills places stores lacked helpers favours wheel works need made mskips tunes s : Nat → Int32}
theorem q_trade (ht : tOK t) (hw : wOK t w) (rt : RT t trades people needs yields skips) (rc : RC t w round fell ills skills places stores lacked helpers favours wheel) (rn : RN t mtrades mpeople need made mskips tunes) (rm : RM t w s) (i1 i2 : Int32) :
    ∃ r, fX4_trade N stores lacked trades needs yields i1 i2 = some r ∧ fX5_trade N thrown mtrades need made s i1 i2 = some (r, 0) := by
  have hT : tT t ≤ 6 := ht.1
  obtain ⟨e1, e2, e3, e4⟩ := rt
  obtain ⟨n1, n2, n3, n4, n5, n6, n7⟩ := rn
  unfold fX4_trade fX5_trade
  rw [isTrade_e, e1, n1]
  rcases rngT i1 (tT t) hT with ⟨k, hk, rfl, h⟩ | h
  · rw [h N, b1_s, b1_s]
    simp only [if10, if00, if10', if00']
    rw [in_e]
    rw [sgd (by omega) (by decide), sgd (by omega) (by decide), sgd (by omega) (by decide), sgd (by omega) (by decide), sgd (by omega) (by decide), sgd (by omega) (by decide), c2, c8, nI_add, nI_add, sgd (by omega) (by decide), sgd (by omega) (by decide), sclamp (by omega), sclamp (by omega), sclamp (by omega), (e3 k hk).1, (e3 k hk).2, (n3 k hk).1, (n3 k hk).2, rc.2.2.2.2.2.1 k hk, rc.2.2.2.2.2.2.1 k hk, rm.2.2.1 k hk, rm.2.2.2.1 k hk]
    rcases rng i2 0 3 (by decide) (by decide) with ⟨j, _, hj, rfl, h2⟩ | ⟨h2, h3⟩
    · rw [c3, c0, h2 N, b1_s]
      simp only [if10, if00, if10', if00']
      rcases (show j = 0 ∨ j = 1 ∨ j = 2 ∨ j = 3 by omega) with rfl | rfl | rfl | rfl
      · exact ⟨_, rfl, rfl⟩
      · exact ⟨_, rfl, rfl⟩
      · exact ⟨_, rfl, rfl⟩
      · exact ⟨_, rfl, rfl⟩
    · rw [c3, c0, h2 N, b1_s]
      simp only [if10, if00, if10', if00']
      rw [if_neg (h3 0 (by omega) (by omega)), c1, if_neg (h3 1 (by omega) (by omega)), if_neg (h3 2 (by omega) (by omega)), if_neg (h3 3 (by omega) (by omega))]
      exact ⟨_, rfl, rfl⟩
  · rw [h N, b1_s, b1_s]
    simp only [if10, if00, if10', if00']
    exact ⟨_, rfl, rfl⟩
theorem q_skill (ht : tOK t) (rt : RT t trades people needs yields skips) (rc : RC t w round fell ills skills places stores lacked helpers favours wheel) (rn : RN t mtrades mpeople need made mskips tunes) (rm : RM t w s) (i1 i2 : Int32) :
    ∃ r, fX4_skill N skills trades people i1 i2 = some r ∧ fX5_skill N thrown mtrades mpeople s i1 i2 = some (r, 0) := by
  have hT : tT t ≤ 6 := ht.1
  have hP : tP t ≤ 6 := ht.2.1
  unfold fX4_skill fX5_skill
  rw [isTrade_e, isPerson_e, isPersonX_e, rt.1, rt.2.1, rn.1, rn.2.1]
  rcases rngT i1 (tP t) hP with ⟨p, hp, rfl, h⟩ | h
  · rw [h N, b1_s, b1_s]
    simp only [if10, if00, if10', if00']
    rcases rngT i2 (tT t) hT with ⟨k, hk, rfl, h2⟩ | h2
    · rw [h2 N, b1_s, b1_s]
      simp only [if10, if00, if10', if00']
      rw [cell_s, b1_s, c6, c33, pk_mul, nI_add, nI_add, sgd (by omega) (by decide), sgd (by omega) (by decide), sclamp (by omega), sclamp (by omega), rc.2.2.2.1 p hp k hk, rm.2.2.2.2.2.2.2.2.1 p hp k hk]
      exact ⟨_, rfl, rfl⟩
    · rw [h2 N, b1_s, b1_s]
      simp only [if10, if00, if10', if00']
      exact ⟨_, rfl, rfl⟩
  · rw [h N, b1_s, b1_s]
    simp only [if10, if00, if10', if00']
    exact ⟨_, rfl, rfl⟩
theorem q_wheel (ht : tOK t) (rt : RT t trades people needs yields skips) (rc : RC t w round fell ills skills places stores lacked helpers favours wheel) (rn : RN t mtrades mpeople need made mskips tunes) (rm : RM t w s) (i1 : Int32) :
    ∃ r, fX4_wheel N wheel trades i1 = some r ∧ fX5_wheel N thrown mtrades s i1 = some (r, 0) := by
  have hT : tT t ≤ 6 := ht.1
  unfold fX4_wheel fX5_wheel
  rw [isTrade_e, rt.1, rn.1]
  rcases rngT i1 (tT t) hT with ⟨k, hk, rfl, h⟩ | h
  · rw [h N, b1_s, b1_s]
    simp only [if10, if00, if10', if00']
    rw [c14, nI_add, sgd (by omega) (by decide), sgd (by omega) (by decide), sclamp (by omega), sclamp (by omega), rc.2.2.2.2.2.2.2.2.2 k hk, rm.2.2.2.2.1 k hk]
    exact ⟨_, rfl, rfl⟩
  · rw [h N, b1_s, b1_s]
    simp only [if10, if00, if10', if00']
    exact ⟨_, rfl, rfl⟩
theorem q_favours (ht : tOK t) (rt : RT t trades people needs yields skips) (rc : RC t w round fell ills skills places stores lacked helpers favours wheel) (rn : RN t mtrades mpeople need made mskips tunes) (rm : RM t w s) (i1 i2 : Int32) :
    ∃ r, fX4_favours N favours people i1 i2 = some r ∧ fX5_favours N thrown mpeople s i1 i2 = some (r, 0) := by
  have hP : tP t ≤ 6 := ht.2.1
  unfold fX4_favours fX5_favours
  rw [isPerson_e, isPerson_e, rt.2.1, rn.2.1]
  rcases areTwo_s N (tP t) hP i1 i2 with ⟨a, b, ha, hb, hab, rfl, rfl, h1, h2, h3⟩ | ⟨h1, h2⟩
  · rw [h1, h2, h3, b1_s, b1_s, b1_s]
    simp only [if10, if00, if10', if00']
    rw [ic (seq (by omega) (by omega)), if_neg (fun e => hab e.symm), c6, c69, pk_mul, pk_mul, nI_add, nI_add, nI_add, sgd (by omega) (by decide), sgd (by omega) (by decide), sclamp (by omega), sclamp (by omega), rc.2.2.2.2.2.2.2.2.1 a ha b hb, rm.2.2.2.2.2.2.2.2.2 a ha b hb]
    exact ⟨_, rfl, rfl⟩
  · rw [h1, b1_s]
    simp only [if10, if00, if10', if00']
    refine ⟨_, rfl, ?_⟩
    rcases h2 with h2 | ⟨h2, h3 | ⟨h3, rfl⟩⟩
    · rcases rngT i2 (tP t) hP with ⟨b, hb, rfl, h⟩ | h
      · rw [h N, h2, b1_s, b1_s]
        simp only [if10, if00, if10', if00']
        rfl
      · rw [h N, b1_s]
        simp only [if10, if00, if10', if00']
        rfl
    · rw [h3, b1_s]
      simp only [if10, if00, if10', if00']
      rfl
    · rw [h3, b1_s, b1_s]
      simp only [if10, if00, if10', if00']
      rfl
/-- the reference's own word for whom p helps -/
theorem helps_at (ht : tOK t) (hw : wOK t w) (rm : RM t w s) {p : Nat} (hp : p < tP t) : (s (26 + p) = m9 ∧ ∀ q, q < 6 → wHp w q ≠ p + 1) ∨ ∃ q, q < tP t ∧ s (26 + p) = nI q ∧ wHp w q = p + 1 ∧ ∀ r, r < 6 → wHp w r = p + 1 → r = q := by
  have hP : tP t ≤ 6 := ht.2.1
  rcases rm.2.2.2.2.2.2.1 p hp with ⟨h1, h2⟩ | ⟨q, hq, h1, h2⟩
  · refine Or.inl ⟨h1, fun q hq e => ?_⟩
    by_cases h : q < tP t
    · exact h2 q h e
    · have := (hw.2.2.2.2.2.2.1 q hq).2.1 (by omega)
      omega
  · exact Or.inr ⟨q, hq, h1, h2, fun r hr e => hw.2.2.2.2.2.2.2.1 r q hr (by omega) (by omega) (by omega)⟩
theorem whomHelps_s (hN : 7 ≤ N) (ht : tOK t) (hw : wOK t w) (rc : RC t w round fell ills skills places stores lacked helpers favours wheel) (rm : RM t w s) {p : Nat} (hp : p < tP t) : fX3_whomHelps N helpers (nI p) = some (s (26 + p)) := by
  have hP : tP t ≤ 6 := ht.2.1
  have d8 := rc.2.2.2.2.2.2.2.1
  have h7 := hw.2.2.2.2.2.2.1
  have hh := helps_at ht hw rm hp
  have key : ∀ (d q n : Nat), q + d = 6 → d < n → (∀ r, r < q → wHp w r ≠ p + 1) → ∃ (o : Option Int32) (b : Int32), fX3_whomHelps_2 N helpers (nI p) n (nI q) = some (o, b) ∧ rj o (fun r => some r) (some m9) = some (s (26 + p)) := by
    intro d
    induction d with
    | zero =>
      intro q n hq hn hno
      obtain ⟨n, rfl⟩ : ∃ z, n = z + 1 := ⟨n - 1, by omega⟩
      refine ⟨none, nI q, by rw [fX3_whomHelps_2_s, c6, ic (sle (by omega) (by omega)), if_pos (by omega)], ?_⟩
      rcases hh with ⟨h1, _⟩ | ⟨r, hr, h1, h2, h3⟩
      · rw [h1]; rfl
      · exact absurd h2 (hno r (by omega))
    | succ d ih =>
      intro q n hq hn hno
      obtain ⟨n, rfl⟩ : ∃ z, n = z + 1 := ⟨n - 1, by omega⟩
      have a7 := h7 q (by omega)
      rw [fX3_whomHelps_2_s, c6, ic (sle (by omega) (by omega)), if_neg (by omega), sgd (by omega) (by decide), sclamp (by omega), d8 q (by omega), c1, nI_add]
      by_cases h0 : wHp w q = 0
      · rw [if_pos h0, ic (seqm2 (by omega)), if_neg id]
        exact ih (q + 1) n (by omega) (by omega) (fun r hr => by
          by_cases e : r = q
          · subst e; omega
          · exact hno r (by omega))
      · rw [if_neg h0, ic (seq (by omega) (by omega))]
        by_cases e : wHp w q - 1 = p
        · rw [if_pos e]
          refine ⟨_, _, rfl, ?_⟩
          rcases hh with ⟨_, h1⟩ | ⟨r, hr, h1, h2, h3⟩
          · exact absurd (show wHp w q = p + 1 by omega) (h1 q (by omega))
          · rw [h1, h3 q (by omega) (by omega)]; rfl
        · rw [if_neg e]
          exact ih (q + 1) n (by omega) (by omega) (fun r hr => by
            by_cases e2 : r = q
            · subst e2; omega
            · exact hno r (by omega))
  obtain ⟨o, b, h1, h2⟩ := key 6 0 N (by omega) (by omega) (fun r hr => by omega)
  unfold fX3_whomHelps
  rw [c0, h1, b2_s, m9e]
  exact h2
theorem tradeOf_s (hN : 7 ≤ N) (ht : tOK t) (hw : wOK t w) (rt : RT t trades people needs yields skips) (rc : RC t w round fell ills skills places stores lacked helpers favours wheel) {p : Nat} (hp : p < tP t) : fX3_tradeOf N places wheel trades skips (nI p) = some (eN ((wk t w p).map (wWh w))) := by
  have hT : tT t ≤ 6 := ht.1
  unfold fX3_tradeOf
  rw [workplace_s hN ht hw rt rc hp, b1_s]
  cases hk : wk t w p with
  | none => rfl
  | some k =>
    have := wk_lt hw hp hk
    rw [eN_s, m9e, ic (seqm (by omega)), if_neg id, sgd (by omega) (by decide), sclamp (by omega), rc.2.2.2.2.2.2.2.2.2 k this]
    rfl
theorem q_person (hN : 7 ≤ N) (ht : tOK t) (hw : wOK t w) (rt : RT t trades people needs yields skips) (rc : RC t w round fell ills skills places stores lacked helpers favours wheel) (rn : RN t mtrades mpeople need made mskips tunes) (rm : RM t w s) (i1 i2 : Int32) :
    ∃ r, fX4_person N ills places helpers wheel trades people skips i1 i2 = some r ∧ fX5_person N thrown mtrades mpeople mskips s i1 i2 = some (r, 0) := by
  have hP : tP t ≤ 6 := ht.2.1
  unfold fX4_person fX5_person
  rw [isPerson_e, isPersonX_e, rt.2.1, rn.2.1]
  rcases rngT i1 (tP t) hP with ⟨p, hp, rfl, h⟩ | h
  · have hp6 : p < 6 := by omega
    rw [h N, b1_s, b1_s]
    simp only [if10, if00, if10', if00']
    rw [in_e]
    rw [tradeOf_s hN ht hw rt rc hp, worksAt_s hN ht hw hp rn.1 (rn.2.2.2.1 p hp) rm.2.2.2.2.1 (rm.2.2.2.2.2.1 p hp), whomHelps_s hN ht hw rc rm hp, rc.2.2.1, isIll_s N hw.2.1 hp6]
    rcases rng i2 0 4 (by decide) (by decide) with ⟨j, _, hj, rfl, h2⟩ | ⟨h2, h3⟩
    · rw [c4, c0, h2 N, b1_s]
      simp only [if10, if00, if10', if00']
      rcases (show j = 0 ∨ j = 1 ∨ j = 2 ∨ j = 3 ∨ j = 4 by omega) with rfl | rfl | rfl | rfl | rfl
      · rw [if_pos rfl, if_pos rfl, c20, nI_add, sgd (by omega) (by decide), sgd (by omega) (by decide), sclamp (by omega), sclamp (by omega), rc.2.2.2.2.1 p hp, rm.2.2.2.2.2.1 p hp]
        exact ⟨_, rfl, rfl⟩
      · exact ⟨_, rfl, rfl⟩
      · have e8 := rm.2.2.2.2.2.2.2.1
        refine ⟨nI (if Nat.testBit (wIl w) p then 1 else 0), ?_, ?_⟩
        · cases Nat.testBit (wIl w) p <;> rfl
        · rw [if_neg (by decide), if_neg (by decide), if_pos (by decide), c32, sgd (by decide) (by decide), sclamp (by decide), e8, c1, bit_s hw.2.1 hp6]
      · refine ⟨s (26 + p), rfl, ?_⟩
        rw [if_neg (by decide), if_neg (by decide), if_neg (by decide), if_pos (by decide), c26, nI_add, sgd (by omega) (by decide), sclamp (by omega)]
      · refine ⟨nI (tSp t p), ?_, ?_⟩
        · rw [if_neg (by decide), if_neg (by decide), if_neg (by decide), if_neg (by decide), if_pos (by decide), sgd (by omega) (by decide), sclamp (by omega), rt.2.2.2 p hp]
        · rw [if_neg (by decide), if_neg (by decide), if_neg (by decide), if_neg (by decide), sgd (by omega) (by decide), sclamp (by omega), rn.2.2.2.1 p hp]
    · rw [c4, c0, h2 N, b1_s]
      simp only [if10, if00, if10', if00']
      rw [if_neg (h3 0 (by omega) (by omega)), c1, if_neg (h3 1 (by omega) (by omega)), c2, if_neg (h3 2 (by omega) (by omega)), c3, if_neg (h3 3 (by omega) (by omega)), if_neg (h3 4 (by omega) (by omega))]
      exact ⟨_, rfl, rfl⟩
  · rw [h N, b1_s, b1_s]
    simp only [if10, if00, if10', if00']
    exact ⟨_, rfl, rfl⟩
end
