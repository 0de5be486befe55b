/-! call by call: what is asked of trades and people -/
section
variable {N : Nat} {t : TS} {w : WS} {trades people fade winter fall round fell ills mtrades mpeople thrown : Int32} {needs yields skips skills places stores lacked helpers favours wheel works need made mskips tunes s : Nat → Int32}
theorem q_trade (ht : tOK t) (hw : wOK t w) (rt : RT t trades people needs yields skips) (rc : RC t w round fell ills skills places stores lacked helpers favours wheel) (rn : RN t mtrades mpeople need made mskips tunes) (rm : RM t w s) (i1 i2 : Int32) :
    ∃ r, fX4_trade N stores lacked trades needs yields i1 i2 = some r ∧ fX5_trade N thrown mtrades need made s i1 i2 = some (r, 0) := by
  have hT : tT t ≤ 6 := ht.1
  obtain ⟨e1, e2, e3, e4⟩ := rt
  obtain ⟨n1, n2, n3, n4, n5, n6, n7⟩ := rn
  unfold fX4_trade fX5_trade
  rw [isTrade_e, e1, n1]
  rcases rngT i1 (tT t) hT with ⟨k, hk, rfl, h⟩ | h
  · rw [h N, b1_s, b1_s]
    try simp only [if10, if00, if10', if00']
    rw [in_e]
    rw [sgd (by omega) (by decide), sgd (by omega) (by decide), sgd (by omega) (by decide), sgd (by omega) (by decide), sgd (by omega) (by decide), sgd (by omega) (by decide), c2, c8, nI_add, nI_add, sgd (by omega) (by decide), sgd (by omega) (by decide), sclamp (by omega), sclamp (by omega), sclamp (by omega), (e3 k hk).1, (e3 k hk).2, (n3 k hk).1, (n3 k hk).2, rc.2.2.2.2.2.1 k hk, rc.2.2.2.2.2.2.1 k hk, rm.2.2.1 k hk, rm.2.2.2.1 k hk]
    rcases rng i2 0 3 (by decide) (by decide) with ⟨j, _, hj, rfl, h2⟩ | ⟨h2, h3⟩
    · rw [c3, c0, h2 N, b1_s]
      try simp only [if10, if00, if10', if00']
      rcases (show j = 0 ∨ j = 1 ∨ j = 2 ∨ j = 3 by omega) with rfl | rfl | rfl | rfl
      · exact ⟨_, rfl, rfl⟩
      · exact ⟨_, rfl, rfl⟩
      · exact ⟨_, rfl, rfl⟩
      · exact ⟨_, rfl, rfl⟩
    · rw [c3, c0, h2 N, b1_s]
      try simp only [if10, if00, if10', if00']
      rw [if_neg (h3 0 (by omega) (by omega)), c1, if_neg (h3 1 (by omega) (by omega)), if_neg (h3 2 (by omega) (by omega)), if_neg (h3 3 (by omega) (by omega))]
      exact ⟨_, rfl, rfl⟩
  · rw [h N, b1_s, b1_s]
    try simp only [if10, if00, if10', if00']
    exact ⟨_, rfl, rfl⟩
theorem q_skill (ht : tOK t) (rt : RT t trades people needs yields skips) (rc : RC t w round fell ills skills places stores lacked helpers favours wheel) (rn : RN t mtrades mpeople need made mskips tunes) (rm : RM t w s) (i1 i2 : Int32) :
    ∃ r, fX4_skill N skills trades people i1 i2 = some r ∧ fX5_skill N thrown mtrades mpeople s i1 i2 = some (r, 0) := by
  have hT : tT t ≤ 6 := ht.1
  have hP : tP t ≤ 6 := ht.2.1
  unfold fX4_skill fX5_skill
  rw [isTrade_e, isPerson_e, isPersonX_e, rt.1, rt.2.1, rn.1, rn.2.1]
  rcases rngT i1 (tP t) hP with ⟨p, hp, rfl, h⟩ | h
  · rw [h N, b1_s, b1_s]
    try simp only [if10, if00, if10', if00']
    rcases rngT i2 (tT t) hT with ⟨k, hk, rfl, h2⟩ | h2
    · rw [h2 N, b1_s, b1_s]
      try simp only [if10, if00, if10', if00']
      rw [cell_s, b1_s, c6, c33, pk_mul, nI_add, nI_add, sgd (by omega) (by decide), sgd (by omega) (by decide), sclamp (by omega), sclamp (by omega), rc.2.2.2.1 p hp k hk, rm.2.2.2.2.2.2.2.2.1 p hp k hk]
      exact ⟨_, rfl, rfl⟩
    · rw [h2 N, b1_s, b1_s]
      try simp only [if10, if00, if10', if00']
      exact ⟨_, rfl, rfl⟩
  · rw [h N, b1_s, b1_s]
    try simp only [if10, if00, if10', if00']
    exact ⟨_, rfl, rfl⟩
theorem q_wheel (ht : tOK t) (rt : RT t trades people needs yields skips) (rc : RC t w round fell ills skills places stores lacked helpers favours wheel) (rn : RN t mtrades mpeople need made mskips tunes) (rm : RM t w s) (i1 : Int32) :
    ∃ r, fX4_wheel N wheel trades i1 = some r ∧ fX5_wheel N thrown mtrades s i1 = some (r, 0) := by
  have hT : tT t ≤ 6 := ht.1
  unfold fX4_wheel fX5_wheel
  rw [isTrade_e, rt.1, rn.1]
  rcases rngT i1 (tT t) hT with ⟨k, hk, rfl, h⟩ | h
  · rw [h N, b1_s, b1_s]
    try simp only [if10, if00, if10', if00']
    rw [c14, nI_add, sgd (by omega) (by decide), sgd (by omega) (by decide), sclamp (by omega), sclamp (by omega), rc.2.2.2.2.2.2.2.2.2 k hk, rm.2.2.2.2.1 k hk]
    exact ⟨_, rfl, rfl⟩
  · rw [h N, b1_s, b1_s]
    try simp only [if10, if00, if10', if00']
    exact ⟨_, rfl, rfl⟩
theorem q_favours (ht : tOK t) (rt : RT t trades people needs yields skips) (rc : RC t w round fell ills skills places stores lacked helpers favours wheel) (rn : RN t mtrades mpeople need made mskips tunes) (rm : RM t w s) (i1 i2 : Int32) :
    ∃ r, fX4_favours N favours people i1 i2 = some r ∧ fX5_favours N thrown mpeople s i1 i2 = some (r, 0) := by
  have hP : tP t ≤ 6 := ht.2.1
  unfold fX4_favours fX5_favours
  rw [isPerson_e, isPerson_e, rt.2.1, rn.2.1]
  rcases areTwo_s N (tP t) hP i1 i2 with ⟨a, b, ha, hb, hab, rfl, rfl, h1, h2, h3⟩ | ⟨h1, h2⟩
  · rw [h1, h2, h3, b1_s, b1_s, b1_s]
    try simp only [if10, if00, if10', if00']
    rw [ic (seq (by omega) (by omega)), if_neg (fun e => hab e.symm), c6, c69, pk_mul, pk_mul, nI_add, nI_add, nI_add, sgd (by omega) (by decide), sgd (by omega) (by decide), sclamp (by omega), sclamp (by omega), rc.2.2.2.2.2.2.2.2.1 a ha b hb, rm.2.2.2.2.2.2.2.2.2 a ha b hb]
    exact ⟨_, rfl, rfl⟩
  · rw [h1, b1_s]
    try simp only [if10, if00, if10', if00']
    refine ⟨_, rfl, ?_⟩
    rcases h2 with h2 | ⟨h2, h3 | ⟨h3, rfl⟩⟩
    · rcases rngT i2 (tP t) hP with ⟨b, hb, rfl, h⟩ | h
      · rw [h N, h2, b1_s, b1_s]
        try simp only [if10, if00, if10', if00']
        all_goals rfl
      · rw [h N, b1_s]
        try simp only [if10, if00, if10', if00']
        all_goals rfl
    · rw [h3, b1_s]
      try simp only [if10, if00, if10', if00']
      all_goals rfl
    · rw [h3, b1_s, b1_s]
      try simp only [if10, if00, if10', if00']
      all_goals rfl
/-- the reference's own word for whom p helps -/
theorem helps_at (ht : tOK t) (hw : wOK t w) (rm : RM t w s) {p : Nat} (hp : p < tP t) : (s (26 + p) = m9 ∧ ∀ q, q < 6 → wHp w q ≠ p + 1) ∨ ∃ q, q < tP t ∧ s (26 + p) = nI q ∧ wHp w q = p + 1 ∧ ∀ r, r < 6 → wHp w r = p + 1 → r = q := by
  have hP : tP t ≤ 6 := ht.2.1
  rcases rm.2.2.2.2.2.2.1 p hp with ⟨h1, h2⟩ | ⟨q, hq, h1, h2⟩
  · refine Or.inl ⟨h1, fun q hq e => ?_⟩
    by_cases h : q < tP t
    · exact h2 q h e
    · have := (hw.2.2.2.2.2.2.1 q hq).2.1 (by omega)
      omega
  · exact Or.inr ⟨q, hq, h1, h2, fun r hr e => hw.2.2.2.2.2.2.2.1 r q hr (by omega) (by omega) (by omega)⟩
theorem whomHelps_s (hN : 7 ≤ N) (ht : tOK t) (hw : wOK t w) (rc : RC t w round fell ills skills places stores lacked helpers favours wheel) (rm : RM t w s) {p : Nat} (hp : p < tP t) : fX3_whomHelps N helpers (nI p) = some (s (26 + p)) := by
  have hP : tP t ≤ 6 := ht.2.1
  have d8 := rc.2.2.2.2.2.2.2.1
  have h7 := hw.2.2.2.2.2.2.1
  have hh := helps_at ht hw rm hp
  have key : ∀ (d q n : Nat), q + d = 6 → d < n → (∀ r, r < q → wHp w r ≠ p + 1) → ∃ (o : Option Int32) (b : Int32), fX3_whomHelps_2 N helpers (nI p) n (nI q) = some (o, b) ∧ rj o (fun r => some r) (some m9) = some (s (26 + p)) := by
    intro d
    induction d with
    | zero =>
      intro q n hq hn hno
      obtain ⟨n, rfl⟩ : ∃ z, n = z + 1 := ⟨n - 1, by omega⟩
      refine ⟨none, nI q, by rw [fX3_whomHelps_2_s, c6, ic (sle (by omega) (by omega)), if_pos (by omega)], ?_⟩
      rcases hh with ⟨h1, _⟩ | ⟨r, hr, h1, h2, h3⟩
      · rw [h1]; rfl
      · exact absurd h2 (hno r (by omega))
    | succ d ih =>
      intro q n hq hn hno
      obtain ⟨n, rfl⟩ : ∃ z, n = z + 1 := ⟨n - 1, by omega⟩
      have a7 := h7 q (by omega)
      rw [fX3_whomHelps_2_s, c6, ic (sle (by omega) (by omega)), if_neg (by omega), sgd (by omega) (by decide), sclamp (by omega), d8 q (by omega), c1, nI_add]
      by_cases h0 : wHp w q = 0
      · rw [if_pos h0, ic (seqm2 (by omega)), if_neg id]
        exact ih (q + 1) n (by omega) (by omega) (fun r hr => by
          by_cases e : r = q
          · subst e; omega
          · exact hno r (by omega))
      · rw [if_neg h0, ic (seq (by omega) (by omega))]
        by_cases e : wHp w q - 1 = p
        · rw [if_pos e]
          refine ⟨_, _, rfl, ?_⟩
          rcases hh with ⟨_, h1⟩ | ⟨r, hr, h1, h2, h3⟩
          · exact absurd (show wHp w q = p + 1 by omega) (h1 q (by omega))
          · rw [h1, h3 q (by omega) (by omega)]; rfl
        · rw [if_neg e]
          exact ih (q + 1) n (by omega) (by omega) (fun r hr => by
            by_cases e2 : r = q
            · subst e2; omega
            · exact hno r (by omega))
  obtain ⟨o, b, h1, h2⟩ := key 6 0 N (by omega) (by omega) (fun r hr => by omega)
  unfold fX3_whomHelps
  rw [c0, h1, b2_s, m9e]
  exact h2
theorem tradeOf_s (hN : 7 ≤ N) (ht : tOK t) (hw : wOK t w) (rt : RT t trades people needs yields skips) (rc : RC t w round fell ills skills places stores lacked helpers favours wheel) {p : Nat} (hp : p < tP t) : fX3_tradeOf N places wheel trades skips (nI p) = some (eN ((wk t w p).map (wWh w))) := by
  have hT : tT t ≤ 6 := ht.1
  unfold fX3_tradeOf
  rw [workplace_s hN ht hw rt rc hp, b1_s]
  cases hk : wk t w p with
  | none => rfl
  | some k =>
    have := wk_lt hw hp hk
    rw [eN_s, m9e, ic (seqm (by omega)), if_neg id, sgd (by omega) (by decide), sclamp (by omega), rc.2.2.2.2.2.2.2.2.2 k this]
    rfl
theorem q_person (hN : 7 ≤ N) (ht : tOK t) (hw : wOK t w) (rt : RT t trades people needs yields skips) (rc : RC t w round fell ills skills places stores lacked helpers favours wheel) (rn : RN t mtrades mpeople need made mskips tunes) (rm : RM t w s) (i1 i2 : Int32) :
    ∃ r, fX4_person N ills places helpers wheel trades people skips i1 i2 = some r ∧ fX5_person N thrown mtrades mpeople mskips s i1 i2 = some (r, 0) := by
  have hP : tP t ≤ 6 := ht.2.1
  unfold fX4_person fX5_person
  rw [isPerson_e, isPersonX_e, rt.2.1, rn.2.1]
  rcases rngT i1 (tP t) hP with ⟨p, hp, rfl, h⟩ | h
  · have hp6 : p < 6 := by omega
    rw [h N, b1_s, b1_s]
    try simp only [if10, if00, if10', if00']
    rw [in_e]
    rw [tradeOf_s hN ht hw rt rc hp, worksAt_s hN ht hw hp rn.1 (rn.2.2.2.1 p hp) rm.2.2.2.2.1 (rm.2.2.2.2.2.1 p hp), whomHelps_s hN ht hw rc rm hp, rc.2.2.1, isIll_s N hw.2.1 hp6]
    rcases rng i2 0 4 (by decide) (by decide) with ⟨j, _, hj, rfl, h2⟩ | ⟨h2, h3⟩
    · rw [c4, c0, h2 N, b1_s]
      try simp only [if10, if00, if10', if00']
      rcases (show j = 0 ∨ j = 1 ∨ j = 2 ∨ j = 3 ∨ j = 4 by omega) with rfl | rfl | rfl | rfl | rfl
      · rw [if_pos rfl, if_pos rfl, c20, nI_add, sgd (by omega) (by decide), sgd (by omega) (by decide), sclamp (by omega), sclamp (by omega), rc.2.2.2.2.1 p hp, rm.2.2.2.2.2.1 p hp]
        exact ⟨_, rfl, rfl⟩
      · exact ⟨_, rfl, rfl⟩
      · have e8 := rm.2.2.2.2.2.2.2.1
        refine ⟨nI (if Nat.testBit (wIl w) p then 1 else 0), ?_, ?_⟩
        · cases Nat.testBit (wIl w) p <;> rfl
        · rw [if_neg (by decide), if_neg (by decide), if_pos (by decide), c32, sgd (by decide) (by decide), sclamp (by decide), e8, c1, bit_s hw.2.1 hp6, b1_s, if_neg (by decide)]
      · refine ⟨s (26 + p), rfl, ?_⟩
        rw [if_neg (by decide), if_neg (by decide), if_neg (by decide), if_pos (by decide), c26, nI_add, sgd (by omega) (by decide), sclamp (by omega), b1_s, if_neg (by decide)]
      · refine ⟨nI (tSp t p), ?_, ?_⟩
        · rw [if_neg (by decide), if_neg (by decide), if_neg (by decide), if_neg (by decide), if_pos (by decide), sgd (by omega) (by decide), sclamp (by omega), rt.2.2.2 p hp]
        · rw [if_neg (by decide), if_neg (by decide), if_neg (by decide), if_neg (by decide), sgd (by omega) (by decide), sclamp (by omega), rn.2.2.2.1 p hp, b1_s, if_neg (by decide)]
    · rw [c4, c0, h2 N, b1_s]
      try simp only [if10, if00, if10', if00']
      rw [if_neg (h3 0 (by omega) (by omega)), c1, if_neg (h3 1 (by omega) (by omega)), c2, if_neg (h3 2 (by omega) (by omega)), c3, if_neg (h3 3 (by omega) (by omega)), if_neg (h3 4 (by omega) (by omega))]
      exact ⟨_, rfl, rfl⟩
  · rw [h N, b1_s, b1_s]
    try simp only [if10, if00, if10', if00']
    exact ⟨_, rfl, rfl⟩
end
/-! call by call: what changes the world -/
theorem sh1 : ∀ k : Fin 6, (1 : Int32) <<< (nI k.val &&& 31) = nI (2 ^ k.val) := by decide +kernel
theorem or_s (a b : Nat) : nI a ||| nI b = nI (a ||| b) := by
  apply Int32.toBitVec_inj.mp
  have h : ∀ n : Nat, (nI n).toBitVec = BitVec.ofNat 32 n := fun n => rfl
  rw [Int32.toBitVec_or, h, h, h]
  exact (BitVec.ofNat_or).symm
theorem ill_or {il p : Nat} (h : il < 64) (hp : p < 6) : nI il ||| ((1 : Int32) <<< (nI p &&& 31)) = nI (il ||| 2 ^ p) := by
  rw [sh1 ⟨p, hp⟩, or_s]
theorem or_lt : ∀ a : Fin 64, ∀ p : Fin 6, a.val ||| 2 ^ p.val < 64 := by decide +kernel
theorem or_bit (a p q : Nat) : Nat.testBit (a ||| 2 ^ p) q = (Nat.testBit a q || decide (p = q)) := by
  rw [Nat.testBit_or, Nat.testBit_two_pow]
theorem or_same : ∀ a : Fin 64, ∀ p : Fin 6, Nat.testBit a.val p.val = true → a.val ||| 2 ^ p.val = a.val := by decide +kernel
/-- the world with one more ill -/
def wIll (w : WS) (p : Nat) : WS := (wRd w, wFe w, wIl w ||| 2 ^ p, wSk w, wPl w, wSt w, wLa w, wHp w, wFa w, wWh w)
def wHelp (w : WS) (p q : Nat) : WS := (wRd w, wFe w, wIl w, wSk w, wPl w, wSt w, wLa w, fun r => if r = q then p + 1 else wHp w r, wFa w, wWh w)
def wWheel (w : WS) (wh : Nat → Nat) : WS := (wRd w, wFe w, wIl w, wSk w, wPl w, wSt w, wLa w, wHp w, wFa w, wh)
theorem wIll_ok {t : TS} {w : WS} (ht : tOK t) (hw : wOK t w) {p : Nat} (hp : p < tP t) : wOK t (wIll w p) := by
  have hP : tP t ≤ 6 := ht.2.1
  refine ⟨hw.1, or_lt ⟨wIl w, hw.2.1⟩ ⟨p, by omega⟩, fun q hq => ?_, hw.2.2.2.1, hw.2.2.2.2.1, hw.2.2.2.2.2.1, hw.2.2.2.2.2.2.1, hw.2.2.2.2.2.2.2.1, hw.2.2.2.2.2.2.2.2⟩
  show Nat.testBit (wIl w ||| 2 ^ p) q = false
  rw [or_bit, hw.2.2.1 q hq, decide_eq_false (by omega)]
  rfl
section
variable {N : Nat} {t : TS} {w : WS} {trades people fade winter fall round fell ills mtrades mpeople thrown : Int32} {needs yields skips skills places stores lacked helpers favours wheel works need made mskips tunes s makes mworks : Nat → Int32}
theorem RC_ill (rc : RC t w round fell ills skills places stores lacked helpers favours wheel) {p : Nat} {x : Int32} (hx : x = nI (wIl w ||| 2 ^ p)) : RC t (wIll w p) round fell x skills places stores lacked helpers favours wheel := ⟨rc.1, rc.2.1, hx, rc.2.2.2⟩
theorem RM_ill (ht : tOK t) (rm : RM t w s) {p : Nat} {x : Int32} (hx : x = nI (wIl w ||| 2 ^ p)) : RM t (wIll w p) (upd s 32 x) := by
  have hP : tP t ≤ 6 := ht.2.1
  have hT : tT t ≤ 6 := ht.1
  obtain ⟨m1, m2, m3, m4, m5, m6, m7, m8, m9', m10⟩ := rm
  refine ⟨?_, ?_, fun k hk => ?_, fun k hk => ?_, fun k hk => ?_, fun p hp => ?_, fun p hp => ?_, ?_, fun p hp k hk => ?_, fun q hq p hp => ?_⟩
  · rw [up_n (by omega)]; exact m1
  · rw [up_n (by omega)]; exact m2
  · rw [up_n (by omega)]; exact m3 k hk
  · rw [up_n (by omega)]; exact m4 k hk
  · rw [up_n (by omega)]; exact m5 k hk
  · rw [up_n (by omega)]; exact m6 p hp
  · rw [up_n (by omega)]; exact m7 p hp
  · rw [up_s]; exact hx
  · rw [up_n (by omega)]; exact m9' p hp k hk
  · rw [up_n (by omega)]; exact m10 q hq p hp
theorem q_ill (ht : tOK t) (hw : wOK t w) (rt : RT t trades people needs yields skips) (rc : RC t w round fell ills skills places stores lacked helpers favours wheel) (rn : RN t mtrades mpeople need made mskips tunes) (rm : RM t w s) (i1 : Int32) :
    ∃ r il' s' w', fX4_ill N ills people i1 = some (r, il') ∧ fX5_ill N thrown mpeople s i1 = some (r, 0, s') ∧ wOK t w' ∧ RC t w' round fell il' skills places stores lacked helpers favours wheel ∧ RM t w' s' := by
  have hP : tP t ≤ 6 := ht.2.1
  unfold fX4_ill fX5_ill
  rw [isPerson_e, isPersonX_e, rt.2.1, rn.2.1]
  rcases rngT i1 (tP t) hP with ⟨p, hp, rfl, h⟩ | h
  · have hp6 : p < 6 := by omega
    have e8 := rm.2.2.2.2.2.2.2.1
    rw [h N, b1_s, b1_s]
    try simp only [if10, if00, if10', if00']
    rw [rc.2.2.1, isIll_s N hw.2.1 hp6, isIllM_s e8 hw.2.1 hp6, b1_s, b1_s, c32, sgd (by decide) (by decide), sgd (by decide) (by decide), sgd (by decide) (by decide), sgd (by decide) (by decide), sclamp (by decide), e8, ill_or hw.2.1 hp6]
    cases hb : Nat.testBit (wIl w) p with
    | true =>
      have e := or_same ⟨wIl w, hw.2.1⟩ ⟨p, hp6⟩ hb
      refine ⟨_, _, _, wIll w p, rfl, rfl, wIll_ok ht hw hp, RC_ill rc ?_, RM_ill ht rm rfl⟩
      exact congrArg nI e.symm
    | false =>
      refine ⟨_, _, _, wIll w p, ?_, rfl, wIll_ok ht hw hp, RC_ill rc rfl, RM_ill ht rm rfl⟩
      rw [if_pos (show nI (if false = true then 1 else 0) = (0 : Int32) from rfl)]
      unfold fX3_fallIll
      rw [ill_or hw.2.1 hp6, b1_s]
  · rw [h N, b1_s, b1_s]
    try simp only [if10, if00, if10', if00']
    exact ⟨_, _, _, w, rfl, rfl, hw, rc, rm⟩
theorem q_help (hN : 7 ≤ N) (ht : tOK t) (hw : wOK t w) (rt : RT t trades people needs yields skips) (rc : RC t w round fell ills skills places stores lacked helpers favours wheel) (rn : RN t mtrades mpeople need made mskips tunes) (rm : RM t w s) (i1 i2 : Int32) :
    ∃ r he' s' w', fX4_help N helpers people i1 i2 = some (r, he') ∧ fX5_help N thrown mpeople s i1 i2 = some (r, 0, s') ∧ wOK t w' ∧ RC t w' round fell ills skills places stores lacked he' favours wheel ∧ RM t w' s' := by
  have hP : tP t ≤ 6 := ht.2.1
  have hT : tT t ≤ 6 := ht.1
  unfold fX4_help fX5_help
  rw [isPerson_e, isPerson_e, rt.2.1, rn.2.1]
  rcases areTwo_s N (tP t) hP i1 i2 with ⟨a, b, ha, hb, hab, rfl, rfl, h1, h2, h3⟩ | ⟨h1, h2⟩
  · rw [h1, h2, h3, b1_s, b1_s, b1_s]
    try simp only [if10, if00, if10', if00']
    rw [ic (seq (by omega) (by omega)), if_neg hab, whomHelps_s hN ht hw rc rm ha, helperOf_s hN ht hw rfl rm.2.2.2.2.2.2.1 hb, b1_s, b1_s, m9e, c26, nI_add, sgd (by omega) (by decide), sgd (by omega) (by decide), sgd (by omega) (by decide), sclamp (by omega), sclamp (by omega), rc.2.2.2.2.2.2.2.1 b (by omega), sgd (by omega) (by decide)]
    rcases helps_at ht hw rm ha with ⟨e1, e2⟩ | ⟨q, hq, e1, e2, e3⟩
    · rw [if_pos e1, if_pos e1]
      by_cases h0 : wHp w b = 0
      · rw [if_pos h0, if_pos rfl, if_pos rfl]
        obtain ⟨d1, d2, d3, d4, d5, d6, d7, d8, d9, d10⟩ := rc
        obtain ⟨m1, m2, m3, m4, m5, m6, m7, m8, m9', m10⟩ := rm
        refine ⟨_, _, _, wHelp w a b, rfl, rfl, ?_, ?_, ?_⟩
        · refine ⟨hw.1, hw.2.1, hw.2.2.1, hw.2.2.2.1, hw.2.2.2.2.1, hw.2.2.2.2.2.1, fun q hq => ?_, fun q r hq hr => ?_, hw.2.2.2.2.2.2.2.2⟩
          · have h7 := hw.2.2.2.2.2.2.1 q hq
            show (if q = b then a + 1 else wHp w q) ≤ tP t ∧ (tP t ≤ q → (if q = b then a + 1 else wHp w q) = 0) ∧ (if q = b then a + 1 else wHp w q) ≠ q + 1
            by_cases e : q = b
            · rw [if_pos e]; exact ⟨by omega, fun _ => by omega, by omega⟩
            · rw [if_neg e]; exact h7
          · show (if q = b then a + 1 else wHp w q) = (if r = b then a + 1 else wHp w r) → (if q = b then a + 1 else wHp w q) ≠ 0 → q = r
            have e4 := e2 q hq
            have e5 := e2 r hr
            have h8 := hw.2.2.2.2.2.2.2.1 q r hq hr
            by_cases e : q = b
            · rw [if_pos e]
              by_cases e' : r = b
              · intro _ _; omega
              · rw [if_neg e']; intro z; exact absurd z.symm e5
            · rw [if_neg e]
              by_cases e' : r = b
              · rw [if_pos e']; intro z; exact absurd z e4
              · rw [if_neg e']; exact h8
        · refine ⟨d1, d2, d3, d4, d5, d6, d7, fun q hq => ?_, d9, d10⟩
          show upd helpers b (nI a) q = if (if q = b then a + 1 else wHp w q) = 0 then m9 else nI ((if q = b then a + 1 else wHp w q) - 1)
          by_cases e : q = b
          · subst e; rw [up_s, if_pos rfl, if_neg (by omega)]; rfl
          · rw [up_n e, if_neg e]; exact d8 q hq
        · refine ⟨?_, ?_, fun k hk => ?_, fun k hk => ?_, fun k hk => ?_, fun p hp => ?_, fun p hp => ?_, ?_, fun p hp k hk => ?_, fun q hq p hp => ?_⟩
          · rw [up_n (by omega)]; exact m1
          · rw [up_n (by omega)]; exact m2
          · rw [up_n (by omega)]; exact m3 k hk
          · rw [up_n (by omega)]; exact m4 k hk
          · rw [up_n (by omega)]; exact m5 k hk
          · rw [up_n (by omega)]; exact m6 p hp
          · by_cases e : p = a
            · subst e
              refine Or.inr ⟨b, hb, up_s, ?_⟩
              show (if b = b then p + 1 else wHp w b) = p + 1
              rw [if_pos rfl]
            · rw [up_n (by omega)]
              rcases m7 p hp with ⟨f1, f2⟩ | ⟨q, hq, f1, f2⟩
              · refine Or.inl ⟨f1, fun q hq => ?_⟩
                show (if q = b then a + 1 else wHp w q) ≠ p + 1
                by_cases e' : q = b
                · rw [if_pos e']; omega
                · rw [if_neg e']; exact f2 q hq
              · refine Or.inr ⟨q, hq, f1, ?_⟩
                show (if q = b then a + 1 else wHp w q) = p + 1
                rw [if_neg (fun e' => by subst e'; omega)]; exact f2
          · rw [up_n (by omega)]; exact m8
          · rw [up_n (by omega)]; exact m9' p hp k hk
          · rw [up_n (by omega)]; exact m10 q hq p hp
      · have := (hw.2.2.2.2.2.2.1 b (by omega)).1
        rw [if_neg h0, ic (seqm (by omega)), if_neg id, ic (seqm (by omega)), if_neg id]
        exact ⟨_, _, _, w, rfl, rfl, hw, rc, rm⟩
    · rw [e1, ic (seqm (by omega)), if_neg id, ic (seqm (by omega)), if_neg id]
      exact ⟨_, _, _, w, rfl, rfl, hw, rc, rm⟩
  · rw [h1, b1_s]
    try simp only [if10, if00, if10', if00']
    refine ⟨_, _, s, w, rfl, ?_, hw, rc, rm⟩
    rcases h2 with h2 | ⟨h2, h3 | ⟨h3, rfl⟩⟩
    · rw [h2, b1_s]
      try simp only [if10, if00, if10', if00']
      all_goals rfl
    · rw [h2, h3, b1_s, b1_s]
      try simp only [if10, if00, if10', if00']
      all_goals rfl
    · rw [h2, b1_s, b1_s]
      try simp only [if10, if00, if10', if00']
      all_goals rfl
theorem q_oil (ht : tOK t) (hw : wOK t w) (rt : RT t trades people needs yields skips) (rc : RC t w round fell ills skills places stores lacked helpers favours wheel) (rn : RN t mtrades mpeople need made mskips tunes) (rm : RM t w s) (i1 : Int32) :
    ∃ r wh' s' w', fX4_oil N wheel trades i1 = some (r, wh') ∧ fX5_oil N thrown mtrades s i1 = some (r, 0, s') ∧ wOK t w' ∧ RC t w' round fell ills skills places stores lacked helpers favours wh' ∧ RM t w' s' := by
  have hT : tT t ≤ 6 := ht.1
  have hP : tP t ≤ 6 := ht.2.1
  unfold fX4_oil fX5_oil
  rw [isTrade_e, rt.1, rn.1]
  rcases rngT i1 (tT t) hT with ⟨k, hk, rfl, h⟩ | h
  · rw [h N, b1_s, b1_s]
    try simp only [if10, if00, if10', if00']
    rw [c1, ic (seq (by omega) (by omega)), ic (seq (by omega) (by omega))]
    by_cases h1 : tT t = 1
    · rw [if_pos h1, if_pos h1]
      exact ⟨_, _, _, w, rfl, rfl, hw, rc, rm⟩
    · obtain ⟨d1, d2, d3, d4, d5, d6, d7, d8, d9, d10⟩ := rc
      obtain ⟨m1, m2, m3, m4, m5, m6, m7, m8, m9', m10⟩ := rm
      have hb : bh (tT t) k < tT t := bh_lt (by omega)
      have hne : bh (tT t) k ≠ k := by unfold bh; split <;> omega
      have e3 : (nI k + nI 1) - (nI k + nI 1) / nI (tT t) * nI (tT t) = nI (bh (tT t) k) := rem_bh hk hT
      rw [if_neg h1, if_neg h1, behind_s N hT (by omega), b1_s, e3, c14, nI_add, nI_add, sgz (by omega) (by omega), sgd (by omega) (by decide), sgd (by omega) (by decide), sgd (by omega) (by decide), sgd (by omega) (by decide), sgd (by omega) (by decide), sclamp (by omega), sclamp (by omega)]
      unfold fX4_swap
      rw [sgd (by omega) (by decide), sgd (by omega) (by decide), sgd (by omega) (by decide), sgd (by omega) (by decide), b1_s, sgd (by omega) (by decide), sclamp (by omega), sclamp (by omega), sclamp (by omega), up_n (fun e => hne e.symm), up_s, up_n (by omega), up_s, d10 _ hb, d10 _ hk, m5 _ hb, m5 _ hk]
      refine ⟨_, _, _, wWheel w (fun j => if j = bh (tT t) k then wWh w k else if j = k then wWh w (bh (tT t) k) else wWh w j), rfl, rfl, ?_, ?_, ?_⟩
      · refine ⟨hw.1, hw.2.1, hw.2.2.1, hw.2.2.2.1, hw.2.2.2.2.1, hw.2.2.2.2.2.1, hw.2.2.2.2.2.2.1, hw.2.2.2.2.2.2.2.1, fun j hj => ?_⟩
        have h9 := hw.2.2.2.2.2.2.2.2
        show (if j = bh (tT t) k then wWh w k else if j = k then wWh w (bh (tT t) k) else wWh w j) < tT t
        split
        · exact h9 _ hk
        · split
          · exact h9 _ hb
          · exact h9 _ hj
      · refine ⟨d1, d2, d3, d4, d5, d6, d7, d8, d9, fun j hj => ?_⟩
        show upd (upd wheel k _) (bh (tT t) k) _ j = nI (if j = bh (tT t) k then wWh w k else if j = k then wWh w (bh (tT t) k) else wWh w j)
        by_cases e : j = bh (tT t) k
        · rw [if_pos e, e, up_s]
        · rw [if_neg e, up_n e]
          by_cases e' : j = k
          · rw [if_pos e', e', up_s]
          · rw [if_neg e', up_n e', d10 j hj]
      · refine ⟨?_, ?_, fun j hj => ?_, fun j hj => ?_, fun j hj => ?_, fun p hp => ?_, fun p hp => ?_, ?_, fun p hp j hj => ?_, fun q hq p hp => ?_⟩
        · rw [up_n (by omega), up_n (by omega)]; exact m1
        · rw [up_n (by omega), up_n (by omega)]; exact m2
        · rw [up_n (by omega), up_n (by omega)]; exact m3 j hj
        · rw [up_n (by omega), up_n (by omega)]; exact m4 j hj
        · show upd (upd s (14 + k) _) (14 + bh (tT t) k) _ (14 + j) = nI (if j = bh (tT t) k then wWh w k else if j = k then wWh w (bh (tT t) k) else wWh w j)
          by_cases e : j = bh (tT t) k
          · rw [if_pos e, e, up_s]
          · rw [if_neg e, up_n (by omega)]
            by_cases e' : j = k
            · rw [if_pos e', e', up_s]
            · rw [if_neg e', up_n (by omega), m5 j hj]
        · rw [up_n (by omega), up_n (by omega)]; exact m6 p hp
        · rw [up_n (by omega), up_n (by omega)]; exact m7 p hp
        · rw [up_n (by omega), up_n (by omega)]; exact m8
        · rw [up_n (by omega), up_n (by omega)]; exact m9' p hp j hj
        · rw [up_n (by omega), up_n (by omega)]; exact m10 q hq p hp
  · rw [h N, b1_s, b1_s]
    try simp only [if10, if00, if10', if00']
    exact ⟨_, _, _, w, rfl, rfl, hw, rc, rm⟩
theorem q_go (hN : 100 ≤ N) (ht : tOK t) (hw : wOK t w) (rt : RT t trades people needs yields skips) (ru : RU t fade winter fall) (rc : RC t w round fell ills skills places stores lacked helpers favours wheel) (rn : RN t mtrades mpeople need made mskips tunes) (rm : RM t w s) (i1 : Int32) :
    ∃ (r rd' fe' il' : Int32) (sk' pl' st' la' he' fa' wo' s' mk' mwo' : Nat → Int32) (w' : WS), fX4_go N fade winter fall round fell ills skills places stores lacked helpers favours wheel works trades people needs yields skips i1 = some (r, rd', fe', il', sk', pl', st', la', he', fa', wo') ∧ fX5_go N thrown mtrades mpeople need made mskips tunes s makes mworks i1 = some (r, 0, s', mk', mwo') ∧ wOK t w' ∧ RC t w' rd' fe' il' sk' pl' st' la' he' fa' wheel ∧ RM t w' s' := by
  have hT : tT t ≤ 6 := ht.1
  have h99 := hw.1
  have e12 : trades = mtrades := rt.1.trans rn.1.symm
  subst e12
  unfold fX4_go fX5_go
  rw [in_e]
  rcases rng i1 1 99 (by decide) (by decide) with ⟨n, hn1, hn2, rfl, h⟩ | ⟨h, _⟩
  · rw [c1, c99, h N, b1_s, b1_s]
    try simp only [if10, if00, if10', if00']
    rw [c0, sgd (by decide) (by decide), sclamp (by decide), rm.1, rc.1, ic (sle (by omega) (by omega)), ic (seq (by omega) (by omega))]
    by_cases h9 : 99 ≤ wRd w
    · rw [if_pos h9, if_pos (by omega), ← rc.1]
      exact ⟨_, _, _, _, _, _, _, _, _, _, _, _, _, _, w, rfl, rfl, hw, rc, rm⟩
    · rw [if_neg h9, if_neg (show ¬ wRd w = 99 by omega), rt.1, ic (seq (by omega) (by omega)), ic (seq (by omega) (by omega))]
      by_cases hz : tT t = 0
      · rw [if_pos hz, if_pos hz, ← rc.1]
        exact ⟨_, _, _, _, _, _, _, _, _, _, _, _, _, _, w, rfl, rfl, hw, rc, rm⟩
      · rw [if_neg hz, if_neg hz, ← rc.1, ← rt.1]
        obtain ⟨m, a1, a2, a3, a4, a5, a6, a7, a8, a9, a10, q1, q2, q3, q4⟩ := goRounds_s (works := works) hN ht hw rt ru rc (n := n) (en := 2147483647) (by omega) (by decide)
        obtain ⟨s', mk', wo', z, k1, k2⟩ := go_l (N := N) (by omega) ht hw (by omega) rn (c := n) (by omega) (min n (99 - wRd w)) 0 N (by omega) (by omega) s makes mworks rm
        have hm : m = min n (99 - wRd w) := by
          rcases q2 with q2 | q2
          · exact q2
          · have := tot_le (w := w) ht m
            omega
        subst hm
        have k1' : fX5_go_42 N trades mpeople need made mskips tunes (nI n) N s makes mworks (nI 0) (nI 0) = _ := k1
        have e7 : (2147483647 : Int32) = nI 2147483647 := rfl
        rw [e7, q3, k1']
        exact ⟨_, _, _, _, _, _, _, _, _, _, _, _, _, _, _, rfl, rfl, wn_ok ht hw _ (by omega), q4, k2⟩
  · rw [c1, c99, h N, b1_s, b1_s]
    try simp only [if10, if00, if10', if00']
    exact ⟨_, _, _, _, _, _, _, _, _, _, _, _, _, _, w, rfl, rfl, hw, rc, rm⟩
end
/-! call by call: sums, counts, tunes, anew -/
section
variable {N : Nat} {t : TS} {w : WS} {trades people fade winter fall round fell ills mtrades mpeople thrown typed len : Int32} {needs yields skips skills places stores lacked helpers favours wheel works need made mskips tunes s makes mworks : Nat → Int32}
theorem sums (hN : 7 ≤ N) {T base : Nat} (hT : T ≤ 6) (hb : base ≤ 90) {f s : Nat → Int32} (h : ∀ k, k < T → s (base + k) = f k) : ∃ r, fX4_sum N f (nI T) = some r ∧ fX5_sumOf N (nI T) s (nI base) = some r := by
  have key : ∀ (d i n : Nat), i + d = T → d < n → ∀ a : Int32, ∃ r z, fX4_sum_4 N f (nI T) n a (nI i) = some (r, z) ∧ fX5_sumOf_4 N (nI T) s (nI base) n a (nI i) = some (r, z) := by
    intro d
    induction d with
    | zero =>
      intro i n hi hn a
      obtain ⟨n, rfl⟩ : ∃ z, n = z + 1 := ⟨n - 1, by omega⟩
      exact ⟨a, nI i, by rw [fX4_sum_4_s, if_pos (nI_le (by omega) (by omega))], by rw [fX5_sumOf_4_s, if_pos (nI_le (by omega) (by omega))]⟩
    | succ d ih =>
      intro i n hi hn a
      obtain ⟨n, rfl⟩ : ∃ z, n = z + 1 := ⟨n - 1, by omega⟩
      obtain ⟨r, z, h1, h2⟩ := ih (i + 1) n (by omega) (by omega) (a + f i)
      refine ⟨r, z, ?_, ?_⟩
      · rw [fX4_sum_4_s, ic (sle (by omega) (by omega)), if_neg (by omega), sgd (by omega) (by decide), sclamp (by omega), c1, nI_add]; exact h1
      · rw [fX5_sumOf_4_s, ic (sle (by omega) (by omega)), if_neg (by omega), nI_add, sgd (by omega) (by decide), sclamp (by omega), c1, nI_add, h i (by omega)]; exact h2
  obtain ⟨r, z, h1, h2⟩ := key T 0 N (by omega) (by omega) 0
  refine ⟨r, ?_, ?_⟩
  · unfold fX4_sum
    have h1' : fX4_sum_4 N f (nI T) N (0 : Int32) (0 : Int32) = _ := h1
    rw [h1']; rfl
  · unfold fX5_sumOf
    have h2' : fX5_sumOf_4 N (nI T) s (nI base) N (0 : Int32) (0 : Int32) = _ := h2
    rw [h2']; rfl
theorem q_now (hN : 7 ≤ N) (ht : tOK t) (rt : RT t trades people needs yields skips) (rc : RC t w round fell ills skills places stores lacked helpers favours wheel) (rn : RN t mtrades mpeople need made mskips tunes) (rm : RM t w s) (i1 : Int32) :
    ∃ r, fX4_now N round fell stores lacked trades i1 = some r ∧ fX5_now N thrown mtrades s i1 = some (r, 0) := by
  have hT : tT t ≤ 6 := ht.1
  obtain ⟨r1, a1, a2⟩ := sums hN hT (base := 8) (by omega) (f := lacked) (s := s) (fun k hk => by rw [rm.2.2.2.1 k hk, rc.2.2.2.2.2.2.1 k hk])
  obtain ⟨r2, b1', b2'⟩ := sums hN hT (base := 2) (by omega) (f := stores) (s := s) (fun k hk => by rw [rm.2.2.1 k hk, rc.2.2.2.2.2.1 k hk])
  unfold fX4_now fX5_now
  rw [rt.1, rn.1, a1, b1', show (8 : Int32) = nI 8 from rfl, a2, show (2 : Int32) = nI 2 from rfl, b2', sgd_0, sgd_1, show (0 : Int32).toNatClampNeg = 0 from rfl, show (1 : Int32).toNatClampNeg = 1 from rfl, rm.1, rm.2.1, rc.1, rc.2.1]
  by_cases h0 : i1 = 0
  · rw [if_pos h0, if_pos h0]; exact ⟨_, rfl, rfl⟩
  · rw [if_neg h0, if_neg h0]
    by_cases h1 : i1 = 1
    · rw [if_pos h1, if_pos h1]; exact ⟨_, rfl, rfl⟩
    · rw [if_neg h1, if_neg h1]
      by_cases h2 : i1 = nI 2
      · rw [if_pos h2, if_pos h2]; exact ⟨_, rfl, rfl⟩
      · rw [if_neg h2, if_neg h2]
        by_cases h3 : i1 = 3
        · rw [if_pos h3, if_pos h3]; exact ⟨_, rfl, rfl⟩
        · rw [if_neg h3, if_neg h3]; exact ⟨_, rfl, rfl⟩
theorem q_anew {sk pl wh : Nat → Nat} {tskills tplaces twheel skillTold placeTold wheelTold : Nat → Int32} (hN : 106 ≤ N) (ht : tOK t) (rc : RC t w round fell ills skills places stores lacked helpers favours wheel) (rm : RM t w s) (rs : RS t sk pl wh tskills tplaces twheel skillTold placeTold wheelTold) :
    ∃ (r rd' fe' il' : Int32) (sk' pl' st' la' he' fa' wh' s' : Nat → Int32), fX4_anew N round fell ills skills places stores lacked helpers favours wheel tskills tplaces twheel = some (r, rd', fe', il', sk', pl', st', la', he', fa', wh') ∧ fX5_anew N thrown skillTold placeTold wheelTold s = some (r, 0, s') ∧ wOK t (w0 sk pl wh) ∧ RC t (w0 sk pl wh) rd' fe' il' sk' pl' st' la' he' fa' wh' ∧ RM t (w0 sk pl wh) s' := by
  obtain ⟨s', h1, h2⟩ := begins_s (s := s) hN ht rs
  obtain ⟨a1, a2, a3, a4, a5, a6, a7, a8, a9, a10, k1, k2⟩ := startAs_s (N := N) (round := round) (fell := fell) (ills := ills) (skills := skills) (places := places) (stores := stores) (lacked := lacked) (helpers := helpers) (favours := favours) (wheel := wheel) (by omega) ht rs
  refine ⟨round, a1, a2, a3, a4, a5, a6, a7, a8, a9, a10, s', ?_, ?_, rs.2.2.2, k2, h2⟩
  · unfold fX4_anew
    rw [k1, b10_s]
  · unfold fX5_anew
    rw [h1, sgd_0, b1_s, show (0 : Int32).toNatClampNeg = 0 from rfl, rm.1, rc.1]
def tTune (t : TS) (a b c : Nat) : TS := (t.1, t.2.1, t.2.2.1, t.2.2.2.1, t.2.2.2.2.1, a, b, c)
theorem tTune_ok {a b c : Nat} (ht : tOK t) (ha : a ≤ 9) (hb : b ≤ 20) (hc : 1 ≤ c) (hc2 : c ≤ 99) : tOK (tTune t a b c) := ⟨ht.1, ht.2.1, ht.2.2.1, ht.2.2.2.1, ha, hb, hc, hc2⟩
theorem q_tune (ht : tOK t) (ru : RU t fade winter fall) (rn : RN t mtrades mpeople need made mskips tunes) (i1 i2 : Int32) :
    ∃ r f' w' l' tu' a b c, fX4_tune N fade winter fall i1 i2 = some (r, f', w', l') ∧ fX5_tune N thrown tunes i1 i2 = some (r, 0, tu') ∧ tOK (tTune t a b c) ∧ RU (tTune t a b c) f' w' l' ∧ RN (tTune t a b c) mtrades mpeople need made mskips tu' := by
  obtain ⟨n1, n2, n3, n4, n5, n6, n7⟩ := id rn
  obtain ⟨u1, u2, u3⟩ := id ru
  have h5 := ht.2.2.2.2.1
  have h6 := ht.2.2.2.2.2.1
  have h7 := ht.2.2.2.2.2.2
  have same : ∃ a b c, tOK (tTune t a b c) ∧ RU (tTune t a b c) fade winter fall ∧ RN (tTune t a b c) mtrades mpeople need made mskips tunes := ⟨tFd t, tWi t, tFl t, ht, ru, rn⟩
  unfold fX4_tune fX5_tune
  rw [in_e]
  rcases rng i1 0 2 (by decide) (by decide) with ⟨j, _, hj, rfl, h⟩ | ⟨h, h3⟩
  · rw [show (0 : Int32) = nI 0 from rfl, show (2 : Int32) = nI 2 from rfl, h N, b1_s]
    try simp only [if10, if00, if10', if00']
    rcases (show j = 0 ∨ j = 1 ∨ j = 2 by omega) with rfl | rfl | rfl
    · rw [if_pos rfl, if_neg (by decide), if_pos rfl, in_e]
      rcases rng i2 0 9 (by decide) (by decide) with ⟨k, _, hk, rfl, h2⟩ | ⟨h2, _⟩
      · rw [show (9 : Int32) = nI 9 from rfl, h2 N, b1_s, b1_s]
        try simp only [if10, if00, if10', if00']
        rw [sgd (by decide) (by decide), sgd (by decide) (by decide), sclamp (by decide), n5, u1]
        refine ⟨_, _, _, _, _, k, tWi t, tFl t, rfl, rfl, tTune_ok ht hk h6 h7.1 h7.2, ⟨rfl, u2, u3⟩, n1, n2, n3, n4, up_s, ?_, ?_⟩
        · rw [up_n (by omega)]; exact n6
        · rw [up_n (by omega)]; exact n7
      · rw [show (9 : Int32) = nI 9 from rfl, h2 N, b1_s, b1_s]
        try simp only [if10, if00, if10', if00']
        obtain ⟨a, b, c, q⟩ := same
        exact ⟨_, _, _, _, _, a, b, c, rfl, rfl, q⟩
    · rw [if_neg (by decide), if_pos (by decide), if_neg (by decide), if_neg (by decide), if_pos (by decide), in_e]
      rcases rng i2 0 20 (by decide) (by decide) with ⟨k, _, hk, rfl, h2⟩ | ⟨h2, _⟩
      · rw [show (20 : Int32) = nI 20 from rfl, h2 N, b1_s, b1_s]
        try simp only [if10, if00, if10', if00']
        rw [sgd (by decide) (by decide), sgd (by decide) (by decide), sclamp (by decide), n6, u2]
        refine ⟨_, _, _, _, _, tFd t, k, tFl t, rfl, rfl, tTune_ok ht h5 hk h7.1 h7.2, ⟨u1, rfl, u3⟩, n1, n2, n3, n4, ?_, up_s, ?_⟩
        · rw [up_n (by omega)]; exact n5
        · rw [up_n (by omega)]; exact n7
      · rw [show (20 : Int32) = nI 20 from rfl, h2 N, b1_s, b1_s]
        try simp only [if10, if00, if10', if00']
        obtain ⟨a, b, c, q⟩ := same
        exact ⟨_, _, _, _, _, a, b, c, rfl, rfl, q⟩
    · rw [if_neg (by decide), if_neg (by decide), if_pos rfl, if_pos rfl, if_neg (by decide), if_neg (by decide), in_e]
      rcases rng i2 1 99 (by decide) (by decide) with ⟨k, hk1, hk, rfl, h2⟩ | ⟨h2, _⟩
      · rw [show (1 : Int32) = nI 1 from rfl, show (99 : Int32) = nI 99 from rfl, h2 N, b1_s, b1_s]
        try simp only [if10, if00, if10', if00']
        rw [sgd (by decide) (by decide), sgd (by decide) (by decide), sclamp (by decide), n7, u3]
        refine ⟨_, _, _, _, _, tFd t, tWi t, k, rfl, rfl, tTune_ok ht h5 h6 hk1 hk, ⟨u1, u2, rfl⟩, n1, n2, n3, n4, ?_, ?_, up_s⟩
        · rw [up_n (by omega)]; exact n5
        · rw [up_n (by omega)]; exact n6
      · rw [show (1 : Int32) = nI 1 from rfl, show (99 : Int32) = nI 99 from rfl, h2 N, b1_s, b1_s]
        try simp only [if10, if00, if10', if00']
        obtain ⟨a, b, c, q⟩ := same
        exact ⟨_, _, _, _, _, a, b, c, rfl, rfl, q⟩
  · rw [show (0 : Int32) = nI 0 from rfl, show (2 : Int32) = nI 2 from rfl, show (1 : Int32) = nI 1 from rfl, h N, b1_s]
    try simp only [if10, if00, if10', if00']
    rw [if_neg (h3 0 (by omega) (by omega)), if_neg (h3 1 (by omega) (by omega)), if_neg (h3 2 (by omega) (by omega))]
    obtain ⟨a, b, c, q⟩ := same
    exact ⟨_, _, _, _, _, a, b, c, rfl, rfl, q⟩
theorem bits6 : ∀ a : Fin 64, ∀ N : Nat, fJ6_bitCount_0f7a4 N (nI a.val) = some (nI ((if Nat.testBit a.val 0 then 1 else 0) + (if Nat.testBit a.val 1 then 1 else 0) + (if Nat.testBit a.val 2 then 1 else 0) + (if Nat.testBit a.val 3 then 1 else 0) + (if Nat.testBit a.val 4 then 1 else 0) + (if Nat.testBit a.val 5 then 1 else 0))) := by
  have h : ∀ a : Fin 64, fJ6_bitCount_0f7a4 0 (nI a.val) = some (nI ((if Nat.testBit a.val 0 then 1 else 0) + (if Nat.testBit a.val 1 then 1 else 0) + (if Nat.testBit a.val 2 then 1 else 0) + (if Nat.testBit a.val 3 then 1 else 0) + (if Nat.testBit a.val 4 then 1 else 0) + (if Nat.testBit a.val 5 then 1 else 0))) := by decide +kernel
  intro a N
  exact h a
/-- how many of the first n have c -/
def cnt (c : Nat → Bool) : Nat → Nat
  | 0 => 0
  | n + 1 => cnt c n + (if c n then 1 else 0)
theorem cnt_ext {c d : Nat → Bool} : ∀ n, (∀ k, k < n → c k = d k) → cnt c n = cnt d n
  | 0, _ => rfl
  | n + 1, h => by unfold cnt; rw [cnt_ext n (fun k hk => h k (by omega)), h n (by omega)]
theorem cnt_more {c : Nat → Bool} {n : Nat} : ∀ m, n ≤ m → (∀ k, n ≤ k → k < m → c k = false) → cnt c m = cnt c n
  | 0, h, _ => by have : n = 0 := by omega
                  subst this; rfl
  | m + 1, h, hc => by
    by_cases e : n = m + 1
    · subst e; rfl
    · show cnt c m + (if c m = true then 1 else 0) = _
      rw [hc m (by omega) (by omega), cnt_more m (by omega) (fun k h1 h2 => hc k h1 (by omega))]
      rfl
end
/-! call by call: counts, images, the text's bytes -/
def im (hp : Nat → Nat) : Nat → Nat → Bool
  | 0, _ => false
  | n + 1, p => im hp n p || decide (hp n = p + 1)
theorem im_f {hp : Nat → Nat} {p : Nat} : ∀ n, im hp n p = true ↔ ∃ q, q < n ∧ hp q = p + 1
  | 0 => by simp [im]
  | n + 1 => by
    unfold im
    rw [Bool.or_eq_true, im_f n, decide_eq_true_eq]
    constructor
    · rintro (⟨q, h1, h2⟩ | h)
      · exact ⟨q, by omega, h2⟩
      · exact ⟨n, by omega, h⟩
    · rintro ⟨q, h1, h2⟩
      by_cases e : q = n
      · subst e; exact Or.inr h2
      · exact Or.inl ⟨q, by omega, h2⟩
theorem cnt_or {c : Nat → Bool} {p0 : Nat} (h0 : c p0 = false) : ∀ n, cnt (fun p => c p || decide (p0 = p)) n = cnt c n + (if p0 < n then 1 else 0)
  | 0 => rfl
  | n + 1 => by
    unfold cnt
    rw [cnt_or h0 n]
    by_cases e : p0 = n
    · subst e
      rw [h0, if_neg (Nat.lt_irrefl p0), if_pos (Nat.lt_succ_self p0)]
      simp
    · simp only [decide_eq_false e, Bool.or_false]
      have e2 : (p0 < n) = (p0 < n + 1) := propext ⟨fun h => by omega, fun h => by omega⟩
      rw [ic e2]
      exact Nat.add_right_comm _ _ _
theorem cnt_im {hp : Nat → Nat} {P : Nat} (hin : ∀ q r, q < 6 → r < 6 → hp q = hp r → hp q ≠ 0 → q = r) (hle : ∀ q, q < 6 → hp q ≤ P) : ∀ n, n ≤ 6 → cnt (fun q => decide (hp q ≠ 0)) n = cnt (im hp n) P
  | 0, _ => by
    have : ∀ m, cnt (im hp 0) m = 0 := by
      intro m
      induction m with
      | zero => rfl
      | succ m ih => unfold cnt; rw [ih]; rfl
    rw [this]
    rfl
  | n + 1, hn => by
    have ih := cnt_im hin hle n (by omega)
    show cnt (fun q => decide (hp q ≠ 0)) n + (if decide (hp n ≠ 0) = true then 1 else 0) = _
    rw [ih]
    by_cases h0 : hp n = 0
    · rw [if_neg (by simp [h0]), Nat.add_zero]
      refine cnt_ext P (fun p _ => ?_)
      show im hp n p = (im hp n p || decide (hp n = p + 1))
      rw [decide_eq_false (by omega), Bool.or_false]
    · rw [if_pos (by simp [h0])]
      have hl := hle n (by omega)
      have hf : im hp n (hp n - 1) = false := by
        cases hb : im hp n (hp n - 1) with
        | false => rfl
        | true =>
          obtain ⟨q, h1, h2⟩ := (im_f n).mp hb
          have := hin n q (by omega) (by omega) (by omega) h0
          omega
      have e := cnt_or (c := im hp n) (p0 := hp n - 1) hf P
      rw [if_pos (by omega)] at e
      rw [← e]
      refine cnt_ext P (fun p _ => ?_)
      show (im hp n p || decide (hp n - 1 = p)) = (im hp n p || decide (hp n = p + 1))
      congr 1
      rw [Bool.eq_iff_iff, decide_eq_true_eq, decide_eq_true_eq]
      omega
section
variable {N : Nat} {t : TS} {w : WS} {trades people fade winter fall round fell ills mtrades mpeople thrown typed len : Int32} {needs yields skips skills places stores lacked helpers favours wheel works need made mskips tunes s makes mworks : Nat → Int32}
theorem helpsTold_s (hN : 7 ≤ N) (hw : wOK t w) (ht : tOK t) (rc : RC t w round fell ills skills places stores lacked helpers favours wheel) : fX3_helpsTold N helpers = some (nI (cnt (fun q => decide (wHp w q ≠ 0)) 6)) := by
  have hP : tP t ≤ 6 := ht.2.1
  have d8 := rc.2.2.2.2.2.2.2.1
  have key := lpN (fun n (z : Int32 × Int32) => fX3_helpsTold_4 N helpers n z.1 z.2) (fun k => (nI (cnt (fun q => decide (wHp w q ≠ 0)) k), nI k)) 6 _
    (fun n q hq => by
      show fX3_helpsTold_4 N helpers (n + 1) _ (nI q) = fX3_helpsTold_4 N helpers n (nI (cnt (fun q => decide (wHp w q ≠ 0)) q + (if decide (wHp w q ≠ 0) = true then 1 else 0))) (nI (q + 1))
      dsimp only
      have h7 := hw.2.2.2.2.2.2.1 q hq
      rw [fX3_helpsTold_4_s, c6, ic (sle (by omega) (by omega)), if_neg (by omega), sgd (by omega) (by decide), sclamp (by omega), d8 q hq, m9e, c1, nI_add, nI_add]
      by_cases h0 : wHp w q = 0
      · rw [if_pos h0, if_pos rfl, if_neg (by simp [h0])]; rfl
      · rw [if_neg h0, ic (seqm (by omega)), if_neg id, if_pos (by simp [h0])])
    (fun n => by
      show fX3_helpsTold_4 N helpers (n + 1) _ (nI 6) = _
      dsimp only
      rw [fX3_helpsTold_4_s, c6, ic (sle (by omega) (by omega)), if_pos (Nat.le_refl _)])
    6 0 (by omega) N (by omega)
  unfold fX3_helpsTold
  rw [c0]
  have key' : fX3_helpsTold_4 N helpers N (nI 0) (nI 0) = _ := key
  rw [key', b2_s]
theorem q_count (hN : 7 ≤ N) (ht : tOK t) (hw : wOK t w) (rt : RT t trades people needs yields skips) (rc : RC t w round fell ills skills places stores lacked helpers favours wheel) (rn : RN t mtrades mpeople need made mskips tunes) (rm : RM t w s) (hl : len = typed) (i1 : Int32) :
    ∃ r, fX4_count N len ills helpers trades people i1 = some r ∧ fX5_count N thrown typed mtrades mpeople s i1 = some (r, 0) := by
  have hP : tP t ≤ 6 := ht.2.1
  have hT : tT t ≤ 6 := ht.1
  have e8 := rm.2.2.2.2.2.2.2.1
  have key := lpN (fun n (z : Int32 × Int32 × Int32) => fX5_count_12 N mpeople s n z.1 z.2.1 z.2.2) (fun k => (nI (cnt (im (wHp w) 6) k), nI (cnt (fun p => Nat.testBit (wIl w) p) k), nI k)) (tP t) _
    (fun n p hp => by
      show fX5_count_12 N mpeople s (n + 1) _ _ (nI p) = fX5_count_12 N mpeople s n (nI (cnt (im (wHp w) 6) p + (if im (wHp w) 6 p = true then 1 else 0))) (nI (cnt (fun p => Nat.testBit (wIl w) p) p + (if Nat.testBit (wIl w) p = true then 1 else 0))) (nI (p + 1))
      dsimp only
      rw [fX5_count_12_s, rn.2.1, ic (sle (by omega) (by omega)), if_neg (by omega), ← rn.2.1, c26, nI_add, sgd (by omega) (by decide), sclamp (by omega), isIllM_s e8 hw.2.1 (by omega), b1_s, b1_s, m9e, c1, c0, nI_add, nI_add, nI_add, nI_add, nI_add]
      rcases helps_at ht hw rm hp with ⟨h1, h2⟩ | ⟨q, hq, h1, h2, h3⟩
      · have hf : im (wHp w) 6 p = false := by
          cases hb : im (wHp w) 6 p with
          | false => rfl
          | true => obtain ⟨q, h3, h4⟩ := (im_f 6).mp hb; exact absurd h4 (h2 q h3)
        rw [if_pos h1, hf]
        cases Nat.testBit (wIl w) p <;> rfl
      · have hf : im (wHp w) 6 p = true := (im_f 6).mpr ⟨q, by omega, h2⟩
        rw [h1, ic (seqm (by omega)), if_neg id, hf]
        cases Nat.testBit (wIl w) p <;> rfl)
    (fun n => by
      show fX5_count_12 N mpeople s (n + 1) _ _ (nI (tP t)) = _
      dsimp only
      rw [fX5_count_12_s, rn.2.1, ic (sle (by omega) (by omega)), if_pos (Nat.le_refl _)])
    (tP t) 0 (by omega) N (by omega)
  have key' : fX5_count_12 N mpeople s N (nI 0) (nI 0) (nI 0) = _ := key
  have c1' := cnt_im (P := tP t) (hw.2.2.2.2.2.2.2.1) (fun q hq => (hw.2.2.2.2.2.2.1 q hq).1) 6 (Nat.le_refl _)
  have c2' : cnt (fun p => Nat.testBit (wIl w) p) 6 = cnt (fun p => Nat.testBit (wIl w) p) (tP t) := cnt_more 6 hP (fun k h1 _ => hw.2.2.1 k h1)
  have c3' : (if Nat.testBit (wIl w) 0 then 1 else 0) + (if Nat.testBit (wIl w) 1 then 1 else 0) + (if Nat.testBit (wIl w) 2 then 1 else 0) + (if Nat.testBit (wIl w) 3 then 1 else 0) + (if Nat.testBit (wIl w) 4 then 1 else 0) + (if Nat.testBit (wIl w) 5 then 1 else 0) = cnt (fun p => Nat.testBit (wIl w) p) 6 := by
    simp [cnt]
  unfold fX4_count fX5_count
  rw [helpsTold_s hN hw ht rc, rc.2.2.1, bits6 ⟨wIl w, hw.2.1⟩ N, c0, key', b3_s, b1_s, b1_s, c3', c1', c2', rt.1, rt.2.1, rn.1, rn.2.1, hl]
  by_cases h0 : i1 = nI 0
  · rw [if_pos h0, if_pos h0]; exact ⟨_, rfl, rfl⟩
  · rw [if_neg h0, if_neg h0]
    by_cases h1 : i1 = 1
    · rw [if_pos h1, if_pos h1]; exact ⟨_, rfl, rfl⟩
    · rw [if_neg h1, if_neg h1]
      by_cases h2 : i1 = 2
      · rw [if_pos h2, if_pos h2]; exact ⟨_, rfl, rfl⟩
      · rw [if_neg h2, if_neg h2]
        by_cases h3 : i1 = 3
        · rw [if_pos h3, if_pos h3]; exact ⟨_, rfl, rfl⟩
        · rw [if_neg h3, if_neg h3]
          by_cases h4 : i1 = 4
          · rw [if_pos h4, if_pos h4]; exact ⟨_, rfl, rfl⟩
          · rw [if_neg h4, if_neg h4]; exact ⟨_, rfl, rfl⟩
end
/-! images -/
def RI (t : TS) (i : Nat) (kept isKept mkept : Nat → Int32) (round fell ills : Int32) (skills places stores lacked helpers favours wheel : Nat → Int32) : Prop := (kept i = nI 0 ∧ isKept i = nI 0) ∨ (kept i = nI 1 ∧ isKept i = nI 1 ∧ ∃ w', wOK t w' ∧ RC t w' round fell ills skills places stores lacked helpers favours wheel ∧ RM t w' (fun j => mkept (105 * i + j)))
theorem c105' : (105 : Int32) = nI 105 := rfl
theorem nb1 : vp_nar .boolean (1 : Int32) = nI 1 := rfl
theorem nb0 : vp_nar .boolean (0 : Int32) = nI 0 := rfl
section
variable {N : Nat} {t : TS} {w : WS} {trades people fade winter fall round fell ills mtrades mpeople thrown typed len r0 f0 i0 r1 f1 j1 : Int32} {needs yields skips skills places stores lacked helpers favours wheel works need made mskips tunes s makes mworks kept isKept mkept a1 a2 a3 a4 a5 a6 a7 b1' b2' b3' b4' b5' b6' b7' : Nat → Int32}
theorem keep_l (hN : 106 ≤ N) {i : Nat} (hi : i < 2) : ∃ k', (∃ z, fX5_keep_18 N s (nI i) N mkept (nI 0) = some (k', z)) ∧ (∀ j, j < 105 → k' (105 * i + j) = s j) ∧ ∀ j, (j < 105 * i ∨ 105 * i + 105 ≤ j) → k' j = mkept j := by
  have key := lpI (fun n (z : (Nat → Int32) × Int32) => fX5_keep_18 N s (nI i) n z.1 z.2)
    (fun k z => ((∀ j, j < k → z.1 (105 * i + j) = s j) ∧ ∀ j, (j < 105 * i ∨ 105 * i + 105 ≤ j) → z.1 j = mkept j) ∧ z.2 = nI k)
    (fun r => (∀ j, j < 105 → r.1 (105 * i + j) = s j) ∧ ∀ j, (j < 105 * i ∨ 105 * i + 105 ≤ j) → r.1 j = mkept j) 105
    (fun n k z hk hz => by
      obtain ⟨s1, l1⟩ := z
      obtain ⟨⟨h1, h3⟩, h2⟩ := hz
      simp only [] at h1 h2 h3
      subst h2
      dsimp only
      rw [fX5_keep_18_s, c105, ic (sle (by omega) (by omega)), if_neg (by omega), pk_mul, nI_add, sgd (by omega) (by decide), sgd (by omega) (by decide), sclamp (by omega), sclamp (by omega), c1, nI_add]
      refine ⟨(_, nI (k + 1)), rfl, ⟨fun j hj => ?_, fun j hj => ?_⟩, rfl⟩
      · show upd _ _ _ _ = _
        by_cases e : j = k
        · subst e; rw [up_s]
        · rw [up_n (by omega), h1 j (by omega)]
      · show upd _ _ _ _ = _
        rw [up_n (by omega), h3 j hj])
    (fun n z hz => by
      obtain ⟨s1, l1⟩ := z
      obtain ⟨h1, h2⟩ := hz
      simp only [] at h1 h2
      subst h2
      dsimp only
      refine ⟨(s1, nI 105), ?_, h1⟩
      rw [fX5_keep_18_s, c105, ic (sle (by omega) (by omega)), if_pos (Nat.le_refl _)])
    105 0 (by omega) N (by omega) (mkept, nI 0) ⟨⟨fun j hj => by omega, fun j _ => rfl⟩, rfl⟩
  obtain ⟨⟨k', z⟩, h1, h2, h3⟩ := key
  exact ⟨k', ⟨z, h1⟩, h2, h3⟩
theorem back_l (hN : 106 ≤ N) {i : Nat} (hi : i < 2) : ∃ s', (∃ z, fX5_back_30 N mkept (nI i) N s (nI 0) = some (s', z)) ∧ (∀ j, j < 105 → s' j = mkept (105 * i + j)) := by
  have key := lpN (fun n (z : (Nat → Int32) × Int32) => fX5_back_30 N mkept (nI i) n z.1 z.2) (fun k => (ov (fun j => decide (j < k)) s (fun j => mkept (105 * i + j)), nI k)) 105 _
    (fun n k hk => by
      show fX5_back_30 N mkept (nI i) (n + 1) _ (nI k) = _
      dsimp only
      have cc : ∀ j, decide (j < k + 1) = (decide (j < k) || decide (j = k)) := fun j => by rw [Bool.eq_iff_iff]; simp only [decide_eq_true_eq, Bool.or_eq_true]; omega
      rw [fX5_back_30_s, c105, ic (sle (by omega) (by omega)), if_neg (by omega), pk_mul, nI_add, sgd (by omega) (by decide), sgd (by omega) (by decide), sclamp (by omega), sclamp (by omega), c1, nI_add, ov_upd (c' := fun j => decide (j < k + 1)) (v := fun j => mkept (105 * i + j)) rfl cc])
    (fun n => by
      show fX5_back_30 N mkept (nI i) (n + 1) _ (nI 105) = _
      dsimp only
      rw [fX5_back_30_s, c105, ic (sle (by omega) (by omega)), if_pos (Nat.le_refl _)])
    105 0 (by omega) N (by omega)
  have h0 : ov (fun j => decide (j < 0)) s (fun j => mkept (105 * i + j)) = s := ov_0 (fun j => by simp)
  simp only [h0] at key
  exact ⟨_, ⟨_, key⟩, fun j hj => ov_v (by simp [hj])⟩
theorem q_keep (hN : 106 ≤ N) (ht : tOK t) (hw : wOK t w) (rc : RC t w round fell ills skills places stores lacked helpers favours wheel) (rm : RM t w s) (g0 : RI t 0 kept isKept mkept r0 f0 i0 a1 a2 a3 a4 a5 a6 a7) (g1 : RI t 1 kept isKept mkept r1 f1 j1 b1' b2' b3' b4' b5' b6' b7') (i1 : Int32) :
    ∃ r r0' f0' i0' x1 x2 x3 x4 x5 x6 x7 r1' f1' j1' y1 y2 y3 y4 y5 y6 y7 kept' mkept' isKept', fX4_keep N round fell ills skills places stores lacked helpers favours wheel r0 f0 i0 a1 a2 a3 a4 a5 a6 a7 r1 f1 j1 b1' b2' b3' b4' b5' b6' b7' kept i1 = some (r, r0', f0', i0', x1, x2, x3, x4, x5, x6, x7, r1', f1', j1', y1, y2, y3, y4, y5, y6, y7, kept') ∧ fX5_keep N thrown s mkept isKept i1 = some (r, 0, mkept', isKept') ∧ RI t 0 kept' isKept' mkept' r0' f0' i0' x1 x2 x3 x4 x5 x6 x7 ∧ RI t 1 kept' isKept' mkept' r1' f1' j1' y1 y2 y3 y4 y5 y6 y7 := by
  unfold fX4_keep fX5_keep
  rw [in_e]
  rcases rng i1 0 1 (by decide) (by decide) with ⟨i, _, hi, rfl, h⟩ | ⟨h, _⟩
  · have e0 := rm.1
    obtain ⟨k', ⟨z, q1⟩, q2, q3⟩ := keep_l (N := N) (s := s) (mkept := mkept) hN (i := i) (by omega)
    rw [show (0 : Int32) = nI 0 from rfl, show (1 : Int32) = nI 1 from rfl, h N, b1_s, b1_s]
    try simp only [if10, if00, if10', if00']
    rw [q1, b2_s, sgd (by omega) (by decide), sgd (by omega) (by decide), sgd (by omega) (by decide), sclamp (by omega), sclamp (by omega), e0, show vp_nar .boolean (nI 1) = nI 1 from rfl]
    rcases (show i = 0 ∨ i = 1 by omega) with rfl | rfl
    · obtain ⟨x1, x2, x3, x4, x5, x6, x7, k1, k2⟩ := becomes_s (N := N) (r2 := r0) (f2 := f0) (i2 := i0) (x1 := a1) (x2 := a2) (x3 := a3) (x4 := a4) (x5 := a5) (x6 := a6) (x7 := a7) ht rc
      rw [if_pos rfl, k1, b10_s, sgd (by omega) (by decide), rc.1]
      refine ⟨_, _, _, _, _, _, _, _, _, _, _, _, _, _, _, _, _, _, _, _, _, _, _, _, rfl, rfl, ?_, ?_⟩
      · refine Or.inr ⟨up_s, up_s, w, hw, rc.1 ▸ k2, RM_congr ht (fun j hj => ?_) rm⟩
        exact q2 j hj
      · rcases g1 with ⟨u1, u2⟩ | ⟨u1, u2, w', u3, u4, u5⟩
        · exact Or.inl ⟨by rw [up_n (by omega)]; exact u1, by rw [up_n (by omega)]; exact u2⟩
        · exact Or.inr ⟨by rw [up_n (by omega)]; exact u1, by rw [up_n (by omega)]; exact u2, w', u3, u4, RM_congr ht (fun j hj => q3 _ (by omega)) u5⟩
    · obtain ⟨x1, x2, x3, x4, x5, x6, x7, k1, k2⟩ := becomes_s (N := N) (r2 := r1) (f2 := f1) (i2 := j1) (x1 := b1') (x2 := b2') (x3 := b3') (x4 := b4') (x5 := b5') (x6 := b6') (x7 := b7') ht rc
      rw [if_neg (by decide), if_pos rfl, k1, b10_s, sgd (by omega) (by decide), rc.1]
      refine ⟨_, _, _, _, _, _, _, _, _, _, _, _, _, _, _, _, _, _, _, _, _, _, _, _, rfl, rfl, ?_, ?_⟩
      · rcases g0 with ⟨u1, u2⟩ | ⟨u1, u2, w', u3, u4, u5⟩
        · exact Or.inl ⟨by rw [up_n (by omega)]; exact u1, by rw [up_n (by omega)]; exact u2⟩
        · exact Or.inr ⟨by rw [up_n (by omega)]; exact u1, by rw [up_n (by omega)]; exact u2, w', u3, u4, RM_congr ht (fun j hj => q3 _ (by omega)) u5⟩
      · refine Or.inr ⟨up_s, up_s, w, hw, rc.1 ▸ k2, RM_congr ht (fun j hj => ?_) rm⟩
        exact q2 j hj
  · rw [show (0 : Int32) = nI 0 from rfl, show (1 : Int32) = nI 1 from rfl, h N, b1_s, b1_s]
    try simp only [if10, if00, if10', if00']
    exact ⟨_, _, _, _, _, _, _, _, _, _, _, _, _, _, _, _, _, _, _, _, _, _, _, _, rfl, rfl, g0, g1⟩
theorem q_back (hN : 106 ≤ N) (ht : tOK t) (hw : wOK t w) (rc : RC t w round fell ills skills places stores lacked helpers favours wheel) (rm : RM t w s) (g0 : RI t 0 kept isKept mkept r0 f0 i0 a1 a2 a3 a4 a5 a6 a7) (g1 : RI t 1 kept isKept mkept r1 f1 j1 b1' b2' b3' b4' b5' b6' b7') (i1 : Int32) :
    ∃ r r0' f0' i0' x1 x2 x3 x4 x5 x6 x7 s' w', fX4_back N round fell ills skills places stores lacked helpers favours wheel r0 f0 i0 a1 a2 a3 a4 a5 a6 a7 r1 f1 j1 b1' b2' b3' b4' b5' b6' b7' kept i1 = some (r, r0', f0', i0', x1, x2, x3, x4, x5, x6, x7) ∧ fX5_back N thrown s mkept isKept i1 = some (r, 0, s') ∧ wOK t w' ∧ RC t w' r0' f0' i0' x1 x2 x3 x4 x5 x6 x7 ∧ RM t w' s' := by
  unfold fX4_back fX5_back
  rw [in_e]
  rcases rng i1 0 1 (by decide) (by decide) with ⟨i, _, hi, rfl, h⟩ | ⟨h, _⟩
  · obtain ⟨s1, ⟨z, q1⟩, q2⟩ := back_l (N := N) (s := s) (mkept := mkept) hN (i := i) (by omega)
    rw [show (0 : Int32) = nI 0 from rfl, show (1 : Int32) = nI 1 from rfl, h N, b1_s, b1_s]
    try simp only [if10, if00, if10', if00']
    rw [q1, b2_s, sgd (by omega) (by decide), sgd (by omega) (by decide), sgd (by omega) (by decide), sgd (by omega) (by decide), sclamp (by omega), sclamp (by omega)]
    rcases (show i = 0 ∨ i = 1 by omega) with rfl | rfl
    · rcases g0 with ⟨u1, u2⟩ | ⟨u1, u2, w', u3, u4, u5⟩
      · rw [u1, u2, if_pos rfl, if_pos rfl]
        exact ⟨_, _, _, _, _, _, _, _, _, _, _, _, w, rfl, rfl, hw, rc, rm⟩
      · obtain ⟨x1, x2, x3, x4, x5, x6, x7, k1, k2⟩ := becomes_s (N := N) (r2 := round) (f2 := fell) (i2 := ills) (x1 := skills) (x2 := places) (x3 := stores) (x4 := lacked) (x5 := helpers) (x6 := favours) (x7 := wheel) ht u4
        have e1 : s1 0 = r0 := (q2 0 (by omega)).trans (u5.1.trans u4.1.symm)
        rw [u1, u2, if_neg (by decide), if_pos rfl, k1, b10_s, if_neg (by decide), e1]
        exact ⟨_, _, _, _, _, _, _, _, _, _, _, _, w', rfl, rfl, u3, k2, RM_congr ht (fun j hj => q2 j hj) u5⟩
    · rcases g1 with ⟨u1, u2⟩ | ⟨u1, u2, w', u3, u4, u5⟩
      · rw [u1, u2, if_pos rfl, if_pos rfl]
        exact ⟨_, _, _, _, _, _, _, _, _, _, _, _, w, rfl, rfl, hw, rc, rm⟩
      · obtain ⟨x1, x2, x3, x4, x5, x6, x7, k1, k2⟩ := becomes_s (N := N) (r2 := round) (f2 := fell) (i2 := ills) (x1 := skills) (x2 := places) (x3 := stores) (x4 := lacked) (x5 := helpers) (x6 := favours) (x7 := wheel) ht u4
        have e1 : s1 0 = r1 := (q2 0 (by omega)).trans (u5.1.trans u4.1.symm)
        rw [u1, u2, if_neg (by decide), if_neg (by decide), if_pos rfl, k1, b10_s, if_neg (by decide), e1]
        exact ⟨_, _, _, _, _, _, _, _, _, _, _, _, w', rfl, rfl, u3, k2, RM_congr ht (fun j hj => q2 j hj) u5⟩
  · rw [show (0 : Int32) = nI 0 from rfl, show (1 : Int32) = nI 1 from rfl, h N, b1_s, b1_s]
    try simp only [if10, if00, if10', if00']
    exact ⟨_, _, _, _, _, _, _, _, _, _, _, _, w, rfl, rfl, hw, rc, rm⟩
end
/-! the text's bytes -/
theorem and255 (y : Int64) : ∃ b, b < 256 ∧ (y &&& 255) = lN b := by
  refine ⟨(y &&& 255).toBitVec.toNat, ?_, ?_⟩
  · rw [Int64.toBitVec_and, BitVec.toNat_and]
    have : (255 : Int64).toBitVec.toNat = 255 := rfl
    rw [this]
    exact Nat.lt_of_le_of_lt Nat.and_le_right (by decide)
  · apply Int64.toBitVec_inj.mp
    show _ = BitVec.ofNat 64 _
    rw [BitVec.ofNat_toNat]
    simp
theorem sh8 : ∀ i : Fin 8, ((((8 : Int32) * nI i.val).toInt64 &&& 63).toBitVec.smod 64).toNat = 8 * i.val ∧ (((8 : Int32) * nI i.val).toInt64.toUInt64 &&& Int64.toUInt64 63).toNat % 64 = 8 * i.val := by decide +kernel
theorem byte_eq (x : Int64) {i : Nat} (hi : i < 8) : ((x.toUInt64 >>> (((8 : Int32) * nI i).toInt64.toUInt64 &&& Int64.toUInt64 63)).toInt64 &&& (255 : Int64)) = ((x >>> (((8 : Int32) * nI i).toInt64 &&& 63)) &&& (255 : Int64)) := by
  obtain ⟨h1, h2⟩ := sh8 ⟨i, hi⟩
  simp only at h1 h2
  apply Int64.toBitVec_inj.mp
  apply BitVec.eq_of_getLsbD_eq
  intro k hk
  rw [Int64.toBitVec_and, Int64.toBitVec_and, BitVec.getLsbD_and, BitVec.getLsbD_and]
  by_cases h8 : k < 8
  · congr 1
    rw [Int64.toBitVec_shiftRight]
    have e1 : (x.toUInt64 >>> (((8 : Int32) * nI i).toInt64.toUInt64 &&& Int64.toUInt64 63)).toInt64.toBitVec = x.toBitVec >>> ((((8 : Int32) * nI i).toInt64.toUInt64 &&& Int64.toUInt64 63).toNat % 64) := by
      show (x.toUInt64 >>> (((8 : Int32) * nI i).toInt64.toUInt64 &&& Int64.toUInt64 63)).toBitVec = _
      rw [UInt64.toBitVec_shiftRight]
      rfl
    rw [e1, h2, BitVec.getLsbD_ushiftRight]
    show _ = (x.toBitVec.sshiftRight' _).getLsbD k
    rw [BitVec.sshiftRight', BitVec.getLsbD_sshiftRight, h1]
    simp only [show ¬ 64 ≤ k by omega, decide_false, Bool.not_false, Bool.true_and, show 8 * i + k < 64 by omega, if_true]
  · have : (255 : Int64).toBitVec.getLsbD k = false := by
      have e : (255 : Int64).toBitVec = BitVec.ofNat 64 255 := rfl
      rw [e, BitVec.getLsbD_ofNat]
      have : Nat.testBit 255 k = false := by
        rw [show (255 : Nat) = 2 ^ 8 - 1 from rfl, Nat.testBit_two_pow_sub_one, decide_eq_false h8]
      rw [this, Bool.and_false]
    rw [this, Bool.and_false, Bool.and_false]
theorem lN_i' (b : Nat) : (lN b).toInt32 = nI b := lN_i b
theorem chr_s : ∀ b : Fin 256, vp_nar .char (((nI b.val).toUInt32 % 65536).toInt32) = nI b.val := by decide +kernel
/-- the text: so many bytes, the same on both sides -/
def RX (n : Nat) (len typed : Int32) (signs text : Nat → Int32) : Prop := n ≤ 400 ∧ len = nI n ∧ typed = nI n ∧ ∀ j, j < n → ∃ b, b < 256 ∧ signs j = nI b ∧ text j = nI b
theorem q_clear {N n : Nat} {len typed thrown : Int32} {signs text : Nat → Int32} (rx : RX n len typed signs text) : ∃ r, fX4_clear N len = some (r, 0) ∧ fX5_clear N thrown typed = some (r, 0, 0) ∧ RX 0 0 0 signs text := by
  refine ⟨len, rfl, ?_, by omega, rfl, rfl, fun j hj => by omega⟩
  unfold fX5_clear
  rw [rx.2.1, rx.2.2.1]
theorem q_type {N n : Nat} {len typed thrown : Int32} {signs text : Nat → Int32} (hN : 10 ≤ N) (rx : RX n len typed signs text) (v : Int64) (i3 : Int32) : ∃ r len' signs' typed' text' n', fX4_type N len signs v i3 = some (r, len', signs') ∧ fX5_type N thrown typed text v i3 = some (r, 0, typed', text') ∧ RX n' len' typed' signs' text' := by
  obtain ⟨h1, h2, h3, h4⟩ := id rx
  unfold fX4_type fX5_type
  rw [in_e]
  rcases rng i3 1 8 (by decide) (by decide) with ⟨k, hk1, hk2, rfl, h⟩ | ⟨h, _⟩
  · rw [show (1 : Int32) = nI 1 from rfl, show (8 : Int32) = nI 8 from rfl, h N, b1_s, b1_s]
    try simp only [if10, if00, if10', if00']
    rw [h2, h3, nI_add, c400, ic (sle (by omega) (by omega)), ic (sle (by omega) (by omega))]
    by_cases hf : n + k ≤ 400
    · have key : ∀ (d m nn : Nat) (sg tx : Nat → Int32), d ≤ 8 → m + d ≤ 400 → d < nn → RX m (nI m) (nI m) sg tx → ∃ sg' tx' z z', fX0_add_5 N v nn (nI m) sg (nI d - nI 1) = some (nI (m + d), sg', z) ∧ fX5_type_37 N v nn (nI m) tx (nI d - nI 1) = some (nI (m + d), tx', z') ∧ RX (m + d) (nI (m + d)) (nI (m + d)) sg' tx' := by
        intro d
        induction d with
        | zero =>
          intro m nn sg tx _ hm hn rx
          obtain ⟨nn, rfl⟩ : ∃ z, nn = z + 1 := ⟨nn - 1, by omega⟩
          have hneg : nI 0 - nI 1 < 0 := by decide
          exact ⟨sg, tx, _, _, by rw [fX0_add_5_s, if_pos hneg]; rfl, by rw [fX5_type_37_s, if_pos hneg]; rfl, rx⟩
        | succ d ih =>
          intro m nn sg tx hd hm hn rx
          obtain ⟨nn, rfl⟩ : ∃ z, nn = z + 1 := ⟨nn - 1, by omega⟩
          obtain ⟨b, hb, eb⟩ := and255 (v >>> (((8 : Int32) * nI d).toInt64 &&& 63))
          have e1 : nI (d + 1) - nI 1 = nI d := by rw [ssub (by omega)]; rfl
          have e2 : nI d + (-1 : Int32) = nI d - nI 1 := by
            rw [show (-1 : Int32) = -nI 1 from rfl, ← Int32.sub_eq_add_neg]
          have nn0 : ¬ nI d < 0 := nI_pos (by omega)
          have rx' : RX (m + 1) (nI (m + 1)) (nI (m + 1)) (upd sg m (nI b)) (upd tx m (nI b)) := by
            refine ⟨by omega, rfl, rfl, fun j hj => ?_⟩
            by_cases e : j = m
            · subst e; exact ⟨b, hb, up_s, up_s⟩
            · rw [up_n e, up_n e]; exact rx.2.2.2 j (by omega)
          obtain ⟨sg', tx', z, z', q1, q2, q3⟩ := ih (m + 1) nn (upd sg m (nI b)) (upd tx m (nI b)) (by omega) (by omega) (by omega) rx'
          have e3 : m + 1 + d = m + (d + 1) := by omega
          rw [e3] at q1 q2 q3
          refine ⟨sg', tx', z, z', ?_, ?_, q3⟩
          · rw [e1, fX0_add_5_s, if_neg nn0, c400, ic (sle (by omega) (by omega)), if_neg (by omega), sgd (by omega) (by decide), sclamp (by omega), byte_eq v (by omega), eb, lN_i', chr_s ⟨b, hb⟩, c1, nI_add, ← c1, e2]
            exact q1
          · rw [e1, fX5_type_37_s, if_neg nn0, sgd (by omega) (by decide), sclamp (by omega), eb, lN_i', c1, nI_add, ← c1, e2]
            exact q2
      obtain ⟨sg', tx', z, z', q1, q2, q3⟩ := key k n N signs text (by omega) hf (by omega) ⟨h1, rfl, rfl, h4⟩
      rw [if_pos hf, if_pos hf]
      unfold fX0_add
      rw [show (1 : Int32) = nI 1 from rfl, q1, q2]
      exact ⟨_, _, _, _, _, _, rfl, rfl, q3⟩
    · rw [if_neg hf, if_neg hf]
      exact ⟨_, _, _, _, _, n, rfl, rfl, h1, rfl, rfl, h4⟩
  · rw [show (1 : Int32) = nI 1 from rfl, show (8 : Int32) = nI 8 from rfl, h N, b1_s, b1_s]
    try simp only [if10, if00, if10', if00']
    exact ⟨_, _, _, _, _, n, rfl, rfl, rx⟩
/-! foretold: lacking -/
theorem isF (i1 i2 : Int32) : (∃ n j, 1 ≤ n ∧ n ≤ 40 ∧ j ≤ 1 ∧ i1 = nI n ∧ i2 = nI j ∧ ∀ N, fX4_isForetold N i1 i2 = some (nI 1) ∧ fX5_areRounds N i1 = some (nI 1) ∧ fX4_within N i2 (0 : Int32) (1 : Int32) = some (nI 1)) ∨ (∀ N, fX4_isForetold N i1 i2 = some (nI 0) ∧ (fX5_areRounds N i1 = some (nI 0) ∨ (fX5_areRounds N i1 = some (nI 1) ∧ fX4_within N i2 (0 : Int32) (1 : Int32) = some (nI 0)))) := by
  unfold fX4_isForetold fX5_areRounds
  have e40 : (40 : Int32) = nI 40 := rfl
  rcases rng i1 1 40 (by decide) (by decide) with ⟨n, h1, h2, rfl, h⟩ | ⟨h, _⟩
  · rcases rng i2 0 1 (by decide) (by decide) with ⟨j, _, h4, rfl, k⟩ | ⟨k, _⟩
    · refine Or.inl ⟨n, j, h1, h2, h4, rfl, rfl, fun N => ⟨?_, ?_, k N⟩⟩
      · rw [e40, c1, c0, h N, b1_s, if_neg (by decide), k N]; rfl
      · rw [in_e, e40, c1, h N]; rfl
    · refine Or.inr (fun N => ⟨?_, Or.inr ⟨?_, k N⟩⟩)
      · rw [e40, c1, c0, h N, b1_s, if_neg (by decide), k N]; rfl
      · rw [in_e, e40, c1, h N]; rfl
  · refine Or.inr (fun N => ⟨?_, Or.inl ?_⟩)
    · rw [e40, c1, h N]; rfl
    · rw [in_e, e40, c1, h N]; rfl
theorem anyI : (2147483647 : Int32) = nI 2147483647 := rfl
section
variable {N : Nat} {t : TS} {w : WS} {trades people fade winter fall round fell ills mtrades mpeople thrown falling : Int32} {needs yields skips skills places stores lacked helpers favours wheel works need made mskips tunes s makes mworks spare : Nat → Int32}
/-- how many rounds of n are left -/
def rl (w : WS) (n : Nat) : Nat := min n (99 - wRd w)
theorem rl_ok (hw : wOK t w) {n : Nat} : wRd w + rl w n ≤ 99 := by
  have := hw.1
  unfold rl
  omega
/-- rounds with `enough`: exact, where the answer is less than enough -/
theorem goRounds_e (hN : 100 ≤ N) (ht : tOK t) (hw : wOK t w) (rt : RT t trades people needs yields skips) (ru : RU t fade winter fall) (rc : RC t w round fell ills skills places stores lacked helpers favours wheel) {n en : Nat} (hn : n < 2147483648) (hen : en < 2147483648) :
    ∃ (v : Nat) (x : Int32 × Int32 × Int32 × (Nat → Int32) × (Nat → Int32) × (Nat → Int32) × (Nat → Int32) × (Nat → Int32) × (Nat → Int32) × (Nat → Int32) × (Nat → Int32)), fX3_goRounds N round fell ills skills places stores lacked helpers favours wheel works trades people needs yields skips fade winter fall (nI n) (nI en) = some (nI v, x.1, x.2.1, x.2.2.1, x.2.2.2.1, x.2.2.2.2.1, x.2.2.2.2.2.1, x.2.2.2.2.2.2.1, x.2.2.2.2.2.2.2.1, x.2.2.2.2.2.2.2.2.1, x.2.2.2.2.2.2.2.2.2.2) ∧ x.2.2.2.2.2.2.2.2.2.1 = wheel ∧ v < 2147483648 ∧ ((tot t w (rl w n) < en ∧ v = tot t w (rl w n) ∧ RC t (wn t w (rl w n)) x.1 x.2.1 x.2.2.1 x.2.2.2.1 x.2.2.2.2.1 x.2.2.2.2.2.1 x.2.2.2.2.2.2.1 x.2.2.2.2.2.2.2.1 x.2.2.2.2.2.2.2.2.1 wheel) ∨ (en ≤ tot t w (rl w n) ∧ en ≤ v)) := by
  obtain ⟨m, a1, a2, a3, a4, a5, a6, a7, a8, a9, a10, q1, q2, q3, q4⟩ := goRounds_s (works := works) hN ht hw rt ru rc hn hen
  have hle := tot_le (w := w) ht m
  have h99 := hw.1
  refine ⟨tot t w m, (a1, a2, a3, a4, a5, a6, a7, a8, a9, wheel, a10), q3, rfl, by omega, ?_⟩
  rcases q2 with q2 | q2
  · have e : m = rl w n := q2
    subst e
    by_cases h : tot t w (rl w n) < en
    · exact Or.inl ⟨h, rfl, q4⟩
    · exact Or.inr ⟨by omega, by omega⟩
  · have := tot_mono (t := t) (w := w) (a := m) (rl w n) q1
    exact Or.inr ⟨by omega, q2⟩
theorem goRounds_x (hN : 100 ≤ N) (ht : tOK t) (hw : wOK t w) (rt : RT t trades people needs yields skips) (ru : RU t fade winter fall) (rc : RC t w round fell ills skills places stores lacked helpers favours wheel) {n : Nat} (hn : n < 2147483648) :
    ∃ (x : Int32 × Int32 × Int32 × (Nat → Int32) × (Nat → Int32) × (Nat → Int32) × (Nat → Int32) × (Nat → Int32) × (Nat → Int32) × (Nat → Int32) × (Nat → Int32)), fX3_goRounds N round fell ills skills places stores lacked helpers favours wheel works trades people needs yields skips fade winter fall (nI n) (2147483647 : Int32) = some (nI (tot t w (rl w n)), x.1, x.2.1, x.2.2.1, x.2.2.2.1, x.2.2.2.2.1, x.2.2.2.2.2.1, x.2.2.2.2.2.2.1, x.2.2.2.2.2.2.2.1, x.2.2.2.2.2.2.2.2.1, x.2.2.2.2.2.2.2.2.2.2) ∧ RC t (wn t w (rl w n)) x.1 x.2.1 x.2.2.1 x.2.2.2.1 x.2.2.2.2.1 x.2.2.2.2.2.1 x.2.2.2.2.2.2.1 x.2.2.2.2.2.2.2.1 x.2.2.2.2.2.2.2.2.1 wheel := by
  obtain ⟨v, x, h1, h2, h3, h4⟩ := goRounds_e (works := works) hN ht hw rt ru rc (n := n) (en := 2147483647) hn (by decide)
  have hle := tot_le (w := w) ht (rl w n)
  have h99 := hw.1
  have hr : rl w n ≤ 99 := by unfold rl; omega
  rcases h4 with ⟨_, rfl, h6⟩ | ⟨h5, _⟩
  · exact ⟨x, by rw [anyI]; exact h1, h6⟩
  · omega
/-- a copy of the row is put aside, so many rounds go by, it is put back -/
theorem asideRun {w' : WS} {s' : Nat → Int32} (hN : 106 ≤ N) (ht : tOK t) (hw' : wOK t w') (hT0 : 0 < tT t) (rn : RN t mtrades mpeople need made mskips tunes) (rm' : RM t w' s') {c : Nat} (hc : c < 2147483648) : ∃ s1 mk1 wo1, fX5_lacksIn N mtrades mpeople falling need made mskips tunes s' makes mworks (nI c) = some (nI (tot t w' (rl w' c)), nI (wFe (wn t w' (rl w' c))) - nI (wFe w'), s1, mk1, wo1) ∧ RM t (wn t w' (rl w' c)) s1 := lacksIn_s (by omega) ht hw' hT0 rn rm' hc
theorem q_lacking (hN : 106 ≤ N) (ht : tOK t) (hw : wOK t w) (rt : RT t trades people needs yields skips) (ru : RU t fade winter fall) (rc : RC t w round fell ills skills places stores lacked helpers favours wheel) (rn : RN t mtrades mpeople need made mskips tunes) (rm : RM t w s) (ar af ai : Int32) (ask apl ast ala ahe afa awh awo : Nat → Int32) (i1 i2 : Int32) :
    ∃ r x fal s' sp' mk' wo', fX4_lacking N fade winter fall round fell ills skills places stores lacked helpers favours wheel ar af ai ask apl ast ala ahe afa awh awo trades people needs yields skips i1 i2 = some (r, x) ∧ fX5_lacking N thrown mtrades mpeople falling need made mskips tunes s spare makes mworks i1 i2 = some (r, 0, fal, s', sp', mk', wo') ∧ RM t w s' := by
  have hT : tT t ≤ 6 := ht.1
  have e12 : trades = mtrades := rt.1.trans rn.1.symm
  subst e12
  unfold fX4_lacking fX5_lacking
  rw [in_e]
  rcases isF i1 i2 with ⟨n, j, h1, h2, h3, rfl, rfl, h⟩ | h
  · obtain ⟨k1, k2, k3⟩ := h N
    rw [k1, k2, k3, b1_s, b1_s, b1_s]
    try simp only [if10, if00, if10', if00']
    rw [rt.1, c0, ic (seq (by omega) (by omega)), ic (seq (by omega) (by omega))]
    by_cases hz : tT t = 0
    · rw [if_pos hz, if_pos hz]
      exact ⟨_, _, _, _, _, _, _, rfl, rfl, rm⟩
    · rw [if_neg hz, if_neg hz, ← rt.1]
      obtain ⟨x1, x2, x3, x4, x5, x6, x7, p1, p2⟩ := becomes_s (N := N) (r2 := ar) (f2 := af) (i2 := ai) (x1 := ask) (x2 := apl) (x3 := ast) (x4 := ala) (x5 := ahe) (x6 := afa) (x7 := awh) ht rc
      obtain ⟨x, g1, g2⟩ := goRounds_x (N := N) (works := awo) (by omega) ht hw rt ru p2 (n := n) (by omega)
      obtain ⟨sp1, a1, a2⟩ := aside_1 (N := N) (s := s) (spare := spare) hN
      obtain ⟨s1, mk1, wo1, b1', b2'⟩ := asideRun (falling := falling) (makes := makes) (mworks := mworks) hN ht hw (by omega) rn rm (c := n) (by omega)
      obtain ⟨s2, d1, d2⟩ := aside_0 (N := N) (s := s1) (spare := sp1) hN
      have d1' : fX5_aside N s1 sp1 (nI 0) = _ := d1
      rw [p1, b10_s, g1, b11_s, c1, a1, b2_s, b1', b5_s, d1', b2_s, g2.2.1, rc.2.1]
      have rm2 : RM t w s2 := RM_congr ht (fun j hj => (d2 j hj).trans (a2 j hj)) rm
      rw [ic (seq (by omega) (by omega)), ic (seq (by omega) (by omega))]
      by_cases hj : j = 0
      · rw [if_pos hj, if_pos hj]
        exact ⟨_, _, _, _, _, _, _, rfl, rfl, rm2⟩
      · rw [if_neg hj, if_neg hj]
        exact ⟨_, _, _, _, _, _, _, rfl, rfl, rm2⟩
  · obtain ⟨k1, k2⟩ := h N
    rw [k1, b1_s]
    try simp only [if10, if00, if10', if00']
    rcases k2 with k2 | ⟨k2, k3⟩
    · rw [k2, b1_s]
      try simp only [if10, if00, if10', if00']
      exact ⟨_, _, _, _, _, _, _, rfl, rfl, rm⟩
    · rw [k2, k3, b1_s, b1_s]
      try simp only [if10, if00, if10', if00']
      exact ⟨_, _, _, _, _, _, _, rfl, rfl, rm⟩
end
