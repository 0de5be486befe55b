/-! call by call: what changes the world -/
theorem sh1 : ∀ k : Fin 6, (1 : Int32) <<< (nI k.val &&& 31) = nI (2 ^ k.val) := by decide +kernel
theorem or_s (a b : Nat) : nI a ||| nI b = nI (a ||| b) := by
  apply Int32.toBitVec_inj.mp
  have h : ∀ n : Nat, (nI n).toBitVec = BitVec.ofNat 32 n := fun n => rfl
  rw [Int32.toBitVec_or, h, h, h]
  exact (BitVec.ofNat_or).symm
theorem ill_or {il p : Nat} (h : il < 64) (hp : p < 6) : nI il ||| ((1 : Int32) <<< (nI p &&& 31)) = nI (il ||| 2 ^ p) := by
  rw [sh1 ⟨p, hp⟩, or_s]
theorem or_lt : ∀ a : Fin 64, ∀ p : Fin 6, a.val ||| 2 ^ p.val < 64 := by decide +kernel
theorem or_bit (a p q : Nat) : Nat.testBit (a ||| 2 ^ p) q = (Nat.testBit a q || decide (p = q)) := by
  rw [Nat.testBit_or, Nat.testBit_two_pow]
theorem or_same : ∀ a : Fin 64, ∀ p : Fin 6, Nat.testBit a.val p.val = true → a.val ||| 2 ^ p.val = a.val := by decide +kernel
/-- the world with one more ill -/
def wIll (w : WS) (p : Nat) : WS := (wRd w, wFe w, wIl w ||| 2 ^ p, wSk w, wPl w, wSt w, wLa w, wHp w, wFa w, wWh w)
def wHelp (w : WS) (p q : Nat) : WS := (wRd w, wFe w, wIl w, wSk w, wPl w, wSt w, wLa w, fun r => if r = q then p + 1 else wHp w r, wFa w, wWh w)
def wWheel (w : WS) (wh : Nat → Nat) : WS := (wRd w, wFe w, wIl w, wSk w, wPl w, wSt w, wLa w, wHp w, wFa w, wh)
theorem wIll_ok {t : TS} {w : WS} (ht : tOK t) (hw : wOK t w) {p : Nat} (hp : p < tP t) : wOK t (wIll w p) := by
  have hP : tP t ≤ 6 := ht.2.1
  refine ⟨hw.1, or_lt ⟨wIl w, hw.2.1⟩ ⟨p, by omega⟩, fun q hq => ?_, hw.2.2.2.1, hw.2.2.2.2.1, hw.2.2.2.2.2.1, hw.2.2.2.2.2.2.1, hw.2.2.2.2.2.2.2.1, hw.2.2.2.2.2.2.2.2⟩
  show Nat.testBit (wIl w ||| 2 ^ p) q = false
  rw [or_bit, hw.2.2.1 q hq, decide_eq_false (by omega)]
  rfl
section
variable {N : Nat} {t : TS} {w : WS} {trades people fade winter fall round fell ills mtrades mpeople thrown : Int32} {needs yields skips skills places stores lacked helpers favours wheel works need made mskips tunes s makes mworks : Nat → Int32}
theorem RC_ill (rc : RC t w round fell ills skills places stores lacked helpers favours wheel) {p : Nat} {x : Int32} (hx : x = nI (wIl w ||| 2 ^ p)) : RC t (wIll w p) round fell x skills places stores lacked helpers favours wheel := ⟨rc.1, rc.2.1, hx, rc.2.2.2⟩
theorem RM_ill (ht : tOK t) (rm : RM t w s) {p : Nat} {x : Int32} (hx : x = nI (wIl w ||| 2 ^ p)) : RM t (wIll w p) (upd s 32 x) := by
  have hP : tP t ≤ 6 := ht.2.1
  have hT : tT t ≤ 6 := ht.1
  obtain ⟨m1, m2, m3, m4, m5, m6, m7, m8, m9', m10⟩ := rm
  refine ⟨?_, ?_, fun k hk => ?_, fun k hk => ?_, fun k hk => ?_, fun p hp => ?_, fun p hp => ?_, ?_, fun p hp k hk => ?_, fun q hq p hp => ?_⟩
  · rw [up_n (by omega)]; exact m1
  · rw [up_n (by omega)]; exact m2
  · rw [up_n (by omega)]; exact m3 k hk
  · rw [up_n (by omega)]; exact m4 k hk
  · rw [up_n (by omega)]; exact m5 k hk
  · rw [up_n (by omega)]; exact m6 p hp
  · rw [up_n (by omega)]; exact m7 p hp
  · rw [up_s]; exact hx
  · rw [up_n (by omega)]; exact m9' p hp k hk
  · rw [up_n (by omega)]; exact m10 q hq p hp
theorem q_ill (ht : tOK t) (hw : wOK t w) (rt : RT t trades people needs yields skips) (rc : RC t w round fell ills skills places stores lacked helpers favours wheel) (rn : RN t mtrades mpeople need made mskips tunes) (rm : RM t w s) (i1 : Int32) :
    ∃ r il' s' w', fX4_ill N ills people i1 = some (r, il') ∧ fX5_ill N thrown mpeople s i1 = some (r, 0, s') ∧ wOK t w' ∧ RC t w' round fell il' skills places stores lacked helpers favours wheel ∧ RM t w' s' := by
  have hP : tP t ≤ 6 := ht.2.1
  unfold fX4_ill fX5_ill
  rw [isPerson_e, isPersonX_e, rt.2.1, rn.2.1]
  rcases rngT i1 (tP t) hP with ⟨p, hp, rfl, h⟩ | h
  · have hp6 : p < 6 := by omega
    have e8 := rm.2.2.2.2.2.2.2.1
    rw [h N, b1_s, b1_s]
    simp only [if10, if00, if10', if00']
    rw [rc.2.2.1, isIll_s N hw.2.1 hp6, isIllM_s e8 hw.2.1 hp6, b1_s, b1_s, c32, sgd (by decide) (by decide), sgd (by decide) (by decide), sgd (by decide) (by decide), sgd (by decide) (by decide), sclamp (by decide), e8, ill_or hw.2.1 hp6]
    cases hb : Nat.testBit (wIl w) p with
    | true =>
      have e := or_same ⟨wIl w, hw.2.1⟩ ⟨p, hp6⟩ hb
      refine ⟨_, _, _, wIll w p, rfl, rfl, wIll_ok ht hw hp, RC_ill rc ?_, RM_ill ht rm rfl⟩
      exact congrArg nI e.symm
    | false =>
      refine ⟨_, _, _, wIll w p, ?_, rfl, wIll_ok ht hw hp, RC_ill rc rfl, RM_ill ht rm rfl⟩
      rw [if_pos rfl]
      unfold fX3_fallIll
      rw [ill_or hw.2.1 hp6, b1_s]
      rfl
  · rw [h N, b1_s, b1_s]
    simp only [if10, if00, if10', if00']
    exact ⟨_, _, _, w, rfl, rfl, hw, rc, rm⟩
theorem q_help (hN : 7 ≤ N) (ht : tOK t) (hw : wOK t w) (rt : RT t trades people needs yields skips) (rc : RC t w round fell ills skills places stores lacked helpers favours wheel) (rn : RN t mtrades mpeople need made mskips tunes) (rm : RM t w s) (i1 i2 : Int32) :
    ∃ r he' s' w', fX4_help N helpers people i1 i2 = some (r, he') ∧ fX5_help N thrown mpeople s i1 i2 = some (r, 0, s') ∧ wOK t w' ∧ RC t w' round fell ills skills places stores lacked he' favours wheel ∧ RM t w' s' := by
  have hP : tP t ≤ 6 := ht.2.1
  have hT : tT t ≤ 6 := ht.1
  unfold fX4_help fX5_help
  rw [isPerson_e, isPerson_e, rt.2.1, rn.2.1]
  rcases areTwo_s N (tP t) hP i1 i2 with ⟨a, b, ha, hb, hab, rfl, rfl, h1, h2, h3⟩ | ⟨h1, h2⟩
  · rw [h1, h2, h3, b1_s, b1_s, b1_s]
    simp only [if10, if00, if10', if00']
    rw [ic (seq (by omega) (by omega)), if_neg hab, whomHelps_s hN ht hw rc rm ha, helperOf_s hN ht hw rfl rm.2.2.2.2.2.2.1 hb, b1_s, b1_s, m9e, c26, nI_add, sgd (by omega) (by decide), sgd (by omega) (by decide), sgd (by omega) (by decide), sclamp (by omega), sclamp (by omega), rc.2.2.2.2.2.2.2.1 b (by omega), sgd (by omega) (by decide)]
    rcases helps_at ht hw rm ha with ⟨e1, e2⟩ | ⟨q, hq, e1, e2, e3⟩
    · rw [if_pos e1, if_pos e1]
      by_cases h0 : wHp w b = 0
      · rw [if_pos h0, if_pos rfl, if_pos rfl]
        obtain ⟨d1, d2, d3, d4, d5, d6, d7, d8, d9, d10⟩ := rc
        obtain ⟨m1, m2, m3, m4, m5, m6, m7, m8, m9', m10⟩ := rm
        refine ⟨_, _, _, wHelp w a b, rfl, rfl, ?_, ?_, ?_⟩
        · refine ⟨hw.1, hw.2.1, hw.2.2.1, hw.2.2.2.1, hw.2.2.2.2.1, hw.2.2.2.2.2.1, fun q hq => ?_, fun q r hq hr => ?_, hw.2.2.2.2.2.2.2.2⟩
          · have h7 := hw.2.2.2.2.2.2.1 q hq
            show (if q = b then a + 1 else wHp w q) ≤ tP t ∧ (tP t ≤ q → (if q = b then a + 1 else wHp w q) = 0) ∧ (if q = b then a + 1 else wHp w q) ≠ q + 1
            by_cases e : q = b
            · rw [if_pos e]; exact ⟨by omega, fun _ => by omega, by omega⟩
            · rw [if_neg e]; exact h7
          · show (if q = b then a + 1 else wHp w q) = (if r = b then a + 1 else wHp w r) → (if q = b then a + 1 else wHp w q) ≠ 0 → q = r
            have e4 := e2 q hq
            have e5 := e2 r hr
            have h8 := hw.2.2.2.2.2.2.2.1 q r hq hr
            by_cases e : q = b
            · rw [if_pos e]
              by_cases e' : r = b
              · intro _ _; omega
              · rw [if_neg e']; intro z; exact absurd z.symm e5
            · rw [if_neg e]
              by_cases e' : r = b
              · rw [if_pos e']; intro z; exact absurd z e4
              · rw [if_neg e']; exact h8
        · refine ⟨d1, d2, d3, d4, d5, d6, d7, fun q hq => ?_, d9, d10⟩
          show upd helpers b (nI a) q = if (if q = b then a + 1 else wHp w q) = 0 then m9 else nI ((if q = b then a + 1 else wHp w q) - 1)
          by_cases e : q = b
          · subst e; rw [up_s, if_pos rfl, if_neg (by omega)]; rfl
          · rw [up_n e, if_neg e]; exact d8 q hq
        · refine ⟨?_, ?_, fun k hk => ?_, fun k hk => ?_, fun k hk => ?_, fun p hp => ?_, fun p hp => ?_, ?_, fun p hp k hk => ?_, fun q hq p hp => ?_⟩
          · rw [up_n (by omega)]; exact m1
          · rw [up_n (by omega)]; exact m2
          · rw [up_n (by omega)]; exact m3 k hk
          · rw [up_n (by omega)]; exact m4 k hk
          · rw [up_n (by omega)]; exact m5 k hk
          · rw [up_n (by omega)]; exact m6 p hp
          · by_cases e : p = a
            · subst e
              refine Or.inr ⟨b, hb, up_s, ?_⟩
              show (if b = b then p + 1 else wHp w b) = p + 1
              rw [if_pos rfl]
            · rw [up_n (by omega)]
              rcases m7 p hp with ⟨f1, f2⟩ | ⟨q, hq, f1, f2⟩
              · refine Or.inl ⟨f1, fun q hq => ?_⟩
                show (if q = b then a + 1 else wHp w q) ≠ p + 1
                by_cases e' : q = b
                · rw [if_pos e']; omega
                · rw [if_neg e']; exact f2 q hq
              · refine Or.inr ⟨q, hq, f1, ?_⟩
                show (if q = b then a + 1 else wHp w q) = p + 1
                rw [if_neg (fun e' => by subst e'; omega)]; exact f2
          · rw [up_n (by omega)]; exact m8
          · rw [up_n (by omega)]; exact m9' p hp k hk
          · rw [up_n (by omega)]; exact m10 q hq p hp
      · have := (hw.2.2.2.2.2.2.1 b (by omega)).1
        rw [if_neg h0, ic (seqm (by omega)), if_neg id, ic (seqm (by omega)), if_neg id]
        exact ⟨_, _, _, w, rfl, rfl, hw, rc, rm⟩
    · rw [e1, ic (seqm (by omega)), if_neg id, ic (seqm (by omega)), if_neg id]
      exact ⟨_, _, _, w, rfl, rfl, hw, rc, rm⟩
  · rw [h1, b1_s]
    simp only [if10, if00, if10', if00']
    refine ⟨_, _, s, w, rfl, ?_, hw, rc, rm⟩
    rcases h2 with h2 | ⟨h2, h3 | ⟨h3, rfl⟩⟩
    · rw [h2, b1_s]
      simp only [if10, if00, if10', if00']
      rfl
    · rw [h2, h3, b1_s, b1_s]
      simp only [if10, if00, if10', if00']
      rfl
    · rw [h2, b1_s, b1_s]
      simp only [if10, if00, if10', if00']
      rfl
theorem q_oil (ht : tOK t) (hw : wOK t w) (rt : RT t trades people needs yields skips) (rc : RC t w round fell ills skills places stores lacked helpers favours wheel) (rn : RN t mtrades mpeople need made mskips tunes) (rm : RM t w s) (i1 : Int32) :
    ∃ r wh' s' w', fX4_oil N wheel trades i1 = some (r, wh') ∧ fX5_oil N thrown mtrades s i1 = some (r, 0, s') ∧ wOK t w' ∧ RC t w' round fell ills skills places stores lacked helpers favours wh' ∧ RM t w' s' := by
  have hT : tT t ≤ 6 := ht.1
  have hP : tP t ≤ 6 := ht.2.1
  unfold fX4_oil fX5_oil
  rw [isTrade_e, rt.1, rn.1]
  rcases rngT i1 (tT t) hT with ⟨k, hk, rfl, h⟩ | h
  · rw [h N, b1_s, b1_s]
    simp only [if10, if00, if10', if00']
    rw [c1, ic (seq (by omega) (by omega))]
    by_cases h1 : tT t = 1
    · rw [if_pos h1, if_pos h1]
      exact ⟨_, _, _, w, rfl, rfl, hw, rc, rm⟩
    · obtain ⟨d1, d2, d3, d4, d5, d6, d7, d8, d9, d10⟩ := rc
      obtain ⟨m1, m2, m3, m4, m5, m6, m7, m8, m9', m10⟩ := rm
      have hb : bh (tT t) k < tT t := bh_lt (by omega)
      have hne : bh (tT t) k ≠ k := by unfold bh; split <;> omega
      have e3 : (nI k + nI 1) - (nI k + nI 1) / nI (tT t) * nI (tT t) = nI (bh (tT t) k) := rem_bh hk hT
      rw [if_neg h1, if_neg h1, ic (seq (by omega) (by omega)), if_neg h1, behind_s N hT (by omega), b1_s, e3, c14, nI_add, nI_add, sgz (by omega) (by omega), sgd (by omega) (by decide), sgd (by omega) (by decide), sgd (by omega) (by decide), sgd (by omega) (by decide), sgd (by omega) (by decide), sclamp (by omega), sclamp (by omega)]
      unfold fX4_swap
      rw [sgd (by omega) (by decide), sgd (by omega) (by decide), sgd (by omega) (by decide), sgd (by omega) (by decide), b1_s, sgd (by omega) (by decide), sclamp (by omega), sclamp (by omega), up_n (fun e => hne e.symm), up_s, up_n (by omega), up_s, d10 _ hb, d10 _ hk, m5 _ hb, m5 _ hk]
      refine ⟨_, _, _, wWheel w (fun j => if j = bh (tT t) k then wWh w k else if j = k then wWh w (bh (tT t) k) else wWh w j), rfl, rfl, ?_, ?_, ?_⟩
      · refine ⟨hw.1, hw.2.1, hw.2.2.1, hw.2.2.2.1, hw.2.2.2.2.1, hw.2.2.2.2.2.1, hw.2.2.2.2.2.2.1, hw.2.2.2.2.2.2.2.1, fun j hj => ?_⟩
        have h9 := hw.2.2.2.2.2.2.2.2
        show (if j = bh (tT t) k then wWh w k else if j = k then wWh w (bh (tT t) k) else wWh w j) < tT t
        split
        · exact h9 _ hk
        · split
          · exact h9 _ hb
          · exact h9 _ hj
      · refine ⟨d1, d2, d3, d4, d5, d6, d7, d8, d9, fun j hj => ?_⟩
        show upd (upd wheel k _) (bh (tT t) k) _ j = nI (if j = bh (tT t) k then wWh w k else if j = k then wWh w (bh (tT t) k) else wWh w j)
        by_cases e : j = bh (tT t) k
        · rw [if_pos e, e, up_s]
        · rw [if_neg e, up_n e]
          by_cases e' : j = k
          · rw [if_pos e', e', up_s]
          · rw [if_neg e', up_n e', d10 j hj]
      · refine ⟨?_, ?_, fun j hj => ?_, fun j hj => ?_, fun j hj => ?_, fun p hp => ?_, fun p hp => ?_, ?_, fun p hp j hj => ?_, fun q hq p hp => ?_⟩
        · rw [up_n (by omega), up_n (by omega)]; exact m1
        · rw [up_n (by omega), up_n (by omega)]; exact m2
        · rw [up_n (by omega), up_n (by omega)]; exact m3 j hj
        · rw [up_n (by omega), up_n (by omega)]; exact m4 j hj
        · show upd (upd s (14 + k) _) (14 + bh (tT t) k) _ (14 + j) = nI (if j = bh (tT t) k then wWh w k else if j = k then wWh w (bh (tT t) k) else wWh w j)
          by_cases e : j = bh (tT t) k
          · rw [if_pos e, e, up_s]
          · rw [if_neg e, up_n (by omega)]
            by_cases e' : j = k
            · rw [if_pos e', e', up_s]
            · rw [if_neg e', up_n (by omega), m5 j hj]
        · rw [up_n (by omega), up_n (by omega)]; exact m6 p hp
        · rw [up_n (by omega), up_n (by omega)]; exact m7 p hp
        · rw [up_n (by omega), up_n (by omega)]; exact m8
        · rw [up_n (by omega), up_n (by omega)]; exact m9' p hp j hj
        · rw [up_n (by omega), up_n (by omega)]; exact m10 q hq p hp
  · rw [h N, b1_s, b1_s]
    simp only [if10, if00, if10', if00']
    exact ⟨_, _, _, w, rfl, rfl, hw, rc, rm⟩
theorem q_go (hN : 100 ≤ N) (ht : tOK t) (hw : wOK t w) (rt : RT t trades people needs yields skips) (ru : RU t fade winter fall) (rc : RC t w round fell ills skills places stores lacked helpers favours wheel) (rn : RN t mtrades mpeople need made mskips tunes) (rm : RM t w s) (i1 : Int32) :
    ∃ r (rd' fe' il' : Int32) (sk' pl' st' la' he' fa' wo' : Nat → Int32) s' mk' mwo' w', fX4_go N fade winter fall round fell ills skills places stores lacked helpers favours wheel works trades people needs yields skips i1 = some (r, rd', fe', il', sk', pl', st', la', he', fa', wo') ∧ fX5_go N thrown mtrades mpeople need made mskips tunes s makes mworks i1 = some (r, 0, s', mk', mwo') ∧ wOK t w' ∧ RC t w' rd' fe' il' sk' pl' st' la' he' fa' wheel ∧ RM t w' s' := by
  have hT : tT t ≤ 6 := ht.1
  have h99 := hw.1
  unfold fX4_go fX5_go
  rw [in_e]
  rcases rng i1 1 99 (by decide) (by decide) with ⟨n, hn1, hn2, rfl, h⟩ | ⟨h, _⟩
  · rw [c1, c99, h N, b1_s, b1_s]
    simp only [if10, if00, if10', if00']
    rw [c0, sgd (by decide) (by decide), sclamp (by decide), rm.1, rc.1, ic (sle (by omega) (by omega)), ic (seq (by omega) (by omega))]
    by_cases h9 : 99 ≤ wRd w
    · rw [if_pos h9, if_pos (by omega), ← rc.1]
      exact ⟨_, _, _, _, _, _, _, _, _, _, _, _, _, _, w, rfl, rfl, hw, rc, rm⟩
    · rw [if_neg h9, if_neg (by omega), rt.1, rn.1, ic (seq (by omega) (by omega))]
      by_cases hz : tT t = 0
      · rw [if_pos hz, if_pos hz, ← rc.1]
        exact ⟨_, _, _, _, _, _, _, _, _, _, _, _, _, _, w, rfl, rfl, hw, rc, rm⟩
      · rw [if_neg hz, if_neg hz, ← rc.1, ← rt.1, ← rn.1]
        obtain ⟨m, a1, a2, a3, a4, a5, a6, a7, a8, a9, a10, q1, q2, q3, q4⟩ := goRounds_s (works := works) hN ht hw rt ru rc (n := n) (en := 2147483647) (by omega) (by decide)
        obtain ⟨s', mk', wo', z, k1, k2⟩ := go_l (N := N) (by omega) ht hw (by omega) rn (c := n) (by omega) (min n (99 - wRd w)) 0 N (by omega) (by omega) s makes mworks rm
        have hm : m = min n (99 - wRd w) := by
          rcases q2 with q2 | q2
          · exact q2
          · have := tot_le (w := w) ht m
            omega
        subst hm
        have k1' : fX5_go_42 N mtrades mpeople need made mskips tunes (nI n) N s makes mworks (nI 0) (nI 0) = _ := k1
        have e7 : (2147483647 : Int32) = nI 2147483647 := rfl
        rw [e7, q3, k1']
        exact ⟨_, _, _, _, _, _, _, _, _, _, _, _, _, _, _, rfl, rfl, wn_ok ht hw _ (by omega), q4, k2⟩
  · rw [c1, c99, h N, b1_s, b1_s]
    simp only [if10, if00, if10', if00']
    exact ⟨_, _, _, _, _, _, _, _, _, _, _, _, _, _, w, rfl, rfl, hw, rc, rm⟩
end
