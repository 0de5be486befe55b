/-! kinds -/
def smN (f : Nat → Nat) : Nat → Nat
  | 0 => 0
  | n + 1 => smN f n + f n
def mxN (f : Nat → Nat) : Nat → Nat
  | 0 => 0
  | n + 1 => max (mxN f n) (f n)
def mnN (b : Nat) (f : Nat → Nat) : Nat → Nat
  | 0 => b
  | n + 1 => min (mnN b f n) (f n)
theorem smN_le {f : Nat → Nat} : ∀ n, (∀ k, k < n → f k ≤ 9) → smN f n ≤ 9 * n
  | 0, _ => Nat.le_refl _
  | n + 1, h => by
    have h1 := smN_le n (fun k hk => h k (by omega))
    have h2 := h n (by omega)
    show smN f n + f n ≤ _
    omega
theorem mxN_le {f : Nat → Nat} : ∀ n, (∀ k, k < n → f k ≤ 9) → mxN f n ≤ 9
  | 0, _ => by show (0 : Nat) ≤ 9; omega
  | n + 1, h => by
    have h1 := mxN_le n (fun k hk => h k (by omega))
    have h2 := h n (by omega)
    show max (mxN f n) (f n) ≤ _
    omega
theorem mnN_le {b : Nat} {f : Nat → Nat} : ∀ n, mnN b f n ≤ b
  | 0 => Nat.le_refl _
  | n + 1 => by
    have h1 := mnN_le (b := b) (f := f) n
    show min (mnN b f n) (f n) ≤ _
    omega
section
variable {N : Nat} {t : TS} {w : WS} {trades people fade winter fall round fell ills mtrades mpeople thrown : Int32} {needs yields skips skills places stores lacked helpers favours wheel works need made mskips tunes s makes mworks spare : Nat → Int32}
theorem asPerson_s (hN : 7 ≤ N) (ht : tOK t) (hw : wOK t w) (rt : RT t trades people needs yields skips) (rc : RC t w round fell ills skills places stores lacked helpers favours wheel) {p : Nat} (hp : p < tP t) (tr : Int64) : fX4_asPerson N tr skills trades (nI p) = some (nI (smN (fun k => wSk w (p * 6 + k)) (tT t)), tr + 1) := by
  have hT : tT t ≤ 6 := ht.1
  have hP : tP t ≤ 6 := ht.2.1
  have key := lpN (fun n (z : Int32 × Int32) => fX4_asPerson_14 N skills trades (nI p) n z.1 z.2) (fun k => (nI (smN (fun k => wSk w (p * 6 + k)) k), nI k)) (tT t) _
    (fun n k hk => by
      show fX4_asPerson_14 N skills trades (nI p) (n + 1) _ (nI k) = fX4_asPerson_14 N skills trades (nI p) n (nI (smN (fun k => wSk w (p * 6 + k)) k + wSk w (p * 6 + k))) (nI (k + 1))
      dsimp only
      rw [fX4_asPerson_14_s, rt.1, ic (sle (by omega) (by omega)), if_neg (by omega), ← rt.1, cell_s, b1_s, sgd (by omega) (by decide), sclamp (by omega), rc.2.2.2.1 p hp k hk, c1, nI_add, nI_add])
    (fun n => by
      show fX4_asPerson_14 N skills trades (nI p) (n + 1) _ (nI (tT t)) = _
      dsimp only
      rw [fX4_asPerson_14_s, rt.1, ic (sle (by omega) (by omega)), if_pos (Nat.le_refl _)])
    (tT t) 0 (by omega) N (by omega)
  unfold fX4_asPerson
  have key' : fX4_asPerson_14 N skills trades (nI p) N (0 : Int32) (0 : Int32) = _ := key
  rw [key', b2_s]
theorem asLearner_s (hN : 7 ≤ N) (ht : tOK t) (hw : wOK t w) (rt : RT t trades people needs yields skips) (rc : RC t w round fell ills skills places stores lacked helpers favours wheel) {p : Nat} (hp : p < tP t) (tr : Int64) : fX4_asLearner N tr skills places trades (nI p) = some (nI (smN (fun k => wSk w (p * 6 + k)) (tT t)) + nI (wPl w p), tr + 10 + 1) := by
  have hP : tP t ≤ 6 := ht.2.1
  unfold fX4_asLearner
  rw [asPerson_s hN ht hw rt rc hp, b2_s, sgd (by omega) (by decide), sclamp (by omega), rc.2.2.2.2.1 p hp]
theorem asMaster_s (hN : 7 ≤ N) (ht : tOK t) (hw : wOK t w) (rt : RT t trades people needs yields skips) (rc : RC t w round fell ills skills places stores lacked helpers favours wheel) {p : Nat} (hp : p < tP t) (tr : Int64) : fX4_asMaster N tr skills trades (nI p) = some (nI (smN (fun k => wSk w (p * 6 + k)) (tT t)) + nI (mxN (fun k => wSk w (p * 6 + k)) (tT t)), tr + 100 + 1) := by
  have hT : tT t ≤ 6 := ht.1
  have hP : tP t ≤ 6 := ht.2.1
  have key := lpN (fun n (z : Int32 × Int32) => fX4_asMaster_16 N skills trades (nI p) n z.1 z.2) (fun k => (nI (mxN (fun k => wSk w (p * 6 + k)) k), nI k)) (tT t) _
    (fun n k hk => by
      show fX4_asMaster_16 N skills trades (nI p) (n + 1) _ (nI k) = fX4_asMaster_16 N skills trades (nI p) n (nI (max (mxN (fun k => wSk w (p * 6 + k)) k) (wSk w (p * 6 + k)))) (nI (k + 1))
      dsimp only
      have h9 := hw.2.2.2.1 p hp
      have m9' := mxN_le (f := fun k => wSk w (p * 6 + k)) k (fun j hj => h9 j (by omega))
      have h9k := h9 k hk
      have e : (if nI (mxN (fun k => wSk w (p * 6 + k)) k) < nI (wSk w (p * 6 + k)) then nI (wSk w (p * 6 + k)) else nI (mxN (fun k => wSk w (p * 6 + k)) k)) = nI (max (mxN (fun k => wSk w (p * 6 + k)) k) (wSk w (p * 6 + k))) := by
        rw [ic (slt (by omega) (by omega))]
        split <;> (congr 1; omega)
      rw [fX4_asMaster_16_s, rt.1, ic (sle (by omega) (by omega)), if_neg (by omega), ← rt.1, cell_s, b1_s, sgd (by omega) (by decide), sclamp (by omega), rc.2.2.2.1 p hp k hk, e, c1, nI_add])
    (fun n => by
      show fX4_asMaster_16 N skills trades (nI p) (n + 1) _ (nI (tT t)) = _
      dsimp only
      rw [fX4_asMaster_16_s, rt.1, ic (sle (by omega) (by omega)), if_pos (Nat.le_refl _)])
    (tT t) 0 (by omega) N (by omega)
  unfold fX4_asMaster
  have key' : fX4_asMaster_16 N skills trades (nI p) N (0 : Int32) (0 : Int32) = _ := key
  rw [key', b2_s, asPerson_s hN ht hw rt rc hp, b2_s]
theorem asChild_l (hN : 7 ≤ N) (ht : tOK t) (hw : wOK t w) (rt : RT t trades people needs yields skips) (rc : RC t w round fell ills skills places stores lacked helpers favours wheel) {p b : Nat} (hp : p < tP t) (hb : b ≤ 9) : fX4_asChild_31 N skills trades (nI p) N (nI b) (nI 0) = some (nI (mnN b (fun k => wSk w (p * 6 + k)) (tT t)), nI (tT t)) := by
  have hT : tT t ≤ 6 := ht.1
  have hP : tP t ≤ 6 := ht.2.1
  exact lpN (fun n (z : Int32 × Int32) => fX4_asChild_31 N skills trades (nI p) n z.1 z.2) (fun k => (nI (mnN b (fun k => wSk w (p * 6 + k)) k), nI k)) (tT t) _
    (fun n k hk => by
      show fX4_asChild_31 N skills trades (nI p) (n + 1) _ (nI k) = fX4_asChild_31 N skills trades (nI p) n (nI (min (mnN b (fun k => wSk w (p * 6 + k)) k) (wSk w (p * 6 + k)))) (nI (k + 1))
      dsimp only
      have h9 := hw.2.2.2.1 p hp k hk
      have m9' := mnN_le (b := b) (f := fun k => wSk w (p * 6 + k)) k
      have e : (if nI (wSk w (p * 6 + k)) < nI (mnN b (fun k => wSk w (p * 6 + k)) k) then nI (wSk w (p * 6 + k)) else nI (mnN b (fun k => wSk w (p * 6 + k)) k)) = nI (min (mnN b (fun k => wSk w (p * 6 + k)) k) (wSk w (p * 6 + k))) := by
        rw [ic (slt (by omega) (by omega))]
        split <;> (congr 1; omega)
      rw [fX4_asChild_31_s, rt.1, ic (sle (by omega) (by omega)), if_neg (by omega), ← rt.1, cell_s, b1_s, sgd (by omega) (by decide), sclamp (by omega), rc.2.2.2.1 p hp k hk, e, c1, nI_add])
    (fun n => by
      show fX4_asChild_31 N skills trades (nI p) (n + 1) _ (nI (tT t)) = _
      dsimp only
      rw [fX4_asChild_31_s, rt.1, ic (sle (by omega) (by omega)), if_pos (Nat.le_refl _)])
    (tT t) 0 (by omega) N (by omega)
theorem rateM_l (hN : 7 ≤ N) (ht : tOK t) (hw : wOK t w) (rn : RN t mtrades mpeople need made mskips tunes) (rm : RM t w s) {p b : Nat} (hp : p < tP t) (hb : b ≤ 9) : fX5_rate_48 N mtrades s (nI p) N (nI 0) (nI 0) (nI b) (nI 0) = some (nI (smN (fun k => wSk w (p * 6 + k)) (tT t)), nI (mxN (fun k => wSk w (p * 6 + k)) (tT t)), nI (mnN b (fun k => wSk w (p * 6 + k)) (tT t)), nI (tT t)) := by
  have hT : tT t ≤ 6 := ht.1
  have hP : tP t ≤ 6 := ht.2.1
  exact lpN (fun n (z : Int32 × Int32 × Int32 × Int32) => fX5_rate_48 N mtrades s (nI p) n z.1 z.2.1 z.2.2.1 z.2.2.2) (fun k => (nI (smN (fun k => wSk w (p * 6 + k)) k), nI (mxN (fun k => wSk w (p * 6 + k)) k), nI (mnN b (fun k => wSk w (p * 6 + k)) k), nI k)) (tT t) _
    (fun n k hk => by
      show fX5_rate_48 N mtrades s (nI p) (n + 1) _ _ _ (nI k) = fX5_rate_48 N mtrades s (nI p) n (nI (smN (fun k => wSk w (p * 6 + k)) k + wSk w (p * 6 + k))) (nI (max (mxN (fun k => wSk w (p * 6 + k)) k) (wSk w (p * 6 + k)))) (nI (min (mnN b (fun k => wSk w (p * 6 + k)) k) (wSk w (p * 6 + k)))) (nI (k + 1))
      dsimp only
      have h9 := hw.2.2.2.1 p hp
      have h9k := h9 k hk
      have m9' := mxN_le (f := fun k => wSk w (p * 6 + k)) k (fun j hj => h9 j (by omega))
      have n9' := mnN_le (b := b) (f := fun k => wSk w (p * 6 + k)) k
      rw [fX5_rate_48_s, rn.1, ic (sle (by omega) (by omega)), if_neg (by omega), ← rn.1, c6, c33, pk_mul, nI_add, nI_add, sgd (by omega) (by decide), sclamp (by omega), rm.2.2.2.2.2.2.2.2.1 p hp k hk, c1, nI_add, nI_add]
      generalize mxN (fun k => wSk w (p * 6 + k)) k = A at *
      generalize mnN b (fun k => wSk w (p * 6 + k)) k = B at *
      generalize wSk w (p * 6 + k) = V at *
      rw [ic (sle (by omega) (by omega))]
      by_cases h1 : V ≤ A
      · rw [if_pos h1, ic (sle (by omega) (by omega)), show max A V = A by omega]
        by_cases h2 : B ≤ V
        · rw [if_pos h2, show min B V = B by omega]
        · rw [if_neg h2, show min B V = V by omega]
      · rw [if_neg h1, ic (sle (by omega) (by omega)), show max A V = V by omega]
        by_cases h2 : B ≤ V
        · rw [if_pos h2, show min B V = B by omega]
        · rw [if_neg h2, show min B V = V by omega])
    (fun n => by
      show fX5_rate_48 N mtrades s (nI p) (n + 1) _ _ _ (nI (tT t)) = _
      dsimp only
      rw [fX5_rate_48_s, rn.1, ic (sle (by omega) (by omega)), if_pos (Nat.le_refl _)])
    (tT t) 0 (by omega) N (by omega)
theorem tr_add (tr : Int64) : tr + 10 + 1 = tr + 11 ∧ tr + 100 + 1 = tr + 101 ∧ tr + 1000 + 100 + 1 = tr + 1101 ∧ tr + 10000 + 10 + 1 = tr + 10011 ∧ tr + 100000 + 1 = tr + 100001 := by
  refine ⟨?_, ?_, ?_, ?_, ?_⟩ <;> (repeat rw [Int64.add_assoc]) <;> rfl
theorem q_rate (hN : 7 ≤ N) (ht : tOK t) (hw : wOK t w) (rt : RT t trades people needs yields skips) (rc : RC t w round fell ills skills places stores lacked helpers favours wheel) (rn : RN t mtrades mpeople need made mskips tunes) (rm : RM t w s) (tr : Int64) (i1 i2 : Int32) :
    ∃ r tr', fX4_rate N tr round skills places trades people i1 i2 = some (r, tr') ∧ fX5_rate N thrown tr mtrades mpeople s i1 i2 = some (r, 0, tr') := by
  have hT : tT t ≤ 6 := ht.1
  have hP : tP t ≤ 6 := ht.2.1
  have e12 : people = mpeople := rt.2.1.trans rn.2.1.symm
  have e13 : trades = mtrades := rt.1.trans rn.1.symm
  subst e12 e13
  obtain ⟨a1, a2, a3, a4, a5⟩ := tr_add tr
  unfold fX4_rate fX5_rate
  rw [isPerson_e, isPersonX_e, in_e]
  have h2 := rngT i2 (tP t) hP
  rw [← rt.2.1] at h2
  rcases h2 with ⟨p, hp, rfl, h⟩ | h
  · rw [h N, b1_s, b1_s]
    try simp only [if10, if00, if10', if00']
    have g1 : ∀ {α : Type} (x : Option α), gd ((20 : Int32) + nI p) 105 x = x := fun x => by rw [c20, nI_add, sgd (by omega) (by decide)]
    have g2 : ((20 : Int32) + nI p).toNatClampNeg = 20 + p := by rw [c20, nI_add, sclamp (by omega)]
    have g3 : ∀ {α : Type} (x : Option α), gd (0 : Int32) 105 x = x := fun x => sgd_0
    have g4 : s (20 + p) = nI (wPl w p) := rm.2.2.2.2.2.1 p hp
    have g5 : s ((0 : Int32).toNatClampNeg) = nI (wRd w) := rm.1
    have k0 : fX5_rate_48 N trades s (nI p) N (0 : Int32) (0 : Int32) (0 : Int32) (0 : Int32) = _ := rateM_l (b := 0) hN ht hw rn rm hp (by omega)
    have k9 : fX5_rate_48 N trades s (nI p) N (0 : Int32) (0 : Int32) (9 : Int32) (0 : Int32) = _ := rateM_l (b := 9) hN ht hw rn rm hp (by omega)
    have ch0 : fX4_asChild_31 N skills trades (nI p) N (0 : Int32) (0 : Int32) = _ := asChild_l (b := 0) hN ht hw rt rc hp (by omega)
    have ch9 : fX4_asChild_31 N skills trades (nI p) N (9 : Int32) (0 : Int32) = _ := asChild_l (b := 9) hN ht hw rt rc hp (by omega)
    have hS := smN_le (f := fun k => wSk w (p * 6 + k)) (tT t) (fun k hk => hw.2.2.2.1 p hp k hk)
    unfold fX4_asLender fX4_asChild fX4_asIdle
    rw [ch0, ch9, k0, k9]
    simp only [asPerson_s hN ht hw rt rc hp, asLearner_s hN ht hw rt rc hp, asMaster_s hN ht hw rt rc hp, b2_s, b4_s, g1, g2, g3, g4, g5, a1, a2, a3, a4, a5, rc.1]
    by_cases hz : trades = 0
    · simp only [if_pos hz]
      rcases rng i1 0 5 (by decide) (by decide) with ⟨j, _, hj, rfl, h2⟩ | ⟨h2, h3⟩
      · have h2' : fX4_within N (nI j) (0 : Int32) (5 : Int32) = _ := h2 N
        rw [h2', b1_s, if10]
        rcases (show j = 0 ∨ j = 1 ∨ j = 2 ∨ j = 3 ∨ j = 4 ∨ j = 5 by omega) with rfl | rfl | rfl | rfl | rfl | rfl
        all_goals exact ⟨_, _, rfl, rfl⟩
      · have h2' : fX4_within N i1 (0 : Int32) (5 : Int32) = _ := h2 N
        rw [h2', b1_s, if00, if_neg (show ¬ i1 = (0 : Int32) from h3 0 (by omega) (by omega)), if_neg (show ¬ i1 = (1 : Int32) from h3 1 (by omega) (by omega)), if_neg (show ¬ i1 = (2 : Int32) from h3 2 (by omega) (by omega)), if_neg (show ¬ i1 = (3 : Int32) from h3 3 (by omega) (by omega)), if_neg (show ¬ i1 = (4 : Int32) from h3 4 (by omega) (by omega)), if_neg (show ¬ i1 = (5 : Int32) from h3 5 (by omega) (by omega))]
        exact ⟨_, _, rfl, rfl⟩
    · simp only [if_neg hz]
      rcases rng i1 0 5 (by decide) (by decide) with ⟨j, _, hj, rfl, h2⟩ | ⟨h2, h3⟩
      · have h2' : fX4_within N (nI j) (0 : Int32) (5 : Int32) = _ := h2 N
        rw [h2', b1_s, if10]
        rcases (show j = 0 ∨ j = 1 ∨ j = 2 ∨ j = 3 ∨ j = 4 ∨ j = 5 by omega) with rfl | rfl | rfl | rfl | rfl | rfl
        all_goals exact ⟨_, _, rfl, rfl⟩
      · have h2' : fX4_within N i1 (0 : Int32) (5 : Int32) = _ := h2 N
        rw [h2', b1_s, if00, if_neg (show ¬ i1 = (0 : Int32) from h3 0 (by omega) (by omega)), if_neg (show ¬ i1 = (1 : Int32) from h3 1 (by omega) (by omega)), if_neg (show ¬ i1 = (2 : Int32) from h3 2 (by omega) (by omega)), if_neg (show ¬ i1 = (3 : Int32) from h3 3 (by omega) (by omega)), if_neg (show ¬ i1 = (4 : Int32) from h3 4 (by omega) (by omega)), if_neg (show ¬ i1 = (5 : Int32) from h3 5 (by omega) (by omega))]
        exact ⟨_, _, rfl, rfl⟩
  · rw [h N, b1_s, b1_s]
    try simp only [if10, if00, if10', if00']
    refine ⟨_, _, rfl, ?_⟩
    rcases rng i1 0 5 (by decide) (by decide) with ⟨j, _, hj, rfl, h2⟩ | ⟨h2, h3⟩
    · have h2' : fX4_within N (nI j) (0 : Int32) (5 : Int32) = _ := h2 N
      rw [h2', b1_s, if10]
    · have h2' : fX4_within N i1 (0 : Int32) (5 : Int32) = _ := h2 N
      rw [h2', b1_s, if00]
theorem q_trace {N : Nat} {tr : Int64} {thrown : Int32} : fX4_trace N tr = some tr ∧ fX5_trace N thrown tr = some (tr, 0) := ⟨rfl, rfl⟩
end
/-! whose mark -/
theorem or0 (x : Int32) : x ||| (0 : Int32) = x := by
  apply Int32.toBitVec_inj.mp
  rw [Int32.toBitVec_or]
  show _ ||| 0#32 = _
  simp
section
variable {N : Nat} {t : TS} {w : WS} {trades people fade winter fall round fell ills mtrades mpeople thrown falling : Int32} {needs yields skips skills places stores lacked helpers favours wheel works need made mskips tunes s makes mworks spare : Nat → Int32}
theorem madeM_l (hN : 7 ≤ N) (ht : tOK t) (hw : wOK t w) (hT0 : 0 < tT t) (rn : RN t trades people need made skips tunes) {r : Nat} (hr : r ≤ 99) (hr2 : wRd w ≤ r) :
    ∀ (d i n : Nat), i + d = r - wRd w → d < n → ∀ (s makes works : Nat → Int32), RM t (wn t w i) s →
      ∃ (s' mk' wo' : Nat → Int32), fX5_madeBy_45 N trades people need made skips tunes (nI r) n s makes works = some (s', mk', wo') ∧ RM t (wn t w (r - wRd w)) s' := by
  have h99 := hw.1
  intro d
  induction d with
  | zero =>
    intro i n hi hn s makes works rm
    obtain ⟨n, rfl⟩ : ∃ z, n = z + 1 := ⟨n - 1, by omega⟩
    have hi' : i = r - wRd w := by omega
    subst hi'
    have e0 := rm.1
    rw [wn_rd] at e0
    exact ⟨s, makes, works, by rw [fX5_madeBy_45_s, c0, sgd (by decide) (by decide), sclamp (by decide), e0, ic (sle (by omega) (by omega)), if_pos (by omega)], rm⟩
  | succ d ih =>
    intro i n hi hn s makes works rm
    obtain ⟨n, rfl⟩ : ∃ z, n = z + 1 := ⟨n - 1, by omega⟩
    have e0 := rm.1
    rw [wn_rd] at e0
    obtain ⟨s1, mk1, wo1, h1, h2⟩ := goesBy_s (makes := makes) (works := works) hN ht (wn_ok ht hw i (by omega)) hT0 rn rm
    obtain ⟨s', mk', wo', h3, h4⟩ := ih (i + 1) n (by omega) (by omega) s1 mk1 wo1 h2
    exact ⟨s', mk', wo', by rw [fX5_madeBy_45_s, c0, sgd (by decide) (by decide), sclamp (by decide), e0, ic (sle (by omega) (by omega)), if_neg (by omega), h1, b4_s]; exact h3, h4⟩
theorem made_both (hN : 7 ≤ N) (ht : tOK t) (hw : wOK t w) (rt : RT t trades people needs yields skips) (rc : RC t w round fell ills skills places stores lacked helpers favours wheel) (rn : RN t mtrades mpeople need made mskips tunes) (rm : RM t w s) {k : Nat} (hk : k < tT t) (mark : Int32) :
    ∀ (d p n n' : Nat) (a : Int32), p + d = tP t → d < n → d < n' → ∃ r z, fX4_madeBy_80 N ills skills places wheel trades people skips (nI k) mark n a (nI p) = some (r, z) ∧ fX5_madeBy_69 N mtrades mpeople mskips s (nI k) mark n' a (nI p) = some (r, z) := by
  have hT : tT t ≤ 6 := ht.1
  have hP : tP t ≤ 6 := ht.2.1
  intro d
  induction d with
  | zero =>
    intro p n n' a hp hn hn'
    obtain ⟨n, rfl⟩ : ∃ z, n = z + 1 := ⟨n - 1, by omega⟩
    obtain ⟨n', rfl⟩ : ∃ z, n' = z + 1 := ⟨n' - 1, by omega⟩
    exact ⟨_, _, by rw [fX4_madeBy_80_s, rt.2.1, if_pos (nI_le (by omega) (by omega))], by rw [fX5_madeBy_69_s, rn.2.1, if_pos (nI_le (by omega) (by omega))]⟩
  | succ d ih =>
    intro p n n' a hpd hn hn'
    obtain ⟨n, rfl⟩ : ∃ z, n = z + 1 := ⟨n - 1, by omega⟩
    obtain ⟨n', rfl⟩ : ∃ z, n' = z + 1 := ⟨n' - 1, by omega⟩
    have hp : p < tP t := by omega
    have e8 := rm.2.2.2.2.2.2.2.1
    have A : ∀ x : Int32, ∃ r z, fX4_madeBy_80 N ills skills places wheel trades people skips (nI k) mark n x (nI p + 1) = some (r, z) ∧ fX5_madeBy_69 N mtrades mpeople mskips s (nI k) mark n' x (nI p + 1) = some (r, z) := fun x => by
      rw [c1, nI_add]
      exact ih (p + 1) n n' x (by omega) (by omega) (by omega)
    rw [fX4_madeBy_80_s, fX5_madeBy_69_s]
    rw [show (if people ≤ nI p then _ else _) = _ from if_neg (by rw [rt.2.1, sle (by omega) (by omega)]; omega), show (if mpeople ≤ nI p then _ else _) = _ from if_neg (by rw [rn.2.1, sle (by omega) (by omega)]; omega)]
    rw [tradeOf_s hN ht hw rt rc hp, worksAt_s hN ht hw hp rn.1 (rn.2.2.2.1 p hp) rm.2.2.2.2.1 (rm.2.2.2.2.2.1 p hp), rc.2.2.1, isIll_s N hw.2.1 (by omega), isIllM_s e8 hw.2.1 (by omega), b1_s, b1_s, b1_s, b1_s, or0, cell_s, b1_s, c6, c33, pk_mul, nI_add, nI_add, sgd (by omega) (by decide), sgd (by omega) (by decide), sclamp (by omega), sclamp (by omega), rc.2.2.2.1 p hp k hk, rm.2.2.2.2.2.2.2.2.1 p hp k hk, ← rc.2.2.1]
    by_cases h1 : eN ((wk t w p).map (wWh w)) = nI k
    · simp only [if_pos h1]
      cases hb : Nat.testBit (wIl w) p with
      | true =>
        simp only [if_true, if10]
        exact A a
      | false =>
        simp only [Bool.false_eq_true, if_false, if00]
        by_cases h2 : nI (wSk w (p * 6 + k)) = mark
        · simp only [if_pos h2]
          exact A _
        · simp only [if_neg h2]
          exact A a
    · simp only [if_neg h1]
      cases hb : Nat.testBit (wIl w) p with
      | true =>
        simp only [if_true, if10]
        exact A a
      | false =>
        simp only [Bool.false_eq_true, if_false, if00]
        exact A a
theorem q_madeBy (hN : 106 ≤ N) (ht : tOK t) (hw : wOK t w) (rt : RT t trades people needs yields skips) (ru : RU t fade winter fall) (rc : RC t w round fell ills skills places stores lacked helpers favours wheel) (rn : RN t mtrades mpeople need made mskips tunes) (rm : RM t w s) (ar af ai : Int32) (ask apl ast ala ahe afa awh awo : Nat → Int32) (i1 i2 i3 : Int32) :
    ∃ r x s' sp' mk' wo', fX4_madeBy N fade winter fall round fell ills skills places stores lacked helpers favours wheel ar af ai ask apl ast ala ahe afa awh awo trades people needs yields skips i1 i2 i3 = some (r, x) ∧ fX5_madeBy N thrown mtrades mpeople need made mskips tunes s spare makes mworks i1 i2 i3 = some (r, 0, s', sp', mk', wo') ∧ RM t w s' := by
  have hT : tT t ≤ 6 := ht.1
  have h99 := hw.1
  unfold fX4_madeBy fX5_madeBy
  rw [isTrade_e, in_e, in_e, rt.1, rn.1]
  rcases rngT i1 (tT t) hT with ⟨k, hk, rfl, h⟩ | h
  · rw [h N, b1_s, b1_s]
    try simp only [if10, if00, if10', if00']
    rcases rng i2 0 9 (by decide) (by decide) with ⟨m, _, hm, rfl, h2⟩ | ⟨h2, _⟩
    · have h2' : fX4_within N (nI m) (0 : Int32) (9 : Int32) = _ := h2 N
      rw [h2', b1_s, b1_s]
      try simp only [if10, if00, if10', if00']
      have e0 : s ((0 : Int32).toNatClampNeg) = nI (wRd w) := rm.1
      rw [sgd_0, e0, rc.1, c99]
      rcases rng i3 (wRd w) 99 (by omega) (by decide) with ⟨r, hr1, hr2, rfl, h3⟩ | ⟨h3, _⟩
      · rw [h3 N, b1_s, b1_s]
        try simp only [if10, if00, if10', if00']
        obtain ⟨x1, x2, x3, x4, x5, x6, x7, p1, p2⟩ := becomes_s (N := N) (r2 := ar) (f2 := af) (i2 := ai) (x1 := ask) (x2 := apl) (x3 := ast) (x4 := ala) (x5 := ahe) (x6 := afa) (x7 := awh) ht rc
        obtain ⟨x, g1, g2⟩ := goRounds_x (N := N) (works := awo) (by omega) ht hw rt ru p2 (n := r - wRd w) (by omega)
        have er : rl w (r - wRd w) = r - wRd w := by unfold rl; omega
        rw [er] at g1 g2
        obtain ⟨sp1, a1, a2⟩ := aside_1 (N := N) (s := s) (spare := spare) hN
        obtain ⟨s1, mk1, wo1, b1', b2'⟩ := madeM_l (N := N) (by omega) ht hw (by omega) rn hr2 hr1 (r - wRd w) 0 N (by omega) (by omega) s makes mworks rm
        obtain ⟨s2, d1, d2⟩ := aside_0 (N := N) (s := s1) (spare := sp1) hN
        have d1' : fX5_aside N s1 sp1 (0 : Int32) = _ := d1
        have a1' : fX5_aside N s spare (1 : Int32) = _ := a1
        have hok : wOK t (wn t w (r - wRd w)) := wn_ok ht hw _ (by omega)
        obtain ⟨v, z, m1, m2⟩ := made_both (N := N) (by omega) ht hok rt g2 rn b2' hk (nI m) (tP t) 0 N N 0 (by omega) (by have := ht.2.1; omega) (by have := ht.2.1; omega)
        have m1' : fX4_madeBy_80 N x.2.2.1 x.2.2.2.1 x.2.2.2.2.1 x7 trades people skips (nI k) (nI m) N (0 : Int32) (0 : Int32) = _ := m1
        have m2' : fX5_madeBy_69 N mtrades mpeople mskips s1 (nI k) (nI m) N (0 : Int32) (0 : Int32) = _ := m2
        rw [rc.1] at p1 g1
        rw [p1, b10_s, ssub hr1, ← rt.1, g1, b11_s, m1', b2_s, rt.1, ← rn.1, a1', b2_s, b1', b3_s, m2', b2_s, d1', b2_s]
        exact ⟨_, _, _, _, _, _, rfl, rfl, RM_congr ht (fun j hj => (d2 j hj).trans (a2 j hj)) rm⟩
      · rw [h3 N, b1_s, b1_s]
        try simp only [if10, if00, if10', if00']
        exact ⟨_, _, _, _, _, _, rfl, rfl, rm⟩
    · have h2' : fX4_within N i2 (0 : Int32) (9 : Int32) = _ := h2 N
      rw [h2', b1_s, b1_s]
      try simp only [if10, if00, if10', if00']
      exact ⟨_, _, _, _, _, _, rfl, rfl, rm⟩
  · rw [h N, b1_s, b1_s]
    try simp only [if10, if00, if10', if00']
    exact ⟨_, _, _, _, _, _, rfl, rfl, rm⟩
end
/-! when all is as before -/
def wPlc (w : WS) (pl : Nat → Nat) : WS := (wRd w, wFe w, wIl w, wSk w, pl, wSt w, wLa w, wHp w, wFa w, wWh w)
/-- the world with the places after so many rounds -/
def wm (t : TS) (w : WS) : Nat → WS
  | 0 => w
  | n + 1 => wPlc (wm t w n) (plN t (wm t w n))
def trW (t : TS) (w : WS) (p : Nat) : Int32 := eN ((wk t w p).map (wWh w))
def eqW (t : TS) (w w' : WS) : Nat → Bool
  | 0 => true
  | p + 1 => eqW t w w' p && decide (trW t w p = trW t w' p)
theorem eqW_t {t : TS} {w w' : WS} : ∀ P, eqW t w w' P = true ↔ ∀ p, p < P → trW t w p = trW t w' p
  | 0 => by simp [eqW]
  | P + 1 => by
    unfold eqW
    rw [Bool.and_eq_true, decide_eq_true_eq, eqW_t P]
    constructor
    · intro ⟨h1, h2⟩ p hp
      by_cases e : p = P
      · subst e; exact h2
      · exact h1 p (by omega)
    · intro h
      exact ⟨fun p hp => h p (by omega), h P (by omega)⟩
theorem plN_lt {t : TS} {w : WS} (hT0 : 0 < tT t) {p : Nat} : plN t w p < tT t := bh_lt hT0
theorem wPlc_ok {t : TS} {w : WS} (hw : wOK t w) {pl : Nat → Nat} (h : ∀ p, p < tP t → pl p < tT t) : wOK t (wPlc w pl) := ⟨hw.1, hw.2.1, hw.2.2.1, hw.2.2.2.1, fun p hp => Or.inl (h p hp), hw.2.2.2.2.2.1, hw.2.2.2.2.2.2.1, hw.2.2.2.2.2.2.2.1, hw.2.2.2.2.2.2.2.2⟩
theorem wm_ok {t : TS} {w : WS} (hw : wOK t w) (hT0 : 0 < tT t) : ∀ n, wOK t (wm t w n)
  | 0 => hw
  | n + 1 => wPlc_ok (wm_ok hw hT0 n) (fun p _ => plN_lt hT0)
theorem wm_wh (t : TS) (w : WS) : ∀ n, wWh (wm t w n) = wWh w
  | 0 => rfl
  | n + 1 => wm_wh t w n
section
variable {N : Nat} {t : TS} {w w' : WS} {trades people fade winter fall round fell ills mtrades mpeople thrown falling round2 fell2 ills2 : Int32} {needs yields skips skills places stores lacked helpers favours wheel works need made mskips tunes s makes mworks spare skills2 places2 stores2 lacked2 helpers2 favours2 wheel2 : Nat → Int32}
theorem worksAsNow_s (hN : 7 ≤ N) (ht : tOK t) (hw : wOK t w) (hw' : wOK t w') (rt : RT t trades people needs yields skips) (rc : RC t w round fell ills skills places stores lacked helpers favours wheel) (rc' : RC t w' round2 fell2 ills2 skills2 places2 stores2 lacked2 helpers2 favours2 wheel2) : fX4_worksAsNow N places wheel places2 wheel2 trades people skips = some (nI (if eqW t w' w (tP t) then 1 else 0)) := by
  have hP : tP t ≤ 6 := ht.2.1
  have key : ∀ (d p n : Nat), p + d = tP t → d < n → eqW t w' w p = true → ∃ (o : Option Int32) (b : Int32), fX4_worksAsNow_2 N places wheel places2 wheel2 trades people skips n (nI p) = some (o, b) ∧ rj o (fun r => gb r (some r)) (some (1 : Int32)) = some (nI (if eqW t w' w (tP t) then 1 else 0)) := by
    intro d
    induction d with
    | zero =>
      intro p n hp hn he
      obtain ⟨n, rfl⟩ : ∃ z, n = z + 1 := ⟨n - 1, by omega⟩
      have hp' : p = tP t := by omega
      subst hp'
      refine ⟨none, _, by rw [fX4_worksAsNow_2_s, rt.2.1, if_pos (nI_le (by omega) (by omega))], ?_⟩
      rw [he]
      rfl
    | succ d ih =>
      intro p n hp hn he
      obtain ⟨n, rfl⟩ : ∃ z, n = z + 1 := ⟨n - 1, by omega⟩
      have hp6 : p < tP t := by omega
      rw [fX4_worksAsNow_2_s, rt.2.1, ic (sle (by omega) (by omega)), if_neg (by omega), ← rt.2.1, tradeOf_s hN ht hw' rt rc' hp6, tradeOf_s hN ht hw rt rc hp6, b1_s, b1_s, c1, nI_add]
      by_cases h : eN ((wk t w' p).map (wWh w')) = eN ((wk t w p).map (wWh w))
      · rw [if_pos h]
        refine ih (p + 1) n (by omega) (by omega) ?_
        unfold eqW
        rw [he]
        exact decide_eq_true h
      · rw [if_neg h]
        have hf : eqW t w' w (tP t) = false := by
          cases hb : eqW t w' w (tP t) with
          | false => rfl
          | true => exact absurd ((eqW_t _).mp hb p hp6) h
        refine ⟨_, _, rfl, ?_⟩
        rw [hf]
        rfl
  obtain ⟨o, b, h1, h2⟩ := key (tP t) 0 N (by omega) (by omega) rfl
  unfold fX4_worksAsNow
  rw [c0, h1, b2_s]
  exact h2
/-- the reference's row while only the places change -/
def RP (t : TS) (w : WS) (s : Nat → Int32) : Prop := (∀ k, k < tT t → s (14 + k) = nI (wWh w k)) ∧ ∀ p, p < tP t → s (20 + p) = nI (wPl w p)
theorem again69_s (hN : 7 ≤ N) (ht : tOK t) (hT0 : 0 < tT t) {i : Nat} (hw : wOK t w) (rn : RN t mtrades mpeople need made mskips tunes) (hwo : ∀ p, p < tP t → mworks p = trW t w p) (rp : RP t (wm t w i) s) :
    ∃ s', (∃ z, fX5_again_69 N mtrades mpeople mskips mworks N s (1 : Int32) (0 : Int32) = some (s', nI (if eqW t (wm t w (i + 1)) w (tP t) then 1 else 0), z)) ∧ RP t (wm t w (i + 1)) s' := by
  have hT : tT t ≤ 6 := ht.1
  have hP : tP t ≤ 6 := ht.2.1
  have hwi := wm_ok hw hT0 i
  have hwj := wm_ok hw hT0 (i + 1)
  have hpn : wPl (wm t w (i + 1)) = plN t (wm t w i) := rfl
  have hwn : wWh (wm t w (i + 1)) = wWh (wm t w i) := rfl
  have key := lpI (fun n (z : (Nat → Int32) × Int32 × Int32) => fX5_again_69 N mtrades mpeople mskips mworks n z.1 z.2.1 z.2.2)
    (fun p z => (∀ k, k < tT t → z.1 (14 + k) = nI (wWh (wm t w i) k)) ∧ (∀ q, q < p → z.1 (20 + q) = nI (plN t (wm t w i) q)) ∧ (∀ q, p ≤ q → q < tP t → z.1 (20 + q) = nI (wPl (wm t w i) q)) ∧ z.2.1 = nI (if eqW t (wm t w (i + 1)) w p then 1 else 0) ∧ z.2.2 = nI p)
    (fun r => (∀ k, k < tT t → r.1 (14 + k) = nI (wWh (wm t w i) k)) ∧ (∀ q, q < tP t → r.1 (20 + q) = nI (plN t (wm t w i) q)) ∧ r.2.1 = nI (if eqW t (wm t w (i + 1)) w (tP t) then 1 else 0)) (tP t)
    (fun n p z hp hz => by
      obtain ⟨s1, l3, l4⟩ := z
      obtain ⟨h1, h2, h3, h4, h5⟩ := hz
      simp only [] at h1 h2 h3 h4 h5
      subst h4 h5
      have pl := h3 p (Nat.le_refl p) hp
      have p5 := hwi.2.2.2.2.1 p hp
      -- the place v goes in
      have put : ∀ v : Int32, v = nI (plN t (wm t w i) p) → (∀ k, k < tT t → upd s1 (20 + p) v (14 + k) = nI (wWh (wm t w i) k)) ∧ (∀ q, q < p + 1 → upd s1 (20 + p) v (20 + q) = nI (plN t (wm t w i) q)) ∧ (∀ q, p + 1 ≤ q → q < tP t → upd s1 (20 + p) v (20 + q) = nI (wPl (wm t w i) q)) := by
        intro v hv
        refine ⟨fun k hk => ?_, fun q hq => ?_, fun q hq hq2 => ?_⟩
        · rw [up_n (by omega)]; exact h1 k hk
        · by_cases e : q = p
          · subst e; rw [up_s, hv]
          · rw [up_n (by omega)]; exact h2 q (by omega)
        · rw [up_n (by omega)]; exact h3 q (by omega) hq2
      -- the rest behind it
      have rest : ∀ v : Int32, v = nI (plN t (wm t w i) p) → ∃ s' : (Nat → Int32) × Int32 × Int32, (if nI (if eqW t (wm t w (i + 1)) w p then 1 else 0) = 0 then fX5_again_69 N mtrades mpeople mskips mworks n (upd s1 (20 + p) v) (0 : Int32) (nI (p + 1)) else b1 (fX5_worksAt N mtrades mskips (upd s1 (20 + p) v) (nI p)) (fun r => gd (nI p) 6 (if r = mworks p then fX5_again_69 N mtrades mpeople mskips mworks n (upd s1 (20 + p) v) (1 : Int32) (nI (p + 1)) else fX5_again_69 N mtrades mpeople mskips mworks n (upd s1 (20 + p) v) (0 : Int32) (nI (p + 1))))) = fX5_again_69 N mtrades mpeople mskips mworks n s'.1 s'.2.1 s'.2.2 ∧ ((∀ k, k < tT t → s'.1 (14 + k) = nI (wWh (wm t w i) k)) ∧ (∀ q, q < p + 1 → s'.1 (20 + q) = nI (plN t (wm t w i) q)) ∧ (∀ q, p + 1 ≤ q → q < tP t → s'.1 (20 + q) = nI (wPl (wm t w i) q)) ∧ s'.2.1 = nI (if eqW t (wm t w (i + 1)) w (p + 1) then 1 else 0) ∧ s'.2.2 = nI (p + 1)) := by
        intro v hv
        obtain ⟨q1, q2, q3⟩ := put v hv
        have q4 := q2 p (by omega)
        rw [worksAt_s hN ht hwj hp rn.1 (rn.2.2.2.1 p hp) (by rw [hwn]; exact q1) (by rw [hpn]; exact q4), b1_s, sgd (by omega) (by decide), hwo p hp]
        show ∃ s' : (Nat → Int32) × Int32 × Int32, (if nI (if eqW t (wm t w (i + 1)) w p then 1 else 0) = 0 then _ else (if trW t (wm t w (i + 1)) p = trW t w p then _ else _)) = _ ∧ _
        cases hb : eqW t (wm t w (i + 1)) w p with
        | false =>
          refine ⟨(_, (0 : Int32), nI (p + 1)), if_pos rfl, q1, q2, q3, ?_, rfl⟩
          show (0 : Int32) = nI (if (eqW t (wm t w (i + 1)) w p && decide (trW t (wm t w (i + 1)) p = trW t w p)) = true then 1 else 0)
          rw [hb]
          rfl
        | true =>
          rw [if_neg (by decide)]
          by_cases h : trW t (wm t w (i + 1)) p = trW t w p
          · refine ⟨(_, (1 : Int32), nI (p + 1)), if_pos h, q1, q2, q3, ?_, rfl⟩
            show (1 : Int32) = nI (if (eqW t (wm t w (i + 1)) w p && decide (trW t (wm t w (i + 1)) p = trW t w p)) = true then 1 else 0)
            rw [hb, decide_eq_true h]
            rfl
          · refine ⟨(_, (0 : Int32), nI (p + 1)), if_neg h, q1, q2, q3, ?_, rfl⟩
            show (0 : Int32) = nI (if (eqW t (wm t w (i + 1)) w p && decide (trW t (wm t w (i + 1)) p = trW t w p)) = true then 1 else 0)
            rw [hb, decide_eq_false h]
            rfl
      dsimp only
      rw [fX5_again_69_s, rn.2.1, ic (sle (by omega) (by omega)), if_neg (by omega), ← rn.2.1, placeOf_s hN ht hwi hp rn.1 (rn.2.2.2.1 p hp) h1 pl, b1_s]
      have gz1 : ∀ {α : Type} (x : Option α), gz mtrades x = x := fun x => by rw [rn.1, sgz (by omega) (by omega)]
      have gd1 : ∀ {α : Type} (x : Option α), gd ((20 : Int32) + nI p) 105 x = x := fun x => by rw [c20, nI_add, sgd (by omega) (by decide)]
      have gd2 : ((20 : Int32) + nI p).toNatClampNeg = 20 + p := by rw [c20, nI_add, sclamp (by omega)]
      have gd3 : (nI p).toNatClampNeg = p := sclamp (by omega)
      have gd4 : nI p + (1 : Int32) = nI (p + 1) := by rw [c1, nI_add]
      simp only [gz1, gd1, gd2, gd3, gd4]
      cases hk : wk t (wm t w i) p with
      | none =>
        rw [eN_n, if_pos (show m9 = (-9 : Int32) from rfl)]
        refine rest _ ?_
        rw [pl, rn.1, c1, rem_bh (by omega) hT]
        unfold plN
        rw [hk]
      | some k =>
        have hk6 := wk_lt hwi hp hk
        rw [eN_s, if_neg (by rw [m9e, seqm (by omega)]; exact id)]
        refine rest _ ?_
        rw [rn.1, c1, rem_bh (by omega) hT]
        unfold plN
        rw [hk])
    (fun n z hz => by
      obtain ⟨s1, l3, l4⟩ := z
      obtain ⟨h1, h2, h3, h4, h5⟩ := hz
      simp only [] at h1 h2 h3 h4 h5
      subst h4 h5
      dsimp only
      refine ⟨(s1, nI (if eqW t (wm t w (i + 1)) w (tP t) then 1 else 0), nI (tP t)), ?_, h1, h2, rfl⟩
      rw [fX5_again_69_s, rn.2.1, ic (sle (by omega) (by omega)), if_pos (Nat.le_refl _)])
    (tP t) 0 (by omega) N (by omega) (s, (1 : Int32), (0 : Int32)) ⟨rp.1, fun q hq => by omega, fun q _ hq => rp.2 q hq, rfl, rfl⟩
  obtain ⟨⟨s', l, z⟩, h1, h2, h3, h4⟩ := key
  simp only [] at h2 h3 h4
  subst h4
  exact ⟨s', ⟨z, h1⟩, h2, h3⟩
theorem again22_s (hN : 7 ≤ N) (ht : tOK t) (hw : wOK t w) (rn : RN t mtrades mpeople need made mskips tunes) (rm : RM t w s) : ∃ wo', (∃ z, fX5_again_22 N mtrades mpeople mskips s N mworks (0 : Int32) = some (wo', z)) ∧ ∀ p, p < tP t → wo' p = trW t w p := by
  have hP : tP t ≤ 6 := ht.2.1
  have key := lpN (fun n (z : (Nat → Int32) × Int32) => fX5_again_22 N mtrades mpeople mskips s n z.1 z.2) (fun k => (ov (fun j => decide (j < k)) mworks (trW t w), nI k)) (tP t) _
    (fun n p hp => by
      show fX5_again_22 N mtrades mpeople mskips s (n + 1) _ (nI p) = _
      dsimp only
      have cc : ∀ j, decide (j < p + 1) = (decide (j < p) || decide (j = p)) := fun j => by rw [Bool.eq_iff_iff]; simp only [decide_eq_true_eq, Bool.or_eq_true]; omega
      rw [fX5_again_22_s, rn.2.1, ic (sle (by omega) (by omega)), if_neg (by omega), ← rn.2.1, show fX5_worksAt N mtrades mskips s (nI p) = some (trW t w p) from worksAt_s hN ht hw hp rn.1 (rn.2.2.2.1 p hp) rm.2.2.2.2.1 (rm.2.2.2.2.2.1 p hp), b1_s, sgd (by omega) (by decide), sclamp (by omega), c1, nI_add, ov_upd (c' := fun j => decide (j < p + 1)) (v := trW t w) rfl cc])
    (fun n => by
      show fX5_again_22 N mtrades mpeople mskips s (n + 1) _ (nI (tP t)) = _
      dsimp only
      rw [fX5_again_22_s, rn.2.1, ic (sle (by omega) (by omega)), if_pos (Nat.le_refl _)])
    (tP t) 0 (by omega) N (by omega)
  have h0 : ov (fun j => decide (j < 0)) mworks (trW t w) = mworks := ov_0 (fun j => by simp)
  simp only [h0] at key
  exact ⟨_, ⟨_, key⟩, fun p hp => ov_v (by simp [hp])⟩
theorem again_both (hN : 7 ≤ N) (ht : tOK t) (hw : wOK t w) (hT0 : 0 < tT t) (rt : RT t trades people needs yields skips) (rc : RC t w round fell ills skills places stores lacked helpers favours wheel) (rn : RN t mtrades mpeople need made mskips tunes) (hwo : ∀ p, p < tP t → mworks p = trW t w p) :
    ∀ (d i n n' : Nat), i + d = 61 → d < n → d < n' → 1 ≤ i → ∀ (s places2 works : Nat → Int32), RP t (wm t w (i - 1)) s → RC t (wm t w (i - 1)) round2 fell2 ills2 skills2 places2 stores2 lacked2 helpers2 favours2 wheel2 →
      ∃ o a b c s' r z, fX4_again_26 N places wheel wheel2 trades people skips n places2 works (nI i) = some (o, a, b, c) ∧ fX5_again_52 N mtrades mpeople mskips mworks n' s m9 (nI i) = some (s', r, z) ∧ ∀ {α : Type} (f : Int32 → α), rj o f (f m9) = f r := by
  have hP : tP t ≤ 6 := ht.2.1
  intro d
  induction d with
  | zero =>
    intro i n n' hi hn hn' h1 s places2 works rp rc2
    obtain ⟨n, rfl⟩ : ∃ z, n = z + 1 := ⟨n - 1, by omega⟩
    obtain ⟨n', rfl⟩ : ∃ z, n' = z + 1 := ⟨n' - 1, by omega⟩
    have : i = 61 := by omega
    subst this
    exact ⟨none, _, _, _, _, m9, _, by rw [fX4_again_26_s, if_pos (by decide)], by rw [fX5_again_52_s, if_pos (by decide)], fun f => rfl⟩
  | succ d ih =>
    intro i n n' hi hn hn' h1 s places2 works rp rc2
    obtain ⟨n, rfl⟩ : ∃ z, n = z + 1 := ⟨n - 1, by omega⟩
    obtain ⟨n', rfl⟩ : ∃ z, n' = z + 1 := ⟨n' - 1, by omega⟩
    have hwi := wm_ok hw hT0 (i - 1)
    obtain ⟨s1, ⟨z1, k1⟩, k2⟩ := again69_s hN ht hT0 hw rn hwo rp
    have ei : i - 1 + 1 = i := by omega
    rw [ei] at k1 k2
    have e0 : wm t w i = wPlc (wm t w (i - 1)) (plN t (wm t w (i - 1))) := by
      have : wm t w (i - 1 + 1) = wPlc (wm t w (i - 1)) (plN t (wm t w (i - 1))) := rfl
      rw [ei] at this
      exact this
    have hwk : ∀ p, p < tP t → ov (fun j => decide (j < tP t)) works (fun p => eN (wk t (wm t w (i - 1)) p)) p = eN (wk t (wm t w (i - 1)) p) := fun p hp => works_at hp
    have rc3 : RC t (wm t w i) round2 fell2 ills2 skills2 (ov (fun j => decide (j < tP t)) places2 (fun p => nI (plN t (wm t w (i - 1)) p))) stores2 lacked2 helpers2 favours2 wheel2 := by
      rw [e0]
      exact ⟨rc2.1, rc2.2.1, rc2.2.2.1, rc2.2.2.2.1, fun p hp => ov_v (by simp [hp]), rc2.2.2.2.2.2⟩
    rw [fX4_again_26_s, fX5_again_52_s, if_neg (show ¬ ((60 : Int32) < nI i) by rw [show (60 : Int32) = nI 60 from rfl, slt (by omega) (by omega)]; omega), if_neg (show ¬ ((61 : Int32) ≤ nI i) by rw [show (61 : Int32) = nI 61 from rfl, sle (by omega) (by omega)]; omega), if_pos (show m9 = (-9 : Int32) from rfl),
      findWork_s hN ht hwi rt rc2, b1_s, moveOn_s hwi ht hN rt rc2.2.2.2.2.1 hwk, b1_s, worksAsNow_s hN ht hw (wm_ok hw hT0 i) rt rc rc3, b1_s, k1, b3_s]
    cases hb : eqW t (wm t w i) w (tP t) with
    | false =>
      rw [if_pos (show nI (if false = true then 1 else 0) = (0 : Int32) from rfl), if_pos (show nI (if false = true then 1 else 0) = (0 : Int32) from rfl), c1, nI_add]
      exact ih (i + 1) n n' (by omega) (by omega) (by omega) (by omega) _ _ _ (by rw [Nat.add_sub_cancel]; exact k2) (by rw [Nat.add_sub_cancel]; exact rc3)
    | true =>
      rw [if_neg (show ¬ nI (if true = true then 1 else 0) = (0 : Int32) by decide), if_neg (show ¬ nI (if true = true then 1 else 0) = (0 : Int32) by decide), c1, nI_add]
      obtain ⟨n', rfl⟩ : ∃ z, n' = z + 1 := ⟨n' - 1, by omega⟩
      have e2 : ∃ r z, fX5_again_52 N mtrades mpeople mskips mworks (n' + 1) s1 (nI i) (nI (i + 1)) = some (r, nI i, z) := by
        rw [fX5_again_52_s]
        by_cases h61 : (61 : Int32) ≤ nI (i + 1)
        · exact ⟨_, _, if_pos h61⟩
        · exact ⟨s1, nI (i + 1), by rw [if_neg h61, if_neg (by rw [m9e, seqm (by omega)]; exact id)]⟩
      obtain ⟨r, z, e3⟩ := e2
      exact ⟨_, _, _, _, r, nI i, z, rfl, e3, fun f => rfl⟩
theorem q_again (hN : 106 ≤ N) (ht : tOK t) (hw : wOK t w) (rt : RT t trades people needs yields skips) (rc : RC t w round fell ills skills places stores lacked helpers favours wheel) (rn : RN t mtrades mpeople need made mskips tunes) (rm : RM t w s) (ar af ai : Int32) (ask apl ast ala ahe afa awh awo : Nat → Int32) :
    ∃ r x s' sp' wo', fX4_again N round fell ills skills places stores lacked helpers favours wheel ar af ai ask apl ast ala ahe afa awh awo trades people skips = some (r, x) ∧ fX5_again N thrown mtrades mpeople mskips s spare mworks = some (r, 0, s', sp', wo') ∧ RM t w s' := by
  have hT : tT t ≤ 6 := ht.1
  have e12 : trades = mtrades := rt.1.trans rn.1.symm
  subst e12
  unfold fX4_again fX5_again
  by_cases hz : trades = 0
  · rw [if_pos hz, if_pos hz]
    exact ⟨_, _, _, _, _, rfl, rfl, rm⟩
  · rw [if_neg hz, if_neg hz]
    have hT0 : 0 < tT t := Nat.pos_of_ne_zero (fun h => hz (by rw [rt.1, h]; rfl))
    obtain ⟨x1, x2, x3, x4, x5, x6, x7, p1, p2⟩ := becomes_s (N := N) (r2 := ar) (f2 := af) (i2 := ai) (x1 := ask) (x2 := apl) (x3 := ast) (x4 := ala) (x5 := ahe) (x6 := afa) (x7 := awh) ht rc
    obtain ⟨sp1, a1, a2⟩ := aside_1 (N := N) (s := s) (spare := spare) hN
    obtain ⟨wo, ⟨z0, b1'⟩, b2'⟩ := again22_s (N := N) (mworks := mworks) (by omega) ht hw rn rm
    obtain ⟨o, a, b, c, s1, r, z, g1, g2, g3⟩ := again_both (N := N) (by omega) ht hw hT0 rt rc rn b2' 60 1 N N (by omega) (by omega) (by omega) (by omega) s x2 awo ⟨rm.2.2.2.2.1, rm.2.2.2.2.2.1⟩ p2
    obtain ⟨s2, d1, d2⟩ := aside_0 (N := N) (s := s1) (spare := sp1) hN
    have d1' : fX5_aside N s1 sp1 (0 : Int32) = _ := d1
    have a1' : fX5_aside N s spare (1 : Int32) = _ := a1
    have g1' : fX4_again_26 N places wheel x7 trades people skips N x2 awo (1 : Int32) = _ := g1
    have g2' : fX5_again_52 N trades mpeople mskips wo N s (-9 : Int32) (1 : Int32) = _ := g2
    rw [p1, b10_s, g1', b4_s, a1', b2_s, b1', b2_s, g2', b3_s, d1', b2_s]
    refine ⟨r, (round, fell, ills, x1, a, x3, x4, x5, x6, x7, b), _, _, _, ?_, rfl, RM_congr ht (fun j hj => (d2 j hj).trans (a2 j hj)) rm⟩
    exact g3 (fun r9 => some (r9, round, fell, ills, x1, a, x3, x4, x5, x6, x7, b))
end
