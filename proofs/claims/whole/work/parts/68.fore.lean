/-! foretold: lacking -/
theorem isF (i1 i2 : Int32) : (∃ n j, 1 ≤ n ∧ n ≤ 40 ∧ j ≤ 1 ∧ i1 = nI n ∧ i2 = nI j ∧ ∀ N, fX4_isForetold N i1 i2 = some (nI 1) ∧ fX5_areRounds N i1 = some (nI 1) ∧ fX4_within N i2 (0 : Int32) (1 : Int32) = some (nI 1)) ∨ (∀ N, fX4_isForetold N i1 i2 = some (nI 0) ∧ (fX5_areRounds N i1 = some (nI 0) ∨ (fX5_areRounds N i1 = some (nI 1) ∧ fX4_within N i2 (0 : Int32) (1 : Int32) = some (nI 0)))) := by
  unfold fX4_isForetold fX5_areRounds
  have e40 : (40 : Int32) = nI 40 := rfl
  rcases rng i1 1 40 (by decide) (by decide) with ⟨n, h1, h2, rfl, h⟩ | ⟨h, _⟩
  · rcases rng i2 0 1 (by decide) (by decide) with ⟨j, _, h4, rfl, k⟩ | ⟨k, _⟩
    · refine Or.inl ⟨n, j, h1, h2, h4, rfl, rfl, fun N => ⟨?_, ?_, k N⟩⟩
      · rw [e40, c1, c0, h N, b1_s, if_neg (by decide), k N]; rfl
      · rw [in_e, e40, c1, h N]; rfl
    · refine Or.inr (fun N => ⟨?_, Or.inr ⟨?_, k N⟩⟩)
      · rw [e40, c1, c0, h N, b1_s, if_neg (by decide), k N]; rfl
      · rw [in_e, e40, c1, h N]; rfl
  · refine Or.inr (fun N => ⟨?_, Or.inl ?_⟩)
    · rw [e40, c1, h N]; rfl
    · rw [in_e, e40, c1, h N]; rfl
theorem anyI : (2147483647 : Int32) = nI 2147483647 := rfl
section
variable {N : Nat} {t : TS} {w : WS} {trades people fade winter fall round fell ills mtrades mpeople thrown falling : Int32} {needs yields skips skills places stores lacked helpers favours wheel works need made mskips tunes s makes mworks spare : Nat → Int32}
/-- how many rounds of n are left -/
def rl (w : WS) (n : Nat) : Nat := min n (99 - wRd w)
theorem rl_ok (hw : wOK t w) {n : Nat} : wRd w + rl w n ≤ 99 := by
  have := hw.1
  unfold rl
  omega
/-- rounds with `enough`: exact, where the answer is less than enough -/
theorem goRounds_e (hN : 100 ≤ N) (ht : tOK t) (hw : wOK t w) (rt : RT t trades people needs yields skips) (ru : RU t fade winter fall) (rc : RC t w round fell ills skills places stores lacked helpers favours wheel) {n en : Nat} (hn : n < 2147483648) (hen : en < 2147483648) :
    ∃ (v : Nat) (x : Int32 × Int32 × Int32 × (Nat → Int32) × (Nat → Int32) × (Nat → Int32) × (Nat → Int32) × (Nat → Int32) × (Nat → Int32) × (Nat → Int32) × (Nat → Int32)), fX3_goRounds N round fell ills skills places stores lacked helpers favours wheel works trades people needs yields skips fade winter fall (nI n) (nI en) = some (nI v, x.1, x.2.1, x.2.2.1, x.2.2.2.1, x.2.2.2.2.1, x.2.2.2.2.2.1, x.2.2.2.2.2.2.1, x.2.2.2.2.2.2.2.1, x.2.2.2.2.2.2.2.2.1, x.2.2.2.2.2.2.2.2.2.2) ∧ x.2.2.2.2.2.2.2.2.2.1 = wheel ∧ v < 2147483648 ∧ ((tot t w (rl w n) < en ∧ v = tot t w (rl w n) ∧ RC t (wn t w (rl w n)) x.1 x.2.1 x.2.2.1 x.2.2.2.1 x.2.2.2.2.1 x.2.2.2.2.2.1 x.2.2.2.2.2.2.1 x.2.2.2.2.2.2.2.1 x.2.2.2.2.2.2.2.2.1 wheel) ∨ (en ≤ tot t w (rl w n) ∧ en ≤ v)) := by
  obtain ⟨m, a1, a2, a3, a4, a5, a6, a7, a8, a9, a10, q1, q2, q3, q4⟩ := goRounds_s (works := works) hN ht hw rt ru rc hn hen
  have hle := tot_le (w := w) ht m
  have h99 := hw.1
  refine ⟨tot t w m, (a1, a2, a3, a4, a5, a6, a7, a8, a9, wheel, a10), q3, rfl, by omega, ?_⟩
  rcases q2 with q2 | q2
  · have e : m = rl w n := q2
    subst e
    by_cases h : tot t w (rl w n) < en
    · exact Or.inl ⟨h, rfl, q4⟩
    · exact Or.inr ⟨by omega, by omega⟩
  · have := tot_mono (t := t) (w := w) (a := m) (rl w n) q1
    exact Or.inr ⟨by omega, q2⟩
theorem goRounds_x (hN : 100 ≤ N) (ht : tOK t) (hw : wOK t w) (rt : RT t trades people needs yields skips) (ru : RU t fade winter fall) (rc : RC t w round fell ills skills places stores lacked helpers favours wheel) {n : Nat} (hn : n < 2147483648) :
    ∃ (x : Int32 × Int32 × Int32 × (Nat → Int32) × (Nat → Int32) × (Nat → Int32) × (Nat → Int32) × (Nat → Int32) × (Nat → Int32) × (Nat → Int32) × (Nat → Int32)), fX3_goRounds N round fell ills skills places stores lacked helpers favours wheel works trades people needs yields skips fade winter fall (nI n) (2147483647 : Int32) = some (nI (tot t w (rl w n)), x.1, x.2.1, x.2.2.1, x.2.2.2.1, x.2.2.2.2.1, x.2.2.2.2.2.1, x.2.2.2.2.2.2.1, x.2.2.2.2.2.2.2.1, x.2.2.2.2.2.2.2.2.1, x.2.2.2.2.2.2.2.2.2.2) ∧ RC t (wn t w (rl w n)) x.1 x.2.1 x.2.2.1 x.2.2.2.1 x.2.2.2.2.1 x.2.2.2.2.2.1 x.2.2.2.2.2.2.1 x.2.2.2.2.2.2.2.1 x.2.2.2.2.2.2.2.2.1 wheel := by
  obtain ⟨v, x, h1, h2, h3, h4⟩ := goRounds_e (works := works) hN ht hw rt ru rc (n := n) (en := 2147483647) hn (by decide)
  have hle := tot_le (w := w) ht (rl w n)
  have h99 := hw.1
  have hr : rl w n ≤ 99 := by unfold rl; omega
  rcases h4 with ⟨_, rfl, h6⟩ | ⟨h5, _⟩
  · exact ⟨x, by rw [anyI]; exact h1, h6⟩
  · omega
/-- a copy of the row is put aside, so many rounds go by, it is put back -/
theorem asideRun {w' : WS} {s' : Nat → Int32} (hN : 106 ≤ N) (ht : tOK t) (hw' : wOK t w') (hT0 : 0 < tT t) (rn : RN t mtrades mpeople need made mskips tunes) (rm' : RM t w' s') {c : Nat} (hc : c < 2147483648) : ∃ s1 mk1 wo1, fX5_lacksIn N mtrades mpeople falling need made mskips tunes s' makes mworks (nI c) = some (nI (tot t w' (rl w' c)), nI (wFe (wn t w' (rl w' c))) - nI (wFe w'), s1, mk1, wo1) ∧ RM t (wn t w' (rl w' c)) s1 := lacksIn_s (by omega) ht hw' hT0 rn rm' hc
theorem q_lacking (hN : 106 ≤ N) (ht : tOK t) (hw : wOK t w) (rt : RT t trades people needs yields skips) (ru : RU t fade winter fall) (rc : RC t w round fell ills skills places stores lacked helpers favours wheel) (rn : RN t mtrades mpeople need made mskips tunes) (rm : RM t w s) (ar af ai : Int32) (ask apl ast ala ahe afa awh awo : Nat → Int32) (i1 i2 : Int32) :
    ∃ r x fal s' sp' mk' wo', fX4_lacking N fade winter fall round fell ills skills places stores lacked helpers favours wheel ar af ai ask apl ast ala ahe afa awh awo trades people needs yields skips i1 i2 = some (r, x) ∧ fX5_lacking N thrown mtrades mpeople falling need made mskips tunes s spare makes mworks i1 i2 = some (r, 0, fal, s', sp', mk', wo') ∧ RM t w s' := by
  have hT : tT t ≤ 6 := ht.1
  unfold fX4_lacking fX5_lacking
  rw [in_e]
  rcases isF i1 i2 with ⟨n, j, h1, h2, h3, rfl, rfl, h⟩ | h
  · obtain ⟨k1, k2, k3⟩ := h N
    rw [k1, k2, k3, b1_s, b1_s, b1_s]
    simp only [if10, if00, if10', if00']
    rw [rt.1, rn.1, c0, ic (seq (by omega) (by omega))]
    by_cases hz : tT t = 0
    · rw [if_pos hz, if_pos hz]
      exact ⟨_, _, _, _, _, _, _, rfl, rfl, rm⟩
    · rw [if_neg hz, if_neg hz, ← rt.1, ← rn.1]
      obtain ⟨x1, x2, x3, x4, x5, x6, x7, p1, p2⟩ := becomes_s (N := N) (r2 := ar) (f2 := af) (i2 := ai) (x1 := ask) (x2 := apl) (x3 := ast) (x4 := ala) (x5 := ahe) (x6 := afa) (x7 := awh) ht rc
      obtain ⟨x, g1, g2⟩ := goRounds_x (works := awo) (by omega) ht hw rt ru p2 (n := n) (by omega)
      obtain ⟨sp1, a1, a2⟩ := aside_1 (N := N) (s := s) (spare := spare) hN
      obtain ⟨s1, mk1, wo1, b1', b2'⟩ := asideRun (falling := falling) (makes := makes) (mworks := mworks) hN ht hw (by omega) rn rm (c := n) (by omega)
      obtain ⟨s2, d1, d2⟩ := aside_0 (N := N) (s := s1) (spare := sp1) hN
      have d1' : fX5_aside N s1 sp1 (nI 0) = _ := d1
      rw [p1, b10_s, g1, b11_s, c1, a1, b2_s, b1', b5_s, d1', b2_s, g2.2.1, rc.2.1]
      have rm2 : RM t w s2 := RM_congr ht (fun j hj => (d2 j hj).trans (a2 j hj)) rm
      rw [ic (seq (by omega) (by omega))]
      by_cases hj : j = 0
      · rw [if_pos hj, if_pos hj]
        exact ⟨_, _, _, _, _, _, _, rfl, rfl, rm2⟩
      · rw [if_neg hj, if_neg hj]
        exact ⟨_, _, _, _, _, _, _, rfl, rfl, rm2⟩
  · obtain ⟨k1, k2⟩ := h N
    rw [k1, b1_s]
    simp only [if10, if00, if10', if00']
    rcases k2 with k2 | ⟨k2, k3⟩
    · rw [k2, b1_s]
      simp only [if10, if00, if10', if00']
      exact ⟨_, _, _, _, _, _, _, rfl, rfl, rm⟩
    · rw [k2, k3, b1_s, b1_s]
      simp only [if10, if00, if10', if00']
      exact ⟨_, _, _, _, _, _, _, rfl, rfl, rm⟩
end
