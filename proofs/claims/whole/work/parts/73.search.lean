/-! who should be taught -/
def wTau (w : WS) (i : Nat) : WS := (wRd w, wFe w, wIl w, fun j => if j = i then wSk w j + 1 else wSk w j, wPl w, wSt w, wLa w, wHp w, wFa w, wWh w)
/-- what a foretelling with `enough` answers -/
def TV (t : TS) (w : WS) (n en v : Nat) : Prop := v < 2147483648 ∧ ((tot t w (rl w n) < en ∧ v = tot t w (rl w n)) ∨ (en ≤ tot t w (rl w n) ∧ en ≤ v))
theorem tot_lt {t : TS} {w : WS} (ht : tOK t) (hw : wOK t w) (n : Nat) : tot t w (rl w n) < 2147483647 := by
  have h1 := tot_le (w := w) ht (rl w n)
  have h2 := rl_ok (w := w) hw (n := n)
  omega
section
variable {N : Nat} {t : TS} {w w' : WS} {trades people fade winter fall round fell ills mtrades mpeople thrown falling : Int32} {needs yields skips skills places stores lacked helpers favours wheel works need made mskips tunes s makes mworks spare s' : Nat → Int32}
theorem goRounds_v (hN : 100 ≤ N) (ht : tOK t) (hw : wOK t w) (rt : RT t trades people needs yields skips) (ru : RU t fade winter fall) (rc : RC t w round fell ills skills places stores lacked helpers favours wheel) {n en : Nat} (hn : n < 2147483648) (hen : en < 2147483648) :
    ∃ (v : Nat) (a1 a2 a3 : Int32) (a4 a5 a6 a7 a8 a9 a10 : Nat → Int32), fX3_goRounds N round fell ills skills places stores lacked helpers favours wheel works trades people needs yields skips fade winter fall (nI n) (nI en) = some (nI v, a1, a2, a3, a4, a5, a6, a7, a8, a9, a10) ∧ TV t w n en v := by
  obtain ⟨v, x, h1, _, h3, h4⟩ := goRounds_e (works := works) hN ht hw rt ru rc hn hen
  refine ⟨v, _, _, _, _, _, _, _, _, _, _, h1, h3, ?_⟩
  rcases h4 with ⟨h5, h6, _⟩ | h5
  · exact Or.inl ⟨h5, h6⟩
  · exact Or.inr h5
theorem tryM (hN : 106 ≤ N) (ht : tOK t) (hw' : wOK t w') (hT0 : 0 < tT t) (rn : RN t mtrades mpeople need made mskips tunes) (rm' : RM t w' s') (rp : RM t w spare) {c : Nat} (hc : c < 2147483648) (falling : Int32) (makes mworks : Nat → Int32) : ∃ (fal : Int32) (s2 mk wo : Nat → Int32), RM t w s2 ∧ ∀ {γ : Type} (K : Int32 → Int32 → (Nat → Int32) → (Nat → Int32) → (Nat → Int32) → (Nat → Int32) → Option γ), b5 (fX5_lacksIn N mtrades mpeople falling need made mskips tunes s' makes mworks (nI c)) (fun r f s1 m v => b2 (fX5_aside N s1 spare (0 : Int32)) (fun s2 sp => K r f m v s2 sp)) = K (nI (tot t w' (rl w' c))) fal mk wo s2 spare := by
  obtain ⟨s1, mk1, wo1, b1', b2'⟩ := asideRun (falling := falling) (makes := makes) (mworks := mworks) hN ht hw' hT0 rn rm' hc
  obtain ⟨s2, d1, d2⟩ := aside_0 (N := N) (s := s1) (spare := spare) hN
  have d1' : fX5_aside N s1 spare (0 : Int32) = _ := d1
  refine ⟨nI (wFe (wn t w' (rl w' c))) - nI (wFe w'), s2, mk1, wo1, RM_congr ht d2 rp, fun K => ?_⟩
  rw [b1', b5_s, d1', b2_s]
theorem RC_tau (ht : tOK t) (rc : RC t w round fell ills skills places stores lacked helpers favours wheel) {p k : Nat} (hp : p < tP t) (hk : k < tT t) : RC t (wTau w (p * 6 + k)) round fell ills (upd skills (p * 6 + k) (skills (p * 6 + k) + 1)) places stores lacked helpers favours wheel := by
  refine ⟨rc.1, rc.2.1, rc.2.2.1, fun q hq j hj => ?_, rc.2.2.2.2⟩
  show upd skills (p * 6 + k) (skills (p * 6 + k) + 1) (q * 6 + j) = nI (if q * 6 + j = p * 6 + k then wSk w (q * 6 + j) + 1 else wSk w (q * 6 + j))
  by_cases e : q * 6 + j = p * 6 + k
  · rw [if_pos e, e, up_s, rc.2.2.2.1 p hp k hk, c1, nI_add]
  · rw [if_neg e, up_n e, rc.2.2.2.1 q hq j hj]
theorem RM_tau (ht : tOK t) (rm : RM t w s) {p k : Nat} (hp : p < tP t) (hk : k < tT t) : RM t (wTau w (p * 6 + k)) (upd s (33 + 6 * p + k) (s (33 + 6 * p + k) + 1)) := by
  have hP : tP t ≤ 6 := ht.2.1
  have hT : tT t ≤ 6 := ht.1
  obtain ⟨m1, m2, m3, m4, m5, m6, m7, m8, m9', m10⟩ := rm
  refine ⟨?_, ?_, fun k hk => ?_, fun k hk => ?_, fun k hk => ?_, fun p hp => ?_, fun p hp => ?_, ?_, fun q hq j hj => ?_, fun q hq p hp => ?_⟩
  · rw [up_n (by omega)]; exact m1
  · rw [up_n (by omega)]; exact m2
  · rw [up_n (by omega)]; exact m3 k hk
  · rw [up_n (by omega)]; exact m4 k hk
  · rw [up_n (by omega)]; exact m5 k hk
  · rw [up_n (by omega)]; exact m6 p hp
  · rw [up_n (by omega)]; exact m7 p hp
  · rw [up_n (by omega)]; exact m8
  · show upd s (33 + 6 * p + k) (s (33 + 6 * p + k) + 1) (33 + 6 * q + j) = nI (if q * 6 + j = p * 6 + k then wSk w (q * 6 + j) + 1 else wSk w (q * 6 + j))
    by_cases e : q * 6 + j = p * 6 + k
    · have e2 : 33 + 6 * q + j = 33 + 6 * p + k := by omega
      rw [if_pos e, e, e2, up_s, m9' p hp k hk, c1, nI_add]
    · rw [if_neg e, up_n (by omega), m9' q hq j hj]
  · rw [up_n (by omega)]; exact m10 q hq p hp
theorem tau_ok (hw : wOK t w) {p k : Nat} (h : wSk w (p * 6 + k) < 9) : wOK t (wTau w (p * 6 + k)) := by
  refine ⟨hw.1, hw.2.1, hw.2.2.1, fun q hq j hj => ?_, hw.2.2.2.2⟩
  have h9 := hw.2.2.2.1 q hq j hj
  show (if q * 6 + j = p * 6 + k then wSk w (q * 6 + j) + 1 else wSk w (q * 6 + j)) ≤ 9
  split
  · rename_i e
    rw [e]
    omega
  · exact h9
theorem lackingIfTaught_s (hN : 106 ≤ N) (ht : tOK t) (hw : wOK t w) (rt : RT t trades people needs yields skips) (ru : RU t fade winter fall) (rc : RC t w round fell ills skills places stores lacked helpers favours wheel) (ar af ai : Int32) (ask apl ast ala ahe afa awh awo : Nat → Int32) {p k n en : Nat} (hp : p < tP t) (hk : k < tT t) (h9 : wSk w (p * 6 + k) < 9) (hn : n < 2147483648) (hen : en < 2147483648) : ∃ (v : Nat) (br bf bi : Int32) (bsk bpl bst bla bhe bfa bwh bwo : Nat → Int32), fX4_lackingIfTaught N fade winter fall round fell ills skills places stores lacked helpers favours wheel ar af ai ask apl ast ala ahe afa awh awo trades people needs yields skips (nI p) (nI k) (nI n) (nI en) = some (nI v, br, bf, bi, bsk, bpl, bst, bla, bhe, bfa, bwh, bwo) ∧ TV t (wTau w (p * 6 + k)) n en v := by
  have hP : tP t ≤ 6 := ht.2.1
  have hT : tT t ≤ 6 := ht.1
  obtain ⟨x1, x2, x3, x4, x5, x6, x7, p1, p2⟩ := becomes_s (N := N) (r2 := ar) (f2 := af) (i2 := ai) (x1 := ask) (x2 := apl) (x3 := ast) (x4 := ala) (x5 := ahe) (x6 := afa) (x7 := awh) ht rc
  obtain ⟨v, a1, a2, a3, a4, a5, a6, a7, a8, a9, a10, g1, g2⟩ := goRounds_v (N := N) (works := awo) (by omega) ht (tau_ok hw h9) rt ru (RC_tau ht p2 hp hk) hn hen
  refine ⟨v, a1, a2, a3, a4, a5, a6, a7, a8, a9, x7, a10, ?_, g2⟩
  unfold fX4_lackingIfTaught
  rw [p1, b10_s, cell_s, b1_s, sgd (by omega) (by decide), sgd (by omega) (by decide), sclamp (by omega), g1, b11_s]
theorem taught_in (hN : 106 ≤ N) (ht : tOK t) (hw : wOK t w) (rt : RT t trades people needs yields skips) (ru : RU t fade winter fall) (rc : RC t w round fell ills skills places stores lacked helpers favours wheel) (rn : RN t mtrades mpeople need made mskips tunes) (hT0 : 0 < tT t) {p n0 : Nat} (hp : p < tP t) (hn0 : n0 < 2147483648) :
    ∀ (d k n n' : Nat), k + d = tT t → d < n → d < n' → ∀ (ar af ai : Int32) (ask apl ast ala ahe afa awh awo : Nat → Int32) (fal : Int32) (s spare mk wo : Nat → Int32) (a : Nat) (b : Int32), a < 2147483648 → RM t w s → RM t w spare →
      ∃ (br bf bi : Int32) (bsk bpl bst bla bhe bfa bwh bwo : Nat → Int32) (fal' : Int32) (s' spare' mk' wo' : Nat → Int32) (a' : Nat) (b' z z' : Int32), fX4_taught_75 N fade winter fall round fell ills skills places stores lacked helpers favours wheel trades people needs yields skips (nI n0) (nI p) n ar af ai ask apl ast ala ahe afa awh awo (nI a) b (nI k) = some (br, bf, bi, bsk, bpl, bst, bla, bhe, bfa, bwh, bwo, nI a', b', z) ∧ fX5_taught_68 N mtrades mpeople need made mskips tunes (nI n0) (nI p) n' fal s spare mk wo (nI a) b (nI k) = some (fal', s', spare', mk', wo', nI a', b', z') ∧ a' < 2147483648 ∧ RM t w s' ∧ RM t w spare' := by
  have hP : tP t ≤ 6 := ht.2.1
  have hT : tT t ≤ 6 := ht.1
  intro d
  induction d with
  | zero =>
    intro k n n' hi hn hn' ar af ai ask apl ast ala ahe afa awh awo fal s spare mk wo a b ha rm rp
    obtain ⟨n, rfl⟩ : ∃ z, n = z + 1 := ⟨n - 1, by omega⟩
    obtain ⟨n', rfl⟩ : ∃ z, n' = z + 1 := ⟨n' - 1, by omega⟩
    exact ⟨_, _, _, _, _, _, _, _, _, _, _, _, _, _, _, _, a, b, _, _, by rw [fX4_taught_75_s, rt.1, if_pos (nI_le (by omega) (by omega))], by rw [fX5_taught_68_s, rn.1, if_pos (nI_le (by omega) (by omega))], ha, rm, rp⟩
  | succ d ih =>
    intro k n n' hi hn hn' ar af ai ask apl ast ala ahe afa awh awo fal s spare mk wo a b ha rm rp
    obtain ⟨n, rfl⟩ : ∃ z, n = z + 1 := ⟨n - 1, by omega⟩
    obtain ⟨n', rfl⟩ : ∃ z, n' = z + 1 := ⟨n' - 1, by omega⟩
    have hk : k < tT t := by omega
    have e1 : nI k + (1 : Int32) = nI (k + 1) := by rw [c1, nI_add]
    have ix : ((33 : Int32) + (6 : Int32) * nI p) + nI k = nI (33 + 6 * p + k) := by rw [c6, c33, pk_mul, nI_add, nI_add]
    rw [fX4_taught_75_s, fX5_taught_68_s]
    rw [show (if trades ≤ nI k then _ else _) = _ from if_neg (by rw [rt.1, sle (by omega) (by omega)]; omega), show (if mtrades ≤ nI k then _ else _) = _ from if_neg (by rw [rn.1, sle (by omega) (by omega)]; omega)]
    rw [cell_s, b1_s, sgd (by omega) (by decide), sclamp (by omega), rc.2.2.2.1 p hp k hk, e1, ix, sgd (by omega) (by decide), sgd (by omega) (by decide), sgd (by omega) (by decide), sclamp (by omega), rm.2.2.2.2.2.2.2.2.1 p hp k hk, c9, ic (slt (by have := hw.2.2.2.1 p hp k hk; omega) (by decide)), ic (sle (by decide) (by have := hw.2.2.2.1 p hp k hk; omega))]
    by_cases h9 : wSk w (p * 6 + k) < 9
    · rw [if_pos h9, if_neg (by omega)]
      obtain ⟨v, cr, cf, ci, csk, cpl, cst, cla, che, cfa, cwh, cwo, g1, g2⟩ := lackingIfTaught_s hN ht hw rt ru rc ar af ai ask apl ast ala ahe afa awh awo hp hk h9 hn0 ha
      have rt2 : RM t (wTau w (p * 6 + k)) (upd s (33 + 6 * p + k) (nI (wSk w (p * 6 + k)) + 1)) := by
        have := RM_tau ht rm hp hk
        rw [rm.2.2.2.2.2.2.2.2.1 p hp k hk] at this
        exact this
      obtain ⟨fal2, s2, mk2, wo2, k1, k2⟩ := tryM hN ht (tau_ok hw h9) hT0 rn rt2 rp hn0 fal mk wo
      rw [g1, b12_s, k2]
      have tl := tot_lt ht (tau_ok hw h9) n0
      rcases g2.2 with ⟨g3, g4⟩ | ⟨g3, g4⟩
      · subst g4
        have hle : ¬ nI a ≤ nI (tot t (wTau w (p * 6 + k)) (rl (wTau w (p * 6 + k)) n0)) := by rw [sle ha (by omega)]; omega
        simp only [if_neg hle]
        exact ih (k + 1) n n' (by omega) (by omega) (by omega) _ _ _ _ _ _ _ _ _ _ _ _ _ _ _ _ _ _ (by omega) k1 rp
      · have hle : nI a ≤ nI (tot t (wTau w (p * 6 + k)) (rl (wTau w (p * 6 + k)) n0)) := by rw [sle ha (by omega)]; omega
        have hle2 : nI a ≤ nI v := by rw [sle ha g2.1]; omega
        simp only [if_pos hle, if_pos hle2]
        exact ih (k + 1) n n' (by omega) (by omega) (by omega) _ _ _ _ _ _ _ _ _ _ _ _ _ _ _ _ _ _ ha k1 rp
    · rw [if_neg h9, if_pos (by omega)]
      exact ih (k + 1) n n' (by omega) (by omega) (by omega) _ _ _ _ _ _ _ _ _ _ _ _ _ _ _ _ _ _ ha rm rp
theorem taught_out (hN : 106 ≤ N) (ht : tOK t) (hw : wOK t w) (rt : RT t trades people needs yields skips) (ru : RU t fade winter fall) (rc : RC t w round fell ills skills places stores lacked helpers favours wheel) (rn : RN t mtrades mpeople need made mskips tunes) (hT0 : 0 < tT t) {n0 : Nat} (hn0 : n0 < 2147483648) :
    ∀ (d p n n' : Nat), p + d = tP t → d < n → d < n' → ∀ (ar af ai : Int32) (ask apl ast ala ahe afa awh awo : Nat → Int32) (fal : Int32) (s spare mk wo : Nat → Int32) (a : Nat) (b : Int32), a < 2147483648 → RM t w s → RM t w spare →
      ∃ (br bf bi : Int32) (bsk bpl bst bla bhe bfa bwh bwo : Nat → Int32) (fal' : Int32) (s' spare' mk' wo' : Nat → Int32) (a' : Nat) (b' z z' : Int32), fX4_taught_60 N fade winter fall round fell ills skills places stores lacked helpers favours wheel trades people needs yields skips (nI n0) n ar af ai ask apl ast ala ahe afa awh awo (nI a) b (nI p) = some (br, bf, bi, bsk, bpl, bst, bla, bhe, bfa, bwh, bwo, nI a', b', z) ∧ fX5_taught_56 N mtrades mpeople need made mskips tunes (nI n0) n' fal s spare mk wo (nI a) b (nI p) = some (fal', s', spare', mk', wo', nI a', b', z') ∧ a' < 2147483648 ∧ RM t w s' ∧ RM t w spare' := by
  have hP : tP t ≤ 6 := ht.2.1
  have hT : tT t ≤ 6 := ht.1
  intro d
  induction d with
  | zero =>
    intro p n n' hi hn hn' ar af ai ask apl ast ala ahe afa awh awo fal s spare mk wo a b ha rm rp
    obtain ⟨n, rfl⟩ : ∃ z, n = z + 1 := ⟨n - 1, by omega⟩
    obtain ⟨n', rfl⟩ : ∃ z, n' = z + 1 := ⟨n' - 1, by omega⟩
    exact ⟨_, _, _, _, _, _, _, _, _, _, _, _, _, _, _, _, a, b, _, _, by rw [fX4_taught_60_s, rt.2.1, if_pos (nI_le (by omega) (by omega))], by rw [fX5_taught_56_s, rn.2.1, if_pos (nI_le (by omega) (by omega))], ha, rm, rp⟩
  | succ d ih =>
    intro p n n' hi hn hn' ar af ai ask apl ast ala ahe afa awh awo fal s spare mk wo a b ha rm rp
    obtain ⟨n, rfl⟩ : ∃ z, n = z + 1 := ⟨n - 1, by omega⟩
    obtain ⟨n', rfl⟩ : ∃ z, n' = z + 1 := ⟨n' - 1, by omega⟩
    have e1 : nI p + (1 : Int32) = nI (p + 1) := by rw [c1, nI_add]
    obtain ⟨cr, cf, ci, csk, cpl, cst, cla, che, cfa, cwh, cwo, fal2, s2, spare2, mk2, wo2, a2, b2', z, z', g1, g2, g3, g4, g5⟩ := taught_in hN ht hw rt ru rc rn hT0 (p := p) (n0 := n0) (by omega) hn0 (tT t) 0 N N (by omega) (by omega) (by omega) ar af ai ask apl ast ala ahe afa awh awo fal s spare mk wo a b ha rm rp
    have g1' : fX4_taught_75 N fade winter fall round fell ills skills places stores lacked helpers favours wheel trades people needs yields skips (nI n0) (nI p) N ar af ai ask apl ast ala ahe afa awh awo (nI a) b (0 : Int32) = _ := g1
    have g2' : fX5_taught_68 N mtrades mpeople need made mskips tunes (nI n0) (nI p) N fal s spare mk wo (nI a) b (0 : Int32) = _ := g2
    rw [fX4_taught_60_s, fX5_taught_56_s]
    rw [show (if people ≤ nI p then _ else _) = _ from if_neg (by rw [rt.2.1, sle (by omega) (by omega)]; omega), show (if mpeople ≤ nI p then _ else _) = _ from if_neg (by rw [rn.2.1, sle (by omega) (by omega)]; omega)]
    rw [g1', b14_s, g2', b8_s, e1]
    exact ih (p + 1) n n' (by omega) (by omega) (by omega) _ _ _ _ _ _ _ _ _ _ _ _ _ _ _ _ _ _ g3 g4 g5
theorem q_taught (hN : 106 ≤ N) (ht : tOK t) (hw : wOK t w) (rt : RT t trades people needs yields skips) (ru : RU t fade winter fall) (rc : RC t w round fell ills skills places stores lacked helpers favours wheel) (rn : RN t mtrades mpeople need made mskips tunes) (rm : RM t w s) (ar af ai : Int32) (ask apl ast ala ahe afa awh awo : Nat → Int32) (i1 i2 : Int32) :
    ∃ r x fal s' sp' mk' wo', fX4_taught N fade winter fall round fell ills skills places stores lacked helpers favours wheel ar af ai ask apl ast ala ahe afa awh awo trades people needs yields skips i1 i2 = some (r, x) ∧ fX5_taught N thrown mtrades mpeople falling need made mskips tunes s spare makes mworks i1 i2 = some (r, 0, fal, s', sp', mk', wo') ∧ RM t w s' := by
  have hT : tT t ≤ 6 := ht.1
  have hP : tP t ≤ 6 := ht.2.1
  have e12 : trades = mtrades := rt.1.trans rn.1.symm
  subst e12
  unfold fX4_taught fX5_taught
  rw [in_e]
  rcases isF i1 i2 with ⟨n, j, h1, h2, h3, rfl, rfl, h⟩ | h
  · obtain ⟨k1, k2, k3⟩ := h N
    rw [k1, k2, k3, b1_s, b1_s, b1_s]
    try simp only [if10, if00, if10', if00']
    by_cases hz : trades = 0
    · rw [if_pos hz, if_pos hz]
      exact ⟨_, _, _, _, _, _, _, rfl, rfl, rm⟩
    · have hT0 : 0 < tT t := Nat.pos_of_ne_zero (fun h => hz (by rw [rt.1, h]; rfl))
      rw [if_neg hz, if_neg hz]
      obtain ⟨x1, x2, x3, x4, x5, x6, x7, p1, p2⟩ := becomes_s (N := N) (r2 := ar) (f2 := af) (i2 := ai) (x1 := ask) (x2 := apl) (x3 := ast) (x4 := ala) (x5 := ahe) (x6 := afa) (x7 := awh) ht rc
      obtain ⟨x, g1, g2⟩ := goRounds_x (N := N) (works := awo) (by omega) ht hw rt ru p2 (n := n) (by omega)
      obtain ⟨sp1, a1, a2⟩ := aside_1 (N := N) (s := s) (spare := spare) hN
      have a1' : fX5_aside N s spare (1 : Int32) = _ := a1
      have rp : RM t w sp1 := RM_congr ht a2 rm
      obtain ⟨fal2, s2, mk2, wo2, q1, q2⟩ := tryM hN ht hw hT0 rn rm rp (c := n) (by omega) falling makes mworks
      obtain ⟨cr, cf, ci, csk, cpl, cst, cla, che, cfa, cwh, cwo, fal3, s3, spare3, mk3, wo3, a3, b3', z, z', u1, u2, u3, u4, u5⟩ := taught_out hN ht hw rt ru rc rn hT0 (n0 := n) (by omega) (tP t) 0 N N (by omega) (by omega) (by omega) x.1 x.2.1 x.2.2.1 x.2.2.2.1 x.2.2.2.2.1 x.2.2.2.2.2.1 x.2.2.2.2.2.2.1 x.2.2.2.2.2.2.2.1 x.2.2.2.2.2.2.2.2.1 x7 x.2.2.2.2.2.2.2.2.2.2 fal2 s2 sp1 mk2 wo2 (tot t w (rl w n)) m9 (by have := tot_lt ht hw n; omega) q1 rp
      have u1' : fX4_taught_60 N fade winter fall round fell ills skills places stores lacked helpers favours wheel trades people needs yields skips (nI n) N x.1 x.2.1 x.2.2.1 x.2.2.2.1 x.2.2.2.2.1 x.2.2.2.2.2.1 x.2.2.2.2.2.2.1 x.2.2.2.2.2.2.2.1 x.2.2.2.2.2.2.2.2.1 x7 x.2.2.2.2.2.2.2.2.2.2 (nI (tot t w (rl w n))) (-9 : Int32) (0 : Int32) = _ := u1
      have u2' : fX5_taught_56 N trades mpeople need made mskips tunes (nI n) N fal2 s2 sp1 mk2 wo2 (nI (tot t w (rl w n))) (-9 : Int32) (0 : Int32) = _ := u2
      rw [p1, b10_s, g1, b11_s, u1', b14_s, a1', b2_s, q2, u2', b8_s]
      by_cases hb : b3' = (-9 : Int32)
      · rw [if_pos hb, if_pos hb, hb]
        exact ⟨_, _, _, _, _, _, _, rfl, rfl, u4⟩
      · rw [if_neg hb, if_neg hb]
        by_cases hj : nI j = (0 : Int32)
        · rw [if_pos hj, if_pos hj]
          exact ⟨_, _, _, _, _, _, _, rfl, rfl, u4⟩
        · rw [if_neg hj, if_neg hj]
          exact ⟨_, _, _, _, _, _, _, rfl, rfl, u4⟩
  · obtain ⟨k1, k2⟩ := h N
    rw [k1, b1_s]
    try simp only [if10, if00, if10', if00']
    rcases k2 with k2 | ⟨k2, k3⟩
    · rw [k2, b1_s]
      try simp only [if10, if00, if10', if00']
      exact ⟨_, _, _, _, _, _, _, rfl, rfl, rm⟩
    · rw [k2, k3, b1_s, b1_s]
      try simp only [if10, if00, if10', if00']
      exact ⟨_, _, _, _, _, _, _, rfl, rfl, rm⟩
end
/-! with whom to change -/
def wChg (w : WS) (p q : Nat) : WS := (wRd w, wFe w, wIl w ||| 2 ^ p, wSk w, fun j => if j = q then wPl w p else if j = p then wPl w q else wPl w j, wSt w, wLa w, wHp w, wFa w, wWh w)
theorem wChg_self (w : WS) (p : Nat) : wChg w p p = wIll w p := by
  have : (fun j => if j = p then wPl w p else if j = p then wPl w p else wPl w j) = wPl w := by
    funext j
    by_cases e : j = p
    · rw [if_pos e, e]
    · rw [if_neg e, if_neg e]
  unfold wChg wIll
  rw [this]
section
variable {N : Nat} {t : TS} {w w' : WS} {trades people fade winter fall round fell ills mtrades mpeople thrown falling : Int32} {needs yields skips skills places stores lacked helpers favours wheel works need made mskips tunes s makes mworks spare s' : Nat → Int32}
theorem wChg_ok (ht : tOK t) (hw : wOK t w) {p q : Nat} (hp : p < tP t) (hq : q < tP t) : wOK t (wChg w p q) := by
  have h := wIll_ok ht hw hp
  refine ⟨h.1, h.2.1, h.2.2.1, h.2.2.2.1, fun j hj => ?_, h.2.2.2.2.2⟩
  have h5 := hw.2.2.2.2.1
  show (if j = q then wPl w p else if j = p then wPl w q else wPl w j) < tT t ∨ (tT t = 0 ∧ (if j = q then wPl w p else if j = p then wPl w q else wPl w j) = 0)
  by_cases e : j = q
  · rw [if_pos e]; exact h5 p hp
  · rw [if_neg e]
    by_cases e' : j = p
    · rw [if_pos e']; exact h5 q hq
    · rw [if_neg e']; exact h5 j hj
theorem RC_chg (ht : tOK t) (rc : RC t w round fell ills skills places stores lacked helpers favours wheel) {p q : Nat} (hp : p < tP t) (hq : q < tP t) {x : Int32} (hx : x = nI (wIl w ||| 2 ^ p)) : RC t (wChg w p q) round fell x skills (upd (upd places p (places q)) q (places p)) stores lacked helpers favours wheel := by
  refine ⟨rc.1, rc.2.1, hx, rc.2.2.2.1, fun j hj => ?_, rc.2.2.2.2.2⟩
  show upd (upd places p (places q)) q (places p) j = nI (if j = q then wPl w p else if j = p then wPl w q else wPl w j)
  have d5 := rc.2.2.2.2.1
  by_cases e : j = q
  · rw [if_pos e, e, up_s, d5 p hp]
  · rw [if_neg e, up_n e]
    by_cases e' : j = p
    · rw [if_pos e', e', up_s, d5 q hq]
    · rw [if_neg e', up_n e', d5 j hj]
theorem RM_chg (ht : tOK t) (rm : RM t w s) {p q : Nat} (hp : p < tP t) (hq : q < tP t) {x : Int32} (hx : x = nI (wIl w ||| 2 ^ p)) : RM t (wChg w p q) (upd (upd (upd s (20 + p) (s (20 + q))) (20 + q) (s (20 + p))) 32 x) := by
  have hP : tP t ≤ 6 := ht.2.1
  have hT : tT t ≤ 6 := ht.1
  obtain ⟨m1, m2, m3, m4, m5, m6, m7, m8, m9', m10⟩ := rm
  refine ⟨?_, ?_, fun k hk => ?_, fun k hk => ?_, fun k hk => ?_, fun j hj => ?_, fun j hj => ?_, ?_, fun a ha j hj => ?_, fun a ha b hb => ?_⟩
  · rw [up_n (by omega), up_n (by omega), up_n (by omega)]; exact m1
  · rw [up_n (by omega), up_n (by omega), up_n (by omega)]; exact m2
  · rw [up_n (by omega), up_n (by omega), up_n (by omega)]; exact m3 k hk
  · rw [up_n (by omega), up_n (by omega), up_n (by omega)]; exact m4 k hk
  · rw [up_n (by omega), up_n (by omega), up_n (by omega)]; exact m5 k hk
  · show upd (upd (upd s (20 + p) (s (20 + q))) (20 + q) (s (20 + p))) 32 x (20 + j) = nI (if j = q then wPl w p else if j = p then wPl w q else wPl w j)
    rw [up_n (by omega)]
    by_cases e : j = q
    · rw [if_pos e, e, up_s, m6 p hp]
    · rw [if_neg e, up_n (by omega)]
      by_cases e' : j = p
      · rw [if_pos e', e', up_s, m6 q hq]
      · rw [if_neg e', up_n (by omega), m6 j hj]
  · rw [up_n (by omega), up_n (by omega), up_n (by omega)]; exact m7 j hj
  · rw [up_s]; exact hx
  · rw [up_n (by omega), up_n (by omega), up_n (by omega)]; exact m9' a ha j hj
  · rw [up_n (by omega), up_n (by omega), up_n (by omega)]; exact m10 a ha b hb
theorem lackingIfChanged_s (hN : 106 ≤ N) (ht : tOK t) (hw : wOK t w) (rt : RT t trades people needs yields skips) (ru : RU t fade winter fall) (rc : RC t w round fell ills skills places stores lacked helpers favours wheel) (ar af ai : Int32) (ask apl ast ala ahe afa awh awo : Nat → Int32) {p q n en : Nat} (hp : p < tP t) (hq : q < tP t) (hn : n < 2147483648) (hen : en < 2147483648) : ∃ (v : Nat) (br bf bi : Int32) (bsk bpl bst bla bhe bfa bwh bwo : Nat → Int32), fX4_lackingIfChanged N fade winter fall round fell ills skills places stores lacked helpers favours wheel ar af ai ask apl ast ala ahe afa awh awo trades people needs yields skips (nI p) (nI q) (nI n) (nI en) = some (nI v, br, bf, bi, bsk, bpl, bst, bla, bhe, bfa, bwh, bwo) ∧ TV t (wChg w p q) n en v := by
  have hP : tP t ≤ 6 := ht.2.1
  have hT : tT t ≤ 6 := ht.1
  obtain ⟨x1, x2, x3, x4, x5, x6, x7, p1, p2⟩ := becomes_s (N := N) (r2 := ar) (f2 := af) (i2 := ai) (x1 := ask) (x2 := apl) (x3 := ast) (x4 := ala) (x5 := ahe) (x6 := afa) (x7 := awh) ht rc
  obtain ⟨v, a1, a2, a3, a4, a5, a6, a7, a8, a9, a10, g1, g2⟩ := goRounds_v (N := N) (works := awo) (by omega) ht (wChg_ok ht hw hp hq) rt ru (RC_chg ht p2 hp hq rfl) hn hen
  refine ⟨v, a1, a2, a3, a4, a5, a6, a7, a8, a9, x7, a10, ?_, g2⟩
  unfold fX4_lackingIfChanged
  rw [p1, b10_s]
  unfold fX3_fallIll fX4_swap
  rw [rc.2.2.1, ill_or hw.2.1 (by omega), b1_s, sgd (by omega) (by decide), sgd (by omega) (by decide), sgd (by omega) (by decide), sgd (by omega) (by decide), b1_s, sclamp (by omega), sclamp (by omega), g1, b11_s]
theorem stands_l (hN : 106 ≤ N) (ht : tOK t) (hw : wOK t w) (rt : RT t trades people needs yields skips) (ru : RU t fade winter fall) (rc : RC t w round fell ills skills places stores lacked helpers favours wheel) (rn : RN t mtrades mpeople need made mskips tunes) (hT0 : 0 < tT t) {p n0 : Nat} (hp : p < tP t) (hn0 : n0 < 2147483648) :
    ∀ (d q n n' : Nat), q + d = tP t → d < n → d < n' → ∀ (ar af ai : Int32) (ask apl ast ala ahe afa awh awo : Nat → Int32) (fal : Int32) (s spare mk wo : Nat → Int32) (a : Nat) (b : Int32), a < 2147483648 → RM t w s → RM t w spare →
      ∃ (br bf bi : Int32) (bsk bpl bst bla bhe bfa bwh bwo : Nat → Int32) (fal' : Int32) (s' spare' mk' wo' : Nat → Int32) (a' : Nat) (b' z z' : Int32), fX4_standsIn_49 N fade winter fall round fell ills skills places stores lacked helpers favours wheel trades people needs yields skips (nI p) (nI n0) n ar af ai ask apl ast ala ahe afa awh awo (nI a) b (nI q) = some (br, bf, bi, bsk, bpl, bst, bla, bhe, bfa, bwh, bwo, nI a', b', z) ∧ fX5_standsIn_67 N mtrades mpeople need made mskips tunes (nI p) (nI n0) n' fal s spare mk wo b (nI a) (nI q) = some (fal', s', spare', mk', wo', b', nI a', z') ∧ RM t w s' := by
  have hP : tP t ≤ 6 := ht.2.1
  have hT : tT t ≤ 6 := ht.1
  intro d
  induction d with
  | zero =>
    intro q n n' hi hn hn' ar af ai ask apl ast ala ahe afa awh awo fal s spare mk wo a b ha rm rp
    obtain ⟨n, rfl⟩ : ∃ z, n = z + 1 := ⟨n - 1, by omega⟩
    obtain ⟨n', rfl⟩ : ∃ z, n' = z + 1 := ⟨n' - 1, by omega⟩
    exact ⟨_, _, _, _, _, _, _, _, _, _, _, _, _, _, _, _, a, b, _, _, by rw [fX4_standsIn_49_s, rt.2.1, if_pos (nI_le (by omega) (by omega))], by rw [fX5_standsIn_67_s, rn.2.1, if_pos (nI_le (by omega) (by omega))], rm⟩
  | succ d ih =>
    intro q n n' hi hn hn' ar af ai ask apl ast ala ahe afa awh awo fal s spare mk wo a b ha rm rp
    obtain ⟨n, rfl⟩ : ∃ z, n = z + 1 := ⟨n - 1, by omega⟩
    obtain ⟨n', rfl⟩ : ∃ z, n' = z + 1 := ⟨n' - 1, by omega⟩
    have hq : q < tP t := by omega
    have e1 : nI q + (1 : Int32) = nI (q + 1) := by rw [c1, nI_add]
    have e8 := rm.2.2.2.2.2.2.2.1
    rw [fX4_standsIn_49_s, fX5_standsIn_67_s]
    rw [show (if people ≤ nI q then _ else _) = _ from if_neg (by rw [rt.2.1, sle (by omega) (by omega)]; omega), show (if mpeople ≤ nI q then _ else _) = _ from if_neg (by rw [rn.2.1, sle (by omega) (by omega)]; omega)]
    obtain ⟨v, cr, cf, ci, csk, cpl, cst, cla, che, cfa, cwh, cwo, g1, g2⟩ := lackingIfChanged_s hN ht hw rt ru rc ar af ai ask apl ast ala ahe afa awh awo hp hq hn0 ha
    obtain ⟨fal2, s2, mk2, wo2, k1, k2⟩ := tryM hN ht (wChg_ok ht hw hp hq) hT0 rn (RM_chg ht rm hp hq rfl) rp hn0 fal mk wo
    rw [g1, b12_s, e1, c20, nI_add, nI_add, c32, sgd (by omega) (by decide), sgd (by omega) (by decide), sgd (by omega) (by decide), sgd (by omega) (by decide), sgd (by decide) (by decide), sgd (by decide) (by decide), sclamp (by omega), sclamp (by omega), sclamp (by decide),
      show upd (upd s (20 + p) (s (20 + q))) (20 + q) (s (20 + p)) 32 = nI (wIl w) by rw [up_n (by omega), up_n (by omega), e8], ill_or hw.2.1 (by omega), k2]
    have tl := tot_lt ht (wChg_ok ht hw hp hq) n0
    rcases g2.2 with ⟨g3, g4⟩ | ⟨g3, g4⟩
    · subst g4
      have hle : ¬ nI a ≤ nI (tot t (wChg w p q) (rl (wChg w p q) n0)) := by rw [sle ha (by omega)]; omega
      simp only [if_neg hle]
      exact ih (q + 1) n n' (by omega) (by omega) (by omega) _ _ _ _ _ _ _ _ _ _ _ _ _ _ _ _ _ _ (by omega) k1 rp
    · have hle : nI a ≤ nI (tot t (wChg w p q) (rl (wChg w p q) n0)) := by rw [sle ha (by omega)]; omega
      have hle2 : nI a ≤ nI v := by rw [sle ha g2.1]; omega
      simp only [if_pos hle, if_pos hle2]
      exact ih (q + 1) n n' (by omega) (by omega) (by omega) _ _ _ _ _ _ _ _ _ _ _ _ _ _ _ _ _ _ ha k1 rp
theorem q_standsIn (hN : 106 ≤ N) (ht : tOK t) (hw : wOK t w) (rt : RT t trades people needs yields skips) (ru : RU t fade winter fall) (rc : RC t w round fell ills skills places stores lacked helpers favours wheel) (rn : RN t mtrades mpeople need made mskips tunes) (rm : RM t w s) (ar af ai : Int32) (ask apl ast ala ahe afa awh awo : Nat → Int32) (i1 i2 : Int32) :
    ∃ r x fal s' sp' mk' wo', fX4_standsIn N fade winter fall round fell ills skills places stores lacked helpers favours wheel ar af ai ask apl ast ala ahe afa awh awo trades people needs yields skips i1 i2 = some (r, x) ∧ fX5_standsIn N thrown mtrades mpeople falling need made mskips tunes s spare makes mworks i1 i2 = some (r, 0, fal, s', sp', mk', wo') ∧ RM t w s' := by
  have hT : tT t ≤ 6 := ht.1
  have hP : tP t ≤ 6 := ht.2.1
  have e12 : trades = mtrades := rt.1.trans rn.1.symm
  have e13 : people = mpeople := rt.2.1.trans rn.2.1.symm
  subst e12 e13
  unfold fX4_standsIn fX5_standsIn fX5_areRounds
  rw [isPerson_e, isPersonX_e, in_e]
  have h := rngT i1 (tP t) hP
  rw [← rt.2.1] at h
  rcases h with ⟨p, hp, rfl, h⟩ | h
  · rw [h N, b1_s, b1_s]
    try simp only [if10, if00, if10', if00']
    rcases rng i2 1 40 (by decide) (by decide) with ⟨n, h1, h2, rfl, h3⟩ | ⟨h3, _⟩
    · have h3' : fX4_within N (nI n) (1 : Int32) (40 : Int32) = _ := h3 N
      rw [h3', b1_s, b1_s]
      try simp only [if10, if00, if10', if00']
      by_cases hz : trades = 0
      · rw [if_pos hz, if_pos hz]
        exact ⟨_, _, _, _, _, _, _, rfl, rfl, rm⟩
      · have hT0 : 0 < tT t := Nat.pos_of_ne_zero (fun h => hz (by rw [rt.1, h]; rfl))
        rw [if_neg hz, if_neg hz]
        have e8 := rm.2.2.2.2.2.2.2.1
        obtain ⟨v, cr, cf, ci, csk, cpl, cst, cla, che, cfa, cwh, cwo, g1, g2⟩ := lackingIfChanged_s hN ht hw rt ru rc ar af ai ask apl ast ala ahe afa awh awo hp hp (n := n) (en := 2147483647) (by omega) (by decide)
        have g1' : fX4_lackingIfChanged N fade winter fall round fell ills skills places stores lacked helpers favours wheel ar af ai ask apl ast ala ahe afa awh awo trades people needs yields skips (nI p) (nI p) (nI n) (2147483647 : Int32) = _ := g1
        obtain ⟨sp1, a1, a2⟩ := aside_1 (N := N) (s := s) (spare := spare) hN
        have a1' : fX5_aside N s spare (1 : Int32) = _ := a1
        have rp : RM t w sp1 := RM_congr ht a2 rm
        obtain ⟨fal2, s2, mk2, wo2, q1, q2⟩ := tryM hN ht (wIll_ok ht hw hp) hT0 rn (RM_ill ht rm (p := p) rfl) rp (c := n) (by omega) falling makes mworks
        have tl := tot_lt ht (wIll_ok ht hw hp) n
        rw [wChg_self] at g2
        have hv : v = tot t (wIll w p) (rl (wIll w p) n) := by
          rcases g2.2 with ⟨_, g4⟩ | ⟨g3, _⟩
          · exact g4
          · omega
        subst hv
        obtain ⟨br, bf, bi, bsk, bpl, bst, bla, bhe, bfa, bwh, bwo, fal3, s3, spare3, mk3, wo3, a3, b3', z, z', u1, u2, u3⟩ := stands_l hN ht hw rt ru rc rn hT0 (p := p) (n0 := n) hp (by omega) (tP t) 0 N N (by omega) (by omega) (by omega) cr cf ci csk cpl cst cla che cfa cwh cwo fal2 s2 sp1 mk2 wo2 (tot t (wIll w p) (rl (wIll w p) n)) (nI p) (by omega) q1 rp
        have u1' : fX4_standsIn_49 N fade winter fall round fell ills skills places stores lacked helpers favours wheel trades people needs yields skips (nI p) (nI n) N cr cf ci csk cpl cst cla che cfa cwh cwo (nI (tot t (wIll w p) (rl (wIll w p) n))) (nI p) (0 : Int32) = _ := u1
        have u2' : fX5_standsIn_67 N trades people need made mskips tunes (nI p) (nI n) N fal2 s2 sp1 mk2 wo2 (nI p) (nI (tot t (wIll w p) (rl (wIll w p) n))) (0 : Int32) = _ := u2
        rw [g1', b12_s, u1', b14_s, a1', b2_s, c32, sgd (by decide) (by decide), sgd (by decide) (by decide), sclamp (by decide), e8, ill_or hw.2.1 (by omega), q2, u2', b8_s]
        exact ⟨_, _, _, _, _, _, _, rfl, rfl, u3⟩
    · have h3' : fX4_within N i2 (1 : Int32) (40 : Int32) = _ := h3 N
      rw [h3', b1_s, b1_s]
      try simp only [if10, if00, if10', if00']
      exact ⟨_, _, _, _, _, _, _, rfl, rfl, rm⟩
  · rw [h N, b1_s, b1_s]
    try simp only [if10, if00, if10', if00']
    exact ⟨_, _, _, _, _, _, _, rfl, rfl, rm⟩
end
