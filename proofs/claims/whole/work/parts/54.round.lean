/-! the class's round, on -/
section
variable {N : Nat} {t : TS} {w : WS} {trades people fade winter fall round fell ills : Int32} {needs yields skips skills places stores lacked helpers favours wheel works : Nat → Int32}
theorem takeNeeds_l (ht : tOK t) (hw : wOK t w) {x1n st la : Nat → Int32} {tn : Nat} (htn : tn ≤ 30) (hq : ∀ k, k < tT t → tNd t k * tn / 10 = want t w k) (hn : ∀ k, k < tT t → x1n k = nI (tNd t k)) (hst : ∀ k, k < tT t → st k = nI (gs t w (tP t) k)) (hla : ∀ k, k < tT t → la k = nI (wLa w k)) (hN : 7 ≤ N) :
    fX3_takeNeeds_26 N (nI (tT t)) x1n (nI tn) N st la (nI 0) (nI 0) = some (ov (fun j => decide (j < tT t)) st (fun k => nI (gs t w (tP t) k - want t w k)), ov (fun j => decide (j < tT t)) la (fun k => nI (wLa w k + lk t w k)), nI (lks t w (tT t)), nI (tT t)) := by
  have hP : tP t ≤ 6 := ht.2.1
  have hT : tT t ≤ 6 := ht.1
  have key := lpN (fun n (s : (Nat → Int32) × (Nat → Int32) × Int32 × Int32) => fX3_takeNeeds_26 N (nI (tT t)) x1n (nI tn) n s.1 s.2.1 s.2.2.1 s.2.2.2) (fun k => (ov (fun j => decide (j < k)) st (fun k => nI (gs t w (tP t) k - want t w k)), ov (fun j => decide (j < k)) la (fun k => nI (wLa w k + lk t w k)), nI (lks t w k), nI k)) (tT t) _
    (fun n k hk => by
      show fX3_takeNeeds_26 N (nI (tT t)) x1n (nI tn) (n + 1) _ _ (nI (lks t w k)) (nI k) = fX3_takeNeeds_26 N (nI (tT t)) x1n (nI tn) n _ _ (nI (lks t w (k + 1))) (nI (k + 1))
      dsimp only
      have g1 := gs_le ht hw (tP t) (Nat.le_refl _) k hk
      have g0 := hw.1
      have w1 := want_le (w := w) ht hk
      have l1 := lks_le (w := w) ht k (by omega)
      have a1 := (hw.2.2.2.2.2.1 k hk).2
      have nd := (ht.2.2.1 k hk).1
      have mm : tNd t k * tn ≤ 99 * 30 := Nat.mul_le_mul nd htn
      have o1 : ov (fun j => decide (j < k)) st (fun k => nI (gs t w (tP t) k - want t w k)) k = nI (gs t w (tP t) k) := (ov_f (by simp)).trans (hst k hk)
      have o2 : ov (fun j => decide (j < k)) la (fun k => nI (wLa w k + lk t w k)) k = nI (wLa w k) := (ov_f (by simp)).trans (hla k hk)
      have dv : nI (tNd t k) * nI tn / (10 : Int32) = nI (want t w k) := by
        rw [pk_mul, c10, sdiv (by omega) (by decide) (by decide), hq k hk]
      have cc : ∀ j, decide (j < k + 1) = (decide (j < k) || decide (j = k)) := fun j => by by_cases h1 : j = k <;> by_cases h2 : j < k <;> simp [h1, h2] <;> omega
      rw [fX3_takeNeeds_26_s, ic (sle (by omega) (by omega)), if_neg (by omega), sgd (by omega) (by decide), sgd (by omega) (by decide), sclamp (by omega), o1, o2, hn k hk, dv, ic (max0 (by omega) (by omega)), ic (lt0 (by omega) (by omega))]
      by_cases hle : want t w k ≤ gs t w (tP t) k
      · rw [if_pos hle, if_neg (by omega), sgd (by omega) (by decide), ssub hle, ov_upd (c' := fun j => decide (j < k + 1)) rfl cc, c1, nI_add]
        have e0 : lk t w k = 0 := by unfold lk; omega
        have e1 : lks t w (k + 1) = lks t w k := by rw [lks, e0]; rfl
        rw [e1]
        have e2 : ov (fun j => decide (j < k + 1)) la (fun k => nI (wLa w k + lk t w k)) = ov (fun j => decide (j < k)) la (fun k => nI (wLa w k + lk t w k)) := by
          rw [← ov_upd (i := k) (x := nI (wLa w k + lk t w k)) (c := fun j => decide (j < k)) rfl cc]
          funext j
          by_cases hj : j = k
          · subst hj; rw [up_s, o2, e0, Nat.add_zero]
          · rw [up_n hj]
        rw [e2]
      · have e0 : lk t w k = want t w k - gs t w (tP t) k := rfl
        rw [if_neg hle, if_pos (by omega), sgd (by omega) (by decide), sgd (by omega) (by decide), sgd (by omega) (by decide), sub_neg (by omega), sub_neg (by omega), c1, nI_add,
          ov_upd (c' := fun j => decide (j < k + 1)) (v := fun k => nI (gs t w (tP t) k - want t w k)) (by show (0 : Int32) = nI _; rw [c0]; congr 1; omega) cc, ← e0, ov_upd (c' := fun j => decide (j < k + 1)) (v := fun k => nI (wLa w k + lk t w k)) rfl cc]
        rfl)
    (fun n => by
      show fX3_takeNeeds_26 N (nI (tT t)) x1n (nI tn) (n + 1) _ _ _ (nI (tT t)) = _
      dsimp only
      rw [fX3_takeNeeds_26_s, ic (sle (by omega) (by omega)), if_pos (Nat.le_refl _)])
    (tT t) 0 (by omega) N (by omega)
  have h0 : ∀ (f v : Nat → Int32), ov (fun j => decide (j < 0)) f v = f := fun f v => ov_0 (fun j => by simp)
  simp only [h0] at key
  exact key
theorem takeNeeds_s (hN : 7 ≤ N) (ht : tOK t) (hw : wOK t w) (rt : RT t trades people needs yields skips) (hr : round = nI (wRd w)) (hu : winter = nI (tWi t)) (hst : ∀ k, k < tT t → stores k = nI (gs t w (tP t) k)) (hla : ∀ k, k < tT t → lacked k = nI (wLa w k)) :
    fX3_takeNeeds N round stores lacked trades needs winter = some (nI (lks t w (tT t)), ov (fun j => decide (j < tT t)) stores (fun k => nI (gs t w (tP t) k - want t w k)), ov (fun j => decide (j < tT t)) lacked (fun k => nI (wLa w k + lk t w k))) := by
  obtain ⟨e1, e2, e3, e4⟩ := rt
  have hwi := ht.2.2.2.2.2.1
  have hrd := hw.1
  unfold fX3_takeNeeds
  rw [e1, hr, hu]
  have hrem : nI (wRd w) - nI (wRd w) / (4 : Int32) * (4 : Int32) = nI (wRd w % 4) := pk_rem (by omega) (by decide) (by decide)
  rw [hrem, c3, c10, c0, nI_add, ic (seq (by omega) (by omega))]
  by_cases h3 : wRd w % 4 = 3
  · rw [if_pos h3, takeNeeds_l ht hw (tn := 10 + tWi t) (by omega) (fun k hk => by unfold want; rw [if_pos h3]) (fun k hk => (e3 k hk).1) hst hla hN]
    rfl
  · rw [if_neg h3, takeNeeds_l ht hw (tn := 10) (by omega) (fun k hk => by unfold want; rw [if_neg h3]) (fun k hk => (e3 k hk).1) hst hla hN]
    rfl
theorem changeSkills_i (hw : wOK t w) (ht : tOK t) (hN : 7 ≤ N) {p : Nat} (hp : p < tP t) {fd : Nat} (hfd : (fd = 0 ↔ fades t w = false)) (hfd1 : fd ≤ 1) {sk : Nat → Int32} (hsk : ∀ k, k < tT t → sk (p * 6 + k) = nI (wSk w (p * 6 + k))) :
    fX3_changeSkills_44 N (nI (tT t)) (nI fd) (nI p) (eN (wt t w p)) N sk (nI 0) = some (ov (fun j => decide (p * 6 ≤ j ∧ j < p * 6 + tT t)) sk (fun i => nI (skN t w i)), nI (tT t)) := by
  have hP : tP t ≤ 6 := ht.2.1
  have hT : tT t ≤ 6 := ht.1
  have key := lpN (fun n (s : (Nat → Int32) × Int32) => fX3_changeSkills_44 N (nI (tT t)) (nI fd) (nI p) (eN (wt t w p)) n s.1 s.2) (fun k => (ov (fun j => decide (p * 6 ≤ j ∧ j < p * 6 + k)) sk (fun i => nI (skN t w i)), nI k)) (tT t) _
    (fun n k hk => by
      show fX3_changeSkills_44 N (nI (tT t)) (nI fd) (nI p) (eN (wt t w p)) (n + 1) _ (nI k) = fX3_changeSkills_44 N (nI (tT t)) (nI fd) (nI p) (eN (wt t w p)) n _ (nI (k + 1))
      dsimp only
      have l9 := hw.2.2.2.1 p hp k hk
      have o1 : ov (fun j => decide (p * 6 ≤ j ∧ j < p * 6 + k)) sk (fun i => nI (skN t w i)) (p * 6 + k) = nI (wSk w (p * 6 + k)) := (ov_f (by simp)).trans (hsk k hk)
      have cc : ∀ j, decide (p * 6 ≤ j ∧ j < p * 6 + (k + 1)) = (decide (p * 6 ≤ j ∧ j < p * 6 + k) || decide (j = p * 6 + k)) := fun j => by
        rw [Bool.eq_iff_iff]; simp only [decide_eq_true_eq, Bool.or_eq_true]; omega
      have i1 : (p * 6 + k) / 6 = p := by omega
      have i2 : (p * 6 + k) % 6 = k := by omega
      have sv : skN t w (p * 6 + k) = if wt t w p = some k then min (wSk w (p * 6 + k) + 1) 9 else if fades t w then wSk w (p * 6 + k) - 1 else wSk w (p * 6 + k) := by unfold skN; rw [i1, i2]
      rw [fX3_changeSkills_44_s, ic (sle (by omega) (by omega)), if_neg (by omega), cell_s, b1_s, sclamp (by omega), o1, c1, nI_add, nI_add, sgd (by omega) (by decide), sgd (by omega) (by decide), c9, c0, ic (slt (by omega) (by omega))]
      have dec : (nI k = eN (wt t w p)) = (wt t w p = some k) := by
        cases hq : wt t w p with
        | none => rw [eN_n, seqm (by omega)]; simp
        | some a =>
          have := wt_lt hw hp hq
          rw [eN_s, seq (by omega) (by omega)]
          apply propext
          constructor
          · intro h; rw [h]
          · intro h; cases h; rfl
      rw [ic dec]
      by_cases hd : wt t w p = some k
      · rw [if_pos hd, ov_upd (c' := fun j => decide (p * 6 ≤ j ∧ j < p * 6 + (k + 1))) (by rw [sv, if_pos hd]; split <;> (congr 1; omega)) cc]
      · rw [if_neg hd]
        by_cases hf : fades t w = false
        · have f0 : fd = 0 := hfd.mpr hf
          subst f0
          rw [if_pos rfl]
          congr 1
          rw [← ov_upd (i := p * 6 + k) (x := nI (skN t w (p * 6 + k))) (c := fun j => decide (p * 6 ≤ j ∧ j < p * 6 + k)) rfl cc]
          funext j
          by_cases hj : j = p * 6 + k
          · subst hj; rw [up_s, o1, sv, if_neg hd, hf]; rfl
          · rw [up_n hj]
        · have f1 : fd = 1 := by
            have : fd ≠ 0 := fun h => hf (hfd.mp h)
            omega
          subst f1
          rw [if_neg (by decide), ← c0, ic (lt0 (by omega) (by omega)), sgd (by omega) (by decide), sgd (by omega) (by decide)]
          have hf : fades t w = true := by simpa using hf
          rw [ov_upd (c' := fun j => decide (p * 6 ≤ j ∧ j < p * 6 + (k + 1))) (by
            rw [sv, if_neg hd, hf, if_pos rfl]
            by_cases hz : wSk w (p * 6 + k) < 1
            · rw [if_pos hz, c0]; congr 1; omega
            · rw [if_neg hz, ssub (by omega)]) cc])
    (fun n => by
      show fX3_changeSkills_44 N (nI (tT t)) (nI fd) (nI p) (eN (wt t w p)) (n + 1) _ (nI (tT t)) = _
      dsimp only
      rw [fX3_changeSkills_44_s, ic (sle (by omega) (by omega)), if_pos (Nat.le_refl _)])
    (tT t) 0 (by omega) N (by omega)
  have h0 : ov (fun j => decide (p * 6 ≤ j ∧ j < p * 6 + 0)) sk (fun i => nI (skN t w i)) = sk := ov_0 (fun j => by rw [decide_eq_false_iff_not]; omega)
  simp only [h0] at key
  exact key
theorem changeSkills_l (hw : wOK t w) (ht : tOK t) (hN : 7 ≤ N) (rc : RC t w round fell ills skills places stores lacked helpers favours wheel) (hwk : ∀ p, p < tP t → works p = eN (wk t w p)) {fd : Nat} (hfd : (fd = 0 ↔ fades t w = false)) (hfd1 : fd ≤ 1) :
    fX3_changeSkills_24 N ills wheel works (nI (tT t)) (nI (tP t)) (nI fd) N skills (nI 0) = some (ov (fun j => decide (j / 6 < tP t ∧ j % 6 < tT t)) skills (fun i => nI (skN t w i)), nI (tP t)) := by
  have hP : tP t ≤ 6 := ht.2.1
  have hT : tT t ≤ 6 := ht.1
  have d4 := rc.2.2.2.1
  have key := lpN (fun n (s : (Nat → Int32) × Int32) => fX3_changeSkills_24 N ills wheel works (nI (tT t)) (nI (tP t)) (nI fd) n s.1 s.2) (fun p => (ov (fun j => decide (j / 6 < p ∧ j % 6 < tT t)) skills (fun i => nI (skN t w i)), nI p)) (tP t) _
    (fun n p hp => by
      show fX3_changeSkills_24 N ills wheel works (nI (tT t)) (nI (tP t)) (nI fd) (n + 1) _ (nI p) = fX3_changeSkills_24 N ills wheel works (nI (tT t)) (nI (tP t)) (nI fd) n _ (nI (p + 1))
      dsimp only
      rw [fX3_changeSkills_24_s, ic (sle (by omega) (by omega)), if_neg (by omega), workedAt_s ht hw rc hwk hp, b1_s, c0,
        changeSkills_i hw ht hN hp hfd hfd1 (fun k hk => (ov_f (by rw [decide_eq_false_iff_not]; omega)).trans (d4 p hp k hk)), b2_s, c1, nI_add]
      congr 1
      funext j
      simp only [ov, decide_eq_true_eq]
      by_cases h1 : p * 6 ≤ j ∧ j < p * 6 + tT t
      · rw [if_pos h1, if_pos (by omega)]
      · rw [if_neg h1]
        by_cases h2 : j / 6 < p ∧ j % 6 < tT t
        · rw [if_pos h2, if_pos (by omega)]
        · rw [if_neg h2, if_neg (by omega)])
    (fun n => by
      show fX3_changeSkills_24 N ills wheel works (nI (tT t)) (nI (tP t)) (nI fd) (n + 1) _ (nI (tP t)) = _
      dsimp only
      rw [fX3_changeSkills_24_s, ic (sle (by omega) (by omega)), if_pos (Nat.le_refl _)])
    (tP t) 0 (by omega) N (by omega)
  have h0 : ov (fun j => decide (j / 6 < 0 ∧ j % 6 < tT t)) skills (fun i => nI (skN t w i)) = skills := ov_0 (fun j => by simp)
  simp only [h0] at key
  exact key
theorem changeSkills_s (hw : wOK t w) (ht : tOK t) (hN : 7 ≤ N) (rt : RT t trades people needs yields skips) (hu : fade = nI (tFd t)) (rc : RC t w round fell ills skills places stores lacked helpers favours wheel) (hwk : ∀ p, p < tP t → works p = eN (wk t w p)) :
    fX3_changeSkills N round ills skills wheel works trades people fade = some (ov (fun j => decide (j / 6 < tP t ∧ j % 6 < tT t)) skills (fun i => nI (skN t w i))) := by
  obtain ⟨e1, e2, e3, e4⟩ := rt
  have hfd := ht.2.2.2.2.1
  have hrd := hw.1
  unfold fX3_changeSkills
  rw [hu, e1, e2, rc.1]
  have l0 : (nI (tFd t) ≤ 0) = (tFd t = 0) := by
    rw [c0, sle (by omega) (by omega)]; apply propext; omega
  rw [ic l0]
  by_cases h0 : tFd t = 0
  · rw [if_pos h0, c0, changeSkills_l hw ht hN rc hwk (fd := 0) (by unfold fades; simp [h0]) (by omega)]
    rfl
  · have hrem : (nI (wRd w) + (1 : Int32)) - (nI (wRd w) + (1 : Int32)) / nI (tFd t) * nI (tFd t) = nI ((wRd w + 1) % tFd t) := by
      rw [c1, nI_add]; exact pk_rem (by omega) (by omega) (by omega)
    have lt := Nat.mod_lt (wRd w + 1) (show 0 < tFd t by omega)
    rw [if_neg h0, sgz (by omega) (by omega), hrem, c0, ic (seq (by omega) (by omega))]
    by_cases hm : (wRd w + 1) % tFd t = 0
    · rw [if_pos hm, c1, changeSkills_l hw ht hN rc hwk (fd := 1) (by unfold fades; simp [hm]; omega) (by omega)]
      rfl
    · rw [if_neg hm, changeSkills_l hw ht hN rc hwk (fd := 0) (by unfold fades; simp [hm]) (by omega)]
      rfl
theorem moveOn_s (hw : wOK t w) (ht : tOK t) (hN : 7 ≤ N) (rt : RT t trades people needs yields skips) (hpl : ∀ p, p < tP t → places p = nI (wPl w p)) (hwk : ∀ p, p < tP t → works p = eN (wk t w p)) :
    fX3_moveOn N places works trades people = some (ov (fun j => decide (j < tP t)) places (fun p => nI (plN t w p))) := by
  obtain ⟨e1, e2, e3, e4⟩ := rt
  have hP : tP t ≤ 6 := ht.2.1
  have hT : tT t ≤ 6 := ht.1
  have key := lpN (fun n (s : (Nat → Int32) × Int32) => fX3_moveOn_2 N works trades people n s.1 s.2) (fun p => (ov (fun j => decide (j < p)) places (fun p => nI (plN t w p)), nI p)) (tP t) _
    (fun n p hp => by
      show fX3_moveOn_2 N works trades people (n + 1) _ (nI p) = fX3_moveOn_2 N works trades people n _ (nI (p + 1))
      dsimp only
      have o1 : ov (fun j => decide (j < p)) places (fun p => nI (plN t w p)) p = nI (wPl w p) := (ov_f (by simp)).trans (hpl p hp)
      have h5 := hw.2.2.2.2.1 p hp
      have cc : ∀ j, decide (j < p + 1) = (decide (j < p) || decide (j = p)) := fun j => by rw [Bool.eq_iff_iff]; simp only [decide_eq_true_eq, Bool.or_eq_true]; omega
      rw [fX3_moveOn_2_s, e2, ic (sle (by omega) (by omega)), if_neg (by omega), sgd (by omega) (by decide), sgd (by omega) (by decide), sclamp (by omega), hwk p hp, o1, m9e, ← e2, c1, nI_add, e1]
      cases hk : wk t w p with
      | none =>
        rw [eN_n, if_pos rfl, behind_s N hT (by omega), b1_s, sgd (by omega) (by decide), ov_upd (c' := fun j => decide (j < p + 1)) (by unfold plN; rw [hk]) cc]
      | some k =>
        have := wk_lt hw hp hk
        rw [eN_s, ic (seqm (by omega)), if_neg id, sgd (by omega) (by decide), behind_s N hT (by omega), b1_s, sgd (by omega) (by decide), ov_upd (c' := fun j => decide (j < p + 1)) (by unfold plN; rw [hk]) cc])
    (fun n => by
      show fX3_moveOn_2 N works trades people (n + 1) _ (nI (tP t)) = _
      dsimp only
      rw [fX3_moveOn_2_s, e2, ic (sle (by omega) (by omega)), if_pos (Nat.le_refl _)])
    (tP t) 0 (by omega) N (by omega)
  have h0 : ov (fun j => decide (j < 0)) places (fun p => nI (plN t w p)) = places := ov_0 (fun j => by simp)
  simp only [h0] at key
  unfold fX3_moveOn
  rw [c0, key]
  rfl
/-- favours as the helps are ended one by one -/
def fI (w : WS) (favours : Nat → Int32) : Nat → Nat → Int32
  | 0 => favours
  | q + 1 => if wHp w q = 0 then fI w favours q else upd (fI w favours q) (q * 6 + (wHp w q - 1)) (fI w favours q (q * 6 + (wHp w q - 1)) + nI 1)
theorem fI_s {favours : Nat → Int32} {q : Nat} : fI w favours (q + 1) = if wHp w q = 0 then fI w favours q else upd (fI w favours q) (q * 6 + (wHp w q - 1)) (fI w favours q (q * 6 + (wHp w q - 1)) + nI 1) := rfl
theorem fI_at (hw : wOK t w) (ht : tOK t) {favours : Nat → Int32} : ∀ q, q ≤ 6 → ∀ a b, b < 6 → fI w favours q (a * 6 + b) = if a < q ∧ wHp w a = b + 1 then favours (a * 6 + b) + nI 1 else favours (a * 6 + b) := by
  have hP : tP t ≤ 6 := ht.2.1
  intro q
  induction q with
  | zero => intro _ a b _; simp [fI]
  | succ q ih =>
    intro hq a b hb
    have h7 := hw.2.2.2.2.2.2.1 q (by omega)
    rw [fI_s]
    by_cases h0 : wHp w q = 0
    · rw [if_pos h0, ih (by omega) a b hb]
      by_cases ha : a = q
      · subst ha; rw [if_neg (by omega), if_neg (by omega)]
      · by_cases h1 : a < q ∧ wHp w a = b + 1
        · rw [if_pos h1, if_pos (by omega)]
        · rw [if_neg h1, if_neg (by omega)]
    · rw [if_neg h0]
      by_cases he : a * 6 + b = q * 6 + (wHp w q - 1)
      · have ha : a = q := by omega
        subst ha
        have hb' : wHp w a = b + 1 := by omega
        have hb2 : wHp w a - 1 = b := by omega
        rw [hb2, up_s, ih (by omega) a b hb, if_neg (by omega), if_pos ⟨by omega, hb'⟩]
      · rw [up_n he, ih (by omega) a b hb]
        by_cases h1 : a < q ∧ wHp w a = b + 1
        · rw [if_pos h1, if_pos (by omega)]
        · rw [if_neg h1, if_neg (fun h => by
            by_cases ha : a = q
            · subst ha; omega
            · exact h1 ⟨by omega, h.2⟩)]
theorem endHelps_s (hw : wOK t w) (ht : tOK t) (hN : 7 ≤ N) (hh : ∀ q, q < 6 → helpers q = if wHp w q = 0 then m9 else nI (wHp w q - 1)) :
    fX3_endHelps N helpers favours = some (ov (fun j => decide (j < 6)) helpers (fun _ => m9), fI w favours 6) := by
  have hP : tP t ≤ 6 := ht.2.1
  have key := lpN (fun n (s : (Nat → Int32) × (Nat → Int32) × Int32) => fX3_endHelps_2 N n s.1 s.2.1 s.2.2) (fun q => (ov (fun j => decide (j < q)) helpers (fun _ => m9), fI w favours q, nI q)) 6 _
    (fun n q hq => by
      show fX3_endHelps_2 N (n + 1) _ _ (nI q) = fX3_endHelps_2 N n _ _ (nI (q + 1))
      dsimp only
      have h7 := hw.2.2.2.2.2.2.1 q hq
      have o1 : ov (fun j => decide (j < q)) helpers (fun _ => m9) q = if wHp w q = 0 then m9 else nI (wHp w q - 1) := (ov_f (by simp)).trans (hh q hq)
      have cc : ∀ j, decide (j < q + 1) = (decide (j < q) || decide (j = q)) := fun j => by rw [Bool.eq_iff_iff]; simp only [decide_eq_true_eq, Bool.or_eq_true]; omega
      rw [fX3_endHelps_2_s, c6, ic (sle (by omega) (by omega)), if_neg (by omega), sgd (by omega) (by decide), sgd (by omega) (by decide), sclamp (by omega), o1, m9e, c1, nI_add]
      rw [fI_s]
      by_cases h0 : wHp w q = 0
      · rw [if_pos h0, if_pos h0, if_pos rfl, ov_upd (c' := fun j => decide (j < q + 1)) (v := fun _ => m9) rfl cc]
      · rw [if_neg h0, if_neg h0, ic (seqm (by omega)), if_neg id, sgd (by omega) (by decide), pk_mul, nI_add, sgd (by omega) (by decide), sgd (by omega) (by decide), sgd (by omega) (by decide), sclamp (by omega), ov_upd (c' := fun j => decide (j < q + 1)) (v := fun _ => m9) rfl cc])
    (fun n => by
      show fX3_endHelps_2 N (n + 1) _ _ (nI 6) = _
      dsimp only
      rw [fX3_endHelps_2_s, c6, ic (sle (by omega) (by omega)), if_pos (Nat.le_refl _)])
    6 0 (by omega) N (by omega)
  have h0 : ov (fun j => decide (j < 0)) helpers (fun _ => m9) = helpers := ov_0 (fun j => by simp)
  simp only [h0] at key
  unfold fX3_endHelps
  rw [c0]
  exact (congrArg (fun x => b3 x (fun a b _ => some (a, b))) key)
end
