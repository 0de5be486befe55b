/-! a round, rounds -/
section
variable {N : Nat} {t : TS} {w : WS} {trades people fade winter fall round fell ills : Int32} {needs yields skips skills places stores lacked helpers favours wheel works : Nat → Int32}
theorem step_ok (ht : tOK t) (hw : wOK t w) (hr : wRd w < 99) : wOK t (step t w) := by
  have hP : tP t ≤ 6 := ht.2.1
  refine ⟨?_, ?_, ?_, ?_, ?_, ?_, ?_, ?_, ?_⟩
  · show wRd w + 1 ≤ 99; omega
  · show (0 : Nat) < 64; omega
  · intro p _; show Nat.testBit 0 p = false; exact Nat.zero_testBit p
  · intro p hp k hk
    have h4 := hw.2.2.2.1 p hp k hk
    show skN t w (p * 6 + k) ≤ 9
    unfold skN
    split
    · omega
    · split <;> omega
  · intro p hp
    show plN t w p < tT t ∨ (tT t = 0 ∧ plN t w p = 0)
    by_cases hT : tT t = 0
    · exact Or.inr ⟨hT, by unfold plN bh; rw [hT]; rfl⟩
    · exact Or.inl (bh_lt (by omega))
  · intro k hk
    have h6 := hw.2.2.2.2.2.1 k hk
    have g := gs_le ht hw (tP t) (Nat.le_refl _) k hk
    have l := lk_le (w := w) ht hk
    refine ⟨?_, ?_⟩
    · show gs t w (tP t) k - want t w k ≤ 486 * (wRd w + 1); omega
    · show wLa w k + lk t w k ≤ 297 * (wRd w + 1); omega
  · intro q hq
    refine ⟨?_, ?_, ?_⟩
    · show (0 : Nat) ≤ _; omega
    · intro _; rfl
    · show (0 : Nat) ≠ q + 1; omega
  · intro q r _ _ _ h; exact absurd rfl h
  · intro k hk; exact hw.2.2.2.2.2.2.2.2 k hk
theorem goRound_s (hN : 7 ≤ N) (ht : tOK t) (hw : wOK t w) (rt : RT t trades people needs yields skips) (ru : RU t fade winter fall) (rc : RC t w round fell ills skills places stores lacked helpers favours wheel) :
    ∃ (rd' fe' il' : Int32) (sk' pl' st' la' he' fa' wo' : Nat → Int32), fX3_goRound N round fell ills skills places stores lacked helpers favours wheel works trades people needs yields skips fade winter fall = some (nI (lks t w (tT t)), rd', fe', il', sk', pl', st', la', he', fa', wo') ∧ RC t (step t w) rd' fe' il' sk' pl' st' la' he' fa' wheel := by
  have hP : tP t ≤ 6 := ht.2.1
  have hT : tT t ≤ 6 := ht.1
  obtain ⟨d1, d2, d3, d4, d5, d6, d7, d8, d9, d10⟩ := id rc
  obtain ⟨u1, u2, u3⟩ := ru
  have hwk : ∀ p, p < tP t → ov (fun j => decide (j < tP t)) works (fun p => eN (wk t w p)) p = eN (wk t w p) := fun p hp => works_at hp
  have hl := lks_le (w := w) ht (tT t) (Nat.le_refl _)
  have hfl := ht.2.2.2.2.2.2.2
  have com : ∀ fe' : Int32, fe' = nI (wFe (step t w)) → RC t (step t w) (round + (1 : Int32)) fe' (0 : Int32) (ov (fun j => decide (j / 6 < tP t ∧ j % 6 < tT t)) skills (fun i => nI (skN t w i))) (ov (fun j => decide (j < tP t)) places (fun p => nI (plN t w p))) (ov (fun j => decide (j < tT t)) (gI t w stores (tP t)) (fun k => nI (gs t w (tP t) k - want t w k))) (ov (fun j => decide (j < tT t)) lacked (fun k => nI (wLa w k + lk t w k))) (ov (fun j => decide (j < 6)) helpers (fun _ => m9)) (fI w favours 6) wheel := by
    intro fe' hfe
    refine ⟨?_, hfe, rfl, ?_, ?_, ?_, ?_, ?_, ?_, d10⟩
    · rw [d1, c1, nI_add]; rfl
    · intro p hp k hk
      rw [ov_v (by simp; omega)]
      rfl
    · intro p hp
      rw [ov_v (by simp; omega)]
      rfl
    · intro k hk
      rw [ov_v (by simp; omega)]
      rfl
    · intro k hk
      rw [ov_v (by simp; omega)]
      rfl
    · intro q hq
      rw [ov_v (by simp; omega)]
      rfl
    · intro q hq p hp
      rw [fI_at hw ht 6 (by omega) q p (by omega)]
      have i1 : (q * 6 + p) / 6 = q := by omega
      have i2 : (q * 6 + p) % 6 = p := by omega
      show _ = nI (wFa w (q * 6 + p) + (if wHp w ((q * 6 + p) / 6) = (q * 6 + p) % 6 + 1 then 1 else 0))
      rw [i1, i2, d9 q hq p hp]
      by_cases h : wHp w q = p + 1
      · rw [if_pos ⟨by omega, h⟩, if_pos h, nI_add]
      · rw [if_neg (fun z => h z.2), if_neg h, Nat.add_zero]
  unfold fX3_goRound
  rw [findWork_s hN ht hw rt rc, b1_s, makeGoods_s hN ht hw rt rc hwk, b1_s, takeNeeds_s hN ht hw rt d1 u2 (gI_gs d6 (tP t)) d7, b3_s,
    changeSkills_s hw ht hN rt u1 rc hwk, moveOn_s hw ht hN rt d5 hwk, endHelps_s hw ht hN d8, u3, ic (slt (by omega) (by omega))]
  by_cases hf : lks t w (tT t) < tFl t
  · rw [if_pos hf]
    refine ⟨_, _, _, _, _, _, _, _, _, _, rfl, com fell ?_⟩
    show fell = nI (wFe w + (if tFl t ≤ lks t w (tT t) then 1 else 0))
    rw [if_neg (by omega), d2]
    rfl
  · rw [if_neg hf]
    refine ⟨_, _, _, _, _, _, _, _, _, _, rfl, com (fell + 1) ?_⟩
    show fell + 1 = nI (wFe w + (if tFl t ≤ lks t w (tT t) then 1 else 0))
    rw [if_pos (by omega), d2, c1, nI_add]
end
/-- the world behind n rounds, and what lacked in them -/
def wn (t : TS) (w : WS) : Nat → WS
  | 0 => w
  | n + 1 => step t (wn t w n)
def tot (t : TS) (w : WS) : Nat → Nat
  | 0 => 0
  | n + 1 => tot t w n + lks t (wn t w n) (tT t)
theorem wn_rd (t : TS) (w : WS) : ∀ n, wRd (wn t w n) = wRd w + n
  | 0 => rfl
  | n + 1 => by show wRd (wn t w n) + 1 = _; rw [wn_rd t w n]; rfl
theorem wn_ok {t : TS} {w : WS} (ht : tOK t) (hw : wOK t w) : ∀ n, wRd w + n ≤ 99 → wOK t (wn t w n)
  | 0, _ => hw
  | n + 1, h => step_ok ht (wn_ok ht hw n (by omega)) (by rw [wn_rd]; omega)
theorem tot_le {t : TS} {w : WS} (ht : tOK t) : ∀ n, tot t w n ≤ 1782 * n
  | 0 => Nat.le_refl _
  | n + 1 => by
    have h1 := tot_le (w := w) ht n
    have h2 := lks_le (w := wn t w n) ht (tT t) (Nat.le_refl _)
    have h3 := ht.1
    show tot t w n + lks t (wn t w n) (tT t) ≤ _
    omega
theorem tot_mono {t : TS} {w : WS} {a : Nat} : ∀ b, a ≤ b → tot t w a ≤ tot t w b
  | 0, h => by have : a = 0 := by omega
               subst this; exact Nat.le_refl _
  | b + 1, h => by
    by_cases e : a = b + 1
    · subst e; exact Nat.le_refl _
    · have := tot_mono (t := t) (w := w) (a := a) b (by omega)
      show _ ≤ tot t w b + _
      omega
section
variable {N : Nat} {t : TS} {w : WS} {trades people fade winter fall round fell ills : Int32} {needs yields skips skills places stores lacked helpers favours wheel works : Nat → Int32}
theorem goRounds_l (hN : 7 ≤ N) (ht : tOK t) (hw : wOK t w) (rt : RT t trades people needs yields skips) (ru : RU t fade winter fall) {r en : Nat} (hr : wRd w + r ≤ 99) (hen : en < 2147483648) :
    ∀ (d i n : Nat), i + d = r → d < n → ∀ (round fell ills : Int32) (skills places stores lacked helpers favours works : Nat → Int32), RC t (wn t w i) round fell ills skills places stores lacked helpers favours wheel →
      ∃ (m : Nat) (rd' fe' il' : Int32) (sk' pl' st' la' he' fa' wo' : Nat → Int32) (z : Int32), i ≤ m ∧ m ≤ r ∧ (m = r ∨ en ≤ tot t w m) ∧ fX3_goRounds_19 N wheel trades people needs yields skips fade winter fall (nI en) (nI r) n round fell ills skills places stores lacked helpers favours works (nI (tot t w i)) (nI i) = some (rd', fe', il', sk', pl', st', la', he', fa', wo', nI (tot t w m), z) ∧ RC t (wn t w m) rd' fe' il' sk' pl' st' la' he' fa' wheel := by
  intro d
  induction d with
  | zero =>
    intro i n hi hn round fell ills skills places stores lacked helpers favours works rc
    obtain ⟨n, rfl⟩ : ∃ z, n = z + 1 := ⟨n - 1, by omega⟩
    have : i = r := by omega
    subst this
    exact ⟨i, _, _, _, _, _, _, _, _, _, _, _, Nat.le_refl _, Nat.le_refl _, Or.inl rfl, by rw [fX3_goRounds_19_s, if_pos (nI_le (Nat.le_refl _) (by omega))], rc⟩
  | succ d ih =>
    intro i n hi hn round fell ills skills places stores lacked helpers favours works rc
    obtain ⟨n, rfl⟩ : ∃ z, n = z + 1 := ⟨n - 1, by omega⟩
    have tl := tot_le (w := w) ht i
    by_cases he : en ≤ tot t w i
    · exact ⟨i, _, _, _, _, _, _, _, _, _, _, _, Nat.le_refl _, by omega, Or.inr he, by rw [fX3_goRounds_19_s, ic (sle (by omega) (by omega)), if_neg (by omega), ic (sle (by omega) (by omega)), if_pos he], rc⟩
    · obtain ⟨rd', fe', il', sk', pl', st', la', he', fa', wo', h1, h2⟩ := goRound_s (works := works) hN ht (wn_ok ht hw i (by omega)) rt ru rc
      obtain ⟨m, a1, a2, a3, a4, a5, a6, a7, a8, a9, a10, a11, q1, q2, q3, q4, q5⟩ := ih (i + 1) n (by omega) (by omega) rd' fe' il' sk' pl' st' la' he' fa' wo' h2
      refine ⟨m, a1, a2, a3, a4, a5, a6, a7, a8, a9, a10, a11, by omega, q2, q3, ?_, q5⟩
      rw [fX3_goRounds_19_s, ic (sle (by omega) (by omega)), if_neg (by omega), ic (sle (by omega) (by omega)), if_neg he, h1, b11_s, nI_add, c1, nI_add]
      exact q4
theorem goRounds_s (hN : 100 ≤ N) (ht : tOK t) (hw : wOK t w) (rt : RT t trades people needs yields skips) (ru : RU t fade winter fall) (rc : RC t w round fell ills skills places stores lacked helpers favours wheel) {n en : Nat} (hn : n < 2147483648) (hen : en < 2147483648) :
    ∃ (m : Nat) (rd' fe' il' : Int32) (sk' pl' st' la' he' fa' wo' : Nat → Int32), m ≤ min n (99 - wRd w) ∧ (m = min n (99 - wRd w) ∨ en ≤ tot t w m) ∧ fX3_goRounds N round fell ills skills places stores lacked helpers favours wheel works trades people needs yields skips fade winter fall (nI n) (nI en) = some (nI (tot t w m), rd', fe', il', sk', pl', st', la', he', fa', wo') ∧ RC t (wn t w m) rd' fe' il' sk' pl' st' la' he' fa' wheel := by
  have h99 := hw.1
  have d1 := rc.1
  obtain ⟨m, a1, a2, a3, a4, a5, a6, a7, a8, a9, a10, a11, q1, q2, q3, q4, q5⟩ := goRounds_l (N := N) (wheel := wheel) (en := en) (r := min n (99 - wRd w)) (by omega) ht hw rt ru (by omega) hen (min n (99 - wRd w)) 0 N (by omega) (by omega) round fell ills skills places stores lacked helpers favours works rc
  refine ⟨m, a1, a2, a3, a4, a5, a6, a7, a8, a9, a10, q2, q3, ?_, q5⟩
  unfold fX3_goRounds
  have e : (if ((99 : Int32) - round) < nI n then ((99 : Int32) - round) else nI n) = nI (min n (99 - wRd w)) := by
    rw [d1, c99, ssub (by omega), ic (slt (by omega) (by omega))]
    split <;> (congr 1; omega)
  have q4' : fX3_goRounds_19 N wheel trades people needs yields skips fade winter fall (nI en) (nI (min n (99 - wRd w))) N round fell ills skills places stores lacked helpers favours works (0 : Int32) (0 : Int32) = _ := q4
  rw [e, q4']
  rfl
end
