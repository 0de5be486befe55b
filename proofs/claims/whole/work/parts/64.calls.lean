/-! call by call: sums, counts, tunes, anew -/
section
variable {N : Nat} {t : TS} {w : WS} {trades people fade winter fall round fell ills mtrades mpeople thrown typed len : Int32} {needs yields skips skills places stores lacked helpers favours wheel works need made mskips tunes s makes mworks : Nat → Int32}
theorem sums (hN : 7 ≤ N) {T base : Nat} (hT : T ≤ 6) (hb : base ≤ 90) {f s : Nat → Int32} (h : ∀ k, k < T → s (base + k) = f k) : ∃ r, fX4_sum N f (nI T) = some r ∧ fX5_sumOf N (nI T) s (nI base) = some r := by
  have key : ∀ (d i n : Nat), i + d = T → d < n → ∀ a : Int32, ∃ r z, fX4_sum_4 N f (nI T) n a (nI i) = some (r, z) ∧ fX5_sumOf_4 N (nI T) s (nI base) n a (nI i) = some (r, z) := by
    intro d
    induction d with
    | zero =>
      intro i n hi hn a
      obtain ⟨n, rfl⟩ : ∃ z, n = z + 1 := ⟨n - 1, by omega⟩
      exact ⟨a, nI i, by rw [fX4_sum_4_s, if_pos (nI_le (by omega) (by omega))], by rw [fX5_sumOf_4_s, if_pos (nI_le (by omega) (by omega))]⟩
    | succ d ih =>
      intro i n hi hn a
      obtain ⟨n, rfl⟩ : ∃ z, n = z + 1 := ⟨n - 1, by omega⟩
      obtain ⟨r, z, h1, h2⟩ := ih (i + 1) n (by omega) (by omega) (a + f i)
      refine ⟨r, z, ?_, ?_⟩
      · rw [fX4_sum_4_s, ic (sle (by omega) (by omega)), if_neg (by omega), sgd (by omega) (by decide), sclamp (by omega), c1, nI_add]; exact h1
      · rw [fX5_sumOf_4_s, ic (sle (by omega) (by omega)), if_neg (by omega), nI_add, sgd (by omega) (by decide), sclamp (by omega), c1, nI_add, h i (by omega)]; exact h2
  obtain ⟨r, z, h1, h2⟩ := key T 0 N (by omega) (by omega) 0
  refine ⟨r, ?_, ?_⟩
  · unfold fX4_sum
    have h1' : fX4_sum_4 N f (nI T) N (0 : Int32) (0 : Int32) = _ := h1
    rw [h1']; rfl
  · unfold fX5_sumOf
    have h2' : fX5_sumOf_4 N (nI T) s (nI base) N (0 : Int32) (0 : Int32) = _ := h2
    rw [h2']; rfl
theorem q_now (hN : 7 ≤ N) (ht : tOK t) (rt : RT t trades people needs yields skips) (rc : RC t w round fell ills skills places stores lacked helpers favours wheel) (rn : RN t mtrades mpeople need made mskips tunes) (rm : RM t w s) (i1 : Int32) :
    ∃ r, fX4_now N round fell stores lacked trades i1 = some r ∧ fX5_now N thrown mtrades s i1 = some (r, 0) := by
  have hT : tT t ≤ 6 := ht.1
  obtain ⟨r1, a1, a2⟩ := sums hN hT (base := 8) (by omega) (f := lacked) (s := s) (fun k hk => by rw [rm.2.2.2.1 k hk, rc.2.2.2.2.2.2.1 k hk])
  obtain ⟨r2, b1', b2'⟩ := sums hN hT (base := 2) (by omega) (f := stores) (s := s) (fun k hk => by rw [rm.2.2.1 k hk, rc.2.2.2.2.2.1 k hk])
  unfold fX4_now fX5_now
  rw [rt.1, rn.1, a1, b1', show (8 : Int32) = nI 8 from rfl, a2, show (2 : Int32) = nI 2 from rfl, b2', sgd_0, sgd_1, show (0 : Int32).toNatClampNeg = 0 from rfl, show (1 : Int32).toNatClampNeg = 1 from rfl, rm.1, rm.2.1, rc.1, rc.2.1]
  by_cases h0 : i1 = 0
  · rw [if_pos h0, if_pos h0]; exact ⟨_, rfl, rfl⟩
  · rw [if_neg h0, if_neg h0]
    by_cases h1 : i1 = 1
    · rw [if_pos h1, if_pos h1]; exact ⟨_, rfl, rfl⟩
    · rw [if_neg h1, if_neg h1]
      by_cases h2 : i1 = nI 2
      · rw [if_pos h2, if_pos h2]; exact ⟨_, rfl, rfl⟩
      · rw [if_neg h2, if_neg h2]
        by_cases h3 : i1 = 3
        · rw [if_pos h3, if_pos h3]; exact ⟨_, rfl, rfl⟩
        · rw [if_neg h3, if_neg h3]; exact ⟨_, rfl, rfl⟩
theorem q_anew {sk pl wh : Nat → Nat} {tskills tplaces twheel skillTold placeTold wheelTold : Nat → Int32} (hN : 106 ≤ N) (ht : tOK t) (rc : RC t w round fell ills skills places stores lacked helpers favours wheel) (rm : RM t w s) (rs : RS t sk pl wh tskills tplaces twheel skillTold placeTold wheelTold) :
    ∃ r (rd' fe' il' : Int32) (sk' pl' st' la' he' fa' wh' : Nat → Int32) s', fX4_anew N round fell ills skills places stores lacked helpers favours wheel tskills tplaces twheel = some (r, rd', fe', il', sk', pl', st', la', he', fa', wh') ∧ fX5_anew N thrown skillTold placeTold wheelTold s = some (r, 0, s') ∧ wOK t (w0 sk pl wh) ∧ RC t (w0 sk pl wh) rd' fe' il' sk' pl' st' la' he' fa' wh' ∧ RM t (w0 sk pl wh) s' := by
  obtain ⟨s', h1, h2⟩ := begins_s (s := s) hN ht rs
  obtain ⟨a1, a2, a3, a4, a5, a6, a7, a8, a9, a10, k1, k2⟩ := startAs_s (N := N) (round := round) (fell := fell) (ills := ills) (skills := skills) (places := places) (stores := stores) (lacked := lacked) (helpers := helpers) (favours := favours) (wheel := wheel) (by omega) ht rs
  refine ⟨round, a1, a2, a3, a4, a5, a6, a7, a8, a9, a10, s', ?_, ?_, rs.2.2.2, k2, h2⟩
  · unfold fX4_anew
    rw [k1, b10_s]
  · unfold fX5_anew
    rw [h1, sgd_0, b1_s, show (0 : Int32).toNatClampNeg = 0 from rfl, rm.1, rc.1]
def tTune (t : TS) (a b c : Nat) : TS := (t.1, t.2.1, t.2.2.1, t.2.2.2.1, t.2.2.2.2.1, a, b, c)
theorem tTune_ok {a b c : Nat} (ht : tOK t) (ha : a ≤ 9) (hb : b ≤ 20) (hc : 1 ≤ c) (hc2 : c ≤ 99) : tOK (tTune t a b c) := ⟨ht.1, ht.2.1, ht.2.2.1, ht.2.2.2.1, ha, hb, hc, hc2⟩
theorem q_tune (ht : tOK t) (ru : RU t fade winter fall) (rn : RN t mtrades mpeople need made mskips tunes) (i1 i2 : Int32) :
    ∃ r f' w' l' tu' a b c, fX4_tune N fade winter fall i1 i2 = some (r, f', w', l') ∧ fX5_tune N thrown tunes i1 i2 = some (r, 0, tu') ∧ tOK (tTune t a b c) ∧ RU (tTune t a b c) f' w' l' ∧ RN (tTune t a b c) mtrades mpeople need made mskips tu' := by
  obtain ⟨n1, n2, n3, n4, n5, n6, n7⟩ := id rn
  obtain ⟨u1, u2, u3⟩ := id ru
  have h5 := ht.2.2.2.2.1
  have h6 := ht.2.2.2.2.2.1
  have h7 := ht.2.2.2.2.2.2
  have same : ∃ a b c, tOK (tTune t a b c) ∧ RU (tTune t a b c) fade winter fall ∧ RN (tTune t a b c) mtrades mpeople need made mskips tunes := ⟨tFd t, tWi t, tFl t, ht, ru, rn⟩
  unfold fX4_tune fX5_tune
  rw [in_e]
  rcases rng i1 0 2 (by decide) (by decide) with ⟨j, _, hj, rfl, h⟩ | ⟨h, h3⟩
  · rw [show (0 : Int32) = nI 0 from rfl, show (2 : Int32) = nI 2 from rfl, h N, b1_s]
    simp only [if10, if00, if10', if00']
    rcases (show j = 0 ∨ j = 1 ∨ j = 2 by omega) with rfl | rfl | rfl
    · rw [if_pos rfl, if_neg (by decide), if_pos rfl, in_e]
      rcases rng i2 0 9 (by decide) (by decide) with ⟨k, _, hk, rfl, h2⟩ | ⟨h2, _⟩
      · rw [show (9 : Int32) = nI 9 from rfl, h2 N, b1_s, b1_s]
        simp only [if10, if00, if10', if00']
        rw [sgd (by decide) (by decide), sgd (by decide) (by decide), sclamp (by decide), n5, u1]
        refine ⟨_, _, _, _, _, k, tWi t, tFl t, rfl, rfl, tTune_ok ht hk h6 h7.1 h7.2, ⟨rfl, u2, u3⟩, n1, n2, n3, n4, up_s, ?_, ?_⟩
        · rw [up_n (by omega)]; exact n6
        · rw [up_n (by omega)]; exact n7
      · rw [show (9 : Int32) = nI 9 from rfl, h2 N, b1_s, b1_s]
        simp only [if10, if00, if10', if00']
        obtain ⟨a, b, c, q⟩ := same
        exact ⟨_, _, _, _, _, a, b, c, rfl, rfl, q⟩
    · rw [if_neg (by decide), if_pos (by decide), if_neg (by decide), if_neg (by decide), if_pos (by decide), in_e]
      rcases rng i2 0 20 (by decide) (by decide) with ⟨k, _, hk, rfl, h2⟩ | ⟨h2, _⟩
      · rw [show (20 : Int32) = nI 20 from rfl, h2 N, b1_s, b1_s]
        simp only [if10, if00, if10', if00']
        rw [sgd (by decide) (by decide), sgd (by decide) (by decide), sclamp (by decide), n6, u2]
        refine ⟨_, _, _, _, _, tFd t, k, tFl t, rfl, rfl, tTune_ok ht h5 hk h7.1 h7.2, ⟨u1, rfl, u3⟩, n1, n2, n3, n4, ?_, up_s, ?_⟩
        · rw [up_n (by omega)]; exact n5
        · rw [up_n (by omega)]; exact n7
      · rw [show (20 : Int32) = nI 20 from rfl, h2 N, b1_s, b1_s]
        simp only [if10, if00, if10', if00']
        obtain ⟨a, b, c, q⟩ := same
        exact ⟨_, _, _, _, _, a, b, c, rfl, rfl, q⟩
    · rw [if_neg (by decide), if_neg (by decide), if_pos rfl, if_pos rfl, if_neg (by decide), if_neg (by decide), in_e]
      rcases rng i2 1 99 (by decide) (by decide) with ⟨k, hk1, hk, rfl, h2⟩ | ⟨h2, _⟩
      · rw [show (1 : Int32) = nI 1 from rfl, show (99 : Int32) = nI 99 from rfl, h2 N, b1_s, b1_s]
        simp only [if10, if00, if10', if00']
        rw [sgd (by decide) (by decide), sgd (by decide) (by decide), sclamp (by decide), n7, u3]
        refine ⟨_, _, _, _, _, tFd t, tWi t, k, rfl, rfl, tTune_ok ht h5 h6 hk1 hk, ⟨u1, u2, rfl⟩, n1, n2, n3, n4, ?_, ?_, up_s⟩
        · rw [up_n (by omega)]; exact n5
        · rw [up_n (by omega)]; exact n6
      · rw [show (1 : Int32) = nI 1 from rfl, show (99 : Int32) = nI 99 from rfl, h2 N, b1_s, b1_s]
        simp only [if10, if00, if10', if00']
        obtain ⟨a, b, c, q⟩ := same
        exact ⟨_, _, _, _, _, a, b, c, rfl, rfl, q⟩
  · rw [show (0 : Int32) = nI 0 from rfl, show (2 : Int32) = nI 2 from rfl, show (1 : Int32) = nI 1 from rfl, h N, b1_s]
    simp only [if10, if00, if10', if00']
    rw [if_neg (h3 0 (by omega) (by omega)), if_neg (h3 1 (by omega) (by omega)), if_neg (h3 2 (by omega) (by omega))]
    obtain ⟨a, b, c, q⟩ := same
    exact ⟨_, _, _, _, _, a, b, c, rfl, rfl, q⟩
theorem bits6 : ∀ a : Fin 64, ∀ N : Nat, fJ6_bitCount_0f7a4 N (nI a.val) = some (nI ((if Nat.testBit a.val 0 then 1 else 0) + (if Nat.testBit a.val 1 then 1 else 0) + (if Nat.testBit a.val 2 then 1 else 0) + (if Nat.testBit a.val 3 then 1 else 0) + (if Nat.testBit a.val 4 then 1 else 0) + (if Nat.testBit a.val 5 then 1 else 0))) := by
  have h : ∀ a : Fin 64, fJ6_bitCount_0f7a4 0 (nI a.val) = some (nI ((if Nat.testBit a.val 0 then 1 else 0) + (if Nat.testBit a.val 1 then 1 else 0) + (if Nat.testBit a.val 2 then 1 else 0) + (if Nat.testBit a.val 3 then 1 else 0) + (if Nat.testBit a.val 4 then 1 else 0) + (if Nat.testBit a.val 5 then 1 else 0))) := by decide +kernel
  intro a N
  exact h a
/-- how many of the first n have c -/
def cnt (c : Nat → Bool) : Nat → Nat
  | 0 => 0
  | n + 1 => cnt c n + (if c n then 1 else 0)
theorem cnt_ext {c d : Nat → Bool} : ∀ n, (∀ k, k < n → c k = d k) → cnt c n = cnt d n
  | 0, _ => rfl
  | n + 1, h => by unfold cnt; rw [cnt_ext n (fun k hk => h k (by omega)), h n (by omega)]
theorem cnt_more {c : Nat → Bool} {n : Nat} : ∀ m, n ≤ m → (∀ k, n ≤ k → k < m → c k = false) → cnt c m = cnt c n
  | 0, h, _ => by have : n = 0 := by omega
                  subst this; rfl
  | m + 1, h, hc => by
    by_cases e : n = m + 1
    · subst e; rfl
    · unfold cnt
      rw [hc m (by omega) (by omega), cnt_more m (by omega) (fun k h1 h2 => hc k h1 (by omega))]
      rfl
end
