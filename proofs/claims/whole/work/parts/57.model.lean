/-! the reference's round, on -/
/-- what p makes -/
def mkp (t : TS) (w : WS) (p : Nat) : Nat := match wt t w p with
  | none => 0
  | some k => tYl t k * hnd w p k
section
variable {N : Nat} {t : TS} {w : WS} {trades people : Int32} {need made skips tunes s makes works : Nat → Int32}
theorem wt_of {p : Nat} : wt t w p = if Nat.testBit (wIl w) p then none else (wk t w p).map (wWh w) := rfl
theorem workAll_a (hN : 7 ≤ N) (ht : tOK t) (hw : wOK t w) (rn : RN t trades people need made skips tunes) (rm : RM t w s) :
    ∃ r : (Nat → Int32) × (Nat → Int32) × Int32, fX5_workAll_2 N trades people made skips s N makes works (nI 0) = some r ∧ (∀ p, p < tP t → r.1 p = nI (mkp t w p) ∧ r.2.1 p = eN ((wk t w p).map (wWh w))) := by
  have hP : tP t ≤ 6 := ht.2.1
  have hT : tT t ≤ 6 := ht.1
  obtain ⟨n1, n2, n3, n4, n5, n6, n7⟩ := rn
  obtain ⟨m1, m2, m3, m4, m5, m6, m7, m8, m9', m10⟩ := rm
  have key := lpI (fun n (z : (Nat → Int32) × (Nat → Int32) × Int32) => fX5_workAll_2 N trades people made skips s n z.1 z.2.1 z.2.2) (fun k z => (∀ p, p < k → z.1 p = nI (mkp t w p) ∧ z.2.1 p = eN ((wk t w p).map (wWh w))) ∧ z.2.2 = nI k)
    (fun r => ∀ p, p < tP t → r.1 p = nI (mkp t w p) ∧ r.2.1 p = eN ((wk t w p).map (wWh w))) (tP t)
    (fun n k z hk hz => by
      obtain ⟨mk, wo, l1⟩ := z
      obtain ⟨h1, h2⟩ := hz
      simp only [] at h1 h2
      subst h2
      have fin : ∀ v : Int32, v = nI (mkp t w k) → ∀ mk' : Nat → Int32, (∀ j, mk' j = upd mk k v j) → (∀ p, p < k + 1 → mk' p = nI (mkp t w p) ∧ (upd wo k (eN ((wk t w k).map (wWh w)))) p = eN ((wk t w p).map (wWh w))) := by
        intro v hv mk' hmk p hp
        by_cases e : p = k
        · subst e; exact ⟨by rw [hmk, up_s, hv], by rw [up_s]⟩
        · exact ⟨by rw [hmk, up_n e]; exact (h1 p (by omega)).1, by rw [up_n e]; exact (h1 p (by omega)).2⟩
      have dd : ∀ (f : Nat → Int32) (a b : Int32) (j : Nat), upd (upd f k a) k b j = upd f k b j := by
        intro f a b j
        by_cases e : j = k
        · subst e; rw [up_s, up_s]
        · rw [up_n e, up_n e, up_n e]
      dsimp only
      rw [fX5_workAll_2_s, worksAt_s hN ht hw hk n1 (n4 k hk) m5 (m6 k hk), b1_s, n2, ic (sle (by omega) (by omega)), if_neg (by omega), sgd (by omega) (by decide), sgd (by omega) (by decide), sgd (by omega) (by decide), sclamp (by omega), up_s, c0, c1, nI_add, m9e, ← n2]
      cases hq : wk t w k with
      | none =>
        have z0 : mkp t w k = 0 := by unfold mkp; rw [wt_of, hq]; cases Nat.testBit (wIl w) k <;> rfl
        refine ⟨(upd mk k (nI 0), upd wo k (eN (Option.map (wWh w) none)), nI (k + 1)), ?_, ?_, rfl⟩
        · rw [if_pos (show eN (Option.map (wWh w) none) = m9 from rfl)]
        · have := fin (nI 0) (by rw [z0]) (upd mk k (nI 0)) (fun _ => rfl)
          rw [hq] at this
          exact this
      | some a =>
        have ha := wk_lt hw hk hq
        have hwa := hw.2.2.2.2.2.2.2.2 a ha
        rw [show eN (Option.map (wWh w) (some a)) = nI (wWh w a) from rfl, ic (seqm (by omega)), if_neg id, isIllM_s m8 hw.2.1 (by omega), b1_s]
        rw [hq] at fin
        cases hb : Nat.testBit (wIl w) k with
        | true =>
          have z0 : mkp t w k = 0 := by unfold mkp; rw [wt_of, hq, hb]; rfl
          refine ⟨(upd mk k (nI 0), upd wo k (nI (wWh w a)), nI (k + 1)), ?_, ?_, rfl⟩
          · rw [if_neg (by decide)]
          · exact fin (nI 0) (by rw [z0]) (upd mk k (nI 0)) (fun _ => rfl)
        | false =>
          have z1 : mkp t w k = tYl t (wWh w a) * hnd w k (wWh w a) := by unfold mkp; rw [wt_of, hq, hb]; rfl
          have s9 := hw.2.2.2.1 k hk _ hwa
          have h7 := hw.2.2.2.2.2.2.1 k (by omega)
          have md := (n3 _ hwa).2
          have e1 := m9' k hk _ hwa
          rw [if_pos (by decide), helperOf_s hN ht hw n2 m7 hk, c33, c6, pk_mul, nI_add, nI_add, sgd (by omega) (by decide), sclamp (by omega), e1, sclamp (by omega), md]
          by_cases h0 : wHp w k = 0
          · have hn : hnd w k (wWh w a) = wSk w (k * 6 + wWh w a) := by unfold hnd; rw [if_pos h0]
            refine ⟨(upd (upd mk k (nI 0)) k (nI (tYl t (wWh w a)) * nI (wSk w (k * 6 + wWh w a))), upd wo k (nI (wWh w a)), nI (k + 1)), ?_, ?_, rfl⟩
            · rw [if_pos h0, b1_s, if_pos rfl, sgd (by omega) (by decide), ic (sle (by omega) (by omega)), if_pos (by omega), sgd (by omega) (by decide)]
            · exact fin _ (by rw [z1, hn, pk_mul]) _ (fun j => dd _ _ _ j)
          · have s8 := hw.2.2.2.1 (wHp w k - 1) (by omega) _ hwa
            have e2 := m9' (wHp w k - 1) (by omega) _ hwa
            rw [if_neg h0, b1_s, ic (seqm (by omega)), if_neg id, isIllM_s m8 hw.2.1 (by omega), b1_s, pk_mul, nI_add, nI_add, sclamp (by omega), e2]
            cases hb2 : Nat.testBit (wIl w) (wHp w k - 1) with
            | true =>
              have hn : hnd w k (wWh w a) = wSk w (k * 6 + wWh w a) := by unfold hnd; rw [if_neg h0, hb2]; rfl
              refine ⟨(upd (upd mk k (nI 0)) k (nI (tYl t (wWh w a)) * nI (wSk w (k * 6 + wWh w a))), upd wo k (nI (wWh w a)), nI (k + 1)), ?_, ?_, rfl⟩
              · rw [if_neg (by decide), sgd (by omega) (by decide), ic (sle (by omega) (by omega)), if_pos (by omega), sgd (by omega) (by decide)]
              · exact fin _ (by rw [z1, hn, pk_mul]) _ (fun j => dd _ _ _ j)
            | false =>
              have hn : hnd w k (wWh w a) = max (wSk w (k * 6 + wWh w a)) (wSk w ((wHp w k - 1) * 6 + wWh w a)) := by unfold hnd; rw [if_neg h0, hb2]; rfl
              rw [if_pos (by decide), sgd (by omega) (by decide), sgd (by omega) (by decide), ic (sle (by omega) (by omega))]
              by_cases hc : wSk w ((wHp w k - 1) * 6 + wWh w a) ≤ wSk w (k * 6 + wWh w a)
              · refine ⟨(upd (upd mk k (nI 0)) k (nI (tYl t (wWh w a)) * nI (wSk w (k * 6 + wWh w a))), upd wo k (nI (wWh w a)), nI (k + 1)), ?_, ?_, rfl⟩
                · rw [if_pos hc, sgd (by omega) (by decide)]
                · exact fin _ (by rw [z1, hn, pk_mul]; congr 2; omega) _ (fun j => dd _ _ _ j)
              · refine ⟨(upd (upd mk k (nI 0)) k (nI (tYl t (wWh w a)) * nI (wSk w ((wHp w k - 1) * 6 + wWh w a))), upd wo k (nI (wWh w a)), nI (k + 1)), ?_, ?_, rfl⟩
                · rw [if_neg hc, sgd (by omega) (by decide)]
                · exact fin _ (by rw [z1, hn, pk_mul]; congr 2; omega) _ (fun j => dd _ _ _ j))
    (fun n z hz => by
      obtain ⟨mk, wo, l1⟩ := z
      obtain ⟨h1, h2⟩ := hz
      simp only [] at h1 h2
      subst h2
      refine ⟨(mk, wo, nI (tP t)), ?_, h1⟩
      show fX5_workAll_2 N trades people made skips s (n + 1) mk wo (nI (tP t)) = _
      rw [fX5_workAll_2_s, n2, if_pos (nI_le (Nat.le_refl _) (by omega))])
    (tP t) 0 (by omega) N (by omega) (makes, works, nI 0) ⟨fun p hp => by omega, rfl⟩
  exact key
/-- the row, its stores as they are behind the goods of the first p people -/
def RG (t : TS) (w : WS) (s0 : Nat → Int32) (p : Nat) (s : Nat → Int32) : Prop := (∀ k, k < tT t → s (2 + k) = nI (gs t w p k)) ∧ ∀ j, (j < 2 ∨ 8 ≤ j) → s j = s0 j
theorem workAll_b (hN : 7 ≤ N) (ht : tOK t) (hw : wOK t w) (hpe : people = nI (tP t)) (rm : RM t w s) (hmk : ∀ p, p < tP t → makes p = nI (mkp t w p) ∧ works p = eN ((wk t w p).map (wWh w))) :
    ∃ r : (Nat → Int32) × Int32, fX5_workAll_141 N people makes works N s (nI 0) = some r ∧ RG t w s (tP t) r.1 := by
  have hP : tP t ≤ 6 := ht.2.1
  have hT : tT t ≤ 6 := ht.1
  have key := lpI (fun n (z : (Nat → Int32) × Int32) => fX5_workAll_141 N people makes works n z.1 z.2) (fun k z => RG t w s k z.1 ∧ z.2 = nI k) (fun r => RG t w s (tP t) r.1) (tP t)
    (fun n p z hp hz => by
      obtain ⟨s1, l1⟩ := z
      obtain ⟨⟨h1, h3⟩, h2⟩ := hz
      simp only [] at h1 h2 h3
      subst h2
      dsimp only
      rw [fX5_workAll_141_s, hpe, ic (sle (by omega) (by omega)), if_neg (by omega), sgd (by omega) (by decide), sclamp (by omega), (hmk p hp).2, (hmk p hp).1, m9e, c1, nI_add, ← hpe]
      cases hq : wk t w p with
      | none =>
        have z0 : wt t w p = none := by rw [wt_of, hq]; cases Nat.testBit (wIl w) p <;> rfl
        refine ⟨(s1, nI (p + 1)), by rw [if_pos (show eN (Option.map (wWh w) none) = m9 from rfl)], ⟨?_, h3⟩, rfl⟩
        intro k hk
        have := h1 k hk
        show s1 (2 + k) = nI (gs t w (p + 1) k)
        rw [this]
        unfold gs
        rw [z0]
        cases p <;> rfl
      | some a =>
        have ha := wk_lt hw hp hq
        have hwa := hw.2.2.2.2.2.2.2.2 a ha
        rw [show eN (Option.map (wWh w) (some a)) = nI (wWh w a) from rfl, ic (seqm (by omega)), if_neg id, sgd (by omega) (by decide), c2, nI_add, sgd (by omega) (by decide), sgd (by omega) (by decide), sgd (by omega) (by decide), sclamp (by omega), h1 _ hwa, nI_add]
        refine ⟨(upd s1 (2 + wWh w a) (nI (gs t w p (wWh w a) + mkp t w p)), nI (p + 1)), rfl, ⟨?_, ?_⟩, rfl⟩
        · intro k hk
          have e0 : gs t w (p + 1) k = gs t w p k + if k = wWh w a then mkp t w p else 0 := by
            show (match wt t w p with
              | none => gs t w p
              | some k => fun j => if j = k then gs t w p k + tYl t k * hnd w p k else gs t w p j) k = _
            unfold mkp
            rw [wt_of, hq]
            cases Nat.testBit (wIl w) p with
            | true => simp
            | false =>
              simp only [Option.map, Bool.false_eq_true, if_false]
              by_cases e : k = wWh w a
              · subst e; simp
              · rw [if_neg e, if_neg e]; rfl
          show upd s1 (2 + wWh w a) _ (2 + k) = _
          rw [e0]
          by_cases e : k = wWh w a
          · subst e; rw [up_s, if_pos rfl]
          · rw [up_n (by omega), h1 k hk, if_neg e, Nat.add_zero]
        · intro j hj
          show upd s1 (2 + wWh w a) _ j = _
          rw [up_n (by omega), h3 j hj])
    (fun n z hz => by
      obtain ⟨s1, l1⟩ := z
      obtain ⟨h1, h2⟩ := hz
      simp only [] at h1 h2
      subst h2
      refine ⟨(s1, nI (tP t)), ?_, h1⟩
      show fX5_workAll_141 N people makes works (n + 1) s1 (nI (tP t)) = _
      rw [fX5_workAll_141_s, hpe, if_pos (nI_le (Nat.le_refl _) (by omega))])
    (tP t) 0 (by omega) N (by omega) (s, nI 0) ⟨⟨fun k hk => rm.2.2.1 k hk, fun j _ => rfl⟩, rfl⟩
  exact key
theorem workAll_s (hN : 7 ≤ N) (ht : tOK t) (hw : wOK t w) (rn : RN t trades people need made skips tunes) (rm : RM t w s) :
    ∃ s' mk' wo', fX5_workAll N trades people made skips s makes works = some (s', mk', wo') ∧ RG t w s (tP t) s' ∧ ∀ p, p < tP t → wo' p = eN ((wk t w p).map (wWh w)) := by
  obtain ⟨⟨mk', wo', l⟩, h1, h2⟩ := workAll_a (makes := makes) (works := works) hN ht hw rn rm
  obtain ⟨⟨s', l'⟩, h3, h4⟩ := workAll_b (people := people) hN ht hw rn.2.1 rm h2
  refine ⟨s', mk', wo', ?_, h4, fun p hp => (h2 p hp).2⟩
  unfold fX5_workAll
  rw [c0, h1, b3_s]
  show b2 (fX5_workAll_141 N people mk' wo' N s (nI 0)) _ = _
  rw [h3, b2_s]
/-- the row behind the needs of the first k trades -/
def RD (t : TS) (w : WS) (s0 : Nat → Int32) (n : Nat) (s : Nat → Int32) : Prop := (∀ k, k < tT t → s (2 + k) = nI (if k < n then gs t w (tP t) k - want t w k else gs t w (tP t) k)) ∧ (∀ k, k < tT t → s (8 + k) = nI (if k < n then wLa w k + lk t w k else wLa w k)) ∧ ∀ j, (j < 2 ∨ 14 ≤ j) → s j = s0 j
theorem takesNeeds_l (hN : 7 ≤ N) (ht : tOK t) (hw : wOK t w) (rn : RN t trades people need made skips tunes) {s0 : Nat → Int32} (rm : RM t w s0) (rg : RG t w s0 (tP t) s) :
    ∃ r : (Nat → Int32) × Int32 × Int32, fX5_takesNeeds_4 N trades need tunes N s (nI 0) (nI 0) = some r ∧ RD t w s0 (tT t) r.1 ∧ r.2.1 = nI (lks t w (tT t)) := by
  have hP : tP t ≤ 6 := ht.2.1
  have hT : tT t ≤ 6 := ht.1
  obtain ⟨n1, n2, n3, n4, n5, n6, n7⟩ := rn
  obtain ⟨m1, m2, m3, m4, m5, m6, m7, m8, m9', m10⟩ := rm
  have h99 := hw.1
  have hwi := ht.2.2.2.2.2.1
  have key := lpI (fun n (z : (Nat → Int32) × Int32 × Int32) => fX5_takesNeeds_4 N trades need tunes n z.1 z.2.1 z.2.2) (fun k z => RD t w s0 k z.1 ∧ z.2.1 = nI (lks t w k) ∧ z.2.2 = nI k) (fun r => RD t w s0 (tT t) r.1 ∧ r.2.1 = nI (lks t w (tT t))) (tT t)
    (fun n k z hk hz => by
      obtain ⟨s1, l1, l2⟩ := z
      obtain ⟨⟨h1, h2, h3⟩, h4, h5⟩ := hz
      simp only [] at h1 h2 h3 h4 h5
      subst h4 h5
      have q1 := h1 k hk
      have q2 := h2 k hk
      rw [if_neg (Nat.lt_irrefl k)] at q1 q2
      have q0 : s1 0 = nI (wRd w) := (h3 0 (by omega)).trans m1
      have g1 := gs_le ht hw (tP t) (Nat.le_refl _) k hk
      have w1 := want_le (w := w) ht hk
      have a1 := (hw.2.2.2.2.2.1 k hk).2
      have nd := (ht.2.2.1 k hk).1
      have nq := (n3 k hk).1
      have mm : tNd t k * (10 + tWi t) ≤ 99 * 30 := Nat.mul_le_mul nd (by omega)
      have dn : ∀ (a b : Int32) (s2 : Nat → Int32), a = nI (gs t w (tP t) k - want t w k) → b = nI (wLa w k + lk t w k) → (∀ j, s2 j = upd (upd s1 (2 + k) a) (8 + k) b j) → RD t w s0 (k + 1) s2 := by
        intro a b s2 ha hb hs
        refine ⟨?_, ?_, ?_⟩
        · intro i hi
          rw [hs, up_n (by omega)]
          by_cases e : i = k
          · subst e; rw [up_s, ha, if_pos (by omega)]
          · rw [up_n (by omega), h1 i hi]
            by_cases e2 : i < k
            · rw [if_pos e2, if_pos (by omega)]
            · rw [if_neg e2, if_neg (by omega)]
        · intro i hi
          rw [hs]
          by_cases e : i = k
          · subst e; rw [up_s, hb, if_pos (by omega)]
          · rw [up_n (by omega), up_n (by omega), h2 i hi]
            by_cases e2 : i < k
            · rw [if_pos e2, if_pos (by omega)]
            · rw [if_neg e2, if_neg (by omega)]
        · intro j hj
          rw [hs, up_n (by omega), up_n (by omega), h3 j hj]
      have hrem : nI (wRd w) - nI (wRd w) / (4 : Int32) * (4 : Int32) = nI (wRd w % 4) := pk_rem (by omega) (by decide) (by decide)
      dsimp only
      rw [fX5_takesNeeds_4_s, n1, ic (sle (by omega) (by omega)), if_neg (by omega), ← n1, show (0 : Int32).toNatClampNeg = 0 from rfl, q0, hrem, c3, ic (seq (by omega) (by omega)), show (1 : Int32).toNatClampNeg = 1 from rfl, n6, c2, c8, c10, nI_add, nI_add, nI_add, sclamp (by omega), sclamp (by omega), sclamp (by omega), q1, nq, pk_mul, sdiv (by omega) (by decide) (by decide), c1, nI_add, c0, sgd (by decide) (by decide)]
      have fin : ∀ x : Nat, x = want t w k → (if nI x ≤ nI (gs t w (tP t) k) then True else True) := fun _ _ => by split <;> trivial
      by_cases h3' : wRd w % 4 = 3
      · have we : tNd t k * (10 + tWi t) / 10 = want t w k := by unfold want; rw [if_pos h3']
        rw [if_pos h3', we]
        by_cases hle : want t w k ≤ gs t w (tP t) k
        · have l0 : lk t w k = 0 := by unfold lk; omega
          refine ⟨(upd (upd s1 (2 + k) (nI (gs t w (tP t) k - want t w k))) (8 + k) (nI (wLa w k + lk t w k)), nI (lks t w (k + 1)), nI (k + 1)), ?_, dn _ _ _ rfl rfl (fun _ => rfl), rfl, rfl⟩
          simp (disch := omega) only [↓m9e, c0, c1, c2, c3, c4, c6, c8, c9, c10, c14, c20, c26, c32, c33, c36, c69, c99, c105, c400, sclamp, sle, slt, seq, seqm, seqm2, nI_add, pk_mul, sub_rem, ssub, sdiv, sgd, sgz, b1_s, b2_s, b3_s, b4_s, b5_s, b6_s, b7_s, b8_s, b9_s, b10_s, b11_s, b12_s, rjn_, rjs_, if_pos, if_neg, bit_s, Nat.reduceAdd, Nat.zero_add, Nat.add_zero, up_s, up_n, sgb0, sgb1, if_true, if_false, hle, q2, l0, lks]
          all_goals rfl
        · have l0 : lk t w k = want t w k - gs t w (tP t) k := rfl
          have z0 : gs t w (tP t) k - want t w k = 0 := by omega
          refine ⟨(upd (upd s1 (2 + k) (nI (gs t w (tP t) k - want t w k))) (8 + k) (nI (wLa w k + lk t w k)), nI (lks t w (k + 1)), nI (k + 1)), ?_, dn _ _ _ rfl rfl (fun _ => rfl), rfl, rfl⟩
          simp (disch := omega) only [↓m9e, c0, c1, c2, c3, c4, c6, c8, c9, c10, c14, c20, c26, c32, c33, c36, c69, c99, c105, c400, sclamp, sle, slt, seq, seqm, seqm2, nI_add, pk_mul, sub_rem, ssub, sdiv, sgd, sgz, b1_s, b2_s, b3_s, b4_s, b5_s, b6_s, b7_s, b8_s, b9_s, b10_s, b11_s, b12_s, rjn_, rjs_, if_pos, if_neg, bit_s, Nat.reduceAdd, Nat.zero_add, Nat.add_zero, up_s, up_n, sgb0, sgb1, if_true, if_false, hle, q2, l0, lks, z0]
          all_goals rfl
      · have we : tNd t k = want t w k := by unfold want; rw [if_neg h3']; omega
        rw [if_neg h3', we]
        by_cases hle : want t w k ≤ gs t w (tP t) k
        · have l0 : lk t w k = 0 := by unfold lk; omega
          refine ⟨(upd (upd s1 (2 + k) (nI (gs t w (tP t) k - want t w k))) (8 + k) (nI (wLa w k + lk t w k)), nI (lks t w (k + 1)), nI (k + 1)), ?_, dn _ _ _ rfl rfl (fun _ => rfl), rfl, rfl⟩
          simp (disch := omega) only [↓m9e, c0, c1, c2, c3, c4, c6, c8, c9, c10, c14, c20, c26, c32, c33, c36, c69, c99, c105, c400, sclamp, sle, slt, seq, seqm, seqm2, nI_add, pk_mul, sub_rem, ssub, sdiv, sgd, sgz, b1_s, b2_s, b3_s, b4_s, b5_s, b6_s, b7_s, b8_s, b9_s, b10_s, b11_s, b12_s, rjn_, rjs_, if_pos, if_neg, bit_s, Nat.reduceAdd, Nat.zero_add, Nat.add_zero, up_s, up_n, sgb0, sgb1, if_true, if_false, hle, q2, l0, lks]
          all_goals rfl
        · have l0 : lk t w k = want t w k - gs t w (tP t) k := rfl
          have z0 : gs t w (tP t) k - want t w k = 0 := by omega
          refine ⟨(upd (upd s1 (2 + k) (nI (gs t w (tP t) k - want t w k))) (8 + k) (nI (wLa w k + lk t w k)), nI (lks t w (k + 1)), nI (k + 1)), ?_, dn _ _ _ rfl rfl (fun _ => rfl), rfl, rfl⟩
          simp (disch := omega) only [↓m9e, c0, c1, c2, c3, c4, c6, c8, c9, c10, c14, c20, c26, c32, c33, c36, c69, c99, c105, c400, sclamp, sle, slt, seq, seqm, seqm2, nI_add, pk_mul, sub_rem, ssub, sdiv, sgd, sgz, b1_s, b2_s, b3_s, b4_s, b5_s, b6_s, b7_s, b8_s, b9_s, b10_s, b11_s, b12_s, rjn_, rjs_, if_pos, if_neg, bit_s, Nat.reduceAdd, Nat.zero_add, Nat.add_zero, up_s, up_n, sgb0, sgb1, if_true, if_false, hle, q2, l0, lks, z0]
          all_goals rfl)
    (fun n z hz => by
      obtain ⟨s1, l1, l2⟩ := z
      obtain ⟨h1, h4, h5⟩ := hz
      simp only [] at h1 h4 h5
      subst h4 h5
      refine ⟨(s1, nI (lks t w (tT t)), nI (tT t)), ?_, h1, rfl⟩
      show fX5_takesNeeds_4 N trades need tunes (n + 1) s1 _ (nI (tT t)) = _
      rw [fX5_takesNeeds_4_s, n1, if_pos (nI_le (Nat.le_refl _) (by omega))])
    (tT t) 0 (by omega) N (by omega) (s, nI 0, nI 0) ⟨⟨fun k hk => rg.1 k hk, fun k hk => (rg.2 (8 + k) (by omega)).trans (m4 k hk), fun j hj => rg.2 j (by omega)⟩, rfl, rfl⟩
  exact key
end
