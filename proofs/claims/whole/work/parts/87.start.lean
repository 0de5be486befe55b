theorem st6 {P : Nat → Prop} (h0 : P 0) (h1 : P 1) (h2 : P 2) (h3 : P 3) (h4 : P 4) (h5 : P 5) : ∀ i : Nat, i < 6 → P i := by
  intro i hi
  match i, hi with
  | 0, _ => exact h0
  | 1, _ => exact h1
  | 2, _ => exact h2
  | 3, _ => exact h3
  | 4, _ => exact h4
  | 5, _ => exact h5
  | n + 6, h => exact absurd h (by omega)
set_option maxHeartbeats 4000000 in
set_option maxRecDepth 100000 in
theorem law_words {b : Nat} {s : State} (hgv : (Jvm.Cond.and given_1 narrow_1).before #[Value.ref b] s = true) : ∃ adK adV : Nat → Nat, vk_S 6 sLen sByt adK adV (LAs s) s s.heap ∧ ∀ i : Nat, i < 6 → (Term.string RX0 (sI i)).eval #[Value.ref b] s none [] s = some (.ref (adK i)) := by
  have hs := flat_of_before _ hgv
  refine vk_Sof (tm := fun i => .string RX0 (sI i)) (by decide) ?_ ?_ ?_ ?_ ?_ ?_ (fun a h => Nat.not_le.mpr h)
  · exact st6 (hs (.exactly (.string RX0 70) "java/lang/String") (by decide +kernel)) (hs (.exactly (.string RX0 76) "java/lang/String") (by decide +kernel)) (hs (.exactly (.string RX0 78) "java/lang/String") (by decide +kernel)) (hs (.exactly (.string RX0 80) "java/lang/String") (by decide +kernel)) (hs (.exactly (.string RX0 82) "java/lang/String") (by decide +kernel)) (hs (.exactly (.string RX0 84) "java/lang/String") (by decide +kernel))
  · exact st6 (hs (.eq (.field (.string RX0 70) "java/lang/String" "coder" "B") (.int 0)) (by decide +kernel)) (hs (.eq (.field (.string RX0 76) "java/lang/String" "coder" "B") (.int 0)) (by decide +kernel)) (hs (.eq (.field (.string RX0 78) "java/lang/String" "coder" "B") (.int 0)) (by decide +kernel)) (hs (.eq (.field (.string RX0 80) "java/lang/String" "coder" "B") (.int 0)) (by decide +kernel)) (hs (.eq (.field (.string RX0 82) "java/lang/String" "coder" "B") (.int 0)) (by decide +kernel)) (hs (.eq (.field (.string RX0 84) "java/lang/String" "coder" "B") (.int 0)) (by decide +kernel))
  · exact st6 (hs (.arrayOf (.field (.string RX0 70) "java/lang/String" "value" "[B") .byte) (by decide +kernel)) (hs (.arrayOf (.field (.string RX0 76) "java/lang/String" "value" "[B") .byte) (by decide +kernel)) (hs (.arrayOf (.field (.string RX0 78) "java/lang/String" "value" "[B") .byte) (by decide +kernel)) (hs (.arrayOf (.field (.string RX0 80) "java/lang/String" "value" "[B") .byte) (by decide +kernel)) (hs (.arrayOf (.field (.string RX0 82) "java/lang/String" "value" "[B") .byte) (by decide +kernel)) (hs (.arrayOf (.field (.string RX0 84) "java/lang/String" "value" "[B") .byte) (by decide +kernel))
  · exact st6 (hs (.eq (.length (.field (.string RX0 70) "java/lang/String" "value" "[B")) (.int 5)) (by decide +kernel)) (hs (.eq (.length (.field (.string RX0 76) "java/lang/String" "value" "[B")) (.int 6)) (by decide +kernel)) (hs (.eq (.length (.field (.string RX0 78) "java/lang/String" "value" "[B")) (.int 5)) (by decide +kernel)) (hs (.eq (.length (.field (.string RX0 80) "java/lang/String" "value" "[B")) (.int 4)) (by decide +kernel)) (hs (.eq (.length (.field (.string RX0 82) "java/lang/String" "value" "[B")) (.int 2)) (by decide +kernel)) (hs (.eq (.length (.field (.string RX0 84) "java/lang/String" "value" "[B")) (.int 5)) (by decide +kernel))
  · exact st6 (P := fun i => ∀ j : Nat, j < sLen.getD i 0 → (Cond.eq (.elem (.field (.string RX0 (sI i)) "java/lang/String" "value" "[B") (.int (Int32.ofNat j))) (.int ((sByt.getD i []).getD j 0))).before #[Value.ref b] s = true) (by
        intro j hj
        have hj : j < 5 := hj
        match j, hj with
        | 0, _ => exact hs (.eq (.elem (.field (.string RX0 70) "java/lang/String" "value" "[B") (.int 0)) (.int 116)) (by decide +kernel)
        | 1, _ => exact hs (.eq (.elem (.field (.string RX0 70) "java/lang/String" "value" "[B") (.int 1)) (.int 114)) (by decide +kernel)
        | 2, _ => exact hs (.eq (.elem (.field (.string RX0 70) "java/lang/String" "value" "[B") (.int 2)) (.int 97)) (by decide +kernel)
        | 3, _ => exact hs (.eq (.elem (.field (.string RX0 70) "java/lang/String" "value" "[B") (.int 3)) (.int 100)) (by decide +kernel)
        | 4, _ => exact hs (.eq (.elem (.field (.string RX0 70) "java/lang/String" "value" "[B") (.int 4)) (.int 101)) (by decide +kernel)
        | n + 5, h => exact absurd h (by omega))
      (by
        intro j hj
        have hj : j < 6 := hj
        match j, hj with
        | 0, _ => exact hs (.eq (.elem (.field (.string RX0 76) "java/lang/String" "value" "[B") (.int 0)) (.int 112)) (by decide +kernel)
        | 1, _ => exact hs (.eq (.elem (.field (.string RX0 76) "java/lang/String" "value" "[B") (.int 1)) (.int 101)) (by decide +kernel)
        | 2, _ => exact hs (.eq (.elem (.field (.string RX0 76) "java/lang/String" "value" "[B") (.int 2)) (.int 114)) (by decide +kernel)
        | 3, _ => exact hs (.eq (.elem (.field (.string RX0 76) "java/lang/String" "value" "[B") (.int 3)) (.int 115)) (by decide +kernel)
        | 4, _ => exact hs (.eq (.elem (.field (.string RX0 76) "java/lang/String" "value" "[B") (.int 4)) (.int 111)) (by decide +kernel)
        | 5, _ => exact hs (.eq (.elem (.field (.string RX0 76) "java/lang/String" "value" "[B") (.int 5)) (.int 110)) (by decide +kernel)
        | n + 6, h => exact absurd h (by omega))
      (by
        intro j hj
        have hj : j < 5 := hj
        match j, hj with
        | 0, _ => exact hs (.eq (.elem (.field (.string RX0 78) "java/lang/String" "value" "[B") (.int 0)) (.int 115)) (by decide +kernel)
        | 1, _ => exact hs (.eq (.elem (.field (.string RX0 78) "java/lang/String" "value" "[B") (.int 1)) (.int 107)) (by decide +kernel)
        | 2, _ => exact hs (.eq (.elem (.field (.string RX0 78) "java/lang/String" "value" "[B") (.int 2)) (.int 105)) (by decide +kernel)
        | 3, _ => exact hs (.eq (.elem (.field (.string RX0 78) "java/lang/String" "value" "[B") (.int 3)) (.int 108)) (by decide +kernel)
        | 4, _ => exact hs (.eq (.elem (.field (.string RX0 78) "java/lang/String" "value" "[B") (.int 4)) (.int 108)) (by decide +kernel)
        | n + 5, h => exact absurd h (by omega))
      (by
        intro j hj
        have hj : j < 4 := hj
        match j, hj with
        | 0, _ => exact hs (.eq (.elem (.field (.string RX0 80) "java/lang/String" "value" "[B") (.int 0)) (.int 115)) (by decide +kernel)
        | 1, _ => exact hs (.eq (.elem (.field (.string RX0 80) "java/lang/String" "value" "[B") (.int 1)) (.int 107)) (by decide +kernel)
        | 2, _ => exact hs (.eq (.elem (.field (.string RX0 80) "java/lang/String" "value" "[B") (.int 2)) (.int 105)) (by decide +kernel)
        | 3, _ => exact hs (.eq (.elem (.field (.string RX0 80) "java/lang/String" "value" "[B") (.int 3)) (.int 112)) (by decide +kernel)
        | n + 4, h => exact absurd h (by omega))
      (by
        intro j hj
        have hj : j < 2 := hj
        match j, hj with
        | 0, _ => exact hs (.eq (.elem (.field (.string RX0 82) "java/lang/String" "value" "[B") (.int 0)) (.int 97)) (by decide +kernel)
        | 1, _ => exact hs (.eq (.elem (.field (.string RX0 82) "java/lang/String" "value" "[B") (.int 1)) (.int 116)) (by decide +kernel)
        | n + 2, h => exact absurd h (by omega))
      (by
        intro j hj
        have hj : j < 5 := hj
        match j, hj with
        | 0, _ => exact hs (.eq (.elem (.field (.string RX0 84) "java/lang/String" "value" "[B") (.int 0)) (.int 119)) (by decide +kernel)
        | 1, _ => exact hs (.eq (.elem (.field (.string RX0 84) "java/lang/String" "value" "[B") (.int 1)) (.int 104)) (by decide +kernel)
        | 2, _ => exact hs (.eq (.elem (.field (.string RX0 84) "java/lang/String" "value" "[B") (.int 2)) (.int 101)) (by decide +kernel)
        | 3, _ => exact hs (.eq (.elem (.field (.string RX0 84) "java/lang/String" "value" "[B") (.int 3)) (.int 101)) (by decide +kernel)
        | 4, _ => exact hs (.eq (.elem (.field (.string RX0 84) "java/lang/String" "value" "[B") (.int 4)) (.int 108)) (by decide +kernel)
        | n + 5, h => exact absurd h (by omega))
  · exact fun i j hi hj => (st6 (P := fun i => ∀ j : Nat, j < 6 → i ≠ j → (Cond.not (Cond.eq (.string RX0 (sI i)) (.string RX0 (sI j)))).before #[Value.ref b] s = true ∨ (Cond.not (Cond.eq (.string RX0 (sI j)) (.string RX0 (sI i)))).before #[Value.ref b] s = true) (st6 (fun h => absurd rfl h) (fun _ => Or.inl (hs (.not (.eq (.string RX0 70) (.string RX0 76))) (by decide +kernel))) (fun _ => Or.inl (hs (.not (.eq (.string RX0 70) (.string RX0 78))) (by decide +kernel))) (fun _ => Or.inl (hs (.not (.eq (.string RX0 70) (.string RX0 80))) (by decide +kernel))) (fun _ => Or.inl (hs (.not (.eq (.string RX0 70) (.string RX0 82))) (by decide +kernel))) (fun _ => Or.inl (hs (.not (.eq (.string RX0 70) (.string RX0 84))) (by decide +kernel))))
      (st6 (fun _ => Or.inr (hs (.not (.eq (.string RX0 70) (.string RX0 76))) (by decide +kernel))) (fun h => absurd rfl h) (fun _ => Or.inl (hs (.not (.eq (.string RX0 76) (.string RX0 78))) (by decide +kernel))) (fun _ => Or.inl (hs (.not (.eq (.string RX0 76) (.string RX0 80))) (by decide +kernel))) (fun _ => Or.inl (hs (.not (.eq (.string RX0 76) (.string RX0 82))) (by decide +kernel))) (fun _ => Or.inl (hs (.not (.eq (.string RX0 76) (.string RX0 84))) (by decide +kernel))))
      (st6 (fun _ => Or.inr (hs (.not (.eq (.string RX0 70) (.string RX0 78))) (by decide +kernel))) (fun _ => Or.inr (hs (.not (.eq (.string RX0 76) (.string RX0 78))) (by decide +kernel))) (fun h => absurd rfl h) (fun _ => Or.inl (hs (.not (.eq (.string RX0 78) (.string RX0 80))) (by decide +kernel))) (fun _ => Or.inl (hs (.not (.eq (.string RX0 78) (.string RX0 82))) (by decide +kernel))) (fun _ => Or.inl (hs (.not (.eq (.string RX0 78) (.string RX0 84))) (by decide +kernel))))
      (st6 (fun _ => Or.inr (hs (.not (.eq (.string RX0 70) (.string RX0 80))) (by decide +kernel))) (fun _ => Or.inr (hs (.not (.eq (.string RX0 76) (.string RX0 80))) (by decide +kernel))) (fun _ => Or.inr (hs (.not (.eq (.string RX0 78) (.string RX0 80))) (by decide +kernel))) (fun h => absurd rfl h) (fun _ => Or.inl (hs (.not (.eq (.string RX0 80) (.string RX0 82))) (by decide +kernel))) (fun _ => Or.inl (hs (.not (.eq (.string RX0 80) (.string RX0 84))) (by decide +kernel))))
      (st6 (fun _ => Or.inr (hs (.not (.eq (.string RX0 70) (.string RX0 82))) (by decide +kernel))) (fun _ => Or.inr (hs (.not (.eq (.string RX0 76) (.string RX0 82))) (by decide +kernel))) (fun _ => Or.inr (hs (.not (.eq (.string RX0 78) (.string RX0 82))) (by decide +kernel))) (fun _ => Or.inr (hs (.not (.eq (.string RX0 80) (.string RX0 82))) (by decide +kernel))) (fun h => absurd rfl h) (fun _ => Or.inl (hs (.not (.eq (.string RX0 82) (.string RX0 84))) (by decide +kernel))))
      (st6 (fun _ => Or.inr (hs (.not (.eq (.string RX0 70) (.string RX0 84))) (by decide +kernel))) (fun _ => Or.inr (hs (.not (.eq (.string RX0 76) (.string RX0 84))) (by decide +kernel))) (fun _ => Or.inr (hs (.not (.eq (.string RX0 78) (.string RX0 84))) (by decide +kernel))) (fun _ => Or.inr (hs (.not (.eq (.string RX0 80) (.string RX0 84))) (by decide +kernel))) (fun _ => Or.inr (hs (.not (.eq (.string RX0 82) (.string RX0 84))) (by decide +kernel))) (fun h => absurd rfl h))) i hi j hj
set_option maxHeartbeats 4000000 in
set_option maxRecDepth 100000 in
theorem law_nw {b : Nat} {s : State} (hgv : (Jvm.Cond.and given_1 narrow_1).before #[Value.ref b] s = true) (hts : ∀ w ∈ lw_tbl, w.before #[Value.ref b] s = true) : ∃ Z : gZ, nwA Z (LAs s) s := by
  have hs := flat_of_before _ hgv
  obtain ⟨adK, adV, h1, h2⟩ := law_words hgv
  have hin : ∀ w ∈ nwL, w ∈ lw_tbl ∧ w.onTables = true := by decide +kernel
  refine ⟨(adK, adV), fun w hw => va_Nw.of (hin w hw).2 (hts w (hin w hw).1), va_AO.of (hts (.arrayOver (.object RX3)) (by decide +kernel)), ?_, h1, ?_, ?_⟩
  · exact st6 (vk_R.of (hts (.stringRef RX0 70 "trade") (by decide +kernel)) (h2 0 (by decide))) (vk_R.of (hts (.stringRef RX0 76 "person") (by decide +kernel)) (h2 1 (by decide))) (vk_R.of (hts (.stringRef RX0 78 "skill") (by decide +kernel)) (h2 2 (by decide))) (vk_R.of (hts (.stringRef RX0 80 "skip") (by decide +kernel)) (h2 3 (by decide))) (vk_R.of (hts (.stringRef RX0 82 "at") (by decide +kernel)) (h2 4 (by decide))) (vk_R.of (hts (.stringRef RX0 84 "wheel") (by decide +kernel)) (h2 5 (by decide)))
  · exact va_Zof (hts (.laysStatic "java/lang/String" "COMPACT_STRINGS" "Z") (by decide +kernel)) (hts (.initialized "java/lang/String") (by decide +kernel)) (va_eqt (hs (.eq (.static "java/lang/String" "COMPACT_STRINGS" "Z") (.int 1)) (by decide +kernel))) (fun a h => Nat.not_le.mpr h)
  · exact va_Zqof (hts (.laysStatic "jdk/internal/util/Preconditions" "SIOOBE_FORMATTER" "Ljava/util/function/BiFunction;") (by decide +kernel)) (hts (.initialized "jdk/internal/util/Preconditions") (by decide +kernel)) (hs (.isRef (.static "jdk/internal/util/Preconditions" "SIOOBE_FORMATTER" "Ljava/util/function/BiFunction;")) (by decide +kernel)) (fun a h => Nat.not_le.mpr h)
set_option maxHeartbeats 4000000 in
set_option maxRecDepth 100000 in
theorem law_k {b : Nat} {s : State} (hts : ∀ w ∈ lw_tbl, w.before #[Value.ref b] s = true) : ∃ (dC : Nat → ClassId) (dI : Nat → Nat → Nat) (cC cI cZ cW : ClassId), va_K (dC, dI) vwCl [(cC, .char), (cI, .int), (cZ, .boolean), (cW, .object RX3)] s := by
  obtain ⟨c0, i0, k0⟩ := u_known (C := RX0) (T := TX0) (N := 6) (n := 6) hts inX0 (hts (.instantiable RX0 6) (by decide +kernel))
  obtain ⟨c1, i1, k1⟩ := u_known (C := RX1) (T := TX1) (N := 9) (n := 9) hts inX1 (hts (.instantiable RX1 9) (by decide +kernel))
  obtain ⟨c2, i2, k2⟩ := u_known (C := RX2) (T := TX2) (N := 3) (n := 3) hts inX2 (hts (.instantiable RX2 3) (by decide +kernel))
  obtain ⟨c3, i3, k3⟩ := u_known (C := RX3) (T := TX3) (N := 11) (n := 11) hts inX3 (hts (.instantiable RX3 11) (by decide +kernel))
  obtain ⟨c4, i4, k4⟩ := u_known (C := RX4) (T := TX4) (N := 10) (n := 10) hts inX4 (hts (.instantiable RX4 10) (by decide +kernel))
  obtain ⟨c5, i5, k5⟩ := u_known (C := RX5) (T := TX5) (N := 29) (n := 29) hts inX5 (hts (.instantiable RX5 29) (by decide +kernel))
  obtain ⟨a0, kA0, p0, f0, g0, h0⟩ := Cond.arrayClass_spec (hts (.arrayClass .char) (by decide +kernel))
  obtain ⟨a1, kA1, p1, f1, g1, h1⟩ := Cond.arrayClass_spec (hts (.arrayClass .int) (by decide +kernel))
  obtain ⟨a2, kA2, p2, f2, g2, h2⟩ := Cond.arrayClass_spec (hts (.arrayClass .boolean) (by decide +kernel))
  obtain ⟨q0, a3, kA3, q1, q2, q3, q4, q5⟩ := Cond.arrayOver_spec (hts (.arrayOver (.object RX3)) (by decide +kernel))
  refine ⟨fun k => if k = 0 then c0 else if k = 1 then c1 else if k = 2 then c2 else if k = 3 then c3 else if k = 4 then c4 else c5, fun k => if k = 0 then i0 else if k = 1 then i1 else if k = 2 then i2 else if k = 3 then i3 else if k = 4 then i4 else i5, a0, a1, a2, a3, ?_, ?_⟩
  · intro k q hq
    match k, hq with
    | 0, hq => cases hq; exact k0
    | 1, hq => cases hq; exact k1
    | 2, hq => cases hq; exact k2
    | 3, hq => cases hq; exact k3
    | 4, hq => cases hq; exact k4
    | 5, hq => cases hq; exact k5
    | k + 6, hq => simp [vwCl] at hq
  · intro k q hq
    match k, hq with
    | 0, hq => cases hq; exact ⟨fun N z => ⟨(fun k h => by cases h), kA0, g0, p0, h0⟩, f0⟩
    | 1, hq => cases hq; exact ⟨fun N z => ⟨(fun k h => by cases h), kA1, g1, p1, h1⟩, f1⟩
    | 2, hq => cases hq; exact ⟨fun N z => ⟨(fun k h => by cases h), kA2, g2, p2, h2⟩, f2⟩
    | 3, hq => cases hq; exact ⟨fun N z => ⟨(fun k h => by cases h), kA3, q3, q0, q4⟩, kA3, q0, q3, q4, q1, q5⟩
    | k + 4, hq => simp at hq
abbrev tt0 : TS := (0, 0, fun _ => 0, fun _ => 0, fun _ => 0, 4, 5, 10)
abbrev zN : Nat → Nat := fun _ => 0
theorem tok0 : tOK tt0 := ⟨by decide, by decide, fun k hk => absurd hk (Nat.not_lt_zero k), fun p hp => absurd hp (Nat.not_lt_zero p), by decide, by decide, by decide, by decide⟩
theorem wok0 : wOK tt0 (w0 zN zN zN) := ⟨by decide, by decide, fun p _ => Nat.zero_testBit p, fun p hp => absurd hp (Nat.not_lt_zero p), fun p hp => absurd hp (Nat.not_lt_zero p), fun k hk => absurd hk (Nat.not_lt_zero k), fun q _ => ⟨Nat.zero_le _, fun _ => rfl, fun h => by cases h⟩, fun q r _ _ _ h => absurd rfl h, fun k hk => absurd hk (Nat.not_lt_zero k)⟩
theorem rs0 {a b c d e f : Nat → Int32} : RS tt0 zN zN zN a b c d e f := ⟨fun p hp => absurd hp (Nat.not_lt_zero p), fun p hp => absurd hp (Nat.not_lt_zero p), fun k hk => absurd hk (Nat.not_lt_zero k), wok0⟩
theorem rr_ini {o_present_round' : Int32} {o_present_fell' : Int32} {o_present_ills' : Int32} {o_present_skills' : Nat → Int32} {o_present_places' : Nat → Int32} {o_present_stores' : Nat → Int32} {o_present_lacked' : Nat → Int32} {o_present_helpers' : Nat → Int32} {o_present_favours' : Nat → Int32} {o_present_wheel' : Nat → Int32} {m_s' : Nat → Int32} (rc : RC tt0 (w0 zN zN zN) o_present_round' o_present_fell' o_present_ills' o_present_skills' o_present_places' o_present_stores' o_present_lacked' o_present_helpers' o_present_favours' o_present_wheel') (rm : RM tt0 (w0 zN zN zN) m_s') : RR (0 : Int32) (fun _ => 0) (4 : Int32) (5 : Int32) (10 : Int32) o_present_round' o_present_fell' o_present_ills' o_present_skills' o_present_places' o_present_stores' o_present_lacked' o_present_helpers' o_present_favours' o_present_wheel' (0 : Int32) (0 : Int32) (0 : Int32) (fun _ => 0) (fun _ => 0) (fun _ => 0) (fun _ => 0) (fun _ => 0) (fun _ => 0) (fun _ => 0) (0 : Int32) (0 : Int32) (0 : Int32) (fun _ => 0) (fun _ => 0) (fun _ => 0) (fun _ => 0) (fun _ => 0) (fun _ => 0) (fun _ => 0) (fun _ => 0) (0 : Int32) (0 : Int32) (fun _ => 0) (fun _ => 0) (fun _ => 0) (fun _ => 0) (fun _ => 0) (fun _ => 0) (0 : Int64) (0 : Int32) (fun _ => 0) (0 : Int32) (0 : Int32) (fun _ => 0) (fun _ => 0) (fun _ => 0) (upd (upd (upd (fun _ => 0) 0 (4 : Int32)) 1 (5 : Int32)) 2 (10 : Int32)) m_s' (fun _ => 0) (fun _ => 0) (fun _ => 0) (fun _ => 0) (fun _ => 0) (0 : Int64) :=
  ⟨tt0, w0 zN zN zN, 0, zN, zN, zN, tok0, wok0, ⟨rfl, rfl, fun k hk => absurd hk (Nat.not_lt_zero k), fun p hp => absurd hp (Nat.not_lt_zero p)⟩, ⟨rfl, rfl, rfl⟩, rc, ⟨rfl, rfl, fun k hk => absurd hk (Nat.not_lt_zero k), fun p hp => absurd hp (Nat.not_lt_zero p), rfl, rfl, rfl⟩, rm, rs0, Or.inl ⟨rfl, rfl⟩, Or.inl ⟨rfl, rfl⟩, ⟨by decide, rfl, rfl, fun j hj => absurd hj (Nat.not_lt_zero j)⟩, rfl⟩
