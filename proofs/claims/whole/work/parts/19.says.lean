theorem gPK {D : va_G} {Z : gZ} {tys : List (ClassId × FieldType)} {w : va_W} {A : Nat → Prop} {s : State} {H : Heap} {locs : List Loc} {As : List Value} {i : Nat} (hK : va_K D vwCl tys s) (hN : nwA Z A s) (hA : ∀ q : Nat, s.heap.size ≤ q → A q) (hS : va_S A s.heap H locs) (hP : va_P D vwCl w H) (hD : va_D A w) (hi : i < 6) : PreV s H RJ0 (Z.1 i) (va_Pc (.ref (Z.1 i) :: As) (gB D Z tys [] H.size)) As := ⟨gB_blind, vk_recv hN.2.2.2.1 hi hS, gB_of hK hN hA hS hP hD [] rfl rfl⟩
theorem wlen {i : Nat} (hi : i < 6) : (wdB i).length = sLen.getD i 0 := by
  match i, hi with
  | 0, _ => rfl
  | 1, _ => rfl
  | 2, _ => rfl
  | 3, _ => rfl
  | 4, _ => rfl
  | 5, _ => rfl
  | n + 6, h => exact absurd h (by omega)
theorem sLen6 {i : Nat} (hi : i < 6) : sLen.getD i 0 < 7 :=
  match i, hi with
  | 0, _ => by decide
  | 1, _ => by decide
  | 2, _ => by decide
  | 3, _ => by decide
  | 4, _ => by decide
  | 5, _ => by decide
  | n + 6, h => absurd h (by omega)
theorem lenshr_t : ∀ i : Fin 6, nI (sLen.getD i.val 0) >>> ((0 : Int32) &&& 31) = nI (sLen.getD i.val 0) := by decide +kernel
theorem lenshr {i : Nat} (hi : i < 6) : nI (sLen.getD i 0) >>> ((0 : Int32) &&& 31) = nI (sLen.getD i 0) := lenshr_t ⟨i, hi⟩
theorem bytc_t : ∀ i : Fin 6, ∀ n : Fin 7, n.val < sLen.getD i.val 0 → ((((sByt.getD i.val []).getD n.val 0) &&& (255 : Int32)).toUInt32 % 65536).toInt32 = (wdB i.val).getD n.val 0 ∧ (((wdB i.val).getD n.val 0).toUInt32 % 65536).toInt32 = (wdB i.val).getD n.val 0 := by decide +kernel
theorem bytc {i n : Nat} (hi : i < 6) (hn : n < sLen.getD i 0) : ((((sByt.getD i []).getD n 0) &&& (255 : Int32)).toUInt32 % 65536).toInt32 = (wdB i).getD n 0 ∧ (((wdB i).getD n 0).toUInt32 % 65536).toInt32 = (wdB i).getD n 0 := bytc_t ⟨i, hi⟩ ⟨n, Nat.lt_trans hn (sLen6 hi)⟩ hn
theorem narC {x : Int32} (h : (x.toUInt32 % 65536).toInt32 = x) : narrow .char (.int x) = .int x := congrArg Value.int h
theorem vpl {x : Int32} {n : Nat} (h : vp_in x n) : x.toNatClampNeg < n := Nat.not_le.mp fun q => h (Or.inr q)
theorem vpn {x : Int32} {n : Nat} (h : vp_in x n) : ¬ x < 0 := fun q => h (Or.inl q)
theorem vpI {x : Int32} {n : Nat} (hn : n < 2147483648) (h : vp_in x n) : x < nI n := Int32.lt_iff_toInt_lt.mpr (by rw [nI_toInt hn]; exact (vp_in_iff.mp h).2)
abbrev rmJ0_coder : Room := { frames := 0, cells := 0, slots := 0, locals := 0 }
set_option maxHeartbeats 4000000 in
set_option maxRecDepth 100000 in
theorem kJ0_coder (l : Launch) (dC : Nat → ClassId) (dI : Nat → Nat → Nat) (Z : gZ) (cC cI cZ cW : ClassId) (sz : Nat) (i : Nat) (hi : i < 6) : Met l yJ0_coder_7d493 wsJ0_coder_7d493 rmJ0_coder (va_Pc [.ref (Z.1 i)] (gB (dC, dI) Z [(cC, .char), (cI, .int), (cZ, .boolean), (cW, .object RX3)] [] sz)) (va_Qi (fun (r : Int32) (_ : Unit) => r = 0) (gE (dC, dI) []) (va_A [] sz)) 0 0 (va_A [] sz) := by
  refine gMet (cc := cJ0_coder_7d493) (maxL := 1) (ret := (some .byte)) (Qc := fun A => va_Qi (fun (r : Int32) (_ : Unit) => r = 0) (gE (dC, dI) []) A) (by decide) rfl (Nat.le_of_ble_eq_true rfl) ?_
  intro p e s m below meth c A ls hg0 _ hsz hP hD hS hl
  have hg0 : gX p s m _ meth c cJ0_coder_7d493 1 (some .byte) wsJ0_coder_7d493 RJ0 (dC, dI) Z [(cC, .char), (cI, .int), (cZ, .boolean), (cW, .object RX3)] A := hg0
  obtain ⟨hx, hb, hr, hml, hown, hts, hlocks, hA, hK, hN⟩ := id hg0
  subst hsz
  have hF : CallFix p m c cJ0_coder_7d493 1 s _ wsJ0_coder_7d493 RJ0 := ⟨hx, hb, hml, hown, hts⟩
  have hl : lv_has ls 1 [(0, .ref (Z.1 i))] := hl
  refine va_gets hx hb hN.2.2.2.2.1 hS hown (hts (.fieldLink RJ0 38 "java/lang/String" "COMPACT_STRINGS" "Z") (by decide +kernel)) (fun _ h9 => h9) dJ0_coder_7d493_0 ?_
  refine lv_if_eq (tgt := 13) hx hb dJ0_coder_7d493_3 (by decide) (fun h => absurd h (by decide)) (fun _ => ?_)
  refine lv_aload_n hx hb dJ0_coder_7d493_6 rfl (lv_at hl 0 rfl) ?_
  refine vk_getf hx hb (hN.2.2.2.1.1 i hi).2.1 hS hown (hts (.fieldLink RJ0 15 "java/lang/String" "coder" "B") (by decide +kernel)) (fun _ h9 => h9) dJ0_coder_7d493_7 ?_
  refine lv_goto (tgt := 14) hx hb dJ0_coder_7d493_10 (by decide) ?_
  exact gRz hx hb hr rfl hlocks hP hS dJ0_coder_7d493_14
abbrev rmJ0_isLatin1 : Room := { frames := 0, cells := 0, slots := 0, locals := 0 }
set_option maxHeartbeats 4000000 in
set_option maxRecDepth 100000 in
theorem kJ0_isLatin1 (l : Launch) (dC : Nat → ClassId) (dI : Nat → Nat → Nat) (Z : gZ) (cC cI cZ cW : ClassId) (sz : Nat) (i : Nat) (hi : i < 6) : Met l yJ0_isLatin1_aae02 wsJ0_isLatin1_aae02 rmJ0_isLatin1 (va_Pc [.ref (Z.1 i)] (gB (dC, dI) Z [(cC, .char), (cI, .int), (cZ, .boolean), (cW, .object RX3)] [] sz)) (va_Qi (fun (r : Int32) (_ : Unit) => r = 1) (gE (dC, dI) []) (va_A [] sz)) 0 0 (va_A [] sz) := by
  refine gMet (cc := cJ0_isLatin1_aae02) (maxL := 1) (ret := (some .boolean)) (Qc := fun A => va_Qi (fun (r : Int32) (_ : Unit) => r = 1) (gE (dC, dI) []) A) (by decide) rfl (Nat.le_of_ble_eq_true rfl) ?_
  intro p e s m below meth c A ls hg0 _ hsz hP hD hS hl
  have hg0 : gX p s m _ meth c cJ0_isLatin1_aae02 1 (some .boolean) wsJ0_isLatin1_aae02 RJ0 (dC, dI) Z [(cC, .char), (cI, .int), (cZ, .boolean), (cW, .object RX3)] A := hg0
  obtain ⟨hx, hb, hr, hml, hown, hts, hlocks, hA, hK, hN⟩ := id hg0
  subst hsz
  have hF : CallFix p m c cJ0_isLatin1_aae02 1 s _ wsJ0_isLatin1_aae02 RJ0 := ⟨hx, hb, hml, hown, hts⟩
  have hl : lv_has ls 1 [(0, .ref (Z.1 i))] := hl
  refine va_gets hx hb hN.2.2.2.2.1 hS hown (hts (.fieldLink RJ0 38 "java/lang/String" "COMPACT_STRINGS" "Z") (by decide +kernel)) (fun _ h9 => h9) dJ0_isLatin1_aae02_0 ?_
  refine lv_if_eq (tgt := 17) hx hb dJ0_isLatin1_aae02_3 (by decide) (fun h => absurd h (by decide)) (fun _ => ?_)
  refine lv_aload_n hx hb dJ0_isLatin1_aae02_6 rfl (lv_at hl 0 rfl) ?_
  refine vk_getf hx hb (hN.2.2.2.1.1 i hi).2.1 hS hown (hts (.fieldLink RJ0 15 "java/lang/String" "coder" "B") (by decide +kernel)) (fun _ h9 => h9) dJ0_isLatin1_aae02_7 ?_
  refine lv_if_ne (tgt := 17) hx hb dJ0_isLatin1_aae02_10 (by decide) (fun h => absurd rfl h) (fun _ => ?_)
  refine lv_iconst (v := 1) hx hb dJ0_isLatin1_aae02_13 (by decide) ?_
  refine lv_goto (tgt := 18) hx hb dJ0_isLatin1_aae02_14 (by decide) ?_
  exact gRz hx hb hr rfl hlocks hP hS dJ0_isLatin1_aae02_18
abbrev rmJ0_length : Room := { frames := 1, cells := 0, slots := 0, locals := 20 }
set_option maxHeartbeats 4000000 in
set_option maxRecDepth 100000 in
theorem kJ0_length (l : Launch) (dC : Nat → ClassId) (dI : Nat → Nat → Nat) (Z : gZ) (cC cI cZ cW : ClassId) (sz : Nat) (i : Nat) (hi : i < 6) : Met l yJ0_length_8abf5 wsJ0_length_8abf5 rmJ0_length (va_Pc [.ref (Z.1 i)] (gB (dC, dI) Z [(cC, .char), (cI, .int), (cZ, .boolean), (cW, .object RX3)] [] sz)) (va_Qi (fun (r : Int32) (_ : Unit) => r = nI (sLen.getD i 0)) (gE (dC, dI) []) (va_A [] sz)) 0 0 (va_A [] sz) := by
  refine gMet (cc := cJ0_length_8abf5) (maxL := 1) (ret := (some .int)) (Qc := fun A => va_Qi (fun (r : Int32) (_ : Unit) => r = nI (sLen.getD i 0)) (gE (dC, dI) []) A) (by decide) rfl (Nat.le_of_ble_eq_true rfl) ?_
  intro p e s m below meth c A ls hg0 _ hsz hP hD hS hl
  have hg0 : gX p s m _ meth c cJ0_length_8abf5 1 (some .int) wsJ0_length_8abf5 RJ0 (dC, dI) Z [(cC, .char), (cI, .int), (cZ, .boolean), (cW, .object RX3)] A := hg0
  obtain ⟨hx, hb, hr, hml, hown, hts, hlocks, hA, hK, hN⟩ := id hg0
  subst hsz
  have hF : CallFix p m c cJ0_length_8abf5 1 s _ wsJ0_length_8abf5 RJ0 := ⟨hx, hb, hml, hown, hts⟩
  have hl : lv_has ls 1 [(0, .ref (Z.1 i))] := hl
  refine lv_aload_n hx hb dJ0_length_8abf5_0 rfl (lv_at hl 0 rfl) ?_
  refine vk_getf hx hb (hN.2.2.2.1.1 i hi).2.2.1 hS hown (hts (.fieldLink RJ0 9 "java/lang/String" "value" "[B") (by decide +kernel)) (fun _ h9 => h9) dJ0_length_8abf5_1 ?_
  refine va_tlen (v := nI (sLen.getD i 0)) hx hb (hN.2.2.2.1.1 i hi).2.2.2 hS rfl dJ0_length_8abf5_4 ?_
  refine lv_aload_n hx hb dJ0_length_8abf5_5 rfl (lv_at hl 0 rfl) ?_
  refine gCi (va_runV (As := []) (rest := [.int (nI (sLen.getD i 0))]) hF (kJ0_coder l dC dI Z cC cI cZ cW _ i hi) (cwV 0 hts gJ0_length_8abf5_J0_coder_7d493 rfl rfl rfl (by decide +kernel) ⟨Nat.le_of_ble_eq_true rfl, Nat.le_of_ble_eq_true rfl⟩) (gPK hK hN hA hS hP hD hi) rfl rfl hl.1 rfl (lv_room (Nat.le_of_ble_eq_true rfl)) dJ0_length_8abf5_6 ⟨Nat.zero_le _, Nat.zero_le _⟩) hP hD hS hA [] rfl rfl rfl (fun H locs hP hD hS => ?_)
  have hP : va_P (dC, dI) vwCl [] H := hP
  refine lv_ishr hx hb dJ0_length_8abf5_9 ?_
  refine lv_topi (fun y ey => ?_)
  obtain rfl : y = nI (sLen.getD i 0) := ey.trans (lenshr hi)
  exact gRi hx hb hr hlocks hP hS dJ0_length_8abf5_10
abbrev rmJ3_checkN : Room := { frames := 0, cells := 0, slots := 0, locals := 0 }
set_option maxHeartbeats 4000000 in
set_option maxRecDepth 100000 in
theorem kJ3_checkN (l : Launch) (dC : Nat → ClassId) (dI : Nat → Nat → Nat) (Z : gZ) (cC cI cZ cW : ClassId) (sz : Nat) (a b : Int32) (h0 : ¬ a < 0) (h1 : a < b) : Met l yJ3_checkIndex_8e157 wsJ3_checkIndex_8e157 rmJ3_checkN (va_Pc [.int a, .int b, .null] (gB (dC, dI) Z [(cC, .char), (cI, .int), (cZ, .boolean), (cW, .object RX3)] [] sz)) (va_Qi (fun (r : Int32) (_ : Unit) => r = a) (gE (dC, dI) []) (va_A [] sz)) 0 0 (va_A [] sz) := by
  refine gMet (cc := cJ3_checkIndex_8e157) (maxL := 3) (ret := (some .int)) (Qc := fun A => va_Qi (fun (r : Int32) (_ : Unit) => r = a) (gE (dC, dI) []) A) (by decide) rfl (Nat.le_of_ble_eq_true rfl) ?_
  intro p e s m below meth c A ls hg0 _ hsz hP hD hS hl
  have hg0 : gX p s m _ meth c cJ3_checkIndex_8e157 3 (some .int) wsJ3_checkIndex_8e157 RJ3 (dC, dI) Z [(cC, .char), (cI, .int), (cZ, .boolean), (cW, .object RX3)] A := hg0
  obtain ⟨hx, hb, hr, hml, hown, hts, hlocks, hA, hK, hN⟩ := id hg0
  subst hsz
  have hF : CallFix p m c cJ3_checkIndex_8e157 3 s _ wsJ3_checkIndex_8e157 RJ3 := ⟨hx, hb, hml, hown, hts⟩
  have hl : lv_has ls 3 [(0, .int a), (1, .int b), (2, .null)] := hl
  refine lv_iload_n hx hb dJ3_checkIndex_8e157_0 rfl (lv_at hl 0 rfl) ?_
  refine lv_if_lt (tgt := 9) hx hb dJ3_checkIndex_8e157_1 (by decide) (fun h => absurd h h0) (fun _ => ?_)
  refine lv_iload_n hx hb dJ3_checkIndex_8e157_4 rfl (lv_at hl 0 rfl) ?_
  refine lv_iload_n hx hb dJ3_checkIndex_8e157_5 rfl (lv_at hl 1 rfl) ?_
  refine lv_icmp_lt (tgt := 16) hx hb dJ3_checkIndex_8e157_6 (by decide) (fun _ => ?_) (fun h => absurd h1 h)
  refine lv_iload_n hx hb dJ3_checkIndex_8e157_16 rfl (lv_at hl 0 rfl) ?_
  exact gRi hx hb hr hlocks hP hS dJ3_checkIndex_8e157_17
abbrev rmJ3_checkR : Room := { frames := 0, cells := 0, slots := 0, locals := 0 }
set_option maxHeartbeats 4000000 in
set_option maxRecDepth 100000 in
theorem kJ3_checkR (l : Launch) (dC : Nat → ClassId) (dI : Nat → Nat → Nat) (Z : gZ) (cC cI cZ cW : ClassId) (sz : Nat) (t : Nat) (a b : Int32) (h0 : ¬ a < 0) (h1 : a < b) : Met l yJ3_checkIndex_8e157 wsJ3_checkIndex_8e157 rmJ3_checkR (va_Pc [.int a, .int b, .ref t] (gB (dC, dI) Z [(cC, .char), (cI, .int), (cZ, .boolean), (cW, .object RX3)] [] sz)) (va_Qi (fun (r : Int32) (_ : Unit) => r = a) (gE (dC, dI) []) (va_A [] sz)) 0 0 (va_A [] sz) := by
  refine gMet (cc := cJ3_checkIndex_8e157) (maxL := 3) (ret := (some .int)) (Qc := fun A => va_Qi (fun (r : Int32) (_ : Unit) => r = a) (gE (dC, dI) []) A) (by decide) rfl (Nat.le_of_ble_eq_true rfl) ?_
  intro p e s m below meth c A ls hg0 _ hsz hP hD hS hl
  have hg0 : gX p s m _ meth c cJ3_checkIndex_8e157 3 (some .int) wsJ3_checkIndex_8e157 RJ3 (dC, dI) Z [(cC, .char), (cI, .int), (cZ, .boolean), (cW, .object RX3)] A := hg0
  obtain ⟨hx, hb, hr, hml, hown, hts, hlocks, hA, hK, hN⟩ := id hg0
  subst hsz
  have hF : CallFix p m c cJ3_checkIndex_8e157 3 s _ wsJ3_checkIndex_8e157 RJ3 := ⟨hx, hb, hml, hown, hts⟩
  have hl : lv_has ls 3 [(0, .int a), (1, .int b), (2, .ref t)] := hl
  refine lv_iload_n hx hb dJ3_checkIndex_8e157_0 rfl (lv_at hl 0 rfl) ?_
  refine lv_if_lt (tgt := 9) hx hb dJ3_checkIndex_8e157_1 (by decide) (fun h => absurd h h0) (fun _ => ?_)
  refine lv_iload_n hx hb dJ3_checkIndex_8e157_4 rfl (lv_at hl 0 rfl) ?_
  refine lv_iload_n hx hb dJ3_checkIndex_8e157_5 rfl (lv_at hl 1 rfl) ?_
  refine lv_icmp_lt (tgt := 16) hx hb dJ3_checkIndex_8e157_6 (by decide) (fun _ => ?_) (fun h => absurd h1 h)
  refine lv_iload_n hx hb dJ3_checkIndex_8e157_16 rfl (lv_at hl 0 rfl) ?_
  exact gRi hx hb hr hlocks hP hS dJ3_checkIndex_8e157_17
abbrev rmJ0_checkIndex : Room := { frames := 1, cells := 0, slots := 0, locals := 22 }
set_option maxHeartbeats 4000000 in
set_option maxRecDepth 100000 in
theorem kJ0_checkIndex (l : Launch) (dC : Nat → ClassId) (dI : Nat → Nat → Nat) (Z : gZ) (cC cI cZ cW : ClassId) (sz : Nat) (a b : Int32) (h0 : ¬ a < 0) (h1 : a < b) : Met l yJ0_checkIndex_df160 wsJ0_checkIndex_df160 rmJ0_checkIndex (va_Pc [.int a, .int b] (gB (dC, dI) Z [(cC, .char), (cI, .int), (cZ, .boolean), (cW, .object RX3)] [] sz)) (va_Qv (fun (_ : Unit) => True) (gE (dC, dI) []) (va_A [] sz)) 0 0 (va_A [] sz) := by
  refine gMet (cc := cJ0_checkIndex_df160) (maxL := 2) (ret := none) (Qc := fun A => va_Qv (fun (_ : Unit) => True) (gE (dC, dI) []) A) (by decide) rfl (Nat.le_of_ble_eq_true rfl) ?_
  intro p e s m below meth c A ls hg0 _ hsz hP hD hS hl
  have hg0 : gX p s m _ meth c cJ0_checkIndex_df160 2 none wsJ0_checkIndex_df160 RJ0 (dC, dI) Z [(cC, .char), (cI, .int), (cZ, .boolean), (cW, .object RX3)] A := hg0
  obtain ⟨hx, hb, hr, hml, hown, hts, hlocks, hA, hK, hN⟩ := id hg0
  subst hsz
  have hF : CallFix p m c cJ0_checkIndex_df160 2 s _ wsJ0_checkIndex_df160 RJ0 := ⟨hx, hb, hml, hown, hts⟩
  have hl : lv_has ls 2 [(0, .int a), (1, .int b)] := hl
  refine lv_iload_n hx hb dJ0_checkIndex_df160_0 rfl (lv_at hl 0 rfl) ?_
  refine lv_iload_n hx hb dJ0_checkIndex_df160_1 rfl (lv_at hl 1 rfl) ?_
  rcases hN.2.2.2.2.2 with hz | ⟨t, hz⟩
  · refine va_gets hx hb hz hS hown (hts (.fieldLink RJ0 1053 "jdk/internal/util/Preconditions" "SIOOBE_FORMATTER" "Ljava/util/function/BiFunction;") (by decide +kernel)) (fun _ h9 => h9) dJ0_checkIndex_df160_2 ?_
    refine gCi (va_runS (As := [.int a, .int b, .null]) (rest := []) hF (kJ3_checkN l dC dI Z cC cI cZ cW _ a b h0 h1) (va_cwS 3 hts gJ0_checkIndex_df160_J3_checkIndex_8e157 rfl rfl rfl (by decide +kernel) ⟨Nat.le_of_ble_eq_true rfl, Nat.le_of_ble_eq_true rfl⟩) (gPS (wc := []) hK hN hA hS hP hD [] rfl rfl) rfl rfl hl.1 rfl (lv_room (Nat.le_of_ble_eq_true rfl)) dJ0_checkIndex_df160_5 ⟨Nat.zero_le _, Nat.zero_le _⟩) hP hD hS hA [] rfl rfl rfl (fun H locs hP hD hS => ?_)
    have hP : va_P (dC, dI) vwCl [] H := hP
    refine lv_pop hx hb dJ0_checkIndex_df160_8 rfl ?_
    exact gRv hx hb hr hlocks hP hS dJ0_checkIndex_df160_9
  · refine va_gets hx hb hz hS hown (hts (.fieldLink RJ0 1053 "jdk/internal/util/Preconditions" "SIOOBE_FORMATTER" "Ljava/util/function/BiFunction;") (by decide +kernel)) (fun _ h9 => h9) dJ0_checkIndex_df160_2 ?_
    refine gCi (va_runS (As := [.int a, .int b, .ref t]) (rest := []) hF (kJ3_checkR l dC dI Z cC cI cZ cW _ t a b h0 h1) (va_cwS 3 hts gJ0_checkIndex_df160_J3_checkIndex_8e157 rfl rfl rfl (by decide +kernel) ⟨Nat.le_of_ble_eq_true rfl, Nat.le_of_ble_eq_true rfl⟩) (gPS (wc := []) hK hN hA hS hP hD [] rfl rfl) rfl rfl hl.1 rfl (lv_room (Nat.le_of_ble_eq_true rfl)) dJ0_checkIndex_df160_5 ⟨Nat.zero_le _, Nat.zero_le _⟩) hP hD hS hA [] rfl rfl rfl (fun H locs hP hD hS => ?_)
    have hP : va_P (dC, dI) vwCl [] H := hP
    refine lv_pop hx hb dJ0_checkIndex_df160_8 rfl ?_
    exact gRv hx hb hr hlocks hP hS dJ0_checkIndex_df160_9
abbrev rmJ1_charAt : Room := { frames := 2, cells := 0, slots := 0, locals := 43 }
set_option maxHeartbeats 4000000 in
set_option maxRecDepth 100000 in
theorem kJ1_charAt (l : Launch) (dC : Nat → ClassId) (dI : Nat → Nat → Nat) (Z : gZ) (cC cI cZ cW : ClassId) (sz : Nat) (i : Nat) (hi : i < 6) (j : Int32) (hj : vp_in j (sLen.getD i 0)) : Met l yJ1_charAt_3b067 wsJ1_charAt_3b067 rmJ1_charAt (va_Pc [.ref (Z.2 i), .int j] (gB (dC, dI) Z [(cC, .char), (cI, .int), (cZ, .boolean), (cW, .object RX3)] [] sz)) (va_Qi (fun (r : Int32) (_ : Unit) => r = (wdB i).getD j.toNatClampNeg 0) (gE (dC, dI) []) (va_A [] sz)) 0 0 (va_A [] sz) := by
  refine gMet (cc := cJ1_charAt_3b067) (maxL := 2) (ret := (some .char)) (Qc := fun A => va_Qi (fun (r : Int32) (_ : Unit) => r = (wdB i).getD j.toNatClampNeg 0) (gE (dC, dI) []) A) (by decide) rfl (Nat.le_of_ble_eq_true rfl) ?_
  intro p e s m below meth c A ls hg0 _ hsz hP hD hS hl
  have hg0 : gX p s m _ meth c cJ1_charAt_3b067 2 (some .char) wsJ1_charAt_3b067 RJ1 (dC, dI) Z [(cC, .char), (cI, .int), (cZ, .boolean), (cW, .object RX3)] A := hg0
  obtain ⟨hx, hb, hr, hml, hown, hts, hlocks, hA, hK, hN⟩ := id hg0
  subst hsz
  have hF : CallFix p m c cJ1_charAt_3b067 2 s _ wsJ1_charAt_3b067 RJ1 := ⟨hx, hb, hml, hown, hts⟩
  have hl : lv_has ls 2 [(0, .ref (Z.2 i)), (1, .int j)] := hl
  refine lv_iload_n hx hb dJ1_charAt_3b067_0 rfl (lv_at hl 1 rfl) ?_
  refine lv_aload_n hx hb dJ1_charAt_3b067_1 rfl (lv_at hl 0 rfl) ?_
  refine va_tlen (v := nI (sLen.getD i 0)) hx hb (hN.2.2.2.1.1 i hi).2.2.2 hS rfl dJ1_charAt_3b067_2 ?_
  refine gCv (va_runS (As := [.int j, .int (nI (sLen.getD i 0))]) (rest := []) hF (kJ0_checkIndex l dC dI Z cC cI cZ cW _ j (nI (sLen.getD i 0)) (vpn hj) (vpI (by have := sLen6 hi; omega) hj)) (va_cwS 2 hts gJ1_charAt_3b067_J0_checkIndex_df160 rfl rfl rfl (by decide +kernel) ⟨Nat.le_of_ble_eq_true rfl, Nat.le_of_ble_eq_true rfl⟩) (gPS (wc := []) hK hN hA hS hP hD [] rfl rfl) rfl rfl hl.1 rfl (lv_room (Nat.le_of_ble_eq_true rfl)) dJ1_charAt_3b067_3 ⟨Nat.zero_le _, Nat.zero_le _⟩) hP hD hS hA [] rfl rfl rfl (fun H locs hP hD hS => ?_)
  have hP : va_P (dC, dI) vwCl [] H := hP
  refine lv_aload_n hx hb dJ1_charAt_3b067_6 rfl (lv_at hl 0 rfl) ?_
  refine lv_iload_n hx hb dJ1_charAt_3b067_7 rfl (lv_at hl 1 rfl) ?_
  refine va_tb (v := .int ((sByt.getD i []).getD j.toNatClampNeg 0)) hx hb (hN.2.2.2.1.1 i hi).2.2.2 hS hj rfl dJ1_charAt_3b067_8 ?_
  refine lv_sipush (v := 255) hx hb dJ1_charAt_3b067_9 (by decide) ?_
  refine lv_iand hx hb dJ1_charAt_3b067_12 ?_
  refine lv_i2c hx hb dJ1_charAt_3b067_13 rfl ?_
  refine lv_topi (fun y ey => ?_)
  obtain rfl : y = (wdB i).getD j.toNatClampNeg 0 := ey.trans (bytc hi (vpl hj)).1
  exact gRz hx hb hr (narC (bytc hi (vpl hj)).2) hlocks hP hS dJ1_charAt_3b067_14
abbrev rmJ0_charAt : Room := { frames := 3, cells := 0, slots := 0, locals := 64 }
set_option maxHeartbeats 4000000 in
set_option maxRecDepth 100000 in
theorem kJ0_charAt (l : Launch) (dC : Nat → ClassId) (dI : Nat → Nat → Nat) (Z : gZ) (cC cI cZ cW : ClassId) (sz : Nat) (i : Nat) (hi : i < 6) (j : Int32) (hj : vp_in j (sLen.getD i 0)) : Met l yJ0_charAt_5068e wsJ0_charAt_5068e rmJ0_charAt (va_Pc [.ref (Z.1 i), .int j] (gB (dC, dI) Z [(cC, .char), (cI, .int), (cZ, .boolean), (cW, .object RX3)] [] sz)) (va_Qi (fun (r : Int32) (_ : Unit) => r = (wdB i).getD j.toNatClampNeg 0) (gE (dC, dI) []) (va_A [] sz)) 0 0 (va_A [] sz) := by
  refine gMet (cc := cJ0_charAt_5068e) (maxL := 2) (ret := (some .char)) (Qc := fun A => va_Qi (fun (r : Int32) (_ : Unit) => r = (wdB i).getD j.toNatClampNeg 0) (gE (dC, dI) []) A) (by decide) rfl (Nat.le_of_ble_eq_true rfl) ?_
  intro p e s m below meth c A ls hg0 _ hsz hP hD hS hl
  have hg0 : gX p s m _ meth c cJ0_charAt_5068e 2 (some .char) wsJ0_charAt_5068e RJ0 (dC, dI) Z [(cC, .char), (cI, .int), (cZ, .boolean), (cW, .object RX3)] A := hg0
  obtain ⟨hx, hb, hr, hml, hown, hts, hlocks, hA, hK, hN⟩ := id hg0
  subst hsz
  have hF : CallFix p m c cJ0_charAt_5068e 2 s _ wsJ0_charAt_5068e RJ0 := ⟨hx, hb, hml, hown, hts⟩
  have hl : lv_has ls 2 [(0, .ref (Z.1 i)), (1, .int j)] := hl
  refine lv_aload_n hx hb dJ0_charAt_5068e_0 rfl (lv_at hl 0 rfl) ?_
  refine gCi (va_runV (As := []) (rest := []) hF (kJ0_isLatin1 l dC dI Z cC cI cZ cW _ i hi) (cwV 0 hts gJ0_charAt_5068e_J0_isLatin1_aae02 rfl rfl rfl (by decide +kernel) ⟨Nat.le_of_ble_eq_true rfl, Nat.le_of_ble_eq_true rfl⟩) (gPK hK hN hA hS hP hD hi) rfl rfl hl.1 rfl (lv_room (Nat.le_of_ble_eq_true rfl)) dJ0_charAt_5068e_1 ⟨Nat.zero_le _, Nat.zero_le _⟩) hP hD hS hA [] rfl rfl rfl (fun H locs hP hD hS => ?_)
  have hP : va_P (dC, dI) vwCl [] H := hP
  refine lv_if_eq (tgt := 16) hx hb dJ0_charAt_5068e_4 (by decide) (fun h => absurd h (by decide)) (fun _ => ?_)
  refine lv_aload_n hx hb dJ0_charAt_5068e_7 rfl (lv_at hl 0 rfl) ?_
  refine vk_getf hx hb (hN.2.2.2.1.1 i hi).2.2.1 hS hown (hts (.fieldLink RJ0 9 "java/lang/String" "value" "[B") (by decide +kernel)) (fun _ h9 => h9) dJ0_charAt_5068e_8 ?_
  refine lv_iload_n hx hb dJ0_charAt_5068e_11 rfl (lv_at hl 1 rfl) ?_
  refine gCi (va_runS (As := [.ref (Z.2 i), .int j]) (rest := []) hF (kJ1_charAt l dC dI Z cC cI cZ cW _ i hi j hj) (va_cwS 2 hts gJ0_charAt_5068e_J1_charAt_3b067 rfl rfl rfl (by decide +kernel) ⟨Nat.le_of_ble_eq_true rfl, Nat.le_of_ble_eq_true rfl⟩) (gPS (wc := []) hK hN hA hS hP hD [] rfl rfl) rfl rfl hl.1 rfl (lv_room (Nat.le_of_ble_eq_true rfl)) dJ0_charAt_5068e_12 ⟨Nat.zero_le _, Nat.zero_le _⟩) hP hD hS hA [] rfl rfl rfl (fun H locs hP hD hS => ?_)
  have hP : va_P (dC, dI) vwCl [] H := hP
  exact gRz hx hb hr (narC (bytc hi (vpl hj)).2) hlocks hP hS dJ0_charAt_5068e_15
set_option maxRecDepth 20000 in
theorem uX0_says_X0 : ∀ w ∈ wsX00, w ∈ wsX0_says := by decide +kernel
abbrev rmX0_says : Room := { frames := 4, cells := 0, slots := 0, locals := 85 }
set_option maxHeartbeats 4000000 in
set_option maxRecDepth 100000 in
theorem kX0_says (l : Launch) (dC : Nat → ClassId) (dI : Nat → Nat → Nat) (Z : gZ) (cC cI cZ cW : ClassId) (a_o a_o_signs a_o_tokens a_o_starts : Nat) (sz : Nat) (o_length : Int32) (o_cuts : Int32) (o_current : Int32) (o_signs : Nat → Int32) (i : Nat) (hi : i < 6) (i2 i3 : Int32) (N : Nat) (r' : Int32) (hf : fX0_says N o_signs (wdB i) i2 i3 = some r') : Met l yX0_says wsX0_says rmX0_says (va_Pc [.ref a_o, .ref (Z.1 i), .int i2, .int i3] (gB (dC, dI) Z [(cC, .char), (cI, .int), (cZ, .boolean), (cW, .object RX3)] [(a_o, .inr (0, [.int o_length, .ref a_o_signs, .ref a_o_tokens, .ref a_o_starts, .int o_cuts, .int o_current])), (a_o_signs, .inl (cC, 400, .inl o_signs))] sz)) (va_Qi (fun (r : Int32) (_ : Unit) => r = r') (gE (dC, dI) [(a_o, .inr (0, [.int o_length, .ref a_o_signs, .ref a_o_tokens, .ref a_o_starts, .int o_cuts, .int o_current])), (a_o_signs, .inl (cC, 400, .inl o_signs))]) (va_A [(a_o, .inr (0, [.int o_length, .ref a_o_signs, .ref a_o_tokens, .ref a_o_starts, .int o_cuts, .int o_current])), (a_o_signs, .inl (cC, 400, .inl o_signs))] sz)) 0 0 (va_A [(a_o, .inr (0, [.int o_length, .ref a_o_signs, .ref a_o_tokens, .ref a_o_starts, .int o_cuts, .int o_current])), (a_o_signs, .inl (cC, 400, .inl o_signs))] sz) := by
  refine gMet (cc := cX0_says) (maxL := 5) (ret := (some .boolean)) (Qc := fun A => va_Qi (fun (r : Int32) (_ : Unit) => r = r') (gE (dC, dI) [(a_o, .inr (0, [.int o_length, .ref a_o_signs, .ref a_o_tokens, .ref a_o_starts, .int o_cuts, .int o_current])), (a_o_signs, .inl (cC, 400, .inl o_signs))]) A) (by decide) rfl (Nat.le_of_ble_eq_true rfl) ?_
  intro p e s m below meth c A ls hg0 _ hsz hP hD hS hl
  have hg0 : gX p s m _ meth c cX0_says 5 (some .boolean) wsX0_says RX0 (dC, dI) Z [(cC, .char), (cI, .int), (cZ, .boolean), (cW, .object RX3)] A := hg0
  obtain ⟨hx, hb, hr, hml, hown, hts, hlocks, hA, hK, hN⟩ := id hg0
  subst hsz
  have hF : CallFix p m c cX0_says 5 s _ wsX0_says RX0 := ⟨hx, hb, hml, hown, hts⟩
  have hl : lv_has ls 5 [(0, .ref a_o), (1, .ref (Z.1 i)), (2, .int i2), (3, .int i3)] := hl
  unfold fX0_says at hf
  rw [wlen hi] at hf
  refine lv_aload_n hx hb dX0_says_0 rfl (lv_at hl 1 rfl) ?_
  refine gCi (va_runV (As := []) (rest := []) hF (kJ0_length l dC dI Z cC cI cZ cW _ i hi) (cwV 0 hts gX0_says_J0_length_8abf5 rfl rfl rfl (by decide +kernel) ⟨Nat.le_of_ble_eq_true rfl, Nat.le_of_ble_eq_true rfl⟩) (gPK hK hN hA hS hP hD hi) rfl rfl hl.1 rfl (lv_room (Nat.le_of_ble_eq_true rfl)) dX0_says_1 ⟨Nat.zero_le _, Nat.zero_le _⟩) hP hD hS hA [] rfl rfl rfl (fun H locs hP hD hS => ?_)
  have hP : va_P (dC, dI) vwCl [(a_o, .inr (0, [.int o_length, .ref a_o_signs, .ref a_o_tokens, .ref a_o_starts, .int o_cuts, .int o_current])), (a_o_signs, .inl (cC, 400, .inl o_signs))] H := hP
  refine lv_iload_n hx hb dX0_says_4 rfl (lv_at hl 3 rfl) ?_
  refine lv_iload_n hx hb dX0_says_5 rfl (lv_at hl 2 rfl) ?_
  refine lv_isub hx hb dX0_says_6 ?_
  refine lv_icmp_eq (tgt := 12) hx hb dX0_says_7 (by decide) (fun c_1 => ?_) (fun c_1 => ?_)
  · have hf := pit hf c_1
    obtain ⟨ro, l9, hc, hf⟩ := pb2 hf
    refine lv_iconst (v := 0) hx hb dX0_says_12 (by decide) ?_
    refine lv_istore (lv' := [(4, .int 0), (0, .ref a_o), (1, .ref (Z.1 i)), (2, .int i2), (3, .int i3)]) hx hb dX0_says_13 hl (by decide) rfl (fun ls hl => ?_)
    have key : ∀ (n : Nat) (l4 : Int32) (H : Heap) (locs : List Loc) (ls : Array Slot), va_P (dC, dI) vwCl [(a_o, .inr (0, [.int o_length, .ref a_o_signs, .ref a_o_tokens, .ref a_o_starts, .int o_cuts, .int o_current])), (a_o_signs, .inl (cC, 400, .inl o_signs))] H → va_S A s.heap H locs → lv_has ls 5 [(4, .int l4), (0, .ref a_o), (1, .ref (Z.1 i)), (2, .int i2), (3, .int i3)] → fX0_says_15 N o_signs (wdB i) i2 n l4 = some (ro, l9) → W p l e (headSpec wsX0_says rmX0_says).room s m ([.ref a_o, .ref (Z.1 i), .int i2, .int i3] : List Value).toArray below meth c H locs 0 0 (MQ below (va_Qi (fun (r : Int32) (_ : Unit) => r = r') (gE (dC, dI) [(a_o, .inr (0, [.int o_length, .ref a_o_signs, .ref a_o_tokens, .ref a_o_starts, .int o_cuts, .int o_current])), (a_o_signs, .inl (cC, 400, .inl o_signs))]) A) ([.ref a_o, .ref (Z.1 i), .int i2, .int i3] : List Value).toArray s 0 0 A) (F0 m 15 ls []) := by
      intro n
      induction n with
      | zero => intro l4 H locs ls hP hS hl h; exact absurd h (by rw [fX0_says_15_0]; exact fun h => by cases h)
      | succ n ih =>
        intro l4 H locs ls hP hS hl h
        rw [fX0_says_15_s, wlen hi] at h
        refine lv_iload hx hb dX0_says_15 (lv_at hl 0 rfl) ?_
        refine lv_aload_n hx hb dX0_says_17 rfl (lv_at hl 2 rfl) ?_
        refine gCi (va_runV (As := []) (rest := [.int l4]) hF (kJ0_length l dC dI Z cC cI cZ cW _ i hi) (cwV 0 hts gX0_says_J0_length_8abf5 rfl rfl rfl (by decide +kernel) ⟨Nat.le_of_ble_eq_true rfl, Nat.le_of_ble_eq_true rfl⟩) (gPK hK hN hA hS hP hD hi) rfl rfl hl.1 rfl (lv_room (Nat.le_of_ble_eq_true rfl)) dX0_says_18 ⟨Nat.zero_le _, Nat.zero_le _⟩) hP hD hS hA [] rfl rfl rfl (fun H locs hP hD hS => ?_)
        have hP : va_P (dC, dI) vwCl [(a_o, .inr (0, [.int o_length, .ref a_o_signs, .ref a_o_tokens, .ref a_o_starts, .int o_cuts, .int o_current])), (a_o_signs, .inl (cC, 400, .inl o_signs))] H := hP
        refine lv_icmp_ge (tgt := 50) hx hb dX0_says_21 (by decide) (fun c_2 => ?_) (fun c_2 => ?_)
        · have h := pit h c_2
          obtain ⟨rfl, rfl⟩ := Prod.mk.inj (Option.some.inj h)
          have hf := rjn hf
          obtain rfl := Option.some.inj hf
          refine lv_iconst (v := 1) hx hb dX0_says_50 (by decide) ?_
          exact gRz hx hb hr rfl hlocks hP hS dX0_says_51
        · have h := pif h c_2
          obtain ⟨v1, h⟩ := pgd h
          obtain ⟨v2, h⟩ := pgd h
          refine lv_aload_n hx hb dX0_says_24 rfl (lv_at hl 2 rfl) ?_
          refine lv_iload hx hb dX0_says_25 (lv_at hl 0 rfl) ?_
          refine gCi (va_runV (As := [.int l4]) (rest := []) hF (kJ0_charAt l dC dI Z cC cI cZ cW _ i hi l4 v1) (cwV 1 hts gX0_says_J0_charAt_5068e rfl rfl rfl (by decide +kernel) ⟨Nat.le_of_ble_eq_true rfl, Nat.le_of_ble_eq_true rfl⟩) (gPK hK hN hA hS hP hD hi) rfl rfl hl.1 rfl (lv_room (Nat.le_of_ble_eq_true rfl)) dX0_says_27 ⟨Nat.zero_le _, Nat.zero_le _⟩) hP hD hS hA [] rfl rfl rfl (fun H locs hP hD hS => ?_)
          have hP : va_P (dC, dI) vwCl [(a_o, .inr (0, [.int o_length, .ref a_o_signs, .ref a_o_tokens, .ref a_o_starts, .int o_cuts, .int o_current])), (a_o_signs, .inl (cC, 400, .inl o_signs))] H := hP
          refine lv_aload_n hx hb dX0_says_30 rfl (lv_at hl 1 rfl) ?_
          refine va_get (D := (dC, dI)) (ci := 0) (v := .ref a_o_signs) (C := RX0) (T := TX0) (N := 6) hx hb hts uX0_says_X0 hown hK hP 0 rfl rfl 1 (by decide) (hts (.fieldLink RX0 15 "TradeWheel$Text" "signs" "[C") (by decide +kernel)) (fun _ h9 => h9) rfl dX0_says_31 ?_
          refine lv_iload_n hx hb dX0_says_34 rfl (lv_at hl 3 rfl) ?_
          refine lv_iload hx hb dX0_says_35 (lv_at hl 0 rfl) ?_
          refine lv_iadd hx hb dX0_says_37 ?_
          refine va_cald hx hb hK hP 1 0 rfl rfl v2 dX0_says_38 ?_
          refine lv_icmp_eq (tgt := 44) hx hb dX0_says_39 (by decide) (fun c_3 => ?_) (fun c_3 => ?_)
          · have h := pit h c_3
            refine lv_iinc (v := l4 + 1) (lv' := [(4, .int (l4 + 1)), (0, .ref a_o), (1, .ref (Z.1 i)), (2, .int i2), (3, .int i3)]) hx hb dX0_says_44 hl (k := 0) rfl rfl (by decide) rfl (fun ls hl => ?_)
            refine lv_goto (tgt := 15) hx hb dX0_says_47 (by decide) ?_
            exact ih (l4 + 1) H locs ls hP hS hl h
          · have h := pif h c_3
            obtain ⟨rfl, rfl⟩ := Prod.mk.inj (Option.some.inj h)
            obtain ⟨_, hf⟩ := pgb (rjs hf)
            obtain rfl := Option.some.inj hf
            refine lv_iconst (v := 0) hx hb dX0_says_42 (by decide) ?_
            exact gRz hx hb hr rfl hlocks hP hS dX0_says_43
    exact key N 0 H locs ls hP hS hl hc
  · have hf := pif hf c_1
    obtain rfl := Option.some.inj hf
    refine lv_iconst (v := 0) hx hb dX0_says_10 (by decide) ?_
    exact gRz hx hb hr rfl hlocks hP hS dX0_says_11
abbrev rmX0_wordOf : Room := { frames := 5, cells := 0, slots := 0, locals := 150 }
set_option maxHeartbeats 4000000 in
set_option maxRecDepth 100000 in
theorem kX0_wordOf (l : Launch) (dC : Nat → ClassId) (dI : Nat → Nat → Nat) (Z : gZ) (cC cI cZ cW : ClassId) (a_o a_o_signs a_o_tokens a_o_starts : Nat) (sz : Nat) (o_length : Int32) (o_cuts : Int32) (o_current : Int32) (o_signs : Nat → Int32) (i1 i2 : Int32) (N : Nat) (r' : Int32) (hf : fX0_wordOf N o_signs i1 i2 = some r') : Met l yX0_wordOf wsX0_wordOf rmX0_wordOf (va_Pc [.ref a_o, .int i1, .int i2] (gB (dC, dI) Z [(cC, .char), (cI, .int), (cZ, .boolean), (cW, .object RX3)] [(a_o, .inr (0, [.int o_length, .ref a_o_signs, .ref a_o_tokens, .ref a_o_starts, .int o_cuts, .int o_current])), (a_o_signs, .inl (cC, 400, .inl o_signs))] sz)) (va_Qi (fun (r : Int32) (_ : Unit) => r = r') (gE (dC, dI) [(a_o, .inr (0, [.int o_length, .ref a_o_signs, .ref a_o_tokens, .ref a_o_starts, .int o_cuts, .int o_current])), (a_o_signs, .inl (cC, 400, .inl o_signs))]) (va_A [(a_o, .inr (0, [.int o_length, .ref a_o_signs, .ref a_o_tokens, .ref a_o_starts, .int o_cuts, .int o_current])), (a_o_signs, .inl (cC, 400, .inl o_signs))] sz)) 0 0 (va_A [(a_o, .inr (0, [.int o_length, .ref a_o_signs, .ref a_o_tokens, .ref a_o_starts, .int o_cuts, .int o_current])), (a_o_signs, .inl (cC, 400, .inl o_signs))] sz) := by
  refine gMet (cc := cX0_wordOf) (maxL := 3) (ret := (some .int)) (Qc := fun A => va_Qi (fun (r : Int32) (_ : Unit) => r = r') (gE (dC, dI) [(a_o, .inr (0, [.int o_length, .ref a_o_signs, .ref a_o_tokens, .ref a_o_starts, .int o_cuts, .int o_current])), (a_o_signs, .inl (cC, 400, .inl o_signs))]) A) (by decide) rfl (Nat.le_of_ble_eq_true rfl) ?_
  intro p e s m below meth c A ls hg0 _ hsz hP hD hS hl
  have hg0 : gX p s m _ meth c cX0_wordOf 3 (some .int) wsX0_wordOf RX0 (dC, dI) Z [(cC, .char), (cI, .int), (cZ, .boolean), (cW, .object RX3)] A := hg0
  obtain ⟨hx, hb, hr, hml, hown, hts, hlocks, hA, hK, hN⟩ := id hg0
  subst hsz
  have hF : CallFix p m c cX0_wordOf 3 s _ wsX0_wordOf RX0 := ⟨hx, hb, hml, hown, hts⟩
  have hl : lv_has ls 3 [(0, .ref a_o), (1, .int i1), (2, .int i2)] := hl
  unfold fX0_wordOf at hf
  obtain ⟨r_1, hc, hf⟩ := pb1 hf
  refine lv_aload_n hx hb dX0_wordOf_0 rfl (lv_at hl 0 rfl) ?_
  refine va_ldcS hx hb hown (hN.2.2.1 0 (by decide)) dX0_wordOf_1 ?_
  refine lv_iload_n hx hb dX0_wordOf_3 rfl (lv_at hl 1 rfl) ?_
  refine lv_iload_n hx hb dX0_wordOf_4 rfl (lv_at hl 2 rfl) ?_
  refine gCi (va_runV (As := [.ref (Z.1 0), .int i1, .int i2]) (rest := []) hF (kX0_says l dC dI Z cC cI cZ cW a_o a_o_signs a_o_tokens a_o_starts _ o_length o_cuts o_current o_signs 0 (by decide) i1 i2 N r_1 hc) (cwV 3 hts gX0_wordOf_X0_says rfl rfl rfl (by decide +kernel) ⟨Nat.le_of_ble_eq_true rfl, Nat.le_of_ble_eq_true rfl⟩) (gPV (wc := [(a_o, .inr (0, [.int o_length, .ref a_o_signs, .ref a_o_tokens, .ref a_o_starts, .int o_cuts, .int o_current])), (a_o_signs, .inl (cC, 400, .inl o_signs))]) hK hN hA hS hP hD [0, 1] rfl rfl (q0 := 0) (ci := 0) rfl rfl rfl) rfl rfl hl.1 rfl (lv_room (Nat.le_of_ble_eq_true rfl)) dX0_wordOf_5 ⟨Nat.zero_le _, Nat.zero_le _⟩) hP hD hS hA [0, 1] rfl rfl rfl (fun H locs hP hD hS => ?_)
  have hP : va_P (dC, dI) vwCl [(a_o, .inr (0, [.int o_length, .ref a_o_signs, .ref a_o_tokens, .ref a_o_starts, .int o_cuts, .int o_current])), (a_o_signs, .inl (cC, 400, .inl o_signs))] H := hP
  refine lv_if_eq (tgt := 14) hx hb dX0_wordOf_8 (by decide) (fun c_0 => ?_) (fun c_0 => ?_)
  rotate_left
  · have hf := pif hf c_0
    obtain rfl := Option.some.inj hf
    refine lv_bipush (v := -4) hx hb dX0_wordOf_11 (by decide) ?_
    exact gRi hx hb hr hlocks hP hS dX0_wordOf_13
  have hf := pit hf c_0
  obtain ⟨r_2, hc, hf⟩ := pb1 hf
  refine lv_aload_n hx hb dX0_wordOf_14 rfl (lv_at hl 0 rfl) ?_
  refine va_ldcS hx hb hown (hN.2.2.1 1 (by decide)) dX0_wordOf_15 ?_
  refine lv_iload_n hx hb dX0_wordOf_17 rfl (lv_at hl 1 rfl) ?_
  refine lv_iload_n hx hb dX0_wordOf_18 rfl (lv_at hl 2 rfl) ?_
  refine gCi (va_runV (As := [.ref (Z.1 1), .int i1, .int i2]) (rest := []) hF (kX0_says l dC dI Z cC cI cZ cW a_o a_o_signs a_o_tokens a_o_starts _ o_length o_cuts o_current o_signs 1 (by decide) i1 i2 N r_2 hc) (cwV 3 hts gX0_wordOf_X0_says rfl rfl rfl (by decide +kernel) ⟨Nat.le_of_ble_eq_true rfl, Nat.le_of_ble_eq_true rfl⟩) (gPV (wc := [(a_o, .inr (0, [.int o_length, .ref a_o_signs, .ref a_o_tokens, .ref a_o_starts, .int o_cuts, .int o_current])), (a_o_signs, .inl (cC, 400, .inl o_signs))]) hK hN hA hS hP hD [0, 1] rfl rfl (q0 := 0) (ci := 0) rfl rfl rfl) rfl rfl hl.1 rfl (lv_room (Nat.le_of_ble_eq_true rfl)) dX0_wordOf_19 ⟨Nat.zero_le _, Nat.zero_le _⟩) hP hD hS hA [0, 1] rfl rfl rfl (fun H locs hP hD hS => ?_)
  have hP : va_P (dC, dI) vwCl [(a_o, .inr (0, [.int o_length, .ref a_o_signs, .ref a_o_tokens, .ref a_o_starts, .int o_cuts, .int o_current])), (a_o_signs, .inl (cC, 400, .inl o_signs))] H := hP
  refine lv_if_eq (tgt := 28) hx hb dX0_wordOf_22 (by decide) (fun c_1 => ?_) (fun c_1 => ?_)
  rotate_left
  · have hf := pif hf c_1
    obtain rfl := Option.some.inj hf
    refine lv_bipush (v := -5) hx hb dX0_wordOf_25 (by decide) ?_
    exact gRi hx hb hr hlocks hP hS dX0_wordOf_27
  have hf := pit hf c_1
  obtain ⟨r_3, hc, hf⟩ := pb1 hf
  refine lv_aload_n hx hb dX0_wordOf_28 rfl (lv_at hl 0 rfl) ?_
  refine va_ldcS hx hb hown (hN.2.2.1 2 (by decide)) dX0_wordOf_29 ?_
  refine lv_iload_n hx hb dX0_wordOf_31 rfl (lv_at hl 1 rfl) ?_
  refine lv_iload_n hx hb dX0_wordOf_32 rfl (lv_at hl 2 rfl) ?_
  refine gCi (va_runV (As := [.ref (Z.1 2), .int i1, .int i2]) (rest := []) hF (kX0_says l dC dI Z cC cI cZ cW a_o a_o_signs a_o_tokens a_o_starts _ o_length o_cuts o_current o_signs 2 (by decide) i1 i2 N r_3 hc) (cwV 3 hts gX0_wordOf_X0_says rfl rfl rfl (by decide +kernel) ⟨Nat.le_of_ble_eq_true rfl, Nat.le_of_ble_eq_true rfl⟩) (gPV (wc := [(a_o, .inr (0, [.int o_length, .ref a_o_signs, .ref a_o_tokens, .ref a_o_starts, .int o_cuts, .int o_current])), (a_o_signs, .inl (cC, 400, .inl o_signs))]) hK hN hA hS hP hD [0, 1] rfl rfl (q0 := 0) (ci := 0) rfl rfl rfl) rfl rfl hl.1 rfl (lv_room (Nat.le_of_ble_eq_true rfl)) dX0_wordOf_33 ⟨Nat.zero_le _, Nat.zero_le _⟩) hP hD hS hA [0, 1] rfl rfl rfl (fun H locs hP hD hS => ?_)
  have hP : va_P (dC, dI) vwCl [(a_o, .inr (0, [.int o_length, .ref a_o_signs, .ref a_o_tokens, .ref a_o_starts, .int o_cuts, .int o_current])), (a_o_signs, .inl (cC, 400, .inl o_signs))] H := hP
  refine lv_if_eq (tgt := 42) hx hb dX0_wordOf_36 (by decide) (fun c_2 => ?_) (fun c_2 => ?_)
  rotate_left
  · have hf := pif hf c_2
    obtain rfl := Option.some.inj hf
    refine lv_bipush (v := -6) hx hb dX0_wordOf_39 (by decide) ?_
    exact gRi hx hb hr hlocks hP hS dX0_wordOf_41
  have hf := pit hf c_2
  obtain ⟨r_4, hc, hf⟩ := pb1 hf
  refine lv_aload_n hx hb dX0_wordOf_42 rfl (lv_at hl 0 rfl) ?_
  refine va_ldcS hx hb hown (hN.2.2.1 3 (by decide)) dX0_wordOf_43 ?_
  refine lv_iload_n hx hb dX0_wordOf_45 rfl (lv_at hl 1 rfl) ?_
  refine lv_iload_n hx hb dX0_wordOf_46 rfl (lv_at hl 2 rfl) ?_
  refine gCi (va_runV (As := [.ref (Z.1 3), .int i1, .int i2]) (rest := []) hF (kX0_says l dC dI Z cC cI cZ cW a_o a_o_signs a_o_tokens a_o_starts _ o_length o_cuts o_current o_signs 3 (by decide) i1 i2 N r_4 hc) (cwV 3 hts gX0_wordOf_X0_says rfl rfl rfl (by decide +kernel) ⟨Nat.le_of_ble_eq_true rfl, Nat.le_of_ble_eq_true rfl⟩) (gPV (wc := [(a_o, .inr (0, [.int o_length, .ref a_o_signs, .ref a_o_tokens, .ref a_o_starts, .int o_cuts, .int o_current])), (a_o_signs, .inl (cC, 400, .inl o_signs))]) hK hN hA hS hP hD [0, 1] rfl rfl (q0 := 0) (ci := 0) rfl rfl rfl) rfl rfl hl.1 rfl (lv_room (Nat.le_of_ble_eq_true rfl)) dX0_wordOf_47 ⟨Nat.zero_le _, Nat.zero_le _⟩) hP hD hS hA [0, 1] rfl rfl rfl (fun H locs hP hD hS => ?_)
  have hP : va_P (dC, dI) vwCl [(a_o, .inr (0, [.int o_length, .ref a_o_signs, .ref a_o_tokens, .ref a_o_starts, .int o_cuts, .int o_current])), (a_o_signs, .inl (cC, 400, .inl o_signs))] H := hP
  refine lv_if_eq (tgt := 56) hx hb dX0_wordOf_50 (by decide) (fun c_3 => ?_) (fun c_3 => ?_)
  rotate_left
  · have hf := pif hf c_3
    obtain rfl := Option.some.inj hf
    refine lv_bipush (v := -7) hx hb dX0_wordOf_53 (by decide) ?_
    exact gRi hx hb hr hlocks hP hS dX0_wordOf_55
  have hf := pit hf c_3
  obtain ⟨r_5, hc, hf⟩ := pb1 hf
  refine lv_aload_n hx hb dX0_wordOf_56 rfl (lv_at hl 0 rfl) ?_
  refine va_ldcS hx hb hown (hN.2.2.1 4 (by decide)) dX0_wordOf_57 ?_
  refine lv_iload_n hx hb dX0_wordOf_59 rfl (lv_at hl 1 rfl) ?_
  refine lv_iload_n hx hb dX0_wordOf_60 rfl (lv_at hl 2 rfl) ?_
  refine gCi (va_runV (As := [.ref (Z.1 4), .int i1, .int i2]) (rest := []) hF (kX0_says l dC dI Z cC cI cZ cW a_o a_o_signs a_o_tokens a_o_starts _ o_length o_cuts o_current o_signs 4 (by decide) i1 i2 N r_5 hc) (cwV 3 hts gX0_wordOf_X0_says rfl rfl rfl (by decide +kernel) ⟨Nat.le_of_ble_eq_true rfl, Nat.le_of_ble_eq_true rfl⟩) (gPV (wc := [(a_o, .inr (0, [.int o_length, .ref a_o_signs, .ref a_o_tokens, .ref a_o_starts, .int o_cuts, .int o_current])), (a_o_signs, .inl (cC, 400, .inl o_signs))]) hK hN hA hS hP hD [0, 1] rfl rfl (q0 := 0) (ci := 0) rfl rfl rfl) rfl rfl hl.1 rfl (lv_room (Nat.le_of_ble_eq_true rfl)) dX0_wordOf_61 ⟨Nat.zero_le _, Nat.zero_le _⟩) hP hD hS hA [0, 1] rfl rfl rfl (fun H locs hP hD hS => ?_)
  have hP : va_P (dC, dI) vwCl [(a_o, .inr (0, [.int o_length, .ref a_o_signs, .ref a_o_tokens, .ref a_o_starts, .int o_cuts, .int o_current])), (a_o_signs, .inl (cC, 400, .inl o_signs))] H := hP
  refine lv_if_eq (tgt := 70) hx hb dX0_wordOf_64 (by decide) (fun c_4 => ?_) (fun c_4 => ?_)
  rotate_left
  · have hf := pif hf c_4
    obtain rfl := Option.some.inj hf
    refine lv_bipush (v := -8) hx hb dX0_wordOf_67 (by decide) ?_
    exact gRi hx hb hr hlocks hP hS dX0_wordOf_69
  have hf := pit hf c_4
  obtain ⟨r_6, hc, hf⟩ := pb1 hf
  refine lv_aload_n hx hb dX0_wordOf_70 rfl (lv_at hl 0 rfl) ?_
  refine va_ldcS hx hb hown (hN.2.2.1 5 (by decide)) dX0_wordOf_71 ?_
  refine lv_iload_n hx hb dX0_wordOf_73 rfl (lv_at hl 1 rfl) ?_
  refine lv_iload_n hx hb dX0_wordOf_74 rfl (lv_at hl 2 rfl) ?_
  refine gCi (va_runV (As := [.ref (Z.1 5), .int i1, .int i2]) (rest := []) hF (kX0_says l dC dI Z cC cI cZ cW a_o a_o_signs a_o_tokens a_o_starts _ o_length o_cuts o_current o_signs 5 (by decide) i1 i2 N r_6 hc) (cwV 3 hts gX0_wordOf_X0_says rfl rfl rfl (by decide +kernel) ⟨Nat.le_of_ble_eq_true rfl, Nat.le_of_ble_eq_true rfl⟩) (gPV (wc := [(a_o, .inr (0, [.int o_length, .ref a_o_signs, .ref a_o_tokens, .ref a_o_starts, .int o_cuts, .int o_current])), (a_o_signs, .inl (cC, 400, .inl o_signs))]) hK hN hA hS hP hD [0, 1] rfl rfl (q0 := 0) (ci := 0) rfl rfl rfl) rfl rfl hl.1 rfl (lv_room (Nat.le_of_ble_eq_true rfl)) dX0_wordOf_75 ⟨Nat.zero_le _, Nat.zero_le _⟩) hP hD hS hA [0, 1] rfl rfl rfl (fun H locs hP hD hS => ?_)
  have hP : va_P (dC, dI) vwCl [(a_o, .inr (0, [.int o_length, .ref a_o_signs, .ref a_o_tokens, .ref a_o_starts, .int o_cuts, .int o_current])), (a_o_signs, .inl (cC, 400, .inl o_signs))] H := hP
  refine lv_if_eq (tgt := 84) hx hb dX0_wordOf_78 (by decide) (fun c_5 => ?_) (fun c_5 => ?_)
  rotate_left
  · have hf := pif hf c_5
    obtain rfl := Option.some.inj hf
    refine lv_bipush (v := -9) hx hb dX0_wordOf_81 (by decide) ?_
    exact gRi hx hb hr hlocks hP hS dX0_wordOf_83
  have hf := pit hf c_5
  obtain rfl := Option.some.inj hf
  refine lv_bipush (v := -3) hx hb dX0_wordOf_84 (by decide) ?_
  exact gRi hx hb hr hlocks hP hS dX0_wordOf_86
