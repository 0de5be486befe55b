abbrev rmX0_add : Room := { frames := 0, cells := 0, slots := 0, locals := 0 }
set_option maxRecDepth 20000 in
theorem uX0_add_X0 : ∀ w ∈ wsX00, w ∈ wsX0_add := by decide +kernel
set_option maxRecDepth 20000 in
theorem mX0_add_0 : (Cond.fieldLink RX0 9 "TradeWheel$Text" "length" "I" : Cond) ∈ wsX0_add := by decide +kernel
set_option maxRecDepth 20000 in
theorem mX0_add_1 : (Cond.fieldLink RX0 15 "TradeWheel$Text" "signs" "[C" : Cond) ∈ wsX0_add := by decide +kernel
set_option maxRecDepth 20000 in
theorem mX0_add_2 : (Cond.constantLong RX0 32 (255) : Cond) ∈ wsX0_add := by decide +kernel
set_option maxHeartbeats 4000000 in
set_option maxRecDepth 100000 in
theorem wX0_add_5 {p : Program} {l : Launch} {e : Env} {s : State} {m : MethodId} {args : Array Value} {below : List Frame} {meth : Method} {c : Code} {Q : State → Prop} {A : Nat → Prop} {dC : Nat → ClassId} {dI : Nat → Nat → Nat} {Z : gZ} {cC cI cZ cW : ClassId} (hg0 : gX p s m args meth c cX0_add 5 none wsX0_add RX0 (dC, dI) Z [(cC, .char), (cI, .int), (cZ, .boolean), (cW, .object RX3)] A) (a_o a_o_signs a_o_tokens a_o_starts : Nat) (o_cuts : Int32) (o_current : Int32) (l1 : Int64) (N : Nat) : ∀ (n : Nat) (o_length : Int32) (o_signs : Nat → Int32) (l4 : Int32) (o_length' : Int32) (o_signs' : Nat → Int32) (l4' : Int32), fX0_add_5 N l1 n o_length o_signs l4 = some (o_length', o_signs', l4') → ∀ (H : Heap) (locs : List Loc) (ls : Array Slot), va_P (dC, dI) vwCl [(a_o, .inr (0, [.int o_length, .ref a_o_signs, .ref a_o_tokens, .ref a_o_starts, .int o_cuts, .int o_current])), (a_o_signs, .inl (cC, 400, .inl o_signs))] H → va_D A [(a_o, .inr (0, [.int o_length, .ref a_o_signs, .ref a_o_tokens, .ref a_o_starts, .int o_cuts, .int o_current])), (a_o_signs, .inl (cC, 400, .inl o_signs))] → va_S A s.heap H locs → lv_has ls 5 [(0, .ref a_o), (1, .long l1), (4, .int l4)] → (∀ (H : Heap) (locs : List Loc) (ls : Array Slot), va_P (dC, dI) vwCl [(a_o, .inr (0, [.int o_length', .ref a_o_signs, .ref a_o_tokens, .ref a_o_starts, .int o_cuts, .int o_current])), (a_o_signs, .inl (cC, 400, .inl o_signs'))] H → va_D A [(a_o, .inr (0, [.int o_length', .ref a_o_signs, .ref a_o_tokens, .ref a_o_starts, .int o_cuts, .int o_current])), (a_o_signs, .inl (cC, 400, .inl o_signs'))] → va_S A s.heap H locs → lv_has ls 5 [] → W p l e (headSpec wsX0_add rmX0_add).room s m args below meth c H locs 0 0 Q (F0 m 58 ls [])) → W p l e (headSpec wsX0_add rmX0_add).room s m args below meth c H locs 0 0 Q (F0 m 5 ls []) := by
  obtain ⟨hx, hb, hr, hml, hown, hts, hlocks, hA, hK, hN⟩ := id hg0
  have hF : CallFix p m c cX0_add 5 s args wsX0_add RX0 := ⟨hx, hb, hml, hown, hts⟩
  intro n
  induction n with
  | zero =>
    intro o_length o_signs l4 o_length' o_signs' l4' hf
    have hf := fX0_add_5_0.symm.trans hf
    cases hf
  | succ n ih =>
    intro o_length o_signs l4 o_length' o_signs' l4' hf H locs ls hP hD hS hl kx
    have hf := fX0_add_5_s.symm.trans hf
    refine lv_iload hx hb dX0_add_5 (lv_at hl 2 rfl) ?_
    refine lv_if_lt (tgt := 58) hx hb dX0_add_7 (by decide) (fun c_1 => ?_) (fun c_1 => ?_)
    · have hf := pit hf c_1
      have q0 := Option.some.inj hf
      obtain ⟨e0, q1⟩ := Prod.mk.inj q0
      obtain ⟨e1, q2⟩ := Prod.mk.inj q1
      subst e0
      subst e1
      subst q2
      exact kx _ _ _ hP hD hS (lv_sub hl [] rfl)
    · have hf := pif hf c_1
      refine lv_aload_n hx hb dX0_add_10 rfl (lv_at hl 0 rfl) ?_
      refine va_get (D := (dC, dI)) (ci := 0) (v := .int o_length) (C := RX0) (T := TX0) (N := 6) hx hb hts uX0_add_X0 hown hK hP 0 rfl rfl 0 (by decide) (hts _ mX0_add_0) (fun _ h9 => h9) rfl dX0_add_11 ?_
      refine lv_sipush (v := (400 : Int32)) hx hb dX0_add_14 (by decide) ?_
      refine lv_icmp_ge (tgt := 58) hx hb dX0_add_17 (by decide) (fun c_2 => ?_) (fun c_2 => ?_)
      · have hf := pit hf c_2
        have q0 := Option.some.inj hf
        obtain ⟨e0, q1⟩ := Prod.mk.inj q0
        obtain ⟨e1, q2⟩ := Prod.mk.inj q1
        subst e0
        subst e1
        subst q2
        exact kx _ _ _ hP hD hS (lv_sub hl [] rfl)
      · have hf := pif hf c_2
        refine lv_aload_n hx hb dX0_add_20 rfl (lv_at hl 0 rfl) ?_
        refine va_get (D := (dC, dI)) (ci := 0) (v := .ref a_o_signs) (C := RX0) (T := TX0) (N := 6) hx hb hts uX0_add_X0 hown hK hP 0 rfl rfl 1 (by decide) (hts _ mX0_add_1) (fun _ h9 => h9) rfl dX0_add_21 ?_
        refine lv_aload_n hx hb dX0_add_24 rfl (lv_at hl 0 rfl) ?_
        refine va_get (D := (dC, dI)) (ci := 0) (v := .int o_length) (C := RX0) (T := TX0) (N := 6) hx hb hts uX0_add_X0 hown hK hP 0 rfl rfl 0 (by decide) (hts _ mX0_add_0) (fun _ h9 => h9) rfl dX0_add_25 ?_
        refine lv_lload_n hx hb dX0_add_28 rfl (lv_at hl 1 rfl) ?_
        refine lv_bipush (v := (8 : Int32)) hx hb dX0_add_29 (by decide) ?_
        refine lv_iload hx hb dX0_add_31 (lv_at hl 2 rfl) ?_
        refine lv_imul hx hb dX0_add_33 ?_
        refine lv_lushr (v := (l1.toUInt64 >>> (((8 : Int32) * l4).toInt64.toUInt64 &&& Int64.toUInt64 63)).toInt64) hx hb dX0_add_34 rfl ?_
        refine lv_ldc2 (v := (255 : Int64)) hx hb hown (hts _ mX0_add_2) dX0_add_35 ?_
        refine lv_land hx hb dX0_add_38 ?_
        refine lv_l2i (v := ((l1.toUInt64 >>> (((8 : Int32) * l4).toInt64.toUInt64 &&& Int64.toUInt64 63)).toInt64 &&& (255 : Int64)).toInt32) hx hb dX0_add_39 rfl ?_
        refine lv_i2c (v := ((((l1.toUInt64 >>> (((8 : Int32) * l4).toInt64.toUInt64 &&& Int64.toUInt64 63)).toInt64 &&& (255 : Int64)).toInt32).toUInt32 % 65536).toInt32) hx hb dX0_add_40 rfl ?_
        obtain ⟨h_3, hf⟩ := pgd hf
        refine va_cast hx hb hK hP hD hS 1 0 rfl rfl h_3 dX0_add_41 (fun H locs hP hD hS => ?_)
        have hP : va_P (dC, dI) vwCl [(a_o, .inr (0, [.int o_length, .ref a_o_signs, .ref a_o_tokens, .ref a_o_starts, .int o_cuts, .int o_current])), (a_o_signs, .inl (cC, 400, .inl (upd o_signs o_length.toNatClampNeg (vp_nar .char (((((l1.toUInt64 >>> (((8 : Int32) * l4).toInt64.toUInt64 &&& Int64.toUInt64 63)).toInt64 &&& (255 : Int64)).toInt32).toUInt32 % 65536).toInt32)))))] H := hP
        have hD : va_D A [(a_o, .inr (0, [.int o_length, .ref a_o_signs, .ref a_o_tokens, .ref a_o_starts, .int o_cuts, .int o_current])), (a_o_signs, .inl (cC, 400, .inl (upd o_signs o_length.toNatClampNeg (vp_nar .char (((((l1.toUInt64 >>> (((8 : Int32) * l4).toInt64.toUInt64 &&& Int64.toUInt64 63)).toInt64 &&& (255 : Int64)).toInt32).toUInt32 % 65536).toInt32)))))] := hD
        refine lv_aload_n hx hb dX0_add_42 rfl (lv_at hl 0 rfl) ?_
        refine lv_dup hx hb dX0_add_43 rfl ?_
        refine va_get (D := (dC, dI)) (ci := 0) (v := .int o_length) (C := RX0) (T := TX0) (N := 6) hx hb hts uX0_add_X0 hown hK hP 0 rfl rfl 0 (by decide) (hts _ mX0_add_0) (fun _ h9 => h9) rfl dX0_add_44 ?_
        refine lv_iconst (v := (1 : Int32)) hx hb dX0_add_47 (by decide) ?_
        refine lv_iadd hx hb dX0_add_48 ?_
        refine va_put (D := (dC, dI)) (ci := 0) (v := .int (o_length + (1 : Int32))) (ty := .int) (C := RX0) (T := TX0) (N := 6) hx hb hts uX0_add_X0 tyX0 tyX0_ok nmX0 hown hK hP hD hS 0 rfl rfl 0 (by decide) (hts _ mX0_add_0) (fun _ h9 => h9) rfl (by decide +kernel) rfl rfl (Nat.le_of_ble_eq_true rfl) dX0_add_49 (fun H locs hP hD hS => ?_)
        have hP : va_P (dC, dI) vwCl [(a_o, .inr (0, [.int (o_length + (1 : Int32)), .ref a_o_signs, .ref a_o_tokens, .ref a_o_starts, .int o_cuts, .int o_current])), (a_o_signs, .inl (cC, 400, .inl (upd o_signs o_length.toNatClampNeg (vp_nar .char (((((l1.toUInt64 >>> (((8 : Int32) * l4).toInt64.toUInt64 &&& Int64.toUInt64 63)).toInt64 &&& (255 : Int64)).toInt32).toUInt32 % 65536).toInt32)))))] H := hP
        have hD : va_D A [(a_o, .inr (0, [.int (o_length + (1 : Int32)), .ref a_o_signs, .ref a_o_tokens, .ref a_o_starts, .int o_cuts, .int o_current])), (a_o_signs, .inl (cC, 400, .inl (upd o_signs o_length.toNatClampNeg (vp_nar .char (((((l1.toUInt64 >>> (((8 : Int32) * l4).toInt64.toUInt64 &&& Int64.toUInt64 63)).toInt64 &&& (255 : Int64)).toInt32).toUInt32 % 65536).toInt32)))))] := hD
        refine lv_iinc (v := (l4 + (-1 : Int32))) (lv' := [(4, .int (l4 + (-1 : Int32))), (0, .ref a_o), (1, .long l1)]) hx hb dX0_add_52 hl (k := 2) rfl rfl (by decide) rfl (fun ls hl => ?_)
        refine lv_goto (tgt := 5) hx hb dX0_add_55 (by decide) ?_
        exact ih _ _ _ _ _ _ hf _ _ _ hP hD hS (lv_sub hl [1, 2, 0] rfl) kx
set_option maxHeartbeats 4000000 in
set_option maxRecDepth 100000 in
theorem kX0_add (l : Launch) (dC : Nat → ClassId) (dI : Nat → Nat → Nat) (Z : gZ) (cC cI cZ cW : ClassId) (a_o a_o_signs a_o_tokens a_o_starts : Nat) (sz : Nat) (o_length : Int32) (o_cuts : Int32) (o_current : Int32) (o_signs : Nat → Int32) (j1 : Int64) (i3 : Int32) (N : Nat) (o_length' : Int32) (o_signs' : Nat → Int32) (hf : fX0_add N o_length o_signs  j1 i3 = some (o_length', o_signs')) : Met l yX0_add wsX0_add rmX0_add (va_Pc [.ref a_o, .long j1, .int i3] (gB (dC, dI) Z [(cC, .char), (cI, .int), (cZ, .boolean), (cW, .object RX3)] [(a_o, .inr (0, [.int o_length, .ref a_o_signs, .ref a_o_tokens, .ref a_o_starts, .int o_cuts, .int o_current])), (a_o_signs, .inl (cC, 400, .inl o_signs))] sz)) (va_Qv (fun (_ : Unit) => True) (gE (dC, dI) [(a_o, .inr (0, [.int o_length', .ref a_o_signs, .ref a_o_tokens, .ref a_o_starts, .int o_cuts, .int o_current])), (a_o_signs, .inl (cC, 400, .inl o_signs'))]) (va_A [(a_o, .inr (0, [.int o_length, .ref a_o_signs, .ref a_o_tokens, .ref a_o_starts, .int o_cuts, .int o_current])), (a_o_signs, .inl (cC, 400, .inl o_signs))] sz)) 0 0 (va_A [(a_o, .inr (0, [.int o_length, .ref a_o_signs, .ref a_o_tokens, .ref a_o_starts, .int o_cuts, .int o_current])), (a_o_signs, .inl (cC, 400, .inl o_signs))] sz) := by
  refine gMet (cc := cX0_add) (maxL := 5) (ret := none) (Qc := fun A => va_Qv (fun (_ : Unit) => True) (gE (dC, dI) [(a_o, .inr (0, [.int o_length', .ref a_o_signs, .ref a_o_tokens, .ref a_o_starts, .int o_cuts, .int o_current])), (a_o_signs, .inl (cC, 400, .inl o_signs'))]) A) (by decide) rfl (Nat.le_of_ble_eq_true rfl) ?_
  intro p e s m below meth c A ls hg0 _ hsz hP hD hS hl
  have hg0 : gX p s m _ meth c cX0_add 5 none wsX0_add RX0 (dC, dI) Z [(cC, .char), (cI, .int), (cZ, .boolean), (cW, .object RX3)] A := hg0
  obtain ⟨hx, hb, hr, hml, hown, hts, hlocks, hA, hK, hN⟩ := id hg0
  subst hsz
  have hF : CallFix p m c cX0_add 5 s _ wsX0_add RX0 := ⟨hx, hb, hml, hown, hts⟩
  have hl : lv_has ls 5 [(0, .ref a_o), (1, .long j1), (3, .int i3)] := hl
  unfold fX0_add at hf
  refine lv_iload_n hx hb dX0_add_0 rfl (lv_at hl 2 rfl) ?_
  refine lv_iconst (v := (1 : Int32)) hx hb dX0_add_1 (by decide) ?_
  refine lv_isub hx hb dX0_add_2 ?_
  refine lv_istore (lv' := [(4, .int (i3 - (1 : Int32))), (0, .ref a_o), (1, .long j1), (3, .int i3)]) hx hb dX0_add_3 hl (by decide) rfl (fun ls hl => ?_)
  obtain ⟨o_length_1, o_signs_2, l4_3, hc, hf⟩ := pb3 hf
  refine wX0_add_5 hg0 a_o a_o_signs a_o_tokens a_o_starts o_cuts o_current j1 N N o_length o_signs (i3 - (1 : Int32)) o_length_1 o_signs_2 l4_3 hc _ _ _ hP hD hS (lv_sub hl [1, 2, 0] rfl) (fun H locs ls hP hD hS hl => ?_)
  have q0 := Option.some.inj hf
  obtain ⟨e0, q1⟩ := Prod.mk.inj q0
  subst e0
  subst q1
  exact gRv hx hb hr hlocks hP hS dX0_add_58
abbrev rmX0_addToken : Room := { frames := 0, cells := 0, slots := 0, locals := 0 }
set_option maxRecDepth 20000 in
theorem uX0_addToken_X0 : ∀ w ∈ wsX00, w ∈ wsX0_addToken := by decide +kernel
set_option maxRecDepth 20000 in
theorem mX0_addToken_0 : (Cond.fieldLink RX0 26 "TradeWheel$Text" "cuts" "I" : Cond) ∈ wsX0_addToken := by decide +kernel
set_option maxRecDepth 20000 in
theorem mX0_addToken_1 : (Cond.fieldLink RX0 19 "TradeWheel$Text" "tokens" "[I" : Cond) ∈ wsX0_addToken := by decide +kernel
set_option maxRecDepth 20000 in
theorem mX0_addToken_2 : (Cond.fieldLink RX0 23 "TradeWheel$Text" "starts" "[I" : Cond) ∈ wsX0_addToken := by decide +kernel
set_option maxHeartbeats 4000000 in
set_option maxRecDepth 100000 in
theorem kX0_addToken (l : Launch) (dC : Nat → ClassId) (dI : Nat → Nat → Nat) (Z : gZ) (cC cI cZ cW : ClassId) (a_o a_o_signs a_o_tokens a_o_starts : Nat) (sz : Nat) (o_length : Int32) (o_cuts : Int32) (o_current : Int32) (o_tokens : Nat → Int32) (o_starts : Nat → Int32) (i1 : Int32) (i2 : Int32) (N : Nat) (o_cuts' : Int32) (o_tokens' : Nat → Int32) (o_starts' : Nat → Int32) (hf : fX0_addToken N o_cuts o_tokens o_starts  i1 i2 = some (o_cuts', o_tokens', o_starts')) : Met l yX0_addToken wsX0_addToken rmX0_addToken (va_Pc [.ref a_o, .int i1, .int i2] (gB (dC, dI) Z [(cC, .char), (cI, .int), (cZ, .boolean), (cW, .object RX3)] [(a_o, .inr (0, [.int o_length, .ref a_o_signs, .ref a_o_tokens, .ref a_o_starts, .int o_cuts, .int o_current])), (a_o_tokens, .inl (cI, 401, .inl o_tokens)), (a_o_starts, .inl (cI, 401, .inl o_starts))] sz)) (va_Qv (fun (_ : Unit) => True) (gE (dC, dI) [(a_o, .inr (0, [.int o_length, .ref a_o_signs, .ref a_o_tokens, .ref a_o_starts, .int o_cuts', .int o_current])), (a_o_tokens, .inl (cI, 401, .inl o_tokens')), (a_o_starts, .inl (cI, 401, .inl o_starts'))]) (va_A [(a_o, .inr (0, [.int o_length, .ref a_o_signs, .ref a_o_tokens, .ref a_o_starts, .int o_cuts, .int o_current])), (a_o_tokens, .inl (cI, 401, .inl o_tokens)), (a_o_starts, .inl (cI, 401, .inl o_starts))] sz)) 0 0 (va_A [(a_o, .inr (0, [.int o_length, .ref a_o_signs, .ref a_o_tokens, .ref a_o_starts, .int o_cuts, .int o_current])), (a_o_tokens, .inl (cI, 401, .inl o_tokens)), (a_o_starts, .inl (cI, 401, .inl o_starts))] sz) := by
  refine gMet (cc := cX0_addToken) (maxL := 3) (ret := none) (Qc := fun A => va_Qv (fun (_ : Unit) => True) (gE (dC, dI) [(a_o, .inr (0, [.int o_length, .ref a_o_signs, .ref a_o_tokens, .ref a_o_starts, .int o_cuts', .int o_current])), (a_o_tokens, .inl (cI, 401, .inl o_tokens')), (a_o_starts, .inl (cI, 401, .inl o_starts'))]) A) (by decide) rfl (Nat.le_of_ble_eq_true rfl) ?_
  intro p e s m below meth c A ls hg0 _ hsz hP hD hS hl
  have hg0 : gX p s m _ meth c cX0_addToken 3 none wsX0_addToken RX0 (dC, dI) Z [(cC, .char), (cI, .int), (cZ, .boolean), (cW, .object RX3)] A := hg0
  obtain ⟨hx, hb, hr, hml, hown, hts, hlocks, hA, hK, hN⟩ := id hg0
  subst hsz
  have hF : CallFix p m c cX0_addToken 3 s _ wsX0_addToken RX0 := ⟨hx, hb, hml, hown, hts⟩
  have hl : lv_has ls 3 [(0, .ref a_o), (1, .int i1), (2, .int i2)] := hl
  unfold fX0_addToken at hf
  refine lv_aload_n hx hb dX0_addToken_0 rfl (lv_at hl 0 rfl) ?_
  refine va_get (D := (dC, dI)) (ci := 0) (v := .int o_cuts) (C := RX0) (T := TX0) (N := 6) hx hb hts uX0_addToken_X0 hown hK hP 0 rfl rfl 4 (by decide) (hts _ mX0_addToken_0) (fun _ h9 => h9) rfl dX0_addToken_1 ?_
  refine lv_sipush (v := (400 : Int32)) hx hb dX0_addToken_4 (by decide) ?_
  refine lv_icmp_le (tgt := 11) hx hb dX0_addToken_7 (by decide) (fun c_1 => ?_) (fun c_1 => ?_)
  · have hf := pit hf c_1
    refine lv_aload_n hx hb dX0_addToken_11 rfl (lv_at hl 0 rfl) ?_
    refine va_get (D := (dC, dI)) (ci := 0) (v := .ref a_o_tokens) (C := RX0) (T := TX0) (N := 6) hx hb hts uX0_addToken_X0 hown hK hP 0 rfl rfl 2 (by decide) (hts _ mX0_addToken_1) (fun _ h9 => h9) rfl dX0_addToken_12 ?_
    refine lv_aload_n hx hb dX0_addToken_15 rfl (lv_at hl 0 rfl) ?_
    refine va_get (D := (dC, dI)) (ci := 0) (v := .int o_cuts) (C := RX0) (T := TX0) (N := 6) hx hb hts uX0_addToken_X0 hown hK hP 0 rfl rfl 4 (by decide) (hts _ mX0_addToken_0) (fun _ h9 => h9) rfl dX0_addToken_16 ?_
    refine lv_iload_n hx hb dX0_addToken_19 rfl (lv_at hl 1 rfl) ?_
    obtain ⟨h_2, hf⟩ := pgd hf
    refine va_iast hx hb hK hP hD hS 1 1 rfl rfl h_2 dX0_addToken_20 (fun H locs hP hD hS => ?_)
    have hP : va_P (dC, dI) vwCl [(a_o, .inr (0, [.int o_length, .ref a_o_signs, .ref a_o_tokens, .ref a_o_starts, .int o_cuts, .int o_current])), (a_o_tokens, .inl (cI, 401, .inl (upd o_tokens o_cuts.toNatClampNeg i1))), (a_o_starts, .inl (cI, 401, .inl o_starts))] H := hP
    have hD : va_D A [(a_o, .inr (0, [.int o_length, .ref a_o_signs, .ref a_o_tokens, .ref a_o_starts, .int o_cuts, .int o_current])), (a_o_tokens, .inl (cI, 401, .inl (upd o_tokens o_cuts.toNatClampNeg i1))), (a_o_starts, .inl (cI, 401, .inl o_starts))] := hD
    refine lv_aload_n hx hb dX0_addToken_21 rfl (lv_at hl 0 rfl) ?_
    refine va_get (D := (dC, dI)) (ci := 0) (v := .ref a_o_starts) (C := RX0) (T := TX0) (N := 6) hx hb hts uX0_addToken_X0 hown hK hP 0 rfl rfl 3 (by decide) (hts _ mX0_addToken_2) (fun _ h9 => h9) rfl dX0_addToken_22 ?_
    refine lv_aload_n hx hb dX0_addToken_25 rfl (lv_at hl 0 rfl) ?_
    refine va_get (D := (dC, dI)) (ci := 0) (v := .int o_cuts) (C := RX0) (T := TX0) (N := 6) hx hb hts uX0_addToken_X0 hown hK hP 0 rfl rfl 4 (by decide) (hts _ mX0_addToken_0) (fun _ h9 => h9) rfl dX0_addToken_26 ?_
    refine lv_iload_n hx hb dX0_addToken_29 rfl (lv_at hl 2 rfl) ?_
    obtain ⟨h_3, hf⟩ := pgd hf
    refine va_iast hx hb hK hP hD hS 2 1 rfl rfl h_3 dX0_addToken_30 (fun H locs hP hD hS => ?_)
    have hP : va_P (dC, dI) vwCl [(a_o, .inr (0, [.int o_length, .ref a_o_signs, .ref a_o_tokens, .ref a_o_starts, .int o_cuts, .int o_current])), (a_o_tokens, .inl (cI, 401, .inl (upd o_tokens o_cuts.toNatClampNeg i1))), (a_o_starts, .inl (cI, 401, .inl (upd o_starts o_cuts.toNatClampNeg i2)))] H := hP
    have hD : va_D A [(a_o, .inr (0, [.int o_length, .ref a_o_signs, .ref a_o_tokens, .ref a_o_starts, .int o_cuts, .int o_current])), (a_o_tokens, .inl (cI, 401, .inl (upd o_tokens o_cuts.toNatClampNeg i1))), (a_o_starts, .inl (cI, 401, .inl (upd o_starts o_cuts.toNatClampNeg i2)))] := hD
    refine lv_aload_n hx hb dX0_addToken_31 rfl (lv_at hl 0 rfl) ?_
    refine lv_dup hx hb dX0_addToken_32 rfl ?_
    refine va_get (D := (dC, dI)) (ci := 0) (v := .int o_cuts) (C := RX0) (T := TX0) (N := 6) hx hb hts uX0_addToken_X0 hown hK hP 0 rfl rfl 4 (by decide) (hts _ mX0_addToken_0) (fun _ h9 => h9) rfl dX0_addToken_33 ?_
    refine lv_iconst (v := (1 : Int32)) hx hb dX0_addToken_36 (by decide) ?_
    refine lv_iadd hx hb dX0_addToken_37 ?_
    refine va_put (D := (dC, dI)) (ci := 0) (v := .int (o_cuts + (1 : Int32))) (ty := .int) (C := RX0) (T := TX0) (N := 6) hx hb hts uX0_addToken_X0 tyX0 tyX0_ok nmX0 hown hK hP hD hS 0 rfl rfl 4 (by decide) (hts _ mX0_addToken_0) (fun _ h9 => h9) rfl (by decide +kernel) rfl rfl (Nat.le_of_ble_eq_true rfl) dX0_addToken_38 (fun H locs hP hD hS => ?_)
    have hP : va_P (dC, dI) vwCl [(a_o, .inr (0, [.int o_length, .ref a_o_signs, .ref a_o_tokens, .ref a_o_starts, .int (o_cuts + (1 : Int32)), .int o_current])), (a_o_tokens, .inl (cI, 401, .inl (upd o_tokens o_cuts.toNatClampNeg i1))), (a_o_starts, .inl (cI, 401, .inl (upd o_starts o_cuts.toNatClampNeg i2)))] H := hP
    have hD : va_D A [(a_o, .inr (0, [.int o_length, .ref a_o_signs, .ref a_o_tokens, .ref a_o_starts, .int (o_cuts + (1 : Int32)), .int o_current])), (a_o_tokens, .inl (cI, 401, .inl (upd o_tokens o_cuts.toNatClampNeg i1))), (a_o_starts, .inl (cI, 401, .inl (upd o_starts o_cuts.toNatClampNeg i2)))] := hD
    have q0 := Option.some.inj hf
    obtain ⟨e0, q1⟩ := Prod.mk.inj q0
    obtain ⟨e1, q2⟩ := Prod.mk.inj q1
    subst e0
    subst e1
    subst q2
    exact gRv hx hb hr hlocks hP hS dX0_addToken_41
  · have hf := pif hf c_1
    have q0 := Option.some.inj hf
    obtain ⟨e0, q1⟩ := Prod.mk.inj q0
    obtain ⟨e1, q2⟩ := Prod.mk.inj q1
    subst e0
    subst e1
    subst q2
    exact gRv hx hb hr hlocks hP hS dX0_addToken_10
abbrev rmX0_isFigure : Room := { frames := 0, cells := 0, slots := 0, locals := 0 }
set_option maxRecDepth 20000 in
theorem uX0_isFigure_X0 : ∀ w ∈ wsX00, w ∈ wsX0_isFigure := by decide +kernel
set_option maxRecDepth 20000 in
theorem mX0_isFigure_0 : (Cond.fieldLink RX0 15 "TradeWheel$Text" "signs" "[C" : Cond) ∈ wsX0_isFigure := by decide +kernel
set_option maxHeartbeats 4000000 in
set_option maxRecDepth 100000 in
theorem kX0_isFigure (l : Launch) (dC : Nat → ClassId) (dI : Nat → Nat → Nat) (Z : gZ) (cC cI cZ cW : ClassId) (a_o a_o_signs a_o_tokens a_o_starts : Nat) (sz : Nat) (o_length : Int32) (o_cuts : Int32) (o_current : Int32) (o_signs : Nat → Int32) (i1 : Int32) (N : Nat) (r' : Int32) (hf : fX0_isFigure N o_signs  i1 = some r') : Met l yX0_isFigure wsX0_isFigure rmX0_isFigure (va_Pc [.ref a_o, .int i1] (gB (dC, dI) Z [(cC, .char), (cI, .int), (cZ, .boolean), (cW, .object RX3)] [(a_o, .inr (0, [.int o_length, .ref a_o_signs, .ref a_o_tokens, .ref a_o_starts, .int o_cuts, .int o_current])), (a_o_signs, .inl (cC, 400, .inl o_signs))] sz)) (va_Qi (fun (r : Int32) (_ : Unit) => r = r') (gE (dC, dI) [(a_o, .inr (0, [.int o_length, .ref a_o_signs, .ref a_o_tokens, .ref a_o_starts, .int o_cuts, .int o_current])), (a_o_signs, .inl (cC, 400, .inl o_signs))]) (va_A [(a_o, .inr (0, [.int o_length, .ref a_o_signs, .ref a_o_tokens, .ref a_o_starts, .int o_cuts, .int o_current])), (a_o_signs, .inl (cC, 400, .inl o_signs))] sz)) 0 0 (va_A [(a_o, .inr (0, [.int o_length, .ref a_o_signs, .ref a_o_tokens, .ref a_o_starts, .int o_cuts, .int o_current])), (a_o_signs, .inl (cC, 400, .inl o_signs))] sz) := by
  refine gMet (cc := cX0_isFigure) (maxL := 2) (ret := (some .boolean)) (Qc := fun A => va_Qi (fun (r : Int32) (_ : Unit) => r = r') (gE (dC, dI) [(a_o, .inr (0, [.int o_length, .ref a_o_signs, .ref a_o_tokens, .ref a_o_starts, .int o_cuts, .int o_current])), (a_o_signs, .inl (cC, 400, .inl o_signs))]) A) (by decide) rfl (Nat.le_of_ble_eq_true rfl) ?_
  intro p e s m below meth c A ls hg0 _ hsz hP hD hS hl
  have hg0 : gX p s m _ meth c cX0_isFigure 2 (some .boolean) wsX0_isFigure RX0 (dC, dI) Z [(cC, .char), (cI, .int), (cZ, .boolean), (cW, .object RX3)] A := hg0
  obtain ⟨hx, hb, hr, hml, hown, hts, hlocks, hA, hK, hN⟩ := id hg0
  subst hsz
  have hF : CallFix p m c cX0_isFigure 2 s _ wsX0_isFigure RX0 := ⟨hx, hb, hml, hown, hts⟩
  have hl : lv_has ls 2 [(0, .ref a_o), (1, .int i1)] := hl
  unfold fX0_isFigure at hf
  refine lv_bipush (v := (48 : Int32)) hx hb dX0_isFigure_0 (by decide) ?_
  refine lv_aload_n hx hb dX0_isFigure_2 rfl (lv_at hl 0 rfl) ?_
  refine va_get (D := (dC, dI)) (ci := 0) (v := .ref a_o_signs) (C := RX0) (T := TX0) (N := 6) hx hb hts uX0_isFigure_X0 hown hK hP 0 rfl rfl 1 (by decide) (hts _ mX0_isFigure_0) (fun _ h9 => h9) rfl dX0_isFigure_3 ?_
  refine lv_iload_n hx hb dX0_isFigure_6 rfl (lv_at hl 1 rfl) ?_
  obtain ⟨h_1, hf⟩ := pgd hf
  refine va_cald hx hb hK hP 1 0 rfl rfl h_1 dX0_isFigure_7 ?_
  refine lv_icmp_gt (tgt := 26) hx hb dX0_isFigure_8 (by decide) (fun c_2 => ?_) (fun c_2 => ?_)
  · have hf := pit hf c_2
    refine lv_iconst (v := (0 : Int32)) hx hb dX0_isFigure_26 (by decide) ?_
    have q0 := Option.some.inj hf
    subst q0
    exact gRz hx hb hr rfl hlocks hP hS dX0_isFigure_27
  · have hf := pif hf c_2
    refine lv_aload_n hx hb dX0_isFigure_11 rfl (lv_at hl 0 rfl) ?_
    refine va_get (D := (dC, dI)) (ci := 0) (v := .ref a_o_signs) (C := RX0) (T := TX0) (N := 6) hx hb hts uX0_isFigure_X0 hown hK hP 0 rfl rfl 1 (by decide) (hts _ mX0_isFigure_0) (fun _ h9 => h9) rfl dX0_isFigure_12 ?_
    refine lv_iload_n hx hb dX0_isFigure_15 rfl (lv_at hl 1 rfl) ?_
    obtain ⟨h_3, hf⟩ := pgd hf
    refine va_cald hx hb hK hP 1 0 rfl rfl h_3 dX0_isFigure_16 ?_
    refine lv_bipush (v := (57 : Int32)) hx hb dX0_isFigure_17 (by decide) ?_
    refine lv_icmp_gt (tgt := 26) hx hb dX0_isFigure_19 (by decide) (fun c_4 => ?_) (fun c_4 => ?_)
    · have hf := pit hf c_4
      refine lv_iconst (v := (0 : Int32)) hx hb dX0_isFigure_26 (by decide) ?_
      have q0 := Option.some.inj hf
      subst q0
      exact gRz hx hb hr rfl hlocks hP hS dX0_isFigure_27
    · have hf := pif hf c_4
      refine lv_iconst (v := (1 : Int32)) hx hb dX0_isFigure_22 (by decide) ?_
      refine lv_goto (tgt := 27) hx hb dX0_isFigure_23 (by decide) ?_
      have q0 := Option.some.inj hf
      subst q0
      exact gRz hx hb hr rfl hlocks hP hS dX0_isFigure_27
abbrev rmX0_isLetter : Room := { frames := 0, cells := 0, slots := 0, locals := 0 }
set_option maxRecDepth 20000 in
theorem uX0_isLetter_X0 : ∀ w ∈ wsX00, w ∈ wsX0_isLetter := by decide +kernel
set_option maxRecDepth 20000 in
theorem mX0_isLetter_0 : (Cond.fieldLink RX0 15 "TradeWheel$Text" "signs" "[C" : Cond) ∈ wsX0_isLetter := by decide +kernel
set_option maxHeartbeats 4000000 in
set_option maxRecDepth 100000 in
theorem kX0_isLetter (l : Launch) (dC : Nat → ClassId) (dI : Nat → Nat → Nat) (Z : gZ) (cC cI cZ cW : ClassId) (a_o a_o_signs a_o_tokens a_o_starts : Nat) (sz : Nat) (o_length : Int32) (o_cuts : Int32) (o_current : Int32) (o_signs : Nat → Int32) (i1 : Int32) (N : Nat) (r' : Int32) (hf : fX0_isLetter N o_signs  i1 = some r') : Met l yX0_isLetter wsX0_isLetter rmX0_isLetter (va_Pc [.ref a_o, .int i1] (gB (dC, dI) Z [(cC, .char), (cI, .int), (cZ, .boolean), (cW, .object RX3)] [(a_o, .inr (0, [.int o_length, .ref a_o_signs, .ref a_o_tokens, .ref a_o_starts, .int o_cuts, .int o_current])), (a_o_signs, .inl (cC, 400, .inl o_signs))] sz)) (va_Qi (fun (r : Int32) (_ : Unit) => r = r') (gE (dC, dI) [(a_o, .inr (0, [.int o_length, .ref a_o_signs, .ref a_o_tokens, .ref a_o_starts, .int o_cuts, .int o_current])), (a_o_signs, .inl (cC, 400, .inl o_signs))]) (va_A [(a_o, .inr (0, [.int o_length, .ref a_o_signs, .ref a_o_tokens, .ref a_o_starts, .int o_cuts, .int o_current])), (a_o_signs, .inl (cC, 400, .inl o_signs))] sz)) 0 0 (va_A [(a_o, .inr (0, [.int o_length, .ref a_o_signs, .ref a_o_tokens, .ref a_o_starts, .int o_cuts, .int o_current])), (a_o_signs, .inl (cC, 400, .inl o_signs))] sz) := by
  refine gMet (cc := cX0_isLetter) (maxL := 2) (ret := (some .boolean)) (Qc := fun A => va_Qi (fun (r : Int32) (_ : Unit) => r = r') (gE (dC, dI) [(a_o, .inr (0, [.int o_length, .ref a_o_signs, .ref a_o_tokens, .ref a_o_starts, .int o_cuts, .int o_current])), (a_o_signs, .inl (cC, 400, .inl o_signs))]) A) (by decide) rfl (Nat.le_of_ble_eq_true rfl) ?_
  intro p e s m below meth c A ls hg0 _ hsz hP hD hS hl
  have hg0 : gX p s m _ meth c cX0_isLetter 2 (some .boolean) wsX0_isLetter RX0 (dC, dI) Z [(cC, .char), (cI, .int), (cZ, .boolean), (cW, .object RX3)] A := hg0
  obtain ⟨hx, hb, hr, hml, hown, hts, hlocks, hA, hK, hN⟩ := id hg0
  subst hsz
  have hF : CallFix p m c cX0_isLetter 2 s _ wsX0_isLetter RX0 := ⟨hx, hb, hml, hown, hts⟩
  have hl : lv_has ls 2 [(0, .ref a_o), (1, .int i1)] := hl
  unfold fX0_isLetter at hf
  refine lv_bipush (v := (97 : Int32)) hx hb dX0_isLetter_0 (by decide) ?_
  refine lv_aload_n hx hb dX0_isLetter_2 rfl (lv_at hl 0 rfl) ?_
  refine va_get (D := (dC, dI)) (ci := 0) (v := .ref a_o_signs) (C := RX0) (T := TX0) (N := 6) hx hb hts uX0_isLetter_X0 hown hK hP 0 rfl rfl 1 (by decide) (hts _ mX0_isLetter_0) (fun _ h9 => h9) rfl dX0_isLetter_3 ?_
  refine lv_iload_n hx hb dX0_isLetter_6 rfl (lv_at hl 1 rfl) ?_
  obtain ⟨h_1, hf⟩ := pgd hf
  refine va_cald hx hb hK hP 1 0 rfl rfl h_1 dX0_isLetter_7 ?_
  refine lv_icmp_gt (tgt := 26) hx hb dX0_isLetter_8 (by decide) (fun c_2 => ?_) (fun c_2 => ?_)
  · have hf := pit hf c_2
    refine lv_iconst (v := (0 : Int32)) hx hb dX0_isLetter_26 (by decide) ?_
    have q0 := Option.some.inj hf
    subst q0
    exact gRz hx hb hr rfl hlocks hP hS dX0_isLetter_27
  · have hf := pif hf c_2
    refine lv_aload_n hx hb dX0_isLetter_11 rfl (lv_at hl 0 rfl) ?_
    refine va_get (D := (dC, dI)) (ci := 0) (v := .ref a_o_signs) (C := RX0) (T := TX0) (N := 6) hx hb hts uX0_isLetter_X0 hown hK hP 0 rfl rfl 1 (by decide) (hts _ mX0_isLetter_0) (fun _ h9 => h9) rfl dX0_isLetter_12 ?_
    refine lv_iload_n hx hb dX0_isLetter_15 rfl (lv_at hl 1 rfl) ?_
    obtain ⟨h_3, hf⟩ := pgd hf
    refine va_cald hx hb hK hP 1 0 rfl rfl h_3 dX0_isLetter_16 ?_
    refine lv_bipush (v := (122 : Int32)) hx hb dX0_isLetter_17 (by decide) ?_
    refine lv_icmp_gt (tgt := 26) hx hb dX0_isLetter_19 (by decide) (fun c_4 => ?_) (fun c_4 => ?_)
    · have hf := pit hf c_4
      refine lv_iconst (v := (0 : Int32)) hx hb dX0_isLetter_26 (by decide) ?_
      have q0 := Option.some.inj hf
      subst q0
      exact gRz hx hb hr rfl hlocks hP hS dX0_isLetter_27
    · have hf := pif hf c_4
      refine lv_iconst (v := (1 : Int32)) hx hb dX0_isLetter_22 (by decide) ?_
      refine lv_goto (tgt := 27) hx hb dX0_isLetter_23 (by decide) ?_
      have q0 := Option.some.inj hf
      subst q0
      exact gRz hx hb hr rfl hlocks hP hS dX0_isLetter_27
abbrev rmX0_endOfToken : Room := { frames := 1, cells := 0, slots := 0, locals := 21 }
set_option maxRecDepth 20000 in
theorem uX0_endOfToken_X0 : ∀ w ∈ wsX00, w ∈ wsX0_endOfToken := by decide +kernel
set_option maxRecDepth 20000 in
theorem mX0_endOfToken_0 : (Cond.fieldLink RX0 9 "TradeWheel$Text" "length" "I" : Cond) ∈ wsX0_endOfToken := by decide +kernel
set_option maxHeartbeats 4000000 in
set_option maxRecDepth 100000 in
theorem wX0_endOfToken_42 {p : Program} {l : Launch} {e : Env} {s : State} {m : MethodId} {args : Array Value} {below : List Frame} {meth : Method} {c : Code} {Q : State → Prop} {A : Nat → Prop} {dC : Nat → ClassId} {dI : Nat → Nat → Nat} {Z : gZ} {cC cI cZ cW : ClassId} (hg0 : gX p s m args meth c cX0_endOfToken 3 (some .int) wsX0_endOfToken RX0 (dC, dI) Z [(cC, .char), (cI, .int), (cZ, .boolean), (cW, .object RX3)] A) (a_o a_o_signs a_o_tokens a_o_starts : Nat) (o_length : Int32) (o_cuts : Int32) (o_current : Int32) (o_signs : Nat → Int32)  (N : Nat) : ∀ (n : Nat) (l2 : Int32) (l2' : Int32), fX0_endOfToken_42 N o_length o_signs n l2 = some l2' → ∀ (H : Heap) (locs : List Loc) (ls : Array Slot), va_P (dC, dI) vwCl [(a_o, .inr (0, [.int o_length, .ref a_o_signs, .ref a_o_tokens, .ref a_o_starts, .int o_cuts, .int o_current])), (a_o_signs, .inl (cC, 400, .inl o_signs))] H → va_D A [(a_o, .inr (0, [.int o_length, .ref a_o_signs, .ref a_o_tokens, .ref a_o_starts, .int o_cuts, .int o_current])), (a_o_signs, .inl (cC, 400, .inl o_signs))] → va_S A s.heap H locs → lv_has ls 3 [(0, .ref a_o), (2, .int l2)] → (∀ (H : Heap) (locs : List Loc) (ls : Array Slot), va_P (dC, dI) vwCl [(a_o, .inr (0, [.int o_length, .ref a_o_signs, .ref a_o_tokens, .ref a_o_starts, .int o_cuts, .int o_current])), (a_o_signs, .inl (cC, 400, .inl o_signs))] H → va_D A [(a_o, .inr (0, [.int o_length, .ref a_o_signs, .ref a_o_tokens, .ref a_o_starts, .int o_cuts, .int o_current])), (a_o_signs, .inl (cC, 400, .inl o_signs))] → va_S A s.heap H locs → lv_has ls 3 [(2, .int l2')] → W p l e (headSpec wsX0_endOfToken rmX0_endOfToken).room s m args below meth c H locs 0 0 Q (F0 m 64 ls [])) → W p l e (headSpec wsX0_endOfToken rmX0_endOfToken).room s m args below meth c H locs 0 0 Q (F0 m 42 ls []) := by
  obtain ⟨hx, hb, hr, hml, hown, hts, hlocks, hA, hK, hN⟩ := id hg0
  have hF : CallFix p m c cX0_endOfToken 3 s args wsX0_endOfToken RX0 := ⟨hx, hb, hml, hown, hts⟩
  intro n
  induction n with
  | zero =>
    intro l2 l2' hf
    have hf := fX0_endOfToken_42_0.symm.trans hf
    cases hf
  | succ n ih =>
    intro l2 l2' hf H locs ls hP hD hS hl kx
    have hf := fX0_endOfToken_42_s.symm.trans hf
    refine lv_iload_n hx hb dX0_endOfToken_42 rfl (lv_at hl 1 rfl) ?_
    refine lv_aload_n hx hb dX0_endOfToken_43 rfl (lv_at hl 0 rfl) ?_
    refine va_get (D := (dC, dI)) (ci := 0) (v := .int o_length) (C := RX0) (T := TX0) (N := 6) hx hb hts uX0_endOfToken_X0 hown hK hP 0 rfl rfl 0 (by decide) (hts _ mX0_endOfToken_0) (fun _ h9 => h9) rfl dX0_endOfToken_44 ?_
    refine lv_icmp_ge (tgt := 64) hx hb dX0_endOfToken_47 (by decide) (fun c_1 => ?_) (fun c_1 => ?_)
    · have hf := pit hf c_1
      have q0 := Option.some.inj hf
      subst q0
      exact kx _ _ _ hP hD hS (lv_sub hl [1] rfl)
    · have hf := pif hf c_1
      refine lv_aload_n hx hb dX0_endOfToken_50 rfl (lv_at hl 0 rfl) ?_
      refine lv_iload_n hx hb dX0_endOfToken_51 rfl (lv_at hl 1 rfl) ?_
      obtain ⟨r_2, hc, hf⟩ := pb1 hf
      refine gCi (va_runV (As := [.int l2]) (rest := []) hF (kX0_isFigure l dC dI Z cC cI cZ cW a_o a_o_signs a_o_tokens a_o_starts _ o_length o_cuts o_current o_signs l2 N r_2 hc) (cwV 1 hts gX0_endOfToken_X0_isFigure rfl rfl rfl (by decide +kernel) ⟨Nat.le_of_ble_eq_true rfl, Nat.le_of_ble_eq_true rfl⟩) (gPV (wc := [(a_o, .inr (0, [.int o_length, .ref a_o_signs, .ref a_o_tokens, .ref a_o_starts, .int o_cuts, .int o_current])), (a_o_signs, .inl (cC, 400, .inl o_signs))]) hK hN hA hS hP hD [0, 1] rfl rfl (q0 := 0) (ci := 0) rfl rfl rfl) rfl rfl hl.1 rfl (lv_room (Nat.le_of_ble_eq_true rfl)) dX0_endOfToken_52 ⟨Nat.zero_le _, Nat.zero_le _⟩) hP hD hS hA [0, 1] rfl rfl rfl (fun H locs hP hD hS => ?_)
      have hP : va_P (dC, dI) vwCl [(a_o, .inr (0, [.int o_length, .ref a_o_signs, .ref a_o_tokens, .ref a_o_starts, .int o_cuts, .int o_current])), (a_o_signs, .inl (cC, 400, .inl o_signs))] H := hP
      have hD : va_D A [(a_o, .inr (0, [.int o_length, .ref a_o_signs, .ref a_o_tokens, .ref a_o_starts, .int o_cuts, .int o_current])), (a_o_signs, .inl (cC, 400, .inl o_signs))] := hD
      refine lv_if_eq (tgt := 64) hx hb dX0_endOfToken_55 (by decide) (fun c_3 => ?_) (fun c_3 => ?_)
      · have hf := pit hf c_3
        have q0 := Option.some.inj hf
        subst q0
        exact kx _ _ _ hP hD hS (lv_sub hl [1] rfl)
      · have hf := pif hf c_3
        refine lv_iinc (v := (l2 + 1)) (lv' := [(2, .int (l2 + 1)), (0, .ref a_o)]) hx hb dX0_endOfToken_58 hl (k := 1) rfl rfl (by decide) rfl (fun ls hl => ?_)
        refine lv_goto (tgt := 42) hx hb dX0_endOfToken_61 (by decide) ?_
        exact ih _ _ hf _ _ _ hP hD hS (lv_sub hl [1, 0] rfl) kx
set_option maxHeartbeats 4000000 in
set_option maxRecDepth 100000 in
theorem wX0_endOfToken_12 {p : Program} {l : Launch} {e : Env} {s : State} {m : MethodId} {args : Array Value} {below : List Frame} {meth : Method} {c : Code} {Q : State → Prop} {A : Nat → Prop} {dC : Nat → ClassId} {dI : Nat → Nat → Nat} {Z : gZ} {cC cI cZ cW : ClassId} (hg0 : gX p s m args meth c cX0_endOfToken 3 (some .int) wsX0_endOfToken RX0 (dC, dI) Z [(cC, .char), (cI, .int), (cZ, .boolean), (cW, .object RX3)] A) (a_o a_o_signs a_o_tokens a_o_starts : Nat) (o_length : Int32) (o_cuts : Int32) (o_current : Int32) (o_signs : Nat → Int32)  (N : Nat) : ∀ (n : Nat) (l2 : Int32) (l2' : Int32), fX0_endOfToken_12 N o_length o_signs n l2 = some l2' → ∀ (H : Heap) (locs : List Loc) (ls : Array Slot), va_P (dC, dI) vwCl [(a_o, .inr (0, [.int o_length, .ref a_o_signs, .ref a_o_tokens, .ref a_o_starts, .int o_cuts, .int o_current])), (a_o_signs, .inl (cC, 400, .inl o_signs))] H → va_D A [(a_o, .inr (0, [.int o_length, .ref a_o_signs, .ref a_o_tokens, .ref a_o_starts, .int o_cuts, .int o_current])), (a_o_signs, .inl (cC, 400, .inl o_signs))] → va_S A s.heap H locs → lv_has ls 3 [(0, .ref a_o), (2, .int l2)] → (∀ (H : Heap) (locs : List Loc) (ls : Array Slot), va_P (dC, dI) vwCl [(a_o, .inr (0, [.int o_length, .ref a_o_signs, .ref a_o_tokens, .ref a_o_starts, .int o_cuts, .int o_current])), (a_o_signs, .inl (cC, 400, .inl o_signs))] H → va_D A [(a_o, .inr (0, [.int o_length, .ref a_o_signs, .ref a_o_tokens, .ref a_o_starts, .int o_cuts, .int o_current])), (a_o_signs, .inl (cC, 400, .inl o_signs))] → va_S A s.heap H locs → lv_has ls 3 [(2, .int l2')] → W p l e (headSpec wsX0_endOfToken rmX0_endOfToken).room s m args below meth c H locs 0 0 Q (F0 m 64 ls [])) → W p l e (headSpec wsX0_endOfToken rmX0_endOfToken).room s m args below meth c H locs 0 0 Q (F0 m 12 ls []) := by
  obtain ⟨hx, hb, hr, hml, hown, hts, hlocks, hA, hK, hN⟩ := id hg0
  have hF : CallFix p m c cX0_endOfToken 3 s args wsX0_endOfToken RX0 := ⟨hx, hb, hml, hown, hts⟩
  intro n
  induction n with
  | zero =>
    intro l2 l2' hf
    have hf := fX0_endOfToken_12_0.symm.trans hf
    cases hf
  | succ n ih =>
    intro l2 l2' hf H locs ls hP hD hS hl kx
    have hf := fX0_endOfToken_12_s.symm.trans hf
    refine lv_iload_n hx hb dX0_endOfToken_12 rfl (lv_at hl 1 rfl) ?_
    refine lv_aload_n hx hb dX0_endOfToken_13 rfl (lv_at hl 0 rfl) ?_
    refine va_get (D := (dC, dI)) (ci := 0) (v := .int o_length) (C := RX0) (T := TX0) (N := 6) hx hb hts uX0_endOfToken_X0 hown hK hP 0 rfl rfl 0 (by decide) (hts _ mX0_endOfToken_0) (fun _ h9 => h9) rfl dX0_endOfToken_14 ?_
    refine lv_icmp_ge (tgt := 64) hx hb dX0_endOfToken_17 (by decide) (fun c_1 => ?_) (fun c_1 => ?_)
    · have hf := pit hf c_1
      have q0 := Option.some.inj hf
      subst q0
      exact kx _ _ _ hP hD hS (lv_sub hl [1] rfl)
    · have hf := pif hf c_1
      refine lv_aload_n hx hb dX0_endOfToken_20 rfl (lv_at hl 0 rfl) ?_
      refine lv_iload_n hx hb dX0_endOfToken_21 rfl (lv_at hl 1 rfl) ?_
      obtain ⟨r_2, hc, hf⟩ := pb1 hf
      refine gCi (va_runV (As := [.int l2]) (rest := []) hF (kX0_isLetter l dC dI Z cC cI cZ cW a_o a_o_signs a_o_tokens a_o_starts _ o_length o_cuts o_current o_signs l2 N r_2 hc) (cwV 1 hts gX0_endOfToken_X0_isLetter rfl rfl rfl (by decide +kernel) ⟨Nat.le_of_ble_eq_true rfl, Nat.le_of_ble_eq_true rfl⟩) (gPV (wc := [(a_o, .inr (0, [.int o_length, .ref a_o_signs, .ref a_o_tokens, .ref a_o_starts, .int o_cuts, .int o_current])), (a_o_signs, .inl (cC, 400, .inl o_signs))]) hK hN hA hS hP hD [0, 1] rfl rfl (q0 := 0) (ci := 0) rfl rfl rfl) rfl rfl hl.1 rfl (lv_room (Nat.le_of_ble_eq_true rfl)) dX0_endOfToken_22 ⟨Nat.zero_le _, Nat.zero_le _⟩) hP hD hS hA [0, 1] rfl rfl rfl (fun H locs hP hD hS => ?_)
      have hP : va_P (dC, dI) vwCl [(a_o, .inr (0, [.int o_length, .ref a_o_signs, .ref a_o_tokens, .ref a_o_starts, .int o_cuts, .int o_current])), (a_o_signs, .inl (cC, 400, .inl o_signs))] H := hP
      have hD : va_D A [(a_o, .inr (0, [.int o_length, .ref a_o_signs, .ref a_o_tokens, .ref a_o_starts, .int o_cuts, .int o_current])), (a_o_signs, .inl (cC, 400, .inl o_signs))] := hD
      refine lv_if_eq (tgt := 64) hx hb dX0_endOfToken_25 (by decide) (fun c_3 => ?_) (fun c_3 => ?_)
      · have hf := pit hf c_3
        have q0 := Option.some.inj hf
        subst q0
        exact kx _ _ _ hP hD hS (lv_sub hl [1] rfl)
      · have hf := pif hf c_3
        refine lv_iinc (v := (l2 + 1)) (lv' := [(2, .int (l2 + 1)), (0, .ref a_o)]) hx hb dX0_endOfToken_28 hl (k := 1) rfl rfl (by decide) rfl (fun ls hl => ?_)
        refine lv_goto (tgt := 12) hx hb dX0_endOfToken_31 (by decide) ?_
        exact ih _ _ hf _ _ _ hP hD hS (lv_sub hl [1, 0] rfl) kx
set_option maxHeartbeats 4000000 in
set_option maxRecDepth 100000 in
theorem kX0_endOfToken (l : Launch) (dC : Nat → ClassId) (dI : Nat → Nat → Nat) (Z : gZ) (cC cI cZ cW : ClassId) (a_o a_o_signs a_o_tokens a_o_starts : Nat) (sz : Nat) (o_length : Int32) (o_cuts : Int32) (o_current : Int32) (o_signs : Nat → Int32) (i1 : Int32) (N : Nat) (r' : Int32) (hf : fX0_endOfToken N o_length o_signs  i1 = some r') : Met l yX0_endOfToken wsX0_endOfToken rmX0_endOfToken (va_Pc [.ref a_o, .int i1] (gB (dC, dI) Z [(cC, .char), (cI, .int), (cZ, .boolean), (cW, .object RX3)] [(a_o, .inr (0, [.int o_length, .ref a_o_signs, .ref a_o_tokens, .ref a_o_starts, .int o_cuts, .int o_current])), (a_o_signs, .inl (cC, 400, .inl o_signs))] sz)) (va_Qi (fun (r : Int32) (_ : Unit) => r = r') (gE (dC, dI) [(a_o, .inr (0, [.int o_length, .ref a_o_signs, .ref a_o_tokens, .ref a_o_starts, .int o_cuts, .int o_current])), (a_o_signs, .inl (cC, 400, .inl o_signs))]) (va_A [(a_o, .inr (0, [.int o_length, .ref a_o_signs, .ref a_o_tokens, .ref a_o_starts, .int o_cuts, .int o_current])), (a_o_signs, .inl (cC, 400, .inl o_signs))] sz)) 0 0 (va_A [(a_o, .inr (0, [.int o_length, .ref a_o_signs, .ref a_o_tokens, .ref a_o_starts, .int o_cuts, .int o_current])), (a_o_signs, .inl (cC, 400, .inl o_signs))] sz) := by
  refine gMet (cc := cX0_endOfToken) (maxL := 3) (ret := (some .int)) (Qc := fun A => va_Qi (fun (r : Int32) (_ : Unit) => r = r') (gE (dC, dI) [(a_o, .inr (0, [.int o_length, .ref a_o_signs, .ref a_o_tokens, .ref a_o_starts, .int o_cuts, .int o_current])), (a_o_signs, .inl (cC, 400, .inl o_signs))]) A) (by decide) rfl (Nat.le_of_ble_eq_true rfl) ?_
  intro p e s m below meth c A ls hg0 _ hsz hP hD hS hl
  have hg0 : gX p s m _ meth c cX0_endOfToken 3 (some .int) wsX0_endOfToken RX0 (dC, dI) Z [(cC, .char), (cI, .int), (cZ, .boolean), (cW, .object RX3)] A := hg0
  obtain ⟨hx, hb, hr, hml, hown, hts, hlocks, hA, hK, hN⟩ := id hg0
  subst hsz
  have hF : CallFix p m c cX0_endOfToken 3 s _ wsX0_endOfToken RX0 := ⟨hx, hb, hml, hown, hts⟩
  have hl : lv_has ls 3 [(0, .ref a_o), (1, .int i1)] := hl
  unfold fX0_endOfToken at hf
  refine lv_iload_n hx hb dX0_endOfToken_0 rfl (lv_at hl 1 rfl) ?_
  refine lv_iconst (v := (1 : Int32)) hx hb dX0_endOfToken_1 (by decide) ?_
  refine lv_iadd hx hb dX0_endOfToken_2 ?_
  refine lv_istore_n (lv' := [(2, .int (i1 + (1 : Int32))), (0, .ref a_o), (1, .int i1)]) hx hb dX0_endOfToken_3 rfl hl (by decide) rfl (fun ls hl => ?_)
  refine lv_aload_n hx hb dX0_endOfToken_4 rfl (lv_at hl 1 rfl) ?_
  refine lv_iload_n hx hb dX0_endOfToken_5 rfl (lv_at hl 2 rfl) ?_
  obtain ⟨r_1, hc, hf⟩ := pb1 hf
  refine gCi (va_runV (As := [.int i1]) (rest := []) hF (kX0_isLetter l dC dI Z cC cI cZ cW a_o a_o_signs a_o_tokens a_o_starts _ o_length o_cuts o_current o_signs i1 N r_1 hc) (cwV 1 hts gX0_endOfToken_X0_isLetter rfl rfl rfl (by decide +kernel) ⟨Nat.le_of_ble_eq_true rfl, Nat.le_of_ble_eq_true rfl⟩) (gPV (wc := [(a_o, .inr (0, [.int o_length, .ref a_o_signs, .ref a_o_tokens, .ref a_o_starts, .int o_cuts, .int o_current])), (a_o_signs, .inl (cC, 400, .inl o_signs))]) hK hN hA hS hP hD [0, 1] rfl rfl (q0 := 0) (ci := 0) rfl rfl rfl) rfl rfl hl.1 rfl (lv_room (Nat.le_of_ble_eq_true rfl)) dX0_endOfToken_6 ⟨Nat.zero_le _, Nat.zero_le _⟩) hP hD hS hA [0, 1] rfl rfl rfl (fun H locs hP hD hS => ?_)
  have hP : va_P (dC, dI) vwCl [(a_o, .inr (0, [.int o_length, .ref a_o_signs, .ref a_o_tokens, .ref a_o_starts, .int o_cuts, .int o_current])), (a_o_signs, .inl (cC, 400, .inl o_signs))] H := hP
  have hD : va_D A [(a_o, .inr (0, [.int o_length, .ref a_o_signs, .ref a_o_tokens, .ref a_o_starts, .int o_cuts, .int o_current])), (a_o_signs, .inl (cC, 400, .inl o_signs))] := hD
  refine lv_if_eq (tgt := 34) hx hb dX0_endOfToken_9 (by decide) (fun c_2 => ?_) (fun c_2 => ?_)
  · have hf := pit hf c_2
    refine lv_aload_n hx hb dX0_endOfToken_34 rfl (lv_at hl 1 rfl) ?_
    refine lv_iload_n hx hb dX0_endOfToken_35 rfl (lv_at hl 2 rfl) ?_
    obtain ⟨r_3, hc, hf⟩ := pb1 hf
    refine gCi (va_runV (As := [.int i1]) (rest := []) hF (kX0_isFigure l dC dI Z cC cI cZ cW a_o a_o_signs a_o_tokens a_o_starts _ o_length o_cuts o_current o_signs i1 N r_3 hc) (cwV 1 hts gX0_endOfToken_X0_isFigure rfl rfl rfl (by decide +kernel) ⟨Nat.le_of_ble_eq_true rfl, Nat.le_of_ble_eq_true rfl⟩) (gPV (wc := [(a_o, .inr (0, [.int o_length, .ref a_o_signs, .ref a_o_tokens, .ref a_o_starts, .int o_cuts, .int o_current])), (a_o_signs, .inl (cC, 400, .inl o_signs))]) hK hN hA hS hP hD [0, 1] rfl rfl (q0 := 0) (ci := 0) rfl rfl rfl) rfl rfl hl.1 rfl (lv_room (Nat.le_of_ble_eq_true rfl)) dX0_endOfToken_36 ⟨Nat.zero_le _, Nat.zero_le _⟩) hP hD hS hA [0, 1] rfl rfl rfl (fun H locs hP hD hS => ?_)
    have hP : va_P (dC, dI) vwCl [(a_o, .inr (0, [.int o_length, .ref a_o_signs, .ref a_o_tokens, .ref a_o_starts, .int o_cuts, .int o_current])), (a_o_signs, .inl (cC, 400, .inl o_signs))] H := hP
    have hD : va_D A [(a_o, .inr (0, [.int o_length, .ref a_o_signs, .ref a_o_tokens, .ref a_o_starts, .int o_cuts, .int o_current])), (a_o_signs, .inl (cC, 400, .inl o_signs))] := hD
    refine lv_if_eq (tgt := 64) hx hb dX0_endOfToken_39 (by decide) (fun c_4 => ?_) (fun c_4 => ?_)
    · have hf := pit hf c_4
      refine lv_iload_n hx hb dX0_endOfToken_64 rfl (lv_at hl 0 rfl) ?_
      have q0 := Option.some.inj hf
      subst q0
      exact gRi hx hb hr hlocks hP hS dX0_endOfToken_65
    · have hf := pif hf c_4
      obtain ⟨l2_5, hc, hf⟩ := pb1 hf
      refine wX0_endOfToken_42 hg0 a_o a_o_signs a_o_tokens a_o_starts o_length o_cuts o_current o_signs  N N (i1 + (1 : Int32)) l2_5 hc _ _ _ hP hD hS (lv_sub hl [1, 0] rfl) (fun H locs ls hP hD hS hl => ?_)
      refine lv_iload_n hx hb dX0_endOfToken_64 rfl (lv_at hl 0 rfl) ?_
      have q0 := Option.some.inj hf
      subst q0
      exact gRi hx hb hr hlocks hP hS dX0_endOfToken_65
  · have hf := pif hf c_2
    obtain ⟨l2_6, hc, hf⟩ := pb1 hf
    refine wX0_endOfToken_12 hg0 a_o a_o_signs a_o_tokens a_o_starts o_length o_cuts o_current o_signs  N N (i1 + (1 : Int32)) l2_6 hc _ _ _ hP hD hS (lv_sub hl [1, 0] rfl) (fun H locs ls hP hD hS hl => ?_)
    refine lv_iload_n hx hb dX0_endOfToken_64 rfl (lv_at hl 0 rfl) ?_
    have q0 := Option.some.inj hf
    subst q0
    exact gRi hx hb hr hlocks hP hS dX0_endOfToken_65
abbrev rmX0_numberOf : Room := { frames := 0, cells := 0, slots := 0, locals := 0 }
set_option maxRecDepth 20000 in
theorem uX0_numberOf_X0 : ∀ w ∈ wsX00, w ∈ wsX0_numberOf := by decide +kernel
set_option maxRecDepth 20000 in
theorem mX0_numberOf_0 : (Cond.fieldLink RX0 15 "TradeWheel$Text" "signs" "[C" : Cond) ∈ wsX0_numberOf := by decide +kernel
set_option maxHeartbeats 4000000 in
set_option maxRecDepth 100000 in
theorem kX0_numberOf (l : Launch) (dC : Nat → ClassId) (dI : Nat → Nat → Nat) (Z : gZ) (cC cI cZ cW : ClassId) (a_o a_o_signs a_o_tokens a_o_starts : Nat) (sz : Nat) (o_length : Int32) (o_cuts : Int32) (o_current : Int32) (o_signs : Nat → Int32) (i1 : Int32) (i2 : Int32) (N : Nat) (r' : Int32) (hf : fX0_numberOf N o_signs  i1 i2 = some r') : Met l yX0_numberOf wsX0_numberOf rmX0_numberOf (va_Pc [.ref a_o, .int i1, .int i2] (gB (dC, dI) Z [(cC, .char), (cI, .int), (cZ, .boolean), (cW, .object RX3)] [(a_o, .inr (0, [.int o_length, .ref a_o_signs, .ref a_o_tokens, .ref a_o_starts, .int o_cuts, .int o_current])), (a_o_signs, .inl (cC, 400, .inl o_signs))] sz)) (va_Qi (fun (r : Int32) (_ : Unit) => r = r') (gE (dC, dI) [(a_o, .inr (0, [.int o_length, .ref a_o_signs, .ref a_o_tokens, .ref a_o_starts, .int o_cuts, .int o_current])), (a_o_signs, .inl (cC, 400, .inl o_signs))]) (va_A [(a_o, .inr (0, [.int o_length, .ref a_o_signs, .ref a_o_tokens, .ref a_o_starts, .int o_cuts, .int o_current])), (a_o_signs, .inl (cC, 400, .inl o_signs))] sz)) 0 0 (va_A [(a_o, .inr (0, [.int o_length, .ref a_o_signs, .ref a_o_tokens, .ref a_o_starts, .int o_cuts, .int o_current])), (a_o_signs, .inl (cC, 400, .inl o_signs))] sz) := by
  refine gMet (cc := cX0_numberOf) (maxL := 3) (ret := (some .int)) (Qc := fun A => va_Qi (fun (r : Int32) (_ : Unit) => r = r') (gE (dC, dI) [(a_o, .inr (0, [.int o_length, .ref a_o_signs, .ref a_o_tokens, .ref a_o_starts, .int o_cuts, .int o_current])), (a_o_signs, .inl (cC, 400, .inl o_signs))]) A) (by decide) rfl (Nat.le_of_ble_eq_true rfl) ?_
  intro p e s m below meth c A ls hg0 _ hsz hP hD hS hl
  have hg0 : gX p s m _ meth c cX0_numberOf 3 (some .int) wsX0_numberOf RX0 (dC, dI) Z [(cC, .char), (cI, .int), (cZ, .boolean), (cW, .object RX3)] A := hg0
  obtain ⟨hx, hb, hr, hml, hown, hts, hlocks, hA, hK, hN⟩ := id hg0
  subst hsz
  have hF : CallFix p m c cX0_numberOf 3 s _ wsX0_numberOf RX0 := ⟨hx, hb, hml, hown, hts⟩
  have hl : lv_has ls 3 [(0, .ref a_o), (1, .int i1), (2, .int i2)] := hl
  unfold fX0_numberOf at hf
  refine lv_iload_n hx hb dX0_numberOf_0 rfl (lv_at hl 2 rfl) ?_
  refine lv_iload_n hx hb dX0_numberOf_1 rfl (lv_at hl 1 rfl) ?_
  refine lv_isub hx hb dX0_numberOf_2 ?_
  refine lv_iconst (v := (2 : Int32)) hx hb dX0_numberOf_3 (by decide) ?_
  refine lv_icmp_le (tgt := 10) hx hb dX0_numberOf_4 (by decide) (fun c_1 => ?_) (fun c_1 => ?_)
  · have hf := pit hf c_1
    refine lv_iload_n hx hb dX0_numberOf_10 rfl (lv_at hl 2 rfl) ?_
    refine lv_iload_n hx hb dX0_numberOf_11 rfl (lv_at hl 1 rfl) ?_
    refine lv_isub hx hb dX0_numberOf_12 ?_
    refine lv_iconst (v := (1 : Int32)) hx hb dX0_numberOf_13 (by decide) ?_
    refine lv_icmp_ne (tgt := 27) hx hb dX0_numberOf_14 (by decide) (fun c_2 => ?_) (fun c_2 => ?_)
    · have hf := pif hf c_2
      refine lv_aload_n hx hb dX0_numberOf_27 rfl (lv_at hl 0 rfl) ?_
      refine va_get (D := (dC, dI)) (ci := 0) (v := .ref a_o_signs) (C := RX0) (T := TX0) (N := 6) hx hb hts uX0_numberOf_X0 hown hK hP 0 rfl rfl 1 (by decide) (hts _ mX0_numberOf_0) (fun _ h9 => h9) rfl dX0_numberOf_28 ?_
      refine lv_iload_n hx hb dX0_numberOf_31 rfl (lv_at hl 1 rfl) ?_
      obtain ⟨h_3, hf⟩ := pgd hf
      refine va_cald hx hb hK hP 1 0 rfl rfl h_3 dX0_numberOf_32 ?_
      refine lv_bipush (v := (48 : Int32)) hx hb dX0_numberOf_33 (by decide) ?_
      refine lv_icmp_ne (tgt := 41) hx hb dX0_numberOf_35 (by decide) (fun c_4 => ?_) (fun c_4 => ?_)
      · have hf := pif hf c_4
        refine lv_bipush (v := (10 : Int32)) hx hb dX0_numberOf_41 (by decide) ?_
        refine lv_aload_n hx hb dX0_numberOf_43 rfl (lv_at hl 0 rfl) ?_
        refine va_get (D := (dC, dI)) (ci := 0) (v := .ref a_o_signs) (C := RX0) (T := TX0) (N := 6) hx hb hts uX0_numberOf_X0 hown hK hP 0 rfl rfl 1 (by decide) (hts _ mX0_numberOf_0) (fun _ h9 => h9) rfl dX0_numberOf_44 ?_
        refine lv_iload_n hx hb dX0_numberOf_47 rfl (lv_at hl 1 rfl) ?_
        obtain ⟨h_5, hf⟩ := pgd hf
        refine va_cald hx hb hK hP 1 0 rfl rfl h_5 dX0_numberOf_48 ?_
        refine lv_bipush (v := (48 : Int32)) hx hb dX0_numberOf_49 (by decide) ?_
        refine lv_isub hx hb dX0_numberOf_51 ?_
        refine lv_imul hx hb dX0_numberOf_52 ?_
        refine lv_aload_n hx hb dX0_numberOf_53 rfl (lv_at hl 0 rfl) ?_
        refine va_get (D := (dC, dI)) (ci := 0) (v := .ref a_o_signs) (C := RX0) (T := TX0) (N := 6) hx hb hts uX0_numberOf_X0 hown hK hP 0 rfl rfl 1 (by decide) (hts _ mX0_numberOf_0) (fun _ h9 => h9) rfl dX0_numberOf_54 ?_
        refine lv_iload_n hx hb dX0_numberOf_57 rfl (lv_at hl 1 rfl) ?_
        refine lv_iconst (v := (1 : Int32)) hx hb dX0_numberOf_58 (by decide) ?_
        refine lv_iadd hx hb dX0_numberOf_59 ?_
        obtain ⟨h_6, hf⟩ := pgd hf
        refine va_cald hx hb hK hP 1 0 rfl rfl h_6 dX0_numberOf_60 ?_
        refine lv_iadd hx hb dX0_numberOf_61 ?_
        refine lv_bipush (v := (48 : Int32)) hx hb dX0_numberOf_62 (by decide) ?_
        refine lv_isub hx hb dX0_numberOf_64 ?_
        have q0 := Option.some.inj hf
        subst q0
        exact gRi hx hb hr hlocks hP hS dX0_numberOf_65
      · have hf := pit hf c_4
        refine lv_bipush (v := (-3 : Int32)) hx hb dX0_numberOf_38 (by decide) ?_
        have q0 := Option.some.inj hf
        subst q0
        exact gRi hx hb hr hlocks hP hS dX0_numberOf_40
    · have hf := pit hf c_2
      refine lv_aload_n hx hb dX0_numberOf_17 rfl (lv_at hl 0 rfl) ?_
      refine va_get (D := (dC, dI)) (ci := 0) (v := .ref a_o_signs) (C := RX0) (T := TX0) (N := 6) hx hb hts uX0_numberOf_X0 hown hK hP 0 rfl rfl 1 (by decide) (hts _ mX0_numberOf_0) (fun _ h9 => h9) rfl dX0_numberOf_18 ?_
      refine lv_iload_n hx hb dX0_numberOf_21 rfl (lv_at hl 1 rfl) ?_
      obtain ⟨h_7, hf⟩ := pgd hf
      refine va_cald hx hb hK hP 1 0 rfl rfl h_7 dX0_numberOf_22 ?_
      refine lv_bipush (v := (48 : Int32)) hx hb dX0_numberOf_23 (by decide) ?_
      refine lv_isub hx hb dX0_numberOf_25 ?_
      have q0 := Option.some.inj hf
      subst q0
      exact gRi hx hb hr hlocks hP hS dX0_numberOf_26
  · have hf := pif hf c_1
    refine lv_bipush (v := (-3 : Int32)) hx hb dX0_numberOf_7 (by decide) ?_
    have q0 := Option.some.inj hf
    subst q0
    exact gRi hx hb hr hlocks hP hS dX0_numberOf_9
abbrev rmX0_tokenOf : Room := { frames := 6, cells := 0, slots := 0, locals := 172 }
set_option maxRecDepth 20000 in
theorem uX0_tokenOf_X0 : ∀ w ∈ wsX00, w ∈ wsX0_tokenOf := by decide +kernel
set_option maxRecDepth 20000 in
theorem mX0_tokenOf_0 : (Cond.fieldLink RX0 15 "TradeWheel$Text" "signs" "[C" : Cond) ∈ wsX0_tokenOf := by decide +kernel
set_option maxHeartbeats 4000000 in
set_option maxRecDepth 100000 in
theorem kX0_tokenOf (l : Launch) (dC : Nat → ClassId) (dI : Nat → Nat → Nat) (Z : gZ) (cC cI cZ cW : ClassId) (a_o a_o_signs a_o_tokens a_o_starts : Nat) (sz : Nat) (o_length : Int32) (o_cuts : Int32) (o_current : Int32) (o_signs : Nat → Int32) (i1 : Int32) (i2 : Int32) (N : Nat) (r' : Int32) (hf : fX0_tokenOf N o_signs  i1 i2 = some r') : Met l yX0_tokenOf wsX0_tokenOf rmX0_tokenOf (va_Pc [.ref a_o, .int i1, .int i2] (gB (dC, dI) Z [(cC, .char), (cI, .int), (cZ, .boolean), (cW, .object RX3)] [(a_o, .inr (0, [.int o_length, .ref a_o_signs, .ref a_o_tokens, .ref a_o_starts, .int o_cuts, .int o_current])), (a_o_signs, .inl (cC, 400, .inl o_signs))] sz)) (va_Qi (fun (r : Int32) (_ : Unit) => r = r') (gE (dC, dI) [(a_o, .inr (0, [.int o_length, .ref a_o_signs, .ref a_o_tokens, .ref a_o_starts, .int o_cuts, .int o_current])), (a_o_signs, .inl (cC, 400, .inl o_signs))]) (va_A [(a_o, .inr (0, [.int o_length, .ref a_o_signs, .ref a_o_tokens, .ref a_o_starts, .int o_cuts, .int o_current])), (a_o_signs, .inl (cC, 400, .inl o_signs))] sz)) 0 0 (va_A [(a_o, .inr (0, [.int o_length, .ref a_o_signs, .ref a_o_tokens, .ref a_o_starts, .int o_cuts, .int o_current])), (a_o_signs, .inl (cC, 400, .inl o_signs))] sz) := by
  refine gMet (cc := cX0_tokenOf) (maxL := 3) (ret := (some .int)) (Qc := fun A => va_Qi (fun (r : Int32) (_ : Unit) => r = r') (gE (dC, dI) [(a_o, .inr (0, [.int o_length, .ref a_o_signs, .ref a_o_tokens, .ref a_o_starts, .int o_cuts, .int o_current])), (a_o_signs, .inl (cC, 400, .inl o_signs))]) A) (by decide) rfl (Nat.le_of_ble_eq_true rfl) ?_
  intro p e s m below meth c A ls hg0 _ hsz hP hD hS hl
  have hg0 : gX p s m _ meth c cX0_tokenOf 3 (some .int) wsX0_tokenOf RX0 (dC, dI) Z [(cC, .char), (cI, .int), (cZ, .boolean), (cW, .object RX3)] A := hg0
  obtain ⟨hx, hb, hr, hml, hown, hts, hlocks, hA, hK, hN⟩ := id hg0
  subst hsz
  have hF : CallFix p m c cX0_tokenOf 3 s _ wsX0_tokenOf RX0 := ⟨hx, hb, hml, hown, hts⟩
  have hl : lv_has ls 3 [(0, .ref a_o), (1, .int i1), (2, .int i2)] := hl
  unfold fX0_tokenOf at hf
  refine lv_aload_n hx hb dX0_tokenOf_0 rfl (lv_at hl 0 rfl) ?_
  refine lv_iload_n hx hb dX0_tokenOf_1 rfl (lv_at hl 1 rfl) ?_
  obtain ⟨r_1, hc, hf⟩ := pb1 hf
  refine gCi (va_runV (As := [.int i1]) (rest := []) hF (kX0_isLetter l dC dI Z cC cI cZ cW a_o a_o_signs a_o_tokens a_o_starts _ o_length o_cuts o_current o_signs i1 N r_1 hc) (cwV 1 hts gX0_tokenOf_X0_isLetter rfl rfl rfl (by decide +kernel) ⟨Nat.le_of_ble_eq_true rfl, Nat.le_of_ble_eq_true rfl⟩) (gPV (wc := [(a_o, .inr (0, [.int o_length, .ref a_o_signs, .ref a_o_tokens, .ref a_o_starts, .int o_cuts, .int o_current])), (a_o_signs, .inl (cC, 400, .inl o_signs))]) hK hN hA hS hP hD [0, 1] rfl rfl (q0 := 0) (ci := 0) rfl rfl rfl) rfl rfl hl.1 rfl (lv_room (Nat.le_of_ble_eq_true rfl)) dX0_tokenOf_2 ⟨Nat.zero_le _, Nat.zero_le _⟩) hP hD hS hA [0, 1] rfl rfl rfl (fun H locs hP hD hS => ?_)
  have hP : va_P (dC, dI) vwCl [(a_o, .inr (0, [.int o_length, .ref a_o_signs, .ref a_o_tokens, .ref a_o_starts, .int o_cuts, .int o_current])), (a_o_signs, .inl (cC, 400, .inl o_signs))] H := hP
  have hD : va_D A [(a_o, .inr (0, [.int o_length, .ref a_o_signs, .ref a_o_tokens, .ref a_o_starts, .int o_cuts, .int o_current])), (a_o_signs, .inl (cC, 400, .inl o_signs))] := hD
  refine lv_if_eq (tgt := 15) hx hb dX0_tokenOf_5 (by decide) (fun c_2 => ?_) (fun c_2 => ?_)
  · have hf := pit hf c_2
    refine lv_aload_n hx hb dX0_tokenOf_15 rfl (lv_at hl 0 rfl) ?_
    refine lv_iload_n hx hb dX0_tokenOf_16 rfl (lv_at hl 1 rfl) ?_
    obtain ⟨r_3, hc, hf⟩ := pb1 hf
    refine gCi (va_runV (As := [.int i1]) (rest := []) hF (kX0_isFigure l dC dI Z cC cI cZ cW a_o a_o_signs a_o_tokens a_o_starts _ o_length o_cuts o_current o_signs i1 N r_3 hc) (cwV 1 hts gX0_tokenOf_X0_isFigure rfl rfl rfl (by decide +kernel) ⟨Nat.le_of_ble_eq_true rfl, Nat.le_of_ble_eq_true rfl⟩) (gPV (wc := [(a_o, .inr (0, [.int o_length, .ref a_o_signs, .ref a_o_tokens, .ref a_o_starts, .int o_cuts, .int o_current])), (a_o_signs, .inl (cC, 400, .inl o_signs))]) hK hN hA hS hP hD [0, 1] rfl rfl (q0 := 0) (ci := 0) rfl rfl rfl) rfl rfl hl.1 rfl (lv_room (Nat.le_of_ble_eq_true rfl)) dX0_tokenOf_17 ⟨Nat.zero_le _, Nat.zero_le _⟩) hP hD hS hA [0, 1] rfl rfl rfl (fun H locs hP hD hS => ?_)
    have hP : va_P (dC, dI) vwCl [(a_o, .inr (0, [.int o_length, .ref a_o_signs, .ref a_o_tokens, .ref a_o_starts, .int o_cuts, .int o_current])), (a_o_signs, .inl (cC, 400, .inl o_signs))] H := hP
    have hD : va_D A [(a_o, .inr (0, [.int o_length, .ref a_o_signs, .ref a_o_tokens, .ref a_o_starts, .int o_cuts, .int o_current])), (a_o_signs, .inl (cC, 400, .inl o_signs))] := hD
    refine lv_if_eq (tgt := 30) hx hb dX0_tokenOf_20 (by decide) (fun c_4 => ?_) (fun c_4 => ?_)
    · have hf := pit hf c_4
      refine lv_aload_n hx hb dX0_tokenOf_30 rfl (lv_at hl 0 rfl) ?_
      refine va_get (D := (dC, dI)) (ci := 0) (v := .ref a_o_signs) (C := RX0) (T := TX0) (N := 6) hx hb hts uX0_tokenOf_X0 hown hK hP 0 rfl rfl 1 (by decide) (hts _ mX0_tokenOf_0) (fun _ h9 => h9) rfl dX0_tokenOf_31 ?_
      refine lv_iload_n hx hb dX0_tokenOf_34 rfl (lv_at hl 1 rfl) ?_
      obtain ⟨h_5, hf⟩ := pgd hf
      refine va_cald hx hb hK hP 1 0 rfl rfl h_5 dX0_tokenOf_35 ?_
      refine lv_bipush (v := (59 : Int32)) hx hb dX0_tokenOf_36 (by decide) ?_
      refine lv_icmp_ne (tgt := 46) hx hb dX0_tokenOf_38 (by decide) (fun c_6 => ?_) (fun c_6 => ?_)
      · have hf := pif hf c_6
        refine lv_bipush (v := (-3 : Int32)) hx hb dX0_tokenOf_46 (by decide) ?_
        have q0 := Option.some.inj hf
        subst q0
        exact gRi hx hb hr hlocks hP hS dX0_tokenOf_48
      · have hf := pit hf c_6
        refine lv_bipush (v := (-2 : Int32)) hx hb dX0_tokenOf_41 (by decide) ?_
        refine lv_goto (tgt := 48) hx hb dX0_tokenOf_43 (by decide) ?_
        have q0 := Option.some.inj hf
        subst q0
        exact gRi hx hb hr hlocks hP hS dX0_tokenOf_48
    · have hf := pif hf c_4
      refine lv_aload_n hx hb dX0_tokenOf_23 rfl (lv_at hl 0 rfl) ?_
      refine lv_iload_n hx hb dX0_tokenOf_24 rfl (lv_at hl 1 rfl) ?_
      refine lv_iload_n hx hb dX0_tokenOf_25 rfl (lv_at hl 2 rfl) ?_
      obtain ⟨r_7, hc, hf⟩ := pb1 hf
      refine gCi (va_runV (As := [.int i1, .int i2]) (rest := []) hF (kX0_numberOf l dC dI Z cC cI cZ cW a_o a_o_signs a_o_tokens a_o_starts _ o_length o_cuts o_current o_signs i1 i2 N r_7 hc) (cwV 2 hts gX0_tokenOf_X0_numberOf rfl rfl rfl (by decide +kernel) ⟨Nat.le_of_ble_eq_true rfl, Nat.le_of_ble_eq_true rfl⟩) (gPV (wc := [(a_o, .inr (0, [.int o_length, .ref a_o_signs, .ref a_o_tokens, .ref a_o_starts, .int o_cuts, .int o_current])), (a_o_signs, .inl (cC, 400, .inl o_signs))]) hK hN hA hS hP hD [0, 1] rfl rfl (q0 := 0) (ci := 0) rfl rfl rfl) rfl rfl hl.1 rfl (lv_room (Nat.le_of_ble_eq_true rfl)) dX0_tokenOf_26 ⟨Nat.zero_le _, Nat.zero_le _⟩) hP hD hS hA [0, 1] rfl rfl rfl (fun H locs hP hD hS => ?_)
      have hP : va_P (dC, dI) vwCl [(a_o, .inr (0, [.int o_length, .ref a_o_signs, .ref a_o_tokens, .ref a_o_starts, .int o_cuts, .int o_current])), (a_o_signs, .inl (cC, 400, .inl o_signs))] H := hP
      have hD : va_D A [(a_o, .inr (0, [.int o_length, .ref a_o_signs, .ref a_o_tokens, .ref a_o_starts, .int o_cuts, .int o_current])), (a_o_signs, .inl (cC, 400, .inl o_signs))] := hD
      have q0 := Option.some.inj hf
      subst q0
      exact gRi hx hb hr hlocks hP hS dX0_tokenOf_29
  · have hf := pif hf c_2
    refine lv_aload_n hx hb dX0_tokenOf_8 rfl (lv_at hl 0 rfl) ?_
    refine lv_iload_n hx hb dX0_tokenOf_9 rfl (lv_at hl 1 rfl) ?_
    refine lv_iload_n hx hb dX0_tokenOf_10 rfl (lv_at hl 2 rfl) ?_
    obtain ⟨r_8, hc, hf⟩ := pb1 hf
    refine gCi (va_runV (As := [.int i1, .int i2]) (rest := []) hF (kX0_wordOf l dC dI Z cC cI cZ cW a_o a_o_signs a_o_tokens a_o_starts _ o_length o_cuts o_current o_signs i1 i2 N r_8 hc) (cwV 2 hts gX0_tokenOf_X0_wordOf rfl rfl rfl (by decide +kernel) ⟨Nat.le_of_ble_eq_true rfl, Nat.le_of_ble_eq_true rfl⟩) (gPV (wc := [(a_o, .inr (0, [.int o_length, .ref a_o_signs, .ref a_o_tokens, .ref a_o_starts, .int o_cuts, .int o_current])), (a_o_signs, .inl (cC, 400, .inl o_signs))]) hK hN hA hS hP hD [0, 1] rfl rfl (q0 := 0) (ci := 0) rfl rfl rfl) rfl rfl hl.1 rfl (lv_room (Nat.le_of_ble_eq_true rfl)) dX0_tokenOf_11 ⟨Nat.zero_le _, Nat.zero_le _⟩) hP hD hS hA [0, 1] rfl rfl rfl (fun H locs hP hD hS => ?_)
    have hP : va_P (dC, dI) vwCl [(a_o, .inr (0, [.int o_length, .ref a_o_signs, .ref a_o_tokens, .ref a_o_starts, .int o_cuts, .int o_current])), (a_o_signs, .inl (cC, 400, .inl o_signs))] H := hP
    have hD : va_D A [(a_o, .inr (0, [.int o_length, .ref a_o_signs, .ref a_o_tokens, .ref a_o_starts, .int o_cuts, .int o_current])), (a_o_signs, .inl (cC, 400, .inl o_signs))] := hD
    have q0 := Option.some.inj hf
    subst q0
    exact gRi hx hb hr hlocks hP hS dX0_tokenOf_14
abbrev rmX0_cut : Room := { frames := 7, cells := 0, slots := 0, locals := 194 }
set_option maxRecDepth 20000 in
theorem uX0_cut_X0 : ∀ w ∈ wsX00, w ∈ wsX0_cut := by decide +kernel
set_option maxRecDepth 20000 in
theorem mX0_cut_0 : (Cond.fieldLink RX0 26 "TradeWheel$Text" "cuts" "I" : Cond) ∈ wsX0_cut := by decide +kernel
set_option maxRecDepth 20000 in
theorem mX0_cut_1 : (Cond.fieldLink RX0 29 "TradeWheel$Text" "current" "I" : Cond) ∈ wsX0_cut := by decide +kernel
set_option maxRecDepth 20000 in
theorem mX0_cut_2 : (Cond.fieldLink RX0 9 "TradeWheel$Text" "length" "I" : Cond) ∈ wsX0_cut := by decide +kernel
set_option maxRecDepth 20000 in
theorem mX0_cut_3 : (Cond.fieldLink RX0 15 "TradeWheel$Text" "signs" "[C" : Cond) ∈ wsX0_cut := by decide +kernel
set_option maxHeartbeats 4000000 in
set_option maxRecDepth 100000 in
theorem wX0_cut_14 {p : Program} {l : Launch} {e : Env} {s : State} {m : MethodId} {args : Array Value} {below : List Frame} {meth : Method} {c : Code} {Q : State → Prop} {A : Nat → Prop} {dC : Nat → ClassId} {dI : Nat → Nat → Nat} {Z : gZ} {cC cI cZ cW : ClassId} (hg0 : gX p s m args meth c cX0_cut 3 none wsX0_cut RX0 (dC, dI) Z [(cC, .char), (cI, .int), (cZ, .boolean), (cW, .object RX3)] A) (a_o a_o_signs a_o_tokens a_o_starts : Nat) (o_length : Int32) (o_current : Int32) (o_signs : Nat → Int32)  (N : Nat) : ∀ (n : Nat) (o_cuts : Int32) (o_tokens : Nat → Int32) (o_starts : Nat → Int32) (l1 : Int32) (l2 : Int32) (o_cuts' : Int32) (o_tokens' : Nat → Int32) (o_starts' : Nat → Int32) (l1' : Int32) (l2' : Int32), fX0_cut_14 N o_length o_signs n o_cuts o_tokens o_starts l1 l2 = some (o_cuts', o_tokens', o_starts', l1', l2') → ∀ (H : Heap) (locs : List Loc) (ls : Array Slot), va_P (dC, dI) vwCl [(a_o, .inr (0, [.int o_length, .ref a_o_signs, .ref a_o_tokens, .ref a_o_starts, .int o_cuts, .int o_current])), (a_o_signs, .inl (cC, 400, .inl o_signs)), (a_o_tokens, .inl (cI, 401, .inl o_tokens)), (a_o_starts, .inl (cI, 401, .inl o_starts))] H → va_D A [(a_o, .inr (0, [.int o_length, .ref a_o_signs, .ref a_o_tokens, .ref a_o_starts, .int o_cuts, .int o_current])), (a_o_signs, .inl (cC, 400, .inl o_signs)), (a_o_tokens, .inl (cI, 401, .inl o_tokens)), (a_o_starts, .inl (cI, 401, .inl o_starts))] → va_S A s.heap H locs → lv_has ls 3 [(0, .ref a_o), (1, .int l1), (2, .int l2)] → (∀ (H : Heap) (locs : List Loc) (ls : Array Slot), va_P (dC, dI) vwCl [(a_o, .inr (0, [.int o_length, .ref a_o_signs, .ref a_o_tokens, .ref a_o_starts, .int o_cuts', .int o_current])), (a_o_signs, .inl (cC, 400, .inl o_signs)), (a_o_tokens, .inl (cI, 401, .inl o_tokens')), (a_o_starts, .inl (cI, 401, .inl o_starts'))] H → va_D A [(a_o, .inr (0, [.int o_length, .ref a_o_signs, .ref a_o_tokens, .ref a_o_starts, .int o_cuts', .int o_current])), (a_o_signs, .inl (cC, 400, .inl o_signs)), (a_o_tokens, .inl (cI, 401, .inl o_tokens')), (a_o_starts, .inl (cI, 401, .inl o_starts'))] → va_S A s.heap H locs → lv_has ls 3 [(0, .ref a_o)] → W p l e (headSpec wsX0_cut rmX0_cut).room s m args below meth c H locs 0 0 Q (F0 m 64 ls [])) → W p l e (headSpec wsX0_cut rmX0_cut).room s m args below meth c H locs 0 0 Q (F0 m 14 ls []) := by
  obtain ⟨hx, hb, hr, hml, hown, hts, hlocks, hA, hK, hN⟩ := id hg0
  have hF : CallFix p m c cX0_cut 3 s args wsX0_cut RX0 := ⟨hx, hb, hml, hown, hts⟩
  intro n
  induction n with
  | zero =>
    intro o_cuts o_tokens o_starts l1 l2 o_cuts' o_tokens' o_starts' l1' l2' hf
    have hf := fX0_cut_14_0.symm.trans hf
    cases hf
  | succ n ih =>
    intro o_cuts o_tokens o_starts l1 l2 o_cuts' o_tokens' o_starts' l1' l2' hf H locs ls hP hD hS hl kx
    have hf := fX0_cut_14_s.symm.trans hf
    refine lv_iload_n hx hb dX0_cut_14 rfl (lv_at hl 2 rfl) ?_
    refine lv_aload_n hx hb dX0_cut_15 rfl (lv_at hl 0 rfl) ?_
    refine va_get (D := (dC, dI)) (ci := 0) (v := .int o_length) (C := RX0) (T := TX0) (N := 6) hx hb hts uX0_cut_X0 hown hK hP 0 rfl rfl 0 (by decide) (hts _ mX0_cut_2) (fun _ h9 => h9) rfl dX0_cut_16 ?_
    refine lv_icmp_ge (tgt := 64) hx hb dX0_cut_19 (by decide) (fun c_1 => ?_) (fun c_1 => ?_)
    · have hf := pit hf c_1
      have q0 := Option.some.inj hf
      obtain ⟨e0, q1⟩ := Prod.mk.inj q0
      obtain ⟨e1, q2⟩ := Prod.mk.inj q1
      obtain ⟨e2, q3⟩ := Prod.mk.inj q2
      obtain ⟨e3, q4⟩ := Prod.mk.inj q3
      subst e0
      subst e1
      subst e2
      subst e3
      subst q4
      exact kx _ _ _ hP hD hS (lv_sub hl [0] rfl)
    · have hf := pif hf c_1
      refine lv_iload_n hx hb dX0_cut_22 rfl (lv_at hl 2 rfl) ?_
      refine lv_iload_n hx hb dX0_cut_23 rfl (lv_at hl 1 rfl) ?_
      refine lv_icmp_lt (tgt := 58) hx hb dX0_cut_24 (by decide) (fun c_2 => ?_) (fun c_2 => ?_)
      · have hf := pit hf c_2
        refine lv_iinc (v := (l2 + 1)) (lv' := [(2, .int (l2 + 1)), (0, .ref a_o), (1, .int l1)]) hx hb dX0_cut_58 hl (k := 2) rfl rfl (by decide) rfl (fun ls hl => ?_)
        refine lv_goto (tgt := 14) hx hb dX0_cut_61 (by decide) ?_
        exact ih _ _ _ _ _ _ _ _ _ _ hf _ _ _ hP hD hS (lv_sub hl [1, 2, 0] rfl) kx
      · have hf := pif hf c_2
        refine lv_aload_n hx hb dX0_cut_27 rfl (lv_at hl 0 rfl) ?_
        refine va_get (D := (dC, dI)) (ci := 0) (v := .ref a_o_signs) (C := RX0) (T := TX0) (N := 6) hx hb hts uX0_cut_X0 hown hK hP 0 rfl rfl 1 (by decide) (hts _ mX0_cut_3) (fun _ h9 => h9) rfl dX0_cut_28 ?_
        refine lv_iload_n hx hb dX0_cut_31 rfl (lv_at hl 2 rfl) ?_
        obtain ⟨h_3, hf⟩ := pgd hf
        refine va_cald hx hb hK hP 1 0 rfl rfl h_3 dX0_cut_32 ?_
        refine lv_bipush (v := (32 : Int32)) hx hb dX0_cut_33 (by decide) ?_
        refine lv_icmp_ne (tgt := 41) hx hb dX0_cut_35 (by decide) (fun c_4 => ?_) (fun c_4 => ?_)
        · have hf := pif hf c_4
          refine lv_aload_n hx hb dX0_cut_41 rfl (lv_at hl 0 rfl) ?_
          refine lv_iload_n hx hb dX0_cut_42 rfl (lv_at hl 2 rfl) ?_
          obtain ⟨r_5, hc, hf⟩ := pb1 hf
          refine gCi (va_runV (As := [.int l2]) (rest := []) hF (kX0_endOfToken l dC dI Z cC cI cZ cW a_o a_o_signs a_o_tokens a_o_starts _ o_length o_cuts o_current o_signs l2 N r_5 hc) (cwV 1 hts gX0_cut_X0_endOfToken rfl rfl rfl (by decide +kernel) ⟨Nat.le_of_ble_eq_true rfl, Nat.le_of_ble_eq_true rfl⟩) (gPV (wc := [(a_o, .inr (0, [.int o_length, .ref a_o_signs, .ref a_o_tokens, .ref a_o_starts, .int o_cuts, .int o_current])), (a_o_signs, .inl (cC, 400, .inl o_signs))]) hK hN hA hS hP hD [0, 1] rfl rfl (q0 := 0) (ci := 0) rfl rfl rfl) rfl rfl hl.1 rfl (lv_room (Nat.le_of_ble_eq_true rfl)) dX0_cut_43 ⟨Nat.zero_le _, Nat.zero_le _⟩) hP hD hS hA [0, 1] rfl rfl rfl (fun H locs hP hD hS => ?_)
          have hP : va_P (dC, dI) vwCl [(a_o, .inr (0, [.int o_length, .ref a_o_signs, .ref a_o_tokens, .ref a_o_starts, .int o_cuts, .int o_current])), (a_o_signs, .inl (cC, 400, .inl o_signs)), (a_o_tokens, .inl (cI, 401, .inl o_tokens)), (a_o_starts, .inl (cI, 401, .inl o_starts))] H := hP
          have hD : va_D A [(a_o, .inr (0, [.int o_length, .ref a_o_signs, .ref a_o_tokens, .ref a_o_starts, .int o_cuts, .int o_current])), (a_o_signs, .inl (cC, 400, .inl o_signs)), (a_o_tokens, .inl (cI, 401, .inl o_tokens)), (a_o_starts, .inl (cI, 401, .inl o_starts))] := hD
          refine lv_istore_n (lv' := [(1, .int r_5), (0, .ref a_o), (2, .int l2)]) hx hb dX0_cut_46 rfl hl (by decide) rfl (fun ls hl => ?_)
          refine lv_aload_n hx hb dX0_cut_47 rfl (lv_at hl 1 rfl) ?_
          refine lv_aload_n hx hb dX0_cut_48 rfl (lv_at hl 1 rfl) ?_
          refine lv_iload_n hx hb dX0_cut_49 rfl (lv_at hl 2 rfl) ?_
          refine lv_iload_n hx hb dX0_cut_50 rfl (lv_at hl 0 rfl) ?_
          obtain ⟨r_6, hc, hf⟩ := pb1 hf
          refine gCi (va_runV (As := [.int l2, .int r_5]) (rest := [.ref a_o]) hF (kX0_tokenOf l dC dI Z cC cI cZ cW a_o a_o_signs a_o_tokens a_o_starts _ o_length o_cuts o_current o_signs l2 r_5 N r_6 hc) (cwV 2 hts gX0_cut_X0_tokenOf rfl rfl rfl (by decide +kernel) ⟨Nat.le_of_ble_eq_true rfl, Nat.le_of_ble_eq_true rfl⟩) (gPV (wc := [(a_o, .inr (0, [.int o_length, .ref a_o_signs, .ref a_o_tokens, .ref a_o_starts, .int o_cuts, .int o_current])), (a_o_signs, .inl (cC, 400, .inl o_signs))]) hK hN hA hS hP hD [0, 1] rfl rfl (q0 := 0) (ci := 0) rfl rfl rfl) rfl rfl hl.1 rfl (lv_room (Nat.le_of_ble_eq_true rfl)) dX0_cut_51 ⟨Nat.zero_le _, Nat.zero_le _⟩) hP hD hS hA [0, 1] rfl rfl rfl (fun H locs hP hD hS => ?_)
          have hP : va_P (dC, dI) vwCl [(a_o, .inr (0, [.int o_length, .ref a_o_signs, .ref a_o_tokens, .ref a_o_starts, .int o_cuts, .int o_current])), (a_o_signs, .inl (cC, 400, .inl o_signs)), (a_o_tokens, .inl (cI, 401, .inl o_tokens)), (a_o_starts, .inl (cI, 401, .inl o_starts))] H := hP
          have hD : va_D A [(a_o, .inr (0, [.int o_length, .ref a_o_signs, .ref a_o_tokens, .ref a_o_starts, .int o_cuts, .int o_current])), (a_o_signs, .inl (cC, 400, .inl o_signs)), (a_o_tokens, .inl (cI, 401, .inl o_tokens)), (a_o_starts, .inl (cI, 401, .inl o_starts))] := hD
          refine lv_iload_n hx hb dX0_cut_54 rfl (lv_at hl 2 rfl) ?_
          obtain ⟨o_cuts_7, o_tokens_8, o_starts_9, hc, hf⟩ := pb3 hf
          refine gCv (va_runV (As := [.int r_6, .int l2]) (rest := []) hF (kX0_addToken l dC dI Z cC cI cZ cW a_o a_o_signs a_o_tokens a_o_starts _ o_length o_cuts o_current o_tokens o_starts r_6 l2 N o_cuts_7 o_tokens_8 o_starts_9 hc) (cwV 2 hts gX0_cut_X0_addToken rfl rfl rfl (by decide +kernel) ⟨Nat.le_of_ble_eq_true rfl, Nat.le_of_ble_eq_true rfl⟩) (gPV (wc := [(a_o, .inr (0, [.int o_length, .ref a_o_signs, .ref a_o_tokens, .ref a_o_starts, .int o_cuts, .int o_current])), (a_o_tokens, .inl (cI, 401, .inl o_tokens)), (a_o_starts, .inl (cI, 401, .inl o_starts))]) hK hN hA hS hP hD [0, 2, 3] rfl rfl (q0 := 0) (ci := 0) rfl rfl rfl) rfl rfl hl.1 rfl (lv_room (Nat.le_of_ble_eq_true rfl)) dX0_cut_55 ⟨Nat.zero_le _, Nat.zero_le _⟩) hP hD hS hA [0, 2, 3] rfl rfl rfl (fun H locs hP hD hS => ?_)
          have hP : va_P (dC, dI) vwCl [(a_o, .inr (0, [.int o_length, .ref a_o_signs, .ref a_o_tokens, .ref a_o_starts, .int o_cuts_7, .int o_current])), (a_o_signs, .inl (cC, 400, .inl o_signs)), (a_o_tokens, .inl (cI, 401, .inl o_tokens_8)), (a_o_starts, .inl (cI, 401, .inl o_starts_9))] H := hP
          have hD : va_D A [(a_o, .inr (0, [.int o_length, .ref a_o_signs, .ref a_o_tokens, .ref a_o_starts, .int o_cuts_7, .int o_current])), (a_o_signs, .inl (cC, 400, .inl o_signs)), (a_o_tokens, .inl (cI, 401, .inl o_tokens_8)), (a_o_starts, .inl (cI, 401, .inl o_starts_9))] := hD
          refine lv_iinc (v := (l2 + 1)) (lv' := [(2, .int (l2 + 1)), (1, .int r_5), (0, .ref a_o)]) hx hb dX0_cut_58 hl (k := 2) rfl rfl (by decide) rfl (fun ls hl => ?_)
          refine lv_goto (tgt := 14) hx hb dX0_cut_61 (by decide) ?_
          exact ih _ _ _ _ _ _ _ _ _ _ hf _ _ _ hP hD hS (lv_sub hl [2, 1, 0] rfl) kx
        · have hf := pit hf c_4
          refine lv_goto (tgt := 58) hx hb dX0_cut_38 (by decide) ?_
          refine lv_iinc (v := (l2 + 1)) (lv' := [(2, .int (l2 + 1)), (0, .ref a_o), (1, .int l1)]) hx hb dX0_cut_58 hl (k := 2) rfl rfl (by decide) rfl (fun ls hl => ?_)
          refine lv_goto (tgt := 14) hx hb dX0_cut_61 (by decide) ?_
          exact ih _ _ _ _ _ _ _ _ _ _ hf _ _ _ hP hD hS (lv_sub hl [1, 2, 0] rfl) kx
set_option maxHeartbeats 4000000 in
set_option maxRecDepth 100000 in
theorem kX0_cut (l : Launch) (dC : Nat → ClassId) (dI : Nat → Nat → Nat) (Z : gZ) (cC cI cZ cW : ClassId) (a_o a_o_signs a_o_tokens a_o_starts : Nat) (sz : Nat) (o_length : Int32) (o_cuts : Int32) (o_current : Int32) (o_signs : Nat → Int32) (o_tokens : Nat → Int32) (o_starts : Nat → Int32)  (N : Nat) (o_cuts' : Int32) (o_current' : Int32) (o_tokens' : Nat → Int32) (o_starts' : Nat → Int32) (hf : fX0_cut N o_length o_cuts o_current o_signs o_tokens o_starts   = some (o_cuts', o_current', o_tokens', o_starts')) : Met l yX0_cut wsX0_cut rmX0_cut (va_Pc [.ref a_o] (gB (dC, dI) Z [(cC, .char), (cI, .int), (cZ, .boolean), (cW, .object RX3)] [(a_o, .inr (0, [.int o_length, .ref a_o_signs, .ref a_o_tokens, .ref a_o_starts, .int o_cuts, .int o_current])), (a_o_signs, .inl (cC, 400, .inl o_signs)), (a_o_tokens, .inl (cI, 401, .inl o_tokens)), (a_o_starts, .inl (cI, 401, .inl o_starts))] sz)) (va_Qv (fun (_ : Unit) => True) (gE (dC, dI) [(a_o, .inr (0, [.int o_length, .ref a_o_signs, .ref a_o_tokens, .ref a_o_starts, .int o_cuts', .int o_current'])), (a_o_signs, .inl (cC, 400, .inl o_signs)), (a_o_tokens, .inl (cI, 401, .inl o_tokens')), (a_o_starts, .inl (cI, 401, .inl o_starts'))]) (va_A [(a_o, .inr (0, [.int o_length, .ref a_o_signs, .ref a_o_tokens, .ref a_o_starts, .int o_cuts, .int o_current])), (a_o_signs, .inl (cC, 400, .inl o_signs)), (a_o_tokens, .inl (cI, 401, .inl o_tokens)), (a_o_starts, .inl (cI, 401, .inl o_starts))] sz)) 0 0 (va_A [(a_o, .inr (0, [.int o_length, .ref a_o_signs, .ref a_o_tokens, .ref a_o_starts, .int o_cuts, .int o_current])), (a_o_signs, .inl (cC, 400, .inl o_signs)), (a_o_tokens, .inl (cI, 401, .inl o_tokens)), (a_o_starts, .inl (cI, 401, .inl o_starts))] sz) := by
  refine gMet (cc := cX0_cut) (maxL := 3) (ret := none) (Qc := fun A => va_Qv (fun (_ : Unit) => True) (gE (dC, dI) [(a_o, .inr (0, [.int o_length, .ref a_o_signs, .ref a_o_tokens, .ref a_o_starts, .int o_cuts', .int o_current'])), (a_o_signs, .inl (cC, 400, .inl o_signs)), (a_o_tokens, .inl (cI, 401, .inl o_tokens')), (a_o_starts, .inl (cI, 401, .inl o_starts'))]) A) (by decide) rfl (Nat.le_of_ble_eq_true rfl) ?_
  intro p e s m below meth c A ls hg0 _ hsz hP hD hS hl
  have hg0 : gX p s m _ meth c cX0_cut 3 none wsX0_cut RX0 (dC, dI) Z [(cC, .char), (cI, .int), (cZ, .boolean), (cW, .object RX3)] A := hg0
  obtain ⟨hx, hb, hr, hml, hown, hts, hlocks, hA, hK, hN⟩ := id hg0
  subst hsz
  have hF : CallFix p m c cX0_cut 3 s _ wsX0_cut RX0 := ⟨hx, hb, hml, hown, hts⟩
  have hl : lv_has ls 3 [(0, .ref a_o)] := hl
  unfold fX0_cut at hf
  refine lv_aload_n hx hb dX0_cut_0 rfl (lv_at hl 0 rfl) ?_
  refine lv_iconst (v := (0 : Int32)) hx hb dX0_cut_1 (by decide) ?_
  refine va_put (D := (dC, dI)) (ci := 0) (v := .int (0 : Int32)) (ty := .int) (C := RX0) (T := TX0) (N := 6) hx hb hts uX0_cut_X0 tyX0 tyX0_ok nmX0 hown hK hP hD hS 0 rfl rfl 4 (by decide) (hts _ mX0_cut_0) (fun _ h9 => h9) rfl (by decide +kernel) rfl rfl (Nat.le_of_ble_eq_true rfl) dX0_cut_2 (fun H locs hP hD hS => ?_)
  have hP : va_P (dC, dI) vwCl [(a_o, .inr (0, [.int o_length, .ref a_o_signs, .ref a_o_tokens, .ref a_o_starts, .int (0 : Int32), .int o_current])), (a_o_signs, .inl (cC, 400, .inl o_signs)), (a_o_tokens, .inl (cI, 401, .inl o_tokens)), (a_o_starts, .inl (cI, 401, .inl o_starts))] H := hP
  have hD : va_D A [(a_o, .inr (0, [.int o_length, .ref a_o_signs, .ref a_o_tokens, .ref a_o_starts, .int (0 : Int32), .int o_current])), (a_o_signs, .inl (cC, 400, .inl o_signs)), (a_o_tokens, .inl (cI, 401, .inl o_tokens)), (a_o_starts, .inl (cI, 401, .inl o_starts))] := hD
  refine lv_aload_n hx hb dX0_cut_5 rfl (lv_at hl 0 rfl) ?_
  refine lv_iconst (v := (0 : Int32)) hx hb dX0_cut_6 (by decide) ?_
  refine va_put (D := (dC, dI)) (ci := 0) (v := .int (0 : Int32)) (ty := .int) (C := RX0) (T := TX0) (N := 6) hx hb hts uX0_cut_X0 tyX0 tyX0_ok nmX0 hown hK hP hD hS 0 rfl rfl 5 (by decide) (hts _ mX0_cut_1) (fun _ h9 => h9) rfl (by decide +kernel) rfl rfl (Nat.le_of_ble_eq_true rfl) dX0_cut_7 (fun H locs hP hD hS => ?_)
  have hP : va_P (dC, dI) vwCl [(a_o, .inr (0, [.int o_length, .ref a_o_signs, .ref a_o_tokens, .ref a_o_starts, .int (0 : Int32), .int (0 : Int32)])), (a_o_signs, .inl (cC, 400, .inl o_signs)), (a_o_tokens, .inl (cI, 401, .inl o_tokens)), (a_o_starts, .inl (cI, 401, .inl o_starts))] H := hP
  have hD : va_D A [(a_o, .inr (0, [.int o_length, .ref a_o_signs, .ref a_o_tokens, .ref a_o_starts, .int (0 : Int32), .int (0 : Int32)])), (a_o_signs, .inl (cC, 400, .inl o_signs)), (a_o_tokens, .inl (cI, 401, .inl o_tokens)), (a_o_starts, .inl (cI, 401, .inl o_starts))] := hD
  refine lv_iconst (v := (0 : Int32)) hx hb dX0_cut_10 (by decide) ?_
  refine lv_istore_n (lv' := [(1, .int (0 : Int32)), (0, .ref a_o)]) hx hb dX0_cut_11 rfl hl (by decide) rfl (fun ls hl => ?_)
  refine lv_iconst (v := (0 : Int32)) hx hb dX0_cut_12 (by decide) ?_
  refine lv_istore_n (lv' := [(2, .int (0 : Int32)), (1, .int (0 : Int32)), (0, .ref a_o)]) hx hb dX0_cut_13 rfl hl (by decide) rfl (fun ls hl => ?_)
  obtain ⟨o_cuts_1, o_tokens_2, o_starts_3, l1_4, l2_5, hc, hf⟩ := pb5 hf
  refine wX0_cut_14 hg0 a_o a_o_signs a_o_tokens a_o_starts o_length (0 : Int32) o_signs  N N (0 : Int32) o_tokens o_starts (0 : Int32) (0 : Int32) o_cuts_1 o_tokens_2 o_starts_3 l1_4 l2_5 hc _ _ _ hP hD hS (lv_sub hl [2, 1, 0] rfl) (fun H locs ls hP hD hS hl => ?_)
  refine lv_aload_n hx hb dX0_cut_64 rfl (lv_at hl 0 rfl) ?_
  refine lv_iconst (v := (-1 : Int32)) hx hb dX0_cut_65 (by decide) ?_
  refine lv_aload_n hx hb dX0_cut_66 rfl (lv_at hl 0 rfl) ?_
  refine va_get (D := (dC, dI)) (ci := 0) (v := .int o_length) (C := RX0) (T := TX0) (N := 6) hx hb hts uX0_cut_X0 hown hK hP 0 rfl rfl 0 (by decide) (hts _ mX0_cut_2) (fun _ h9 => h9) rfl dX0_cut_67 ?_
  obtain ⟨o_cuts_6, o_tokens_7, o_starts_8, hc, hf⟩ := pb3 hf
  refine gCv (va_runV (As := [.int (-1 : Int32), .int o_length]) (rest := []) hF (kX0_addToken l dC dI Z cC cI cZ cW a_o a_o_signs a_o_tokens a_o_starts _ o_length o_cuts_1 (0 : Int32) o_tokens_2 o_starts_3 (-1 : Int32) o_length N o_cuts_6 o_tokens_7 o_starts_8 hc) (cwV 2 hts gX0_cut_X0_addToken rfl rfl rfl (by decide +kernel) ⟨Nat.le_of_ble_eq_true rfl, Nat.le_of_ble_eq_true rfl⟩) (gPV (wc := [(a_o, .inr (0, [.int o_length, .ref a_o_signs, .ref a_o_tokens, .ref a_o_starts, .int o_cuts_1, .int (0 : Int32)])), (a_o_tokens, .inl (cI, 401, .inl o_tokens_2)), (a_o_starts, .inl (cI, 401, .inl o_starts_3))]) hK hN hA hS hP hD [0, 2, 3] rfl rfl (q0 := 0) (ci := 0) rfl rfl rfl) rfl rfl hl.1 rfl (lv_room (Nat.le_of_ble_eq_true rfl)) dX0_cut_70 ⟨Nat.zero_le _, Nat.zero_le _⟩) hP hD hS hA [0, 2, 3] rfl rfl rfl (fun H locs hP hD hS => ?_)
  have hP : va_P (dC, dI) vwCl [(a_o, .inr (0, [.int o_length, .ref a_o_signs, .ref a_o_tokens, .ref a_o_starts, .int o_cuts_6, .int (0 : Int32)])), (a_o_signs, .inl (cC, 400, .inl o_signs)), (a_o_tokens, .inl (cI, 401, .inl o_tokens_7)), (a_o_starts, .inl (cI, 401, .inl o_starts_8))] H := hP
  have hD : va_D A [(a_o, .inr (0, [.int o_length, .ref a_o_signs, .ref a_o_tokens, .ref a_o_starts, .int o_cuts_6, .int (0 : Int32)])), (a_o_signs, .inl (cC, 400, .inl o_signs)), (a_o_tokens, .inl (cI, 401, .inl o_tokens_7)), (a_o_starts, .inl (cI, 401, .inl o_starts_8))] := hD
  have q0 := Option.some.inj hf
  obtain ⟨e0, q1⟩ := Prod.mk.inj q0
  obtain ⟨e1, q2⟩ := Prod.mk.inj q1
  obtain ⟨e2, q3⟩ := Prod.mk.inj q2
  subst e0
  subst e1
  subst e2
  subst q3
  exact gRv hx hb hr hlocks hP hS dX0_cut_73
abbrev rmX0_start : Room := { frames := 0, cells := 0, slots := 0, locals := 0 }
set_option maxRecDepth 20000 in
theorem uX0_start_X0 : ∀ w ∈ wsX00, w ∈ wsX0_start := by decide +kernel
set_option maxRecDepth 20000 in
theorem mX0_start_0 : (Cond.fieldLink RX0 23 "TradeWheel$Text" "starts" "[I" : Cond) ∈ wsX0_start := by decide +kernel
set_option maxRecDepth 20000 in
theorem mX0_start_1 : (Cond.fieldLink RX0 29 "TradeWheel$Text" "current" "I" : Cond) ∈ wsX0_start := by decide +kernel
set_option maxHeartbeats 4000000 in
set_option maxRecDepth 100000 in
theorem kX0_start (l : Launch) (dC : Nat → ClassId) (dI : Nat → Nat → Nat) (Z : gZ) (cC cI cZ cW : ClassId) (a_o a_o_signs a_o_tokens a_o_starts : Nat) (sz : Nat) (o_length : Int32) (o_cuts : Int32) (o_current : Int32) (o_starts : Nat → Int32)  (N : Nat) (r' : Int32) (hf : fX0_start N o_current o_starts   = some r') : Met l yX0_start wsX0_start rmX0_start (va_Pc [.ref a_o] (gB (dC, dI) Z [(cC, .char), (cI, .int), (cZ, .boolean), (cW, .object RX3)] [(a_o, .inr (0, [.int o_length, .ref a_o_signs, .ref a_o_tokens, .ref a_o_starts, .int o_cuts, .int o_current])), (a_o_starts, .inl (cI, 401, .inl o_starts))] sz)) (va_Qi (fun (r : Int32) (_ : Unit) => r = r') (gE (dC, dI) [(a_o, .inr (0, [.int o_length, .ref a_o_signs, .ref a_o_tokens, .ref a_o_starts, .int o_cuts, .int o_current])), (a_o_starts, .inl (cI, 401, .inl o_starts))]) (va_A [(a_o, .inr (0, [.int o_length, .ref a_o_signs, .ref a_o_tokens, .ref a_o_starts, .int o_cuts, .int o_current])), (a_o_starts, .inl (cI, 401, .inl o_starts))] sz)) 0 0 (va_A [(a_o, .inr (0, [.int o_length, .ref a_o_signs, .ref a_o_tokens, .ref a_o_starts, .int o_cuts, .int o_current])), (a_o_starts, .inl (cI, 401, .inl o_starts))] sz) := by
  refine gMet (cc := cX0_start) (maxL := 1) (ret := (some .int)) (Qc := fun A => va_Qi (fun (r : Int32) (_ : Unit) => r = r') (gE (dC, dI) [(a_o, .inr (0, [.int o_length, .ref a_o_signs, .ref a_o_tokens, .ref a_o_starts, .int o_cuts, .int o_current])), (a_o_starts, .inl (cI, 401, .inl o_starts))]) A) (by decide) rfl (Nat.le_of_ble_eq_true rfl) ?_
  intro p e s m below meth c A ls hg0 _ hsz hP hD hS hl
  have hg0 : gX p s m _ meth c cX0_start 1 (some .int) wsX0_start RX0 (dC, dI) Z [(cC, .char), (cI, .int), (cZ, .boolean), (cW, .object RX3)] A := hg0
  obtain ⟨hx, hb, hr, hml, hown, hts, hlocks, hA, hK, hN⟩ := id hg0
  subst hsz
  have hF : CallFix p m c cX0_start 1 s _ wsX0_start RX0 := ⟨hx, hb, hml, hown, hts⟩
  have hl : lv_has ls 1 [(0, .ref a_o)] := hl
  unfold fX0_start at hf
  refine lv_aload_n hx hb dX0_start_0 rfl (lv_at hl 0 rfl) ?_
  refine va_get (D := (dC, dI)) (ci := 0) (v := .ref a_o_starts) (C := RX0) (T := TX0) (N := 6) hx hb hts uX0_start_X0 hown hK hP 0 rfl rfl 3 (by decide) (hts _ mX0_start_0) (fun _ h9 => h9) rfl dX0_start_1 ?_
  refine lv_aload_n hx hb dX0_start_4 rfl (lv_at hl 0 rfl) ?_
  refine va_get (D := (dC, dI)) (ci := 0) (v := .int o_current) (C := RX0) (T := TX0) (N := 6) hx hb hts uX0_start_X0 hown hK hP 0 rfl rfl 5 (by decide) (hts _ mX0_start_1) (fun _ h9 => h9) rfl dX0_start_5 ?_
  obtain ⟨h_1, hf⟩ := pgd hf
  refine va_iald hx hb hK hP 1 1 rfl rfl h_1 dX0_start_8 ?_
  have q0 := Option.some.inj hf
  subst q0
  exact gRi hx hb hr hlocks hP hS dX0_start_9
abbrev rmX0_pass : Room := { frames := 0, cells := 0, slots := 0, locals := 0 }
set_option maxRecDepth 20000 in
theorem uX0_pass_X0 : ∀ w ∈ wsX00, w ∈ wsX0_pass := by decide +kernel
set_option maxRecDepth 20000 in
theorem mX0_pass_0 : (Cond.fieldLink RX0 29 "TradeWheel$Text" "current" "I" : Cond) ∈ wsX0_pass := by decide +kernel
set_option maxRecDepth 20000 in
theorem mX0_pass_1 : (Cond.fieldLink RX0 26 "TradeWheel$Text" "cuts" "I" : Cond) ∈ wsX0_pass := by decide +kernel
set_option maxHeartbeats 4000000 in
set_option maxRecDepth 100000 in
theorem kX0_pass (l : Launch) (dC : Nat → ClassId) (dI : Nat → Nat → Nat) (Z : gZ) (cC cI cZ cW : ClassId) (a_o a_o_signs a_o_tokens a_o_starts : Nat) (sz : Nat) (o_length : Int32) (o_cuts : Int32) (o_current : Int32)  (N : Nat) (o_current' : Int32) (hf : fX0_pass N o_cuts o_current   = some o_current') : Met l yX0_pass wsX0_pass rmX0_pass (va_Pc [.ref a_o] (gB (dC, dI) Z [(cC, .char), (cI, .int), (cZ, .boolean), (cW, .object RX3)] [(a_o, .inr (0, [.int o_length, .ref a_o_signs, .ref a_o_tokens, .ref a_o_starts, .int o_cuts, .int o_current]))] sz)) (va_Qv (fun (_ : Unit) => True) (gE (dC, dI) [(a_o, .inr (0, [.int o_length, .ref a_o_signs, .ref a_o_tokens, .ref a_o_starts, .int o_cuts, .int o_current']))]) (va_A [(a_o, .inr (0, [.int o_length, .ref a_o_signs, .ref a_o_tokens, .ref a_o_starts, .int o_cuts, .int o_current]))] sz)) 0 0 (va_A [(a_o, .inr (0, [.int o_length, .ref a_o_signs, .ref a_o_tokens, .ref a_o_starts, .int o_cuts, .int o_current]))] sz) := by
  refine gMet (cc := cX0_pass) (maxL := 1) (ret := none) (Qc := fun A => va_Qv (fun (_ : Unit) => True) (gE (dC, dI) [(a_o, .inr (0, [.int o_length, .ref a_o_signs, .ref a_o_tokens, .ref a_o_starts, .int o_cuts, .int o_current']))]) A) (by decide) rfl (Nat.le_of_ble_eq_true rfl) ?_
  intro p e s m below meth c A ls hg0 _ hsz hP hD hS hl
  have hg0 : gX p s m _ meth c cX0_pass 1 none wsX0_pass RX0 (dC, dI) Z [(cC, .char), (cI, .int), (cZ, .boolean), (cW, .object RX3)] A := hg0
  obtain ⟨hx, hb, hr, hml, hown, hts, hlocks, hA, hK, hN⟩ := id hg0
  subst hsz
  have hF : CallFix p m c cX0_pass 1 s _ wsX0_pass RX0 := ⟨hx, hb, hml, hown, hts⟩
  have hl : lv_has ls 1 [(0, .ref a_o)] := hl
  unfold fX0_pass at hf
  refine lv_aload_n hx hb dX0_pass_0 rfl (lv_at hl 0 rfl) ?_
  refine va_get (D := (dC, dI)) (ci := 0) (v := .int o_current) (C := RX0) (T := TX0) (N := 6) hx hb hts uX0_pass_X0 hown hK hP 0 rfl rfl 5 (by decide) (hts _ mX0_pass_0) (fun _ h9 => h9) rfl dX0_pass_1 ?_
  refine lv_aload_n hx hb dX0_pass_4 rfl (lv_at hl 0 rfl) ?_
  refine va_get (D := (dC, dI)) (ci := 0) (v := .int o_cuts) (C := RX0) (T := TX0) (N := 6) hx hb hts uX0_pass_X0 hown hK hP 0 rfl rfl 4 (by decide) (hts _ mX0_pass_1) (fun _ h9 => h9) rfl dX0_pass_5 ?_
  refine lv_iconst (v := (1 : Int32)) hx hb dX0_pass_8 (by decide) ?_
  refine lv_isub hx hb dX0_pass_9 ?_
  refine lv_icmp_ge (tgt := 23) hx hb dX0_pass_10 (by decide) (fun c_1 => ?_) (fun c_1 => ?_)
  · have hf := pit hf c_1
    have q0 := Option.some.inj hf
    subst q0
    exact gRv hx hb hr hlocks hP hS dX0_pass_23
  · have hf := pif hf c_1
    refine lv_aload_n hx hb dX0_pass_13 rfl (lv_at hl 0 rfl) ?_
    refine lv_dup hx hb dX0_pass_14 rfl ?_
    refine va_get (D := (dC, dI)) (ci := 0) (v := .int o_current) (C := RX0) (T := TX0) (N := 6) hx hb hts uX0_pass_X0 hown hK hP 0 rfl rfl 5 (by decide) (hts _ mX0_pass_0) (fun _ h9 => h9) rfl dX0_pass_15 ?_
    refine lv_iconst (v := (1 : Int32)) hx hb dX0_pass_18 (by decide) ?_
    refine lv_iadd hx hb dX0_pass_19 ?_
    refine va_put (D := (dC, dI)) (ci := 0) (v := .int (o_current + (1 : Int32))) (ty := .int) (C := RX0) (T := TX0) (N := 6) hx hb hts uX0_pass_X0 tyX0 tyX0_ok nmX0 hown hK hP hD hS 0 rfl rfl 5 (by decide) (hts _ mX0_pass_0) (fun _ h9 => h9) rfl (by decide +kernel) rfl rfl (Nat.le_of_ble_eq_true rfl) dX0_pass_20 (fun H locs hP hD hS => ?_)
    have hP : va_P (dC, dI) vwCl [(a_o, .inr (0, [.int o_length, .ref a_o_signs, .ref a_o_tokens, .ref a_o_starts, .int o_cuts, .int (o_current + (1 : Int32))]))] H := hP
    have hD : va_D A [(a_o, .inr (0, [.int o_length, .ref a_o_signs, .ref a_o_tokens, .ref a_o_starts, .int o_cuts, .int (o_current + (1 : Int32))]))] := hD
    have q0 := Option.some.inj hf
    subst q0
    exact gRv hx hb hr hlocks hP hS dX0_pass_23
abbrev rmX0_token : Room := { frames := 0, cells := 0, slots := 0, locals := 0 }
set_option maxRecDepth 20000 in
theorem uX0_token_X0 : ∀ w ∈ wsX00, w ∈ wsX0_token := by decide +kernel
set_option maxRecDepth 20000 in
theorem mX0_token_0 : (Cond.fieldLink RX0 19 "TradeWheel$Text" "tokens" "[I" : Cond) ∈ wsX0_token := by decide +kernel
set_option maxRecDepth 20000 in
theorem mX0_token_1 : (Cond.fieldLink RX0 29 "TradeWheel$Text" "current" "I" : Cond) ∈ wsX0_token := by decide +kernel
set_option maxHeartbeats 4000000 in
set_option maxRecDepth 100000 in
theorem kX0_token (l : Launch) (dC : Nat → ClassId) (dI : Nat → Nat → Nat) (Z : gZ) (cC cI cZ cW : ClassId) (a_o a_o_signs a_o_tokens a_o_starts : Nat) (sz : Nat) (o_length : Int32) (o_cuts : Int32) (o_current : Int32) (o_tokens : Nat → Int32)  (N : Nat) (r' : Int32) (hf : fX0_token N o_current o_tokens   = some r') : Met l yX0_token wsX0_token rmX0_token (va_Pc [.ref a_o] (gB (dC, dI) Z [(cC, .char), (cI, .int), (cZ, .boolean), (cW, .object RX3)] [(a_o, .inr (0, [.int o_length, .ref a_o_signs, .ref a_o_tokens, .ref a_o_starts, .int o_cuts, .int o_current])), (a_o_tokens, .inl (cI, 401, .inl o_tokens))] sz)) (va_Qi (fun (r : Int32) (_ : Unit) => r = r') (gE (dC, dI) [(a_o, .inr (0, [.int o_length, .ref a_o_signs, .ref a_o_tokens, .ref a_o_starts, .int o_cuts, .int o_current])), (a_o_tokens, .inl (cI, 401, .inl o_tokens))]) (va_A [(a_o, .inr (0, [.int o_length, .ref a_o_signs, .ref a_o_tokens, .ref a_o_starts, .int o_cuts, .int o_current])), (a_o_tokens, .inl (cI, 401, .inl o_tokens))] sz)) 0 0 (va_A [(a_o, .inr (0, [.int o_length, .ref a_o_signs, .ref a_o_tokens, .ref a_o_starts, .int o_cuts, .int o_current])), (a_o_tokens, .inl (cI, 401, .inl o_tokens))] sz) := by
  refine gMet (cc := cX0_token) (maxL := 1) (ret := (some .int)) (Qc := fun A => va_Qi (fun (r : Int32) (_ : Unit) => r = r') (gE (dC, dI) [(a_o, .inr (0, [.int o_length, .ref a_o_signs, .ref a_o_tokens, .ref a_o_starts, .int o_cuts, .int o_current])), (a_o_tokens, .inl (cI, 401, .inl o_tokens))]) A) (by decide) rfl (Nat.le_of_ble_eq_true rfl) ?_
  intro p e s m below meth c A ls hg0 _ hsz hP hD hS hl
  have hg0 : gX p s m _ meth c cX0_token 1 (some .int) wsX0_token RX0 (dC, dI) Z [(cC, .char), (cI, .int), (cZ, .boolean), (cW, .object RX3)] A := hg0
  obtain ⟨hx, hb, hr, hml, hown, hts, hlocks, hA, hK, hN⟩ := id hg0
  subst hsz
  have hF : CallFix p m c cX0_token 1 s _ wsX0_token RX0 := ⟨hx, hb, hml, hown, hts⟩
  have hl : lv_has ls 1 [(0, .ref a_o)] := hl
  unfold fX0_token at hf
  refine lv_aload_n hx hb dX0_token_0 rfl (lv_at hl 0 rfl) ?_
  refine va_get (D := (dC, dI)) (ci := 0) (v := .ref a_o_tokens) (C := RX0) (T := TX0) (N := 6) hx hb hts uX0_token_X0 hown hK hP 0 rfl rfl 2 (by decide) (hts _ mX0_token_0) (fun _ h9 => h9) rfl dX0_token_1 ?_
  refine lv_aload_n hx hb dX0_token_4 rfl (lv_at hl 0 rfl) ?_
  refine va_get (D := (dC, dI)) (ci := 0) (v := .int o_current) (C := RX0) (T := TX0) (N := 6) hx hb hts uX0_token_X0 hown hK hP 0 rfl rfl 5 (by decide) (hts _ mX0_token_1) (fun _ h9 => h9) rfl dX0_token_5 ?_
  obtain ⟨h_1, hf⟩ := pgd hf
  refine va_iald hx hb hK hP 1 1 rfl rfl h_1 dX0_token_8 ?_
  have q0 := Option.some.inj hf
  subst q0
  exact gRi hx hb hr hlocks hP hS dX0_token_9
abbrev rmX0_number : Room := { frames := 1, cells := 0, slots := 0, locals := 22 }
set_option maxRecDepth 20000 in
theorem mX0_number_0 : (Cond.initialized RX4 : Cond) ∈ wsX0_number := by decide +kernel
set_option maxRecDepth 20000 in
theorem mX0_number_1 : (Cond.static yX4_within : Cond) ∈ wsX0_number := by decide +kernel
set_option maxHeartbeats 4000000 in
set_option maxRecDepth 100000 in
theorem kX0_number (l : Launch) (dC : Nat → ClassId) (dI : Nat → Nat → Nat) (Z : gZ) (cC cI cZ cW : ClassId) (a_o a_o_signs a_o_tokens a_o_starts : Nat) (sz : Nat) (o_length : Int32) (o_cuts : Int32) (o_current : Int32) (o_tokens : Nat → Int32) (i1 : Int32) (i2 : Int32) (N : Nat) (r' : Int32) (o_current' : Int32) (hf : fX0_number N o_cuts o_current o_tokens  i1 i2 = some (r', o_current')) : Met l yX0_number wsX0_number rmX0_number (va_Pc [.ref a_o, .int i1, .int i2] (gB (dC, dI) Z [(cC, .char), (cI, .int), (cZ, .boolean), (cW, .object RX3)] [(a_o, .inr (0, [.int o_length, .ref a_o_signs, .ref a_o_tokens, .ref a_o_starts, .int o_cuts, .int o_current])), (a_o_tokens, .inl (cI, 401, .inl o_tokens))] sz)) (va_Qi (fun (r : Int32) (_ : Unit) => r = r') (gE (dC, dI) [(a_o, .inr (0, [.int o_length, .ref a_o_signs, .ref a_o_tokens, .ref a_o_starts, .int o_cuts, .int o_current'])), (a_o_tokens, .inl (cI, 401, .inl o_tokens))]) (va_A [(a_o, .inr (0, [.int o_length, .ref a_o_signs, .ref a_o_tokens, .ref a_o_starts, .int o_cuts, .int o_current])), (a_o_tokens, .inl (cI, 401, .inl o_tokens))] sz)) 0 0 (va_A [(a_o, .inr (0, [.int o_length, .ref a_o_signs, .ref a_o_tokens, .ref a_o_starts, .int o_cuts, .int o_current])), (a_o_tokens, .inl (cI, 401, .inl o_tokens))] sz) := by
  refine gMet (cc := cX0_number) (maxL := 4) (ret := (some .int)) (Qc := fun A => va_Qi (fun (r : Int32) (_ : Unit) => r = r') (gE (dC, dI) [(a_o, .inr (0, [.int o_length, .ref a_o_signs, .ref a_o_tokens, .ref a_o_starts, .int o_cuts, .int o_current'])), (a_o_tokens, .inl (cI, 401, .inl o_tokens))]) A) (by decide) rfl (Nat.le_of_ble_eq_true rfl) ?_
  intro p e s m below meth c A ls hg0 _ hsz hP hD hS hl
  have hg0 : gX p s m _ meth c cX0_number 4 (some .int) wsX0_number RX0 (dC, dI) Z [(cC, .char), (cI, .int), (cZ, .boolean), (cW, .object RX3)] A := hg0
  obtain ⟨hx, hb, hr, hml, hown, hts, hlocks, hA, hK, hN⟩ := id hg0
  subst hsz
  have hF : CallFix p m c cX0_number 4 s _ wsX0_number RX0 := ⟨hx, hb, hml, hown, hts⟩
  have hl : lv_has ls 4 [(0, .ref a_o), (1, .int i1), (2, .int i2)] := hl
  unfold fX0_number at hf
  refine lv_aload_n hx hb dX0_number_0 rfl (lv_at hl 0 rfl) ?_
  obtain ⟨r_1, hc, hf⟩ := pb1 hf
  refine gCi (va_runV (As := []) (rest := []) hF (kX0_token l dC dI Z cC cI cZ cW a_o a_o_signs a_o_tokens a_o_starts _ o_length o_cuts o_current o_tokens  N r_1 hc) (cwV 0 hts gX0_number_X0_token rfl rfl rfl (by decide +kernel) ⟨Nat.le_of_ble_eq_true rfl, Nat.le_of_ble_eq_true rfl⟩) (gPV (wc := [(a_o, .inr (0, [.int o_length, .ref a_o_signs, .ref a_o_tokens, .ref a_o_starts, .int o_cuts, .int o_current])), (a_o_tokens, .inl (cI, 401, .inl o_tokens))]) hK hN hA hS hP hD [0, 1] rfl rfl (q0 := 0) (ci := 0) rfl rfl rfl) rfl rfl hl.1 rfl (lv_room (Nat.le_of_ble_eq_true rfl)) dX0_number_1 ⟨Nat.zero_le _, Nat.zero_le _⟩) hP hD hS hA [0, 1] rfl rfl rfl (fun H locs hP hD hS => ?_)
  have hP : va_P (dC, dI) vwCl [(a_o, .inr (0, [.int o_length, .ref a_o_signs, .ref a_o_tokens, .ref a_o_starts, .int o_cuts, .int o_current])), (a_o_tokens, .inl (cI, 401, .inl o_tokens))] H := hP
  have hD : va_D A [(a_o, .inr (0, [.int o_length, .ref a_o_signs, .ref a_o_tokens, .ref a_o_starts, .int o_cuts, .int o_current])), (a_o_tokens, .inl (cI, 401, .inl o_tokens))] := hD
  refine lv_istore_n (lv' := [(3, .int r_1), (0, .ref a_o), (1, .int i1), (2, .int i2)]) hx hb dX0_number_4 rfl hl (by decide) rfl (fun ls hl => ?_)
  refine lv_iload_n hx hb dX0_number_5 rfl (lv_at hl 0 rfl) ?_
  refine lv_iload_n hx hb dX0_number_6 rfl (lv_at hl 2 rfl) ?_
  refine lv_iload_n hx hb dX0_number_7 rfl (lv_at hl 3 rfl) ?_
  obtain ⟨r_2, hc, hf⟩ := pb1 hf
  refine gCi (va_runSN (As := [.int r_1, .int i1, .int i2]) (rest := []) hF (kX4_within l dC dI Z cC cI cZ cW  _  r_1 i1 i2 N r_2 hc) ⟨va_cnB 3 hts gX0_number_X4_within_n50 rfl rfl rfl (hN.1 (.methodLinkNest RX0 50 yX4_within RX4) (by decide +kernel)) (hts _ mX0_number_0) (by decide +kernel) ⟨Nat.le_of_ble_eq_true rfl, Nat.le_of_ble_eq_true rfl⟩, hts _ mX0_number_1, trivial⟩ (gPS (wc := []) hK hN hA hS hP hD [] rfl rfl) rfl rfl hl.1 rfl (lv_room (Nat.le_of_ble_eq_true rfl)) dX0_number_8 ⟨Nat.zero_le _, Nat.zero_le _⟩) hP hD hS hA [] rfl rfl rfl (fun H locs hP hD hS => ?_)
  have hP : va_P (dC, dI) vwCl [(a_o, .inr (0, [.int o_length, .ref a_o_signs, .ref a_o_tokens, .ref a_o_starts, .int o_cuts, .int o_current])), (a_o_tokens, .inl (cI, 401, .inl o_tokens))] H := hP
  have hD : va_D A [(a_o, .inr (0, [.int o_length, .ref a_o_signs, .ref a_o_tokens, .ref a_o_starts, .int o_cuts, .int o_current])), (a_o_tokens, .inl (cI, 401, .inl o_tokens))] := hD
  refine lv_if_ne (tgt := 17) hx hb dX0_number_11 (by decide) (fun c_3 => ?_) (fun c_3 => ?_)
  · have hf := pif hf c_3
    refine lv_aload_n hx hb dX0_number_17 rfl (lv_at hl 1 rfl) ?_
    obtain ⟨o_current_4, hc, hf⟩ := pb1 hf
    refine gCv (va_runV (As := []) (rest := []) hF (kX0_pass l dC dI Z cC cI cZ cW a_o a_o_signs a_o_tokens a_o_starts _ o_length o_cuts o_current  N o_current_4 hc) (cwV 0 hts gX0_number_X0_pass rfl rfl rfl (by decide +kernel) ⟨Nat.le_of_ble_eq_true rfl, Nat.le_of_ble_eq_true rfl⟩) (gPV (wc := [(a_o, .inr (0, [.int o_length, .ref a_o_signs, .ref a_o_tokens, .ref a_o_starts, .int o_cuts, .int o_current]))]) hK hN hA hS hP hD [0] rfl rfl (q0 := 0) (ci := 0) rfl rfl rfl) rfl rfl hl.1 rfl (lv_room (Nat.le_of_ble_eq_true rfl)) dX0_number_18 ⟨Nat.zero_le _, Nat.zero_le _⟩) hP hD hS hA [0] rfl rfl rfl (fun H locs hP hD hS => ?_)
    have hP : va_P (dC, dI) vwCl [(a_o, .inr (0, [.int o_length, .ref a_o_signs, .ref a_o_tokens, .ref a_o_starts, .int o_cuts, .int o_current_4])), (a_o_tokens, .inl (cI, 401, .inl o_tokens))] H := hP
    have hD : va_D A [(a_o, .inr (0, [.int o_length, .ref a_o_signs, .ref a_o_tokens, .ref a_o_starts, .int o_cuts, .int o_current_4])), (a_o_tokens, .inl (cI, 401, .inl o_tokens))] := hD
    refine lv_iload_n hx hb dX0_number_21 rfl (lv_at hl 0 rfl) ?_
    have q0 := Option.some.inj hf
    obtain ⟨e0, q1⟩ := Prod.mk.inj q0
    subst e0
    subst q1
    exact gRi hx hb hr hlocks hP hS dX0_number_22
  · have hf := pit hf c_3
    refine lv_bipush (v := (-9 : Int32)) hx hb dX0_number_14 (by decide) ?_
    have q0 := Option.some.inj hf
    obtain ⟨e0, q1⟩ := Prod.mk.inj q0
    subst e0
    subst q1
    exact gRi hx hb hr hlocks hP hS dX0_number_16
