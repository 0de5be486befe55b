abbrev rmX1_placeTheRest : Room := { frames := 0, cells := 0, slots := 0, locals := 0 }
set_option maxRecDepth 20000 in
theorem uX1_placeTheRest_X1 : ∀ w ∈ wsX10, w ∈ wsX1_placeTheRest := by decide +kernel
set_option maxRecDepth 20000 in
theorem mX1_placeTheRest_0 : (Cond.fieldLink RX1 15 "TradeWheel$Told" "people" "I" : Cond) ∈ wsX1_placeTheRest := by decide +kernel
set_option maxRecDepth 20000 in
theorem mX1_placeTheRest_1 : (Cond.fieldLink RX1 31 "TradeWheel$Told" "places" "[I" : Cond) ∈ wsX1_placeTheRest := by decide +kernel
set_option maxRecDepth 20000 in
theorem mX1_placeTheRest_2 : (Cond.fieldLink RX1 9 "TradeWheel$Told" "trades" "I" : Cond) ∈ wsX1_placeTheRest := by decide +kernel
set_option maxHeartbeats 4000000 in
set_option maxRecDepth 100000 in
theorem wX1_placeTheRest_2 {p : Program} {l : Launch} {e : Env} {s : State} {m : MethodId} {args : Array Value} {below : List Frame} {meth : Method} {c : Code} {Q : State → Prop} {A : Nat → Prop} {dC : Nat → ClassId} {dI : Nat → Nat → Nat} {Z : gZ} {cC cI cZ cW : ClassId} (hg0 : gX p s m args meth c cX1_placeTheRest 2 none wsX1_placeTheRest RX1 (dC, dI) Z [(cC, .char), (cI, .int), (cZ, .boolean), (cW, .object RX3)] A) (a_o a_o_needs a_o_yields a_o_skips a_o_skills a_o_places a_o_wheel : Nat) (o_trades : Int32) (o_people : Int32) (o_tradesEnded : Int32)  (N : Nat) : ∀ (n : Nat) (o_places : Nat → Int32) (l1 : Int32) (o_places' : Nat → Int32) (l1' : Int32), fX1_placeTheRest_2 N o_trades o_people n o_places l1 = some (o_places', l1') → ∀ (H : Heap) (locs : List Loc) (ls : Array Slot), va_P (dC, dI) vwCl [(a_o, .inr (1, [.int o_trades, .int o_people, .ref a_o_needs, .ref a_o_yields, .ref a_o_skips, .ref a_o_skills, .ref a_o_places, .ref a_o_wheel, .int o_tradesEnded])), (a_o_places, .inl (cI, 6, .inl o_places))] H → va_D A [(a_o, .inr (1, [.int o_trades, .int o_people, .ref a_o_needs, .ref a_o_yields, .ref a_o_skips, .ref a_o_skills, .ref a_o_places, .ref a_o_wheel, .int o_tradesEnded])), (a_o_places, .inl (cI, 6, .inl o_places))] → va_S A s.heap H locs → lv_has ls 2 [(0, .ref a_o), (1, .int l1)] → (∀ (H : Heap) (locs : List Loc) (ls : Array Slot), va_P (dC, dI) vwCl [(a_o, .inr (1, [.int o_trades, .int o_people, .ref a_o_needs, .ref a_o_yields, .ref a_o_skips, .ref a_o_skills, .ref a_o_places, .ref a_o_wheel, .int o_tradesEnded])), (a_o_places, .inl (cI, 6, .inl o_places'))] H → va_D A [(a_o, .inr (1, [.int o_trades, .int o_people, .ref a_o_needs, .ref a_o_yields, .ref a_o_skips, .ref a_o_skills, .ref a_o_places, .ref a_o_wheel, .int o_tradesEnded])), (a_o_places, .inl (cI, 6, .inl o_places'))] → va_S A s.heap H locs → lv_has ls 2 [] → W p l e (headSpec wsX1_placeTheRest rmX1_placeTheRest).room s m args below meth c H locs 0 0 Q (F0 m 50 ls [])) → W p l e (headSpec wsX1_placeTheRest rmX1_placeTheRest).room s m args below meth c H locs 0 0 Q (F0 m 2 ls []) := by
  obtain ⟨hx, hb, hr, hml, hown, hts, hlocks, hA, hK, hN⟩ := id hg0
  have hF : CallFix p m c cX1_placeTheRest 2 s args wsX1_placeTheRest RX1 := ⟨hx, hb, hml, hown, hts⟩
  intro n
  induction n with
  | zero =>
    intro o_places l1 o_places' l1' hf
    have hf := fX1_placeTheRest_2_0.symm.trans hf
    cases hf
  | succ n ih =>
    intro o_places l1 o_places' l1' hf H locs ls hP hD hS hl kx
    have hf := fX1_placeTheRest_2_s.symm.trans hf
    refine lv_iload_n hx hb dX1_placeTheRest_2 rfl (lv_at hl 1 rfl) ?_
    refine lv_aload_n hx hb dX1_placeTheRest_3 rfl (lv_at hl 0 rfl) ?_
    refine va_get (D := (dC, dI)) (ci := 1) (v := .int o_people) (C := RX1) (T := TX1) (N := 9) hx hb hts uX1_placeTheRest_X1 hown hK hP 0 rfl rfl 1 (by decide) (hts _ mX1_placeTheRest_0) (fun _ h9 => h9) rfl dX1_placeTheRest_4 ?_
    refine lv_icmp_ge (tgt := 50) hx hb dX1_placeTheRest_7 (by decide) (fun c_1 => ?_) (fun c_1 => ?_)
    · have hf := pit hf c_1
      have q0 := Option.some.inj hf
      obtain ⟨e0, q1⟩ := Prod.mk.inj q0
      subst e0
      subst q1
      exact kx _ _ _ hP hD hS (lv_sub hl [] rfl)
    · have hf := pif hf c_1
      refine lv_aload_n hx hb dX1_placeTheRest_10 rfl (lv_at hl 0 rfl) ?_
      refine va_get (D := (dC, dI)) (ci := 1) (v := .ref a_o_places) (C := RX1) (T := TX1) (N := 9) hx hb hts uX1_placeTheRest_X1 hown hK hP 0 rfl rfl 6 (by decide) (hts _ mX1_placeTheRest_1) (fun _ h9 => h9) rfl dX1_placeTheRest_11 ?_
      refine lv_iload_n hx hb dX1_placeTheRest_14 rfl (lv_at hl 1 rfl) ?_
      obtain ⟨h_2, hf⟩ := pgd hf
      refine va_iald hx hb hK hP 1 1 rfl rfl h_2 dX1_placeTheRest_15 ?_
      refine lv_bipush (v := (-9 : Int32)) hx hb dX1_placeTheRest_16 (by decide) ?_
      refine lv_icmp_ne (tgt := 44) hx hb dX1_placeTheRest_18 (by decide) (fun c_3 => ?_) (fun c_3 => ?_)
      · have hf := pif hf c_3
        refine lv_iinc (v := (l1 + 1)) (lv' := [(1, .int (l1 + 1)), (0, .ref a_o)]) hx hb dX1_placeTheRest_44 hl (k := 1) rfl rfl (by decide) rfl (fun ls hl => ?_)
        refine lv_goto (tgt := 2) hx hb dX1_placeTheRest_47 (by decide) ?_
        exact ih _ _ _ _ hf _ _ _ hP hD hS (lv_sub hl [1, 0] rfl) kx
      · have hf := pit hf c_3
        refine lv_aload_n hx hb dX1_placeTheRest_21 rfl (lv_at hl 0 rfl) ?_
        refine va_get (D := (dC, dI)) (ci := 1) (v := .ref a_o_places) (C := RX1) (T := TX1) (N := 9) hx hb hts uX1_placeTheRest_X1 hown hK hP 0 rfl rfl 6 (by decide) (hts _ mX1_placeTheRest_1) (fun _ h9 => h9) rfl dX1_placeTheRest_22 ?_
        refine lv_iload_n hx hb dX1_placeTheRest_25 rfl (lv_at hl 1 rfl) ?_
        refine lv_aload_n hx hb dX1_placeTheRest_26 rfl (lv_at hl 0 rfl) ?_
        refine va_get (D := (dC, dI)) (ci := 1) (v := .int o_trades) (C := RX1) (T := TX1) (N := 9) hx hb hts uX1_placeTheRest_X1 hown hK hP 0 rfl rfl 0 (by decide) (hts _ mX1_placeTheRest_2) (fun _ h9 => h9) rfl dX1_placeTheRest_27 ?_
        refine lv_if_ne (tgt := 37) hx hb dX1_placeTheRest_30 (by decide) (fun c_4 => ?_) (fun c_4 => ?_)
        · have hf := pif hf c_4
          refine lv_iload_n hx hb dX1_placeTheRest_37 rfl (lv_at hl 1 rfl) ?_
          refine lv_aload_n hx hb dX1_placeTheRest_38 rfl (lv_at hl 0 rfl) ?_
          refine va_get (D := (dC, dI)) (ci := 1) (v := .int o_trades) (C := RX1) (T := TX1) (N := 9) hx hb hts uX1_placeTheRest_X1 hown hK hP 0 rfl rfl 0 (by decide) (hts _ mX1_placeTheRest_2) (fun _ h9 => h9) rfl dX1_placeTheRest_39 ?_
          obtain ⟨hz_5, hf⟩ := pgz hf
          refine lv_irem hx hb dX1_placeTheRest_42 hz_5 ?_
          obtain ⟨h_6, hf⟩ := pgd hf
          refine va_iast hx hb hK hP hD hS 1 1 rfl rfl h_6 dX1_placeTheRest_43 (fun H locs hP hD hS => ?_)
          have hP : va_P (dC, dI) vwCl [(a_o, .inr (1, [.int o_trades, .int o_people, .ref a_o_needs, .ref a_o_yields, .ref a_o_skips, .ref a_o_skills, .ref a_o_places, .ref a_o_wheel, .int o_tradesEnded])), (a_o_places, .inl (cI, 6, .inl (upd o_places l1.toNatClampNeg (l1 - l1 / o_trades * o_trades))))] H := hP
          have hD : va_D A [(a_o, .inr (1, [.int o_trades, .int o_people, .ref a_o_needs, .ref a_o_yields, .ref a_o_skips, .ref a_o_skills, .ref a_o_places, .ref a_o_wheel, .int o_tradesEnded])), (a_o_places, .inl (cI, 6, .inl (upd o_places l1.toNatClampNeg (l1 - l1 / o_trades * o_trades))))] := hD
          refine lv_iinc (v := (l1 + 1)) (lv' := [(1, .int (l1 + 1)), (0, .ref a_o)]) hx hb dX1_placeTheRest_44 hl (k := 1) rfl rfl (by decide) rfl (fun ls hl => ?_)
          refine lv_goto (tgt := 2) hx hb dX1_placeTheRest_47 (by decide) ?_
          exact ih _ _ _ _ hf _ _ _ hP hD hS (lv_sub hl [1, 0] rfl) kx
        · have hf := pit hf c_4
          refine lv_iconst (v := (0 : Int32)) hx hb dX1_placeTheRest_33 (by decide) ?_
          refine lv_goto (tgt := 43) hx hb dX1_placeTheRest_34 (by decide) ?_
          obtain ⟨h_7, hf⟩ := pgd hf
          refine va_iast hx hb hK hP hD hS 1 1 rfl rfl h_7 dX1_placeTheRest_43 (fun H locs hP hD hS => ?_)
          have hP : va_P (dC, dI) vwCl [(a_o, .inr (1, [.int o_trades, .int o_people, .ref a_o_needs, .ref a_o_yields, .ref a_o_skips, .ref a_o_skills, .ref a_o_places, .ref a_o_wheel, .int o_tradesEnded])), (a_o_places, .inl (cI, 6, .inl (upd o_places l1.toNatClampNeg (0 : Int32))))] H := hP
          have hD : va_D A [(a_o, .inr (1, [.int o_trades, .int o_people, .ref a_o_needs, .ref a_o_yields, .ref a_o_skips, .ref a_o_skills, .ref a_o_places, .ref a_o_wheel, .int o_tradesEnded])), (a_o_places, .inl (cI, 6, .inl (upd o_places l1.toNatClampNeg (0 : Int32))))] := hD
          refine lv_iinc (v := (l1 + 1)) (lv' := [(1, .int (l1 + 1)), (0, .ref a_o)]) hx hb dX1_placeTheRest_44 hl (k := 1) rfl rfl (by decide) rfl (fun ls hl => ?_)
          refine lv_goto (tgt := 2) hx hb dX1_placeTheRest_47 (by decide) ?_
          exact ih _ _ _ _ hf _ _ _ hP hD hS (lv_sub hl [1, 0] rfl) kx
set_option maxHeartbeats 4000000 in
set_option maxRecDepth 100000 in
theorem kX1_placeTheRest (l : Launch) (dC : Nat → ClassId) (dI : Nat → Nat → Nat) (Z : gZ) (cC cI cZ cW : ClassId) (a_o a_o_needs a_o_yields a_o_skips a_o_skills a_o_places a_o_wheel : Nat) (sz : Nat) (o_trades : Int32) (o_people : Int32) (o_tradesEnded : Int32) (o_places : Nat → Int32)  (N : Nat) (o_places' : Nat → Int32) (hf : fX1_placeTheRest N o_trades o_people o_places   = some o_places') : Met l yX1_placeTheRest wsX1_placeTheRest rmX1_placeTheRest (va_Pc [.ref a_o] (gB (dC, dI) Z [(cC, .char), (cI, .int), (cZ, .boolean), (cW, .object RX3)] [(a_o, .inr (1, [.int o_trades, .int o_people, .ref a_o_needs, .ref a_o_yields, .ref a_o_skips, .ref a_o_skills, .ref a_o_places, .ref a_o_wheel, .int o_tradesEnded])), (a_o_places, .inl (cI, 6, .inl o_places))] sz)) (va_Qv (fun (_ : Unit) => True) (gE (dC, dI) [(a_o, .inr (1, [.int o_trades, .int o_people, .ref a_o_needs, .ref a_o_yields, .ref a_o_skips, .ref a_o_skills, .ref a_o_places, .ref a_o_wheel, .int o_tradesEnded])), (a_o_places, .inl (cI, 6, .inl o_places'))]) (va_A [(a_o, .inr (1, [.int o_trades, .int o_people, .ref a_o_needs, .ref a_o_yields, .ref a_o_skips, .ref a_o_skills, .ref a_o_places, .ref a_o_wheel, .int o_tradesEnded])), (a_o_places, .inl (cI, 6, .inl o_places))] sz)) 0 0 (va_A [(a_o, .inr (1, [.int o_trades, .int o_people, .ref a_o_needs, .ref a_o_yields, .ref a_o_skips, .ref a_o_skills, .ref a_o_places, .ref a_o_wheel, .int o_tradesEnded])), (a_o_places, .inl (cI, 6, .inl o_places))] sz) := by
  refine gMet (cc := cX1_placeTheRest) (maxL := 2) (ret := none) (Qc := fun A => va_Qv (fun (_ : Unit) => True) (gE (dC, dI) [(a_o, .inr (1, [.int o_trades, .int o_people, .ref a_o_needs, .ref a_o_yields, .ref a_o_skips, .ref a_o_skills, .ref a_o_places, .ref a_o_wheel, .int o_tradesEnded])), (a_o_places, .inl (cI, 6, .inl o_places'))]) A) (by decide) rfl (Nat.le_of_ble_eq_true rfl) ?_
  intro p e s m below meth c A ls hg0 _ hsz hP hD hS hl
  have hg0 : gX p s m _ meth c cX1_placeTheRest 2 none wsX1_placeTheRest RX1 (dC, dI) Z [(cC, .char), (cI, .int), (cZ, .boolean), (cW, .object RX3)] A := hg0
  obtain ⟨hx, hb, hr, hml, hown, hts, hlocks, hA, hK, hN⟩ := id hg0
  subst hsz
  have hF : CallFix p m c cX1_placeTheRest 2 s _ wsX1_placeTheRest RX1 := ⟨hx, hb, hml, hown, hts⟩
  have hl : lv_has ls 2 [(0, .ref a_o)] := hl
  unfold fX1_placeTheRest at hf
  refine lv_iconst (v := (0 : Int32)) hx hb dX1_placeTheRest_0 (by decide) ?_
  refine lv_istore_n (lv' := [(1, .int (0 : Int32)), (0, .ref a_o)]) hx hb dX1_placeTheRest_1 rfl hl (by decide) rfl (fun ls hl => ?_)
  obtain ⟨o_places_1, l1_2, hc, hf⟩ := pb2 hf
  refine wX1_placeTheRest_2 hg0 a_o a_o_needs a_o_yields a_o_skips a_o_skills a_o_places a_o_wheel o_trades o_people o_tradesEnded  N N o_places (0 : Int32) o_places_1 l1_2 hc _ _ _ hP hD hS (lv_sub hl [1, 0] rfl) (fun H locs ls hP hD hS hl => ?_)
  have q0 := Option.some.inj hf
  subst q0
  exact gRv hx hb hr hlocks hP hS dX1_placeTheRest_50
abbrev rmX1_canBegin : Room := { frames := 0, cells := 0, slots := 0, locals := 0 }
set_option maxRecDepth 20000 in
theorem uX1_canBegin_X1 : ∀ w ∈ wsX10, w ∈ wsX1_canBegin := by decide +kernel
set_option maxRecDepth 20000 in
theorem mX1_canBegin_0 : (Cond.fieldLink RX1 9 "TradeWheel$Told" "trades" "I" : Cond) ∈ wsX1_canBegin := by decide +kernel
set_option maxRecDepth 20000 in
theorem mX1_canBegin_1 : (Cond.fieldLink RX1 15 "TradeWheel$Told" "people" "I" : Cond) ∈ wsX1_canBegin := by decide +kernel
set_option maxRecDepth 20000 in
theorem mX1_canBegin_2 : (Cond.fieldLink RX1 37 "TradeWheel$Told" "tradesEnded" "Z" : Cond) ∈ wsX1_canBegin := by decide +kernel
set_option maxHeartbeats 4000000 in
set_option maxRecDepth 100000 in
theorem kX1_canBegin (l : Launch) (dC : Nat → ClassId) (dI : Nat → Nat → Nat) (Z : gZ) (cC cI cZ cW : ClassId) (a_o a_o_needs a_o_yields a_o_skips a_o_skills a_o_places a_o_wheel : Nat) (sz : Nat) (o_trades : Int32) (o_people : Int32) (o_tradesEnded : Int32) (i1 : Int32) (N : Nat) (r' : Int32) (hf : fX1_canBegin N o_trades o_people o_tradesEnded  i1 = some r') : Met l yX1_canBegin wsX1_canBegin rmX1_canBegin (va_Pc [.ref a_o, .int i1] (gB (dC, dI) Z [(cC, .char), (cI, .int), (cZ, .boolean), (cW, .object RX3)] [(a_o, .inr (1, [.int o_trades, .int o_people, .ref a_o_needs, .ref a_o_yields, .ref a_o_skips, .ref a_o_skills, .ref a_o_places, .ref a_o_wheel, .int o_tradesEnded]))] sz)) (va_Qi (fun (r : Int32) (_ : Unit) => r = r') (gE (dC, dI) [(a_o, .inr (1, [.int o_trades, .int o_people, .ref a_o_needs, .ref a_o_yields, .ref a_o_skips, .ref a_o_skills, .ref a_o_places, .ref a_o_wheel, .int o_tradesEnded]))]) (va_A [(a_o, .inr (1, [.int o_trades, .int o_people, .ref a_o_needs, .ref a_o_yields, .ref a_o_skips, .ref a_o_skills, .ref a_o_places, .ref a_o_wheel, .int o_tradesEnded]))] sz)) 0 0 (va_A [(a_o, .inr (1, [.int o_trades, .int o_people, .ref a_o_needs, .ref a_o_yields, .ref a_o_skips, .ref a_o_skills, .ref a_o_places, .ref a_o_wheel, .int o_tradesEnded]))] sz) := by
  refine gMet (cc := cX1_canBegin) (maxL := 2) (ret := (some .boolean)) (Qc := fun A => va_Qi (fun (r : Int32) (_ : Unit) => r = r') (gE (dC, dI) [(a_o, .inr (1, [.int o_trades, .int o_people, .ref a_o_needs, .ref a_o_yields, .ref a_o_skips, .ref a_o_skills, .ref a_o_places, .ref a_o_wheel, .int o_tradesEnded]))]) A) (by decide) rfl (Nat.le_of_ble_eq_true rfl) ?_
  intro p e s m below meth c A ls hg0 _ hsz hP hD hS hl
  have hg0 : gX p s m _ meth c cX1_canBegin 2 (some .boolean) wsX1_canBegin RX1 (dC, dI) Z [(cC, .char), (cI, .int), (cZ, .boolean), (cW, .object RX3)] A := hg0
  obtain ⟨hx, hb, hr, hml, hown, hts, hlocks, hA, hK, hN⟩ := id hg0
  subst hsz
  have hF : CallFix p m c cX1_canBegin 2 s _ wsX1_canBegin RX1 := ⟨hx, hb, hml, hown, hts⟩
  have hl : lv_has ls 2 [(0, .ref a_o), (1, .int i1)] := hl
  unfold fX1_canBegin at hf
  refine lv_iload_n hx hb dX1_canBegin_0 rfl (lv_at hl 1 rfl) ?_
  by_cases c_5 : i1 = (-9 : Int32)
  · have hf := pit hf c_5
    refine gTab (off := 78) (tgt := 79) hx hb c_5 dX1_canBegin_1 (by decide) (by decide) (by decide) (by decide) ?_
    refine lv_aload_n hx hb dX1_canBegin_79 rfl (lv_at hl 0 rfl) ?_
    refine va_get (D := (dC, dI)) (ci := 1) (v := .int o_trades) (C := RX1) (T := TX1) (N := 9) hx hb hts uX1_canBegin_X1 hown hK hP 0 rfl rfl 0 (by decide) (hts _ mX1_canBegin_0) (fun _ h9 => h9) rfl dX1_canBegin_80 ?_
    refine lv_if_le (tgt := 90) hx hb dX1_canBegin_83 (by decide) (fun c_1 => ?_) (fun c_1 => ?_)
    · have hf := pit hf c_1
      refine lv_iconst (v := (0 : Int32)) hx hb dX1_canBegin_90 (by decide) ?_
      have q0 := Option.some.inj hf
      subst q0
      exact gRz hx hb hr rfl hlocks hP hS dX1_canBegin_91
    · have hf := pif hf c_1
      refine lv_iconst (v := (1 : Int32)) hx hb dX1_canBegin_86 (by decide) ?_
      refine lv_goto (tgt := 91) hx hb dX1_canBegin_87 (by decide) ?_
      have q0 := Option.some.inj hf
      subst q0
      exact gRz hx hb hr rfl hlocks hP hS dX1_canBegin_91
  · have hf := pif hf c_5
    by_cases c_6 : i1 = (-8 : Int32)
    · have hf := pit hf c_6
      refine gTab (off := 76) (tgt := 77) hx hb c_6 dX1_canBegin_1 (by decide) (by decide) (by decide) (by decide) ?_
      refine lv_iconst (v := (1 : Int32)) hx hb dX1_canBegin_77 (by decide) ?_
      have q0 := Option.some.inj hf
      subst q0
      exact gRz hx hb hr rfl hlocks hP hS dX1_canBegin_78
    · have hf := pif hf c_6
      by_cases c_7 : i1 = (-7 : Int32)
      · have hf := pit hf c_7
        refine gTab (off := 76) (tgt := 77) hx hb c_7 dX1_canBegin_1 (by decide) (by decide) (by decide) (by decide) ?_
        refine lv_iconst (v := (1 : Int32)) hx hb dX1_canBegin_77 (by decide) ?_
        have q0 := Option.some.inj hf
        subst q0
        exact gRz hx hb hr rfl hlocks hP hS dX1_canBegin_78
      · have hf := pif hf c_7
        by_cases c_8 : i1 = (-6 : Int32)
        · have hf := pit hf c_8
          refine gTab (off := 76) (tgt := 77) hx hb c_8 dX1_canBegin_1 (by decide) (by decide) (by decide) (by decide) ?_
          refine lv_iconst (v := (1 : Int32)) hx hb dX1_canBegin_77 (by decide) ?_
          have q0 := Option.some.inj hf
          subst q0
          exact gRz hx hb hr rfl hlocks hP hS dX1_canBegin_78
        · have hf := pif hf c_8
          by_cases c_9 : i1 = (-5 : Int32)
          · have hf := pit hf c_9
            refine gTab (off := 61) (tgt := 62) hx hb c_9 dX1_canBegin_1 (by decide) (by decide) (by decide) (by decide) ?_
            refine lv_aload_n hx hb dX1_canBegin_62 rfl (lv_at hl 0 rfl) ?_
            refine va_get (D := (dC, dI)) (ci := 1) (v := .int o_people) (C := RX1) (T := TX1) (N := 9) hx hb hts uX1_canBegin_X1 hown hK hP 0 rfl rfl 1 (by decide) (hts _ mX1_canBegin_1) (fun _ h9 => h9) rfl dX1_canBegin_63 ?_
            refine lv_bipush (v := (6 : Int32)) hx hb dX1_canBegin_66 (by decide) ?_
            refine lv_icmp_ge (tgt := 75) hx hb dX1_canBegin_68 (by decide) (fun c_2 => ?_) (fun c_2 => ?_)
            · have hf := pit hf c_2
              refine lv_iconst (v := (0 : Int32)) hx hb dX1_canBegin_75 (by decide) ?_
              have q0 := Option.some.inj hf
              subst q0
              exact gRz hx hb hr rfl hlocks hP hS dX1_canBegin_76
            · have hf := pif hf c_2
              refine lv_iconst (v := (1 : Int32)) hx hb dX1_canBegin_71 (by decide) ?_
              refine lv_goto (tgt := 76) hx hb dX1_canBegin_72 (by decide) ?_
              have q0 := Option.some.inj hf
              subst q0
              exact gRz hx hb hr rfl hlocks hP hS dX1_canBegin_76
          · have hf := pif hf c_9
            by_cases c_10 : i1 = (-4 : Int32)
            · have hf := pit hf c_10
              refine gTab (off := 39) (tgt := 40) hx hb c_10 dX1_canBegin_1 (by decide) (by decide) (by decide) (by decide) ?_
              refine lv_aload_n hx hb dX1_canBegin_40 rfl (lv_at hl 0 rfl) ?_
              refine va_get (D := (dC, dI)) (ci := 1) (v := .int o_trades) (C := RX1) (T := TX1) (N := 9) hx hb hts uX1_canBegin_X1 hown hK hP 0 rfl rfl 0 (by decide) (hts _ mX1_canBegin_0) (fun _ h9 => h9) rfl dX1_canBegin_41 ?_
              refine lv_bipush (v := (6 : Int32)) hx hb dX1_canBegin_44 (by decide) ?_
              refine lv_icmp_ge (tgt := 60) hx hb dX1_canBegin_46 (by decide) (fun c_3 => ?_) (fun c_3 => ?_)
              · have hf := pit hf c_3
                refine lv_iconst (v := (0 : Int32)) hx hb dX1_canBegin_60 (by decide) ?_
                have q0 := Option.some.inj hf
                subst q0
                exact gRz hx hb hr rfl hlocks hP hS dX1_canBegin_61
              · have hf := pif hf c_3
                refine lv_aload_n hx hb dX1_canBegin_49 rfl (lv_at hl 0 rfl) ?_
                refine va_get (D := (dC, dI)) (ci := 1) (v := .int o_tradesEnded) (C := RX1) (T := TX1) (N := 9) hx hb hts uX1_canBegin_X1 hown hK hP 0 rfl rfl 8 (by decide) (hts _ mX1_canBegin_2) (fun _ h9 => h9) rfl dX1_canBegin_50 ?_
                refine lv_if_ne (tgt := 60) hx hb dX1_canBegin_53 (by decide) (fun c_4 => ?_) (fun c_4 => ?_)
                · have hf := pif hf c_4
                  refine lv_iconst (v := (0 : Int32)) hx hb dX1_canBegin_60 (by decide) ?_
                  have q0 := Option.some.inj hf
                  subst q0
                  exact gRz hx hb hr rfl hlocks hP hS dX1_canBegin_61
                · have hf := pit hf c_4
                  refine lv_iconst (v := (1 : Int32)) hx hb dX1_canBegin_56 (by decide) ?_
                  refine lv_goto (tgt := 61) hx hb dX1_canBegin_57 (by decide) ?_
                  have q0 := Option.some.inj hf
                  subst q0
                  exact gRz hx hb hr rfl hlocks hP hS dX1_canBegin_61
            · have hf := pif hf c_10
              have c_5 := ti_ne (k := -9) c_5 (by decide)
              have c_6 := ti_ne (k := -8) c_6 (by decide)
              have c_7 := ti_ne (k := -7) c_7 (by decide)
              have c_8 := ti_ne (k := -6) c_8 (by decide)
              have c_9 := ti_ne (k := -5) c_9 (by decide)
              have c_10 := ti_ne (k := -4) c_10 (by decide)
              refine lv_tableOut (tgt := 92) hx hb dX1_canBegin_1 (by omega) (by decide) ?_
              refine lv_iconst (v := (0 : Int32)) hx hb dX1_canBegin_92 (by decide) ?_
              have q0 := Option.some.inj hf
              subst q0
              exact gRz hx hb hr rfl hlocks hP hS dX1_canBegin_93
abbrev rmX1_readPerson : Room := { frames := 0, cells := 0, slots := 0, locals := 0 }
set_option maxRecDepth 20000 in
theorem uX1_readPerson_X1 : ∀ w ∈ wsX10, w ∈ wsX1_readPerson := by decide +kernel
set_option maxRecDepth 20000 in
theorem mX1_readPerson_0 : (Cond.fieldLink RX1 15 "TradeWheel$Told" "people" "I" : Cond) ∈ wsX1_readPerson := by decide +kernel
set_option maxHeartbeats 4000000 in
set_option maxRecDepth 100000 in
theorem kX1_readPerson (l : Launch) (dC : Nat → ClassId) (dI : Nat → Nat → Nat) (Z : gZ) (cC cI cZ cW : ClassId) (a_o a_o_needs a_o_yields a_o_skips a_o_skills a_o_places a_o_wheel : Nat) (sz : Nat) (o_trades : Int32) (o_people : Int32) (o_tradesEnded : Int32)  (N : Nat) (r' : Int32) (o_people' : Int32) (hf : fX1_readPerson N o_people   = some (r', o_people')) : Met l yX1_readPerson wsX1_readPerson rmX1_readPerson (va_Pc [.ref a_o] (gB (dC, dI) Z [(cC, .char), (cI, .int), (cZ, .boolean), (cW, .object RX3)] [(a_o, .inr (1, [.int o_trades, .int o_people, .ref a_o_needs, .ref a_o_yields, .ref a_o_skips, .ref a_o_skills, .ref a_o_places, .ref a_o_wheel, .int o_tradesEnded]))] sz)) (va_Qi (fun (r : Int32) (_ : Unit) => r = r') (gE (dC, dI) [(a_o, .inr (1, [.int o_trades, .int o_people', .ref a_o_needs, .ref a_o_yields, .ref a_o_skips, .ref a_o_skills, .ref a_o_places, .ref a_o_wheel, .int o_tradesEnded]))]) (va_A [(a_o, .inr (1, [.int o_trades, .int o_people, .ref a_o_needs, .ref a_o_yields, .ref a_o_skips, .ref a_o_skills, .ref a_o_places, .ref a_o_wheel, .int o_tradesEnded]))] sz)) 0 0 (va_A [(a_o, .inr (1, [.int o_trades, .int o_people, .ref a_o_needs, .ref a_o_yields, .ref a_o_skips, .ref a_o_skills, .ref a_o_places, .ref a_o_wheel, .int o_tradesEnded]))] sz) := by
  refine gMet (cc := cX1_readPerson) (maxL := 1) (ret := (some .boolean)) (Qc := fun A => va_Qi (fun (r : Int32) (_ : Unit) => r = r') (gE (dC, dI) [(a_o, .inr (1, [.int o_trades, .int o_people', .ref a_o_needs, .ref a_o_yields, .ref a_o_skips, .ref a_o_skills, .ref a_o_places, .ref a_o_wheel, .int o_tradesEnded]))]) A) (by decide) rfl (Nat.le_of_ble_eq_true rfl) ?_
  intro p e s m below meth c A ls hg0 _ hsz hP hD hS hl
  have hg0 : gX p s m _ meth c cX1_readPerson 1 (some .boolean) wsX1_readPerson RX1 (dC, dI) Z [(cC, .char), (cI, .int), (cZ, .boolean), (cW, .object RX3)] A := hg0
  obtain ⟨hx, hb, hr, hml, hown, hts, hlocks, hA, hK, hN⟩ := id hg0
  subst hsz
  have hF : CallFix p m c cX1_readPerson 1 s _ wsX1_readPerson RX1 := ⟨hx, hb, hml, hown, hts⟩
  have hl : lv_has ls 1 [(0, .ref a_o)] := hl
  unfold fX1_readPerson at hf
  refine lv_aload_n hx hb dX1_readPerson_0 rfl (lv_at hl 0 rfl) ?_
  refine lv_dup hx hb dX1_readPerson_1 rfl ?_
  refine va_get (D := (dC, dI)) (ci := 1) (v := .int o_people) (C := RX1) (T := TX1) (N := 9) hx hb hts uX1_readPerson_X1 hown hK hP 0 rfl rfl 1 (by decide) (hts _ mX1_readPerson_0) (fun _ h9 => h9) rfl dX1_readPerson_2 ?_
  refine lv_iconst (v := (1 : Int32)) hx hb dX1_readPerson_5 (by decide) ?_
  refine lv_iadd hx hb dX1_readPerson_6 ?_
  refine va_put (D := (dC, dI)) (ci := 1) (v := .int (o_people + (1 : Int32))) (ty := .int) (C := RX1) (T := TX1) (N := 9) hx hb hts uX1_readPerson_X1 tyX1 tyX1_ok nmX1 hown hK hP hD hS 0 rfl rfl 1 (by decide) (hts _ mX1_readPerson_0) (fun _ h9 => h9) rfl (by decide +kernel) rfl rfl (Nat.le_of_ble_eq_true rfl) dX1_readPerson_7 (fun H locs hP hD hS => ?_)
  have hP : va_P (dC, dI) vwCl [(a_o, .inr (1, [.int o_trades, .int (o_people + (1 : Int32)), .ref a_o_needs, .ref a_o_yields, .ref a_o_skips, .ref a_o_skills, .ref a_o_places, .ref a_o_wheel, .int o_tradesEnded]))] H := hP
  have hD : va_D A [(a_o, .inr (1, [.int o_trades, .int (o_people + (1 : Int32)), .ref a_o_needs, .ref a_o_yields, .ref a_o_skips, .ref a_o_skills, .ref a_o_places, .ref a_o_wheel, .int o_tradesEnded]))] := hD
  refine lv_iconst (v := (1 : Int32)) hx hb dX1_readPerson_10 (by decide) ?_
  have q0 := Option.some.inj hf
  obtain ⟨e0, q1⟩ := Prod.mk.inj q0
  subst e0
  subst q1
  exact gRz hx hb hr rfl hlocks hP hS dX1_readPerson_11
abbrev rmX1_readPlace : Room := { frames := 2, cells := 0, slots := 0, locals := 45 }
set_option maxRecDepth 20000 in
theorem uX1_readPlace_X1 : ∀ w ∈ wsX10, w ∈ wsX1_readPlace := by decide +kernel
set_option maxRecDepth 20000 in
theorem mX1_readPlace_0 : (Cond.fieldLink RX1 37 "TradeWheel$Told" "tradesEnded" "Z" : Cond) ∈ wsX1_readPlace := by decide +kernel
set_option maxRecDepth 20000 in
theorem mX1_readPlace_1 : (Cond.fieldLink RX1 15 "TradeWheel$Told" "people" "I" : Cond) ∈ wsX1_readPlace := by decide +kernel
set_option maxRecDepth 20000 in
theorem mX1_readPlace_2 : (Cond.fieldLink RX1 9 "TradeWheel$Told" "trades" "I" : Cond) ∈ wsX1_readPlace := by decide +kernel
set_option maxRecDepth 20000 in
theorem mX1_readPlace_3 : (Cond.fieldLink RX1 31 "TradeWheel$Told" "places" "[I" : Cond) ∈ wsX1_readPlace := by decide +kernel
set_option maxHeartbeats 4000000 in
set_option maxRecDepth 100000 in
theorem kX1_readPlace (l : Launch) (dC : Nat → ClassId) (dI : Nat → Nat → Nat) (Z : gZ) (cC cI cZ cW : ClassId) (a_o a_o_needs a_o_yields a_o_skips a_o_skills a_o_places a_o_wheel a_x1 a_x1_signs a_x1_tokens a_x1_starts : Nat) (sz : Nat) (o_trades : Int32) (o_people : Int32) (o_tradesEnded : Int32) (o_places : Nat → Int32) (x1_length : Int32) (x1_cuts : Int32) (x1_current : Int32) (x1_tokens : Nat → Int32)  (N : Nat) (r' : Int32) (o_tradesEnded' : Int32) (o_places' : Nat → Int32) (x1_current' : Int32) (hf : fX1_readPlace N o_trades o_people o_tradesEnded o_places x1_cuts x1_current x1_tokens   = some (r', o_tradesEnded', o_places', x1_current')) : Met l yX1_readPlace wsX1_readPlace rmX1_readPlace (va_Pc [.ref a_o, .ref a_x1] (gB (dC, dI) Z [(cC, .char), (cI, .int), (cZ, .boolean), (cW, .object RX3)] [(a_o, .inr (1, [.int o_trades, .int o_people, .ref a_o_needs, .ref a_o_yields, .ref a_o_skips, .ref a_o_skills, .ref a_o_places, .ref a_o_wheel, .int o_tradesEnded])), (a_o_places, .inl (cI, 6, .inl o_places)), (a_x1, .inr (0, [.int x1_length, .ref a_x1_signs, .ref a_x1_tokens, .ref a_x1_starts, .int x1_cuts, .int x1_current])), (a_x1_tokens, .inl (cI, 401, .inl x1_tokens))] sz)) (va_Qi (fun (r : Int32) (_ : Unit) => r = r') (gE (dC, dI) [(a_o, .inr (1, [.int o_trades, .int o_people, .ref a_o_needs, .ref a_o_yields, .ref a_o_skips, .ref a_o_skills, .ref a_o_places, .ref a_o_wheel, .int o_tradesEnded'])), (a_o_places, .inl (cI, 6, .inl o_places')), (a_x1, .inr (0, [.int x1_length, .ref a_x1_signs, .ref a_x1_tokens, .ref a_x1_starts, .int x1_cuts, .int x1_current'])), (a_x1_tokens, .inl (cI, 401, .inl x1_tokens))]) (va_A [(a_o, .inr (1, [.int o_trades, .int o_people, .ref a_o_needs, .ref a_o_yields, .ref a_o_skips, .ref a_o_skills, .ref a_o_places, .ref a_o_wheel, .int o_tradesEnded])), (a_o_places, .inl (cI, 6, .inl o_places)), (a_x1, .inr (0, [.int x1_length, .ref a_x1_signs, .ref a_x1_tokens, .ref a_x1_starts, .int x1_cuts, .int x1_current])), (a_x1_tokens, .inl (cI, 401, .inl x1_tokens))] sz)) 0 0 (va_A [(a_o, .inr (1, [.int o_trades, .int o_people, .ref a_o_needs, .ref a_o_yields, .ref a_o_skips, .ref a_o_skills, .ref a_o_places, .ref a_o_wheel, .int o_tradesEnded])), (a_o_places, .inl (cI, 6, .inl o_places)), (a_x1, .inr (0, [.int x1_length, .ref a_x1_signs, .ref a_x1_tokens, .ref a_x1_starts, .int x1_cuts, .int x1_current])), (a_x1_tokens, .inl (cI, 401, .inl x1_tokens))] sz) := by
  refine gMet (cc := cX1_readPlace) (maxL := 4) (ret := (some .boolean)) (Qc := fun A => va_Qi (fun (r : Int32) (_ : Unit) => r = r') (gE (dC, dI) [(a_o, .inr (1, [.int o_trades, .int o_people, .ref a_o_needs, .ref a_o_yields, .ref a_o_skips, .ref a_o_skills, .ref a_o_places, .ref a_o_wheel, .int o_tradesEnded'])), (a_o_places, .inl (cI, 6, .inl o_places')), (a_x1, .inr (0, [.int x1_length, .ref a_x1_signs, .ref a_x1_tokens, .ref a_x1_starts, .int x1_cuts, .int x1_current'])), (a_x1_tokens, .inl (cI, 401, .inl x1_tokens))]) A) (by decide) rfl (Nat.le_of_ble_eq_true rfl) ?_
  intro p e s m below meth c A ls hg0 _ hsz hP hD hS hl
  have hg0 : gX p s m _ meth c cX1_readPlace 4 (some .boolean) wsX1_readPlace RX1 (dC, dI) Z [(cC, .char), (cI, .int), (cZ, .boolean), (cW, .object RX3)] A := hg0
  obtain ⟨hx, hb, hr, hml, hown, hts, hlocks, hA, hK, hN⟩ := id hg0
  subst hsz
  have hF : CallFix p m c cX1_readPlace 4 s _ wsX1_readPlace RX1 := ⟨hx, hb, hml, hown, hts⟩
  have hl : lv_has ls 4 [(0, .ref a_o), (1, .ref a_x1)] := hl
  unfold fX1_readPlace at hf
  refine lv_aload_n hx hb dX1_readPlace_0 rfl (lv_at hl 0 rfl) ?_
  refine lv_iconst (v := (1 : Int32)) hx hb dX1_readPlace_1 (by decide) ?_
  refine va_put (D := (dC, dI)) (ci := 1) (v := .int (1 : Int32)) (ty := .boolean) (C := RX1) (T := TX1) (N := 9) hx hb hts uX1_readPlace_X1 tyX1 tyX1_ok nmX1 hown hK hP hD hS 0 rfl rfl 8 (by decide) (hts _ mX1_readPlace_0) (fun _ h9 => h9) rfl (by decide +kernel) rfl rfl (Nat.le_of_ble_eq_true rfl) dX1_readPlace_2 (fun H locs hP hD hS => ?_)
  have hP : va_P (dC, dI) vwCl [(a_o, .inr (1, [.int o_trades, .int o_people, .ref a_o_needs, .ref a_o_yields, .ref a_o_skips, .ref a_o_skills, .ref a_o_places, .ref a_o_wheel, .int (1 : Int32)])), (a_o_places, .inl (cI, 6, .inl o_places)), (a_x1, .inr (0, [.int x1_length, .ref a_x1_signs, .ref a_x1_tokens, .ref a_x1_starts, .int x1_cuts, .int x1_current])), (a_x1_tokens, .inl (cI, 401, .inl x1_tokens))] H := hP
  have hD : va_D A [(a_o, .inr (1, [.int o_trades, .int o_people, .ref a_o_needs, .ref a_o_yields, .ref a_o_skips, .ref a_o_skills, .ref a_o_places, .ref a_o_wheel, .int (1 : Int32)])), (a_o_places, .inl (cI, 6, .inl o_places)), (a_x1, .inr (0, [.int x1_length, .ref a_x1_signs, .ref a_x1_tokens, .ref a_x1_starts, .int x1_cuts, .int x1_current])), (a_x1_tokens, .inl (cI, 401, .inl x1_tokens))] := hD
  refine lv_aload_n hx hb dX1_readPlace_5 rfl (lv_at hl 1 rfl) ?_
  refine lv_iconst (v := (0 : Int32)) hx hb dX1_readPlace_6 (by decide) ?_
  refine lv_aload_n hx hb dX1_readPlace_7 rfl (lv_at hl 0 rfl) ?_
  refine va_get (D := (dC, dI)) (ci := 1) (v := .int o_people) (C := RX1) (T := TX1) (N := 9) hx hb hts uX1_readPlace_X1 hown hK hP 0 rfl rfl 1 (by decide) (hts _ mX1_readPlace_1) (fun _ h9 => h9) rfl dX1_readPlace_8 ?_
  refine lv_iconst (v := (1 : Int32)) hx hb dX1_readPlace_11 (by decide) ?_
  refine lv_isub hx hb dX1_readPlace_12 ?_
  obtain ⟨r_1, x1_current_2, hc, hf⟩ := pb2 hf
  refine gCi (va_runV (As := [.int (0 : Int32), .int (o_people - (1 : Int32))]) (rest := []) hF (kX0_number l dC dI Z cC cI cZ cW a_x1 a_x1_signs a_x1_tokens a_x1_starts _ x1_length x1_cuts x1_current x1_tokens (0 : Int32) (o_people - (1 : Int32)) N r_1 x1_current_2 hc) (cwV 2 hts gX1_readPlace_X0_number rfl rfl rfl (by decide +kernel) ⟨Nat.le_of_ble_eq_true rfl, Nat.le_of_ble_eq_true rfl⟩) (gPV (wc := [(a_x1, .inr (0, [.int x1_length, .ref a_x1_signs, .ref a_x1_tokens, .ref a_x1_starts, .int x1_cuts, .int x1_current])), (a_x1_tokens, .inl (cI, 401, .inl x1_tokens))]) hK hN hA hS hP hD [2, 3] rfl rfl (q0 := 0) (ci := 0) rfl rfl rfl) rfl rfl hl.1 rfl (lv_room (Nat.le_of_ble_eq_true rfl)) dX1_readPlace_13 ⟨Nat.zero_le _, Nat.zero_le _⟩) hP hD hS hA [2, 3] rfl rfl rfl (fun H locs hP hD hS => ?_)
  have hP : va_P (dC, dI) vwCl [(a_o, .inr (1, [.int o_trades, .int o_people, .ref a_o_needs, .ref a_o_yields, .ref a_o_skips, .ref a_o_skills, .ref a_o_places, .ref a_o_wheel, .int (1 : Int32)])), (a_o_places, .inl (cI, 6, .inl o_places)), (a_x1, .inr (0, [.int x1_length, .ref a_x1_signs, .ref a_x1_tokens, .ref a_x1_starts, .int x1_cuts, .int x1_current_2])), (a_x1_tokens, .inl (cI, 401, .inl x1_tokens))] H := hP
  have hD : va_D A [(a_o, .inr (1, [.int o_trades, .int o_people, .ref a_o_needs, .ref a_o_yields, .ref a_o_skips, .ref a_o_skills, .ref a_o_places, .ref a_o_wheel, .int (1 : Int32)])), (a_o_places, .inl (cI, 6, .inl o_places)), (a_x1, .inr (0, [.int x1_length, .ref a_x1_signs, .ref a_x1_tokens, .ref a_x1_starts, .int x1_cuts, .int x1_current_2])), (a_x1_tokens, .inl (cI, 401, .inl x1_tokens))] := hD
  refine lv_istore_n (lv' := [(2, .int r_1), (0, .ref a_o), (1, .ref a_x1)]) hx hb dX1_readPlace_16 rfl hl (by decide) rfl (fun ls hl => ?_)
  refine lv_iload_n hx hb dX1_readPlace_17 rfl (lv_at hl 0 rfl) ?_
  refine lv_bipush (v := (-9 : Int32)) hx hb dX1_readPlace_18 (by decide) ?_
  refine lv_icmp_ne (tgt := 25) hx hb dX1_readPlace_20 (by decide) (fun c_3 => ?_) (fun c_3 => ?_)
  · have hf := pif hf c_3
    refine lv_aload_n hx hb dX1_readPlace_25 rfl (lv_at hl 2 rfl) ?_
    refine lv_iconst (v := (0 : Int32)) hx hb dX1_readPlace_26 (by decide) ?_
    refine lv_aload_n hx hb dX1_readPlace_27 rfl (lv_at hl 1 rfl) ?_
    refine va_get (D := (dC, dI)) (ci := 1) (v := .int o_trades) (C := RX1) (T := TX1) (N := 9) hx hb hts uX1_readPlace_X1 hown hK hP 0 rfl rfl 0 (by decide) (hts _ mX1_readPlace_2) (fun _ h9 => h9) rfl dX1_readPlace_28 ?_
    refine lv_iconst (v := (1 : Int32)) hx hb dX1_readPlace_31 (by decide) ?_
    refine lv_isub hx hb dX1_readPlace_32 ?_
    obtain ⟨r_4, x1_current_5, hc, hf⟩ := pb2 hf
    refine gCi (va_runV (As := [.int (0 : Int32), .int (o_trades - (1 : Int32))]) (rest := []) hF (kX0_number l dC dI Z cC cI cZ cW a_x1 a_x1_signs a_x1_tokens a_x1_starts _ x1_length x1_cuts x1_current_2 x1_tokens (0 : Int32) (o_trades - (1 : Int32)) N r_4 x1_current_5 hc) (cwV 2 hts gX1_readPlace_X0_number rfl rfl rfl (by decide +kernel) ⟨Nat.le_of_ble_eq_true rfl, Nat.le_of_ble_eq_true rfl⟩) (gPV (wc := [(a_x1, .inr (0, [.int x1_length, .ref a_x1_signs, .ref a_x1_tokens, .ref a_x1_starts, .int x1_cuts, .int x1_current_2])), (a_x1_tokens, .inl (cI, 401, .inl x1_tokens))]) hK hN hA hS hP hD [2, 3] rfl rfl (q0 := 0) (ci := 0) rfl rfl rfl) rfl rfl hl.1 rfl (lv_room (Nat.le_of_ble_eq_true rfl)) dX1_readPlace_33 ⟨Nat.zero_le _, Nat.zero_le _⟩) hP hD hS hA [2, 3] rfl rfl rfl (fun H locs hP hD hS => ?_)
    have hP : va_P (dC, dI) vwCl [(a_o, .inr (1, [.int o_trades, .int o_people, .ref a_o_needs, .ref a_o_yields, .ref a_o_skips, .ref a_o_skills, .ref a_o_places, .ref a_o_wheel, .int (1 : Int32)])), (a_o_places, .inl (cI, 6, .inl o_places)), (a_x1, .inr (0, [.int x1_length, .ref a_x1_signs, .ref a_x1_tokens, .ref a_x1_starts, .int x1_cuts, .int x1_current_5])), (a_x1_tokens, .inl (cI, 401, .inl x1_tokens))] H := hP
    have hD : va_D A [(a_o, .inr (1, [.int o_trades, .int o_people, .ref a_o_needs, .ref a_o_yields, .ref a_o_skips, .ref a_o_skills, .ref a_o_places, .ref a_o_wheel, .int (1 : Int32)])), (a_o_places, .inl (cI, 6, .inl o_places)), (a_x1, .inr (0, [.int x1_length, .ref a_x1_signs, .ref a_x1_tokens, .ref a_x1_starts, .int x1_cuts, .int x1_current_5])), (a_x1_tokens, .inl (cI, 401, .inl x1_tokens))] := hD
    refine lv_istore_n (lv' := [(3, .int r_4), (2, .int r_1), (0, .ref a_o), (1, .ref a_x1)]) hx hb dX1_readPlace_36 rfl hl (by decide) rfl (fun ls hl => ?_)
    refine lv_iload_n hx hb dX1_readPlace_37 rfl (lv_at hl 0 rfl) ?_
    refine lv_bipush (v := (-9 : Int32)) hx hb dX1_readPlace_38 (by decide) ?_
    refine lv_icmp_ne (tgt := 45) hx hb dX1_readPlace_40 (by decide) (fun c_6 => ?_) (fun c_6 => ?_)
    · have hf := pif hf c_6
      refine lv_aload_n hx hb dX1_readPlace_45 rfl (lv_at hl 2 rfl) ?_
      refine va_get (D := (dC, dI)) (ci := 1) (v := .ref a_o_places) (C := RX1) (T := TX1) (N := 9) hx hb hts uX1_readPlace_X1 hown hK hP 0 rfl rfl 6 (by decide) (hts _ mX1_readPlace_3) (fun _ h9 => h9) rfl dX1_readPlace_46 ?_
      refine lv_iload_n hx hb dX1_readPlace_49 rfl (lv_at hl 1 rfl) ?_
      refine lv_iload_n hx hb dX1_readPlace_50 rfl (lv_at hl 0 rfl) ?_
      obtain ⟨h_7, hf⟩ := pgd hf
      refine va_iast hx hb hK hP hD hS 1 1 rfl rfl h_7 dX1_readPlace_51 (fun H locs hP hD hS => ?_)
      have hP : va_P (dC, dI) vwCl [(a_o, .inr (1, [.int o_trades, .int o_people, .ref a_o_needs, .ref a_o_yields, .ref a_o_skips, .ref a_o_skills, .ref a_o_places, .ref a_o_wheel, .int (1 : Int32)])), (a_o_places, .inl (cI, 6, .inl (upd o_places r_1.toNatClampNeg r_4))), (a_x1, .inr (0, [.int x1_length, .ref a_x1_signs, .ref a_x1_tokens, .ref a_x1_starts, .int x1_cuts, .int x1_current_5])), (a_x1_tokens, .inl (cI, 401, .inl x1_tokens))] H := hP
      have hD : va_D A [(a_o, .inr (1, [.int o_trades, .int o_people, .ref a_o_needs, .ref a_o_yields, .ref a_o_skips, .ref a_o_skills, .ref a_o_places, .ref a_o_wheel, .int (1 : Int32)])), (a_o_places, .inl (cI, 6, .inl (upd o_places r_1.toNatClampNeg r_4))), (a_x1, .inr (0, [.int x1_length, .ref a_x1_signs, .ref a_x1_tokens, .ref a_x1_starts, .int x1_cuts, .int x1_current_5])), (a_x1_tokens, .inl (cI, 401, .inl x1_tokens))] := hD
      refine lv_iconst (v := (1 : Int32)) hx hb dX1_readPlace_52 (by decide) ?_
      have q0 := Option.some.inj hf
      obtain ⟨e0, q1⟩ := Prod.mk.inj q0
      obtain ⟨e1, q2⟩ := Prod.mk.inj q1
      obtain ⟨e2, q3⟩ := Prod.mk.inj q2
      subst e0
      subst e1
      subst e2
      subst q3
      exact gRz hx hb hr rfl hlocks hP hS dX1_readPlace_53
    · have hf := pit hf c_6
      refine lv_iconst (v := (0 : Int32)) hx hb dX1_readPlace_43 (by decide) ?_
      have q0 := Option.some.inj hf
      obtain ⟨e0, q1⟩ := Prod.mk.inj q0
      obtain ⟨e1, q2⟩ := Prod.mk.inj q1
      obtain ⟨e2, q3⟩ := Prod.mk.inj q2
      subst e0
      subst e1
      subst e2
      subst q3
      exact gRz hx hb hr rfl hlocks hP hS dX1_readPlace_44
  · have hf := pit hf c_3
    refine lv_iconst (v := (0 : Int32)) hx hb dX1_readPlace_23 (by decide) ?_
    have q0 := Option.some.inj hf
    obtain ⟨e0, q1⟩ := Prod.mk.inj q0
    obtain ⟨e1, q2⟩ := Prod.mk.inj q1
    obtain ⟨e2, q3⟩ := Prod.mk.inj q2
    subst e0
    subst e1
    subst e2
    subst q3
    exact gRz hx hb hr rfl hlocks hP hS dX1_readPlace_24
abbrev rmX1_readSkill : Room := { frames := 2, cells := 0, slots := 0, locals := 45 }
set_option maxRecDepth 20000 in
theorem uX1_readSkill_X1 : ∀ w ∈ wsX10, w ∈ wsX1_readSkill := by decide +kernel
set_option maxRecDepth 20000 in
theorem mX1_readSkill_0 : (Cond.fieldLink RX1 37 "TradeWheel$Told" "tradesEnded" "Z" : Cond) ∈ wsX1_readSkill := by decide +kernel
set_option maxRecDepth 20000 in
theorem mX1_readSkill_1 : (Cond.fieldLink RX1 15 "TradeWheel$Told" "people" "I" : Cond) ∈ wsX1_readSkill := by decide +kernel
set_option maxRecDepth 20000 in
theorem mX1_readSkill_2 : (Cond.fieldLink RX1 9 "TradeWheel$Told" "trades" "I" : Cond) ∈ wsX1_readSkill := by decide +kernel
set_option maxRecDepth 20000 in
theorem mX1_readSkill_3 : (Cond.fieldLink RX1 28 "TradeWheel$Told" "skills" "[I" : Cond) ∈ wsX1_readSkill := by decide +kernel
set_option maxRecDepth 20000 in
theorem mX1_readSkill_4 : (Cond.initialized RX4 : Cond) ∈ wsX1_readSkill := by decide +kernel
set_option maxRecDepth 20000 in
theorem mX1_readSkill_5 : (Cond.static yX4_cell : Cond) ∈ wsX1_readSkill := by decide +kernel
set_option maxHeartbeats 4000000 in
set_option maxRecDepth 100000 in
theorem kX1_readSkill (l : Launch) (dC : Nat → ClassId) (dI : Nat → Nat → Nat) (Z : gZ) (cC cI cZ cW : ClassId) (a_o a_o_needs a_o_yields a_o_skips a_o_skills a_o_places a_o_wheel a_x1 a_x1_signs a_x1_tokens a_x1_starts : Nat) (sz : Nat) (o_trades : Int32) (o_people : Int32) (o_tradesEnded : Int32) (o_skills : Nat → Int32) (x1_length : Int32) (x1_cuts : Int32) (x1_current : Int32) (x1_tokens : Nat → Int32)  (N : Nat) (r' : Int32) (o_tradesEnded' : Int32) (o_skills' : Nat → Int32) (x1_current' : Int32) (hf : fX1_readSkill N o_trades o_people o_tradesEnded o_skills x1_cuts x1_current x1_tokens   = some (r', o_tradesEnded', o_skills', x1_current')) : Met l yX1_readSkill wsX1_readSkill rmX1_readSkill (va_Pc [.ref a_o, .ref a_x1] (gB (dC, dI) Z [(cC, .char), (cI, .int), (cZ, .boolean), (cW, .object RX3)] [(a_o, .inr (1, [.int o_trades, .int o_people, .ref a_o_needs, .ref a_o_yields, .ref a_o_skips, .ref a_o_skills, .ref a_o_places, .ref a_o_wheel, .int o_tradesEnded])), (a_o_skills, .inl (cI, 36, .inl o_skills)), (a_x1, .inr (0, [.int x1_length, .ref a_x1_signs, .ref a_x1_tokens, .ref a_x1_starts, .int x1_cuts, .int x1_current])), (a_x1_tokens, .inl (cI, 401, .inl x1_tokens))] sz)) (va_Qi (fun (r : Int32) (_ : Unit) => r = r') (gE (dC, dI) [(a_o, .inr (1, [.int o_trades, .int o_people, .ref a_o_needs, .ref a_o_yields, .ref a_o_skips, .ref a_o_skills, .ref a_o_places, .ref a_o_wheel, .int o_tradesEnded'])), (a_o_skills, .inl (cI, 36, .inl o_skills')), (a_x1, .inr (0, [.int x1_length, .ref a_x1_signs, .ref a_x1_tokens, .ref a_x1_starts, .int x1_cuts, .int x1_current'])), (a_x1_tokens, .inl (cI, 401, .inl x1_tokens))]) (va_A [(a_o, .inr (1, [.int o_trades, .int o_people, .ref a_o_needs, .ref a_o_yields, .ref a_o_skips, .ref a_o_skills, .ref a_o_places, .ref a_o_wheel, .int o_tradesEnded])), (a_o_skills, .inl (cI, 36, .inl o_skills)), (a_x1, .inr (0, [.int x1_length, .ref a_x1_signs, .ref a_x1_tokens, .ref a_x1_starts, .int x1_cuts, .int x1_current])), (a_x1_tokens, .inl (cI, 401, .inl x1_tokens))] sz)) 0 0 (va_A [(a_o, .inr (1, [.int o_trades, .int o_people, .ref a_o_needs, .ref a_o_yields, .ref a_o_skips, .ref a_o_skills, .ref a_o_places, .ref a_o_wheel, .int o_tradesEnded])), (a_o_skills, .inl (cI, 36, .inl o_skills)), (a_x1, .inr (0, [.int x1_length, .ref a_x1_signs, .ref a_x1_tokens, .ref a_x1_starts, .int x1_cuts, .int x1_current])), (a_x1_tokens, .inl (cI, 401, .inl x1_tokens))] sz) := by
  refine gMet (cc := cX1_readSkill) (maxL := 5) (ret := (some .boolean)) (Qc := fun A => va_Qi (fun (r : Int32) (_ : Unit) => r = r') (gE (dC, dI) [(a_o, .inr (1, [.int o_trades, .int o_people, .ref a_o_needs, .ref a_o_yields, .ref a_o_skips, .ref a_o_skills, .ref a_o_places, .ref a_o_wheel, .int o_tradesEnded'])), (a_o_skills, .inl (cI, 36, .inl o_skills')), (a_x1, .inr (0, [.int x1_length, .ref a_x1_signs, .ref a_x1_tokens, .ref a_x1_starts, .int x1_cuts, .int x1_current'])), (a_x1_tokens, .inl (cI, 401, .inl x1_tokens))]) A) (by decide) rfl (Nat.le_of_ble_eq_true rfl) ?_
  intro p e s m below meth c A ls hg0 _ hsz hP hD hS hl
  have hg0 : gX p s m _ meth c cX1_readSkill 5 (some .boolean) wsX1_readSkill RX1 (dC, dI) Z [(cC, .char), (cI, .int), (cZ, .boolean), (cW, .object RX3)] A := hg0
  obtain ⟨hx, hb, hr, hml, hown, hts, hlocks, hA, hK, hN⟩ := id hg0
  subst hsz
  have hF : CallFix p m c cX1_readSkill 5 s _ wsX1_readSkill RX1 := ⟨hx, hb, hml, hown, hts⟩
  have hl : lv_has ls 5 [(0, .ref a_o), (1, .ref a_x1)] := hl
  unfold fX1_readSkill at hf
  refine lv_aload_n hx hb dX1_readSkill_0 rfl (lv_at hl 0 rfl) ?_
  refine lv_iconst (v := (1 : Int32)) hx hb dX1_readSkill_1 (by decide) ?_
  refine va_put (D := (dC, dI)) (ci := 1) (v := .int (1 : Int32)) (ty := .boolean) (C := RX1) (T := TX1) (N := 9) hx hb hts uX1_readSkill_X1 tyX1 tyX1_ok nmX1 hown hK hP hD hS 0 rfl rfl 8 (by decide) (hts _ mX1_readSkill_0) (fun _ h9 => h9) rfl (by decide +kernel) rfl rfl (Nat.le_of_ble_eq_true rfl) dX1_readSkill_2 (fun H locs hP hD hS => ?_)
  have hP : va_P (dC, dI) vwCl [(a_o, .inr (1, [.int o_trades, .int o_people, .ref a_o_needs, .ref a_o_yields, .ref a_o_skips, .ref a_o_skills, .ref a_o_places, .ref a_o_wheel, .int (1 : Int32)])), (a_o_skills, .inl (cI, 36, .inl o_skills)), (a_x1, .inr (0, [.int x1_length, .ref a_x1_signs, .ref a_x1_tokens, .ref a_x1_starts, .int x1_cuts, .int x1_current])), (a_x1_tokens, .inl (cI, 401, .inl x1_tokens))] H := hP
  have hD : va_D A [(a_o, .inr (1, [.int o_trades, .int o_people, .ref a_o_needs, .ref a_o_yields, .ref a_o_skips, .ref a_o_skills, .ref a_o_places, .ref a_o_wheel, .int (1 : Int32)])), (a_o_skills, .inl (cI, 36, .inl o_skills)), (a_x1, .inr (0, [.int x1_length, .ref a_x1_signs, .ref a_x1_tokens, .ref a_x1_starts, .int x1_cuts, .int x1_current])), (a_x1_tokens, .inl (cI, 401, .inl x1_tokens))] := hD
  refine lv_aload_n hx hb dX1_readSkill_5 rfl (lv_at hl 1 rfl) ?_
  refine lv_iconst (v := (0 : Int32)) hx hb dX1_readSkill_6 (by decide) ?_
  refine lv_aload_n hx hb dX1_readSkill_7 rfl (lv_at hl 0 rfl) ?_
  refine va_get (D := (dC, dI)) (ci := 1) (v := .int o_people) (C := RX1) (T := TX1) (N := 9) hx hb hts uX1_readSkill_X1 hown hK hP 0 rfl rfl 1 (by decide) (hts _ mX1_readSkill_1) (fun _ h9 => h9) rfl dX1_readSkill_8 ?_
  refine lv_iconst (v := (1 : Int32)) hx hb dX1_readSkill_11 (by decide) ?_
  refine lv_isub hx hb dX1_readSkill_12 ?_
  obtain ⟨r_1, x1_current_2, hc, hf⟩ := pb2 hf
  refine gCi (va_runV (As := [.int (0 : Int32), .int (o_people - (1 : Int32))]) (rest := []) hF (kX0_number l dC dI Z cC cI cZ cW a_x1 a_x1_signs a_x1_tokens a_x1_starts _ x1_length x1_cuts x1_current x1_tokens (0 : Int32) (o_people - (1 : Int32)) N r_1 x1_current_2 hc) (cwV 2 hts gX1_readSkill_X0_number rfl rfl rfl (by decide +kernel) ⟨Nat.le_of_ble_eq_true rfl, Nat.le_of_ble_eq_true rfl⟩) (gPV (wc := [(a_x1, .inr (0, [.int x1_length, .ref a_x1_signs, .ref a_x1_tokens, .ref a_x1_starts, .int x1_cuts, .int x1_current])), (a_x1_tokens, .inl (cI, 401, .inl x1_tokens))]) hK hN hA hS hP hD [2, 3] rfl rfl (q0 := 0) (ci := 0) rfl rfl rfl) rfl rfl hl.1 rfl (lv_room (Nat.le_of_ble_eq_true rfl)) dX1_readSkill_13 ⟨Nat.zero_le _, Nat.zero_le _⟩) hP hD hS hA [2, 3] rfl rfl rfl (fun H locs hP hD hS => ?_)
  have hP : va_P (dC, dI) vwCl [(a_o, .inr (1, [.int o_trades, .int o_people, .ref a_o_needs, .ref a_o_yields, .ref a_o_skips, .ref a_o_skills, .ref a_o_places, .ref a_o_wheel, .int (1 : Int32)])), (a_o_skills, .inl (cI, 36, .inl o_skills)), (a_x1, .inr (0, [.int x1_length, .ref a_x1_signs, .ref a_x1_tokens, .ref a_x1_starts, .int x1_cuts, .int x1_current_2])), (a_x1_tokens, .inl (cI, 401, .inl x1_tokens))] H := hP
  have hD : va_D A [(a_o, .inr (1, [.int o_trades, .int o_people, .ref a_o_needs, .ref a_o_yields, .ref a_o_skips, .ref a_o_skills, .ref a_o_places, .ref a_o_wheel, .int (1 : Int32)])), (a_o_skills, .inl (cI, 36, .inl o_skills)), (a_x1, .inr (0, [.int x1_length, .ref a_x1_signs, .ref a_x1_tokens, .ref a_x1_starts, .int x1_cuts, .int x1_current_2])), (a_x1_tokens, .inl (cI, 401, .inl x1_tokens))] := hD
  refine lv_istore_n (lv' := [(2, .int r_1), (0, .ref a_o), (1, .ref a_x1)]) hx hb dX1_readSkill_16 rfl hl (by decide) rfl (fun ls hl => ?_)
  refine lv_iload_n hx hb dX1_readSkill_17 rfl (lv_at hl 0 rfl) ?_
  refine lv_bipush (v := (-9 : Int32)) hx hb dX1_readSkill_18 (by decide) ?_
  refine lv_icmp_ne (tgt := 25) hx hb dX1_readSkill_20 (by decide) (fun c_3 => ?_) (fun c_3 => ?_)
  · have hf := pif hf c_3
    refine lv_aload_n hx hb dX1_readSkill_25 rfl (lv_at hl 2 rfl) ?_
    refine lv_iconst (v := (0 : Int32)) hx hb dX1_readSkill_26 (by decide) ?_
    refine lv_aload_n hx hb dX1_readSkill_27 rfl (lv_at hl 1 rfl) ?_
    refine va_get (D := (dC, dI)) (ci := 1) (v := .int o_trades) (C := RX1) (T := TX1) (N := 9) hx hb hts uX1_readSkill_X1 hown hK hP 0 rfl rfl 0 (by decide) (hts _ mX1_readSkill_2) (fun _ h9 => h9) rfl dX1_readSkill_28 ?_
    refine lv_iconst (v := (1 : Int32)) hx hb dX1_readSkill_31 (by decide) ?_
    refine lv_isub hx hb dX1_readSkill_32 ?_
    obtain ⟨r_4, x1_current_5, hc, hf⟩ := pb2 hf
    refine gCi (va_runV (As := [.int (0 : Int32), .int (o_trades - (1 : Int32))]) (rest := []) hF (kX0_number l dC dI Z cC cI cZ cW a_x1 a_x1_signs a_x1_tokens a_x1_starts _ x1_length x1_cuts x1_current_2 x1_tokens (0 : Int32) (o_trades - (1 : Int32)) N r_4 x1_current_5 hc) (cwV 2 hts gX1_readSkill_X0_number rfl rfl rfl (by decide +kernel) ⟨Nat.le_of_ble_eq_true rfl, Nat.le_of_ble_eq_true rfl⟩) (gPV (wc := [(a_x1, .inr (0, [.int x1_length, .ref a_x1_signs, .ref a_x1_tokens, .ref a_x1_starts, .int x1_cuts, .int x1_current_2])), (a_x1_tokens, .inl (cI, 401, .inl x1_tokens))]) hK hN hA hS hP hD [2, 3] rfl rfl (q0 := 0) (ci := 0) rfl rfl rfl) rfl rfl hl.1 rfl (lv_room (Nat.le_of_ble_eq_true rfl)) dX1_readSkill_33 ⟨Nat.zero_le _, Nat.zero_le _⟩) hP hD hS hA [2, 3] rfl rfl rfl (fun H locs hP hD hS => ?_)
    have hP : va_P (dC, dI) vwCl [(a_o, .inr (1, [.int o_trades, .int o_people, .ref a_o_needs, .ref a_o_yields, .ref a_o_skips, .ref a_o_skills, .ref a_o_places, .ref a_o_wheel, .int (1 : Int32)])), (a_o_skills, .inl (cI, 36, .inl o_skills)), (a_x1, .inr (0, [.int x1_length, .ref a_x1_signs, .ref a_x1_tokens, .ref a_x1_starts, .int x1_cuts, .int x1_current_5])), (a_x1_tokens, .inl (cI, 401, .inl x1_tokens))] H := hP
    have hD : va_D A [(a_o, .inr (1, [.int o_trades, .int o_people, .ref a_o_needs, .ref a_o_yields, .ref a_o_skips, .ref a_o_skills, .ref a_o_places, .ref a_o_wheel, .int (1 : Int32)])), (a_o_skills, .inl (cI, 36, .inl o_skills)), (a_x1, .inr (0, [.int x1_length, .ref a_x1_signs, .ref a_x1_tokens, .ref a_x1_starts, .int x1_cuts, .int x1_current_5])), (a_x1_tokens, .inl (cI, 401, .inl x1_tokens))] := hD
    refine lv_istore_n (lv' := [(3, .int r_4), (2, .int r_1), (0, .ref a_o), (1, .ref a_x1)]) hx hb dX1_readSkill_36 rfl hl (by decide) rfl (fun ls hl => ?_)
    refine lv_iload_n hx hb dX1_readSkill_37 rfl (lv_at hl 0 rfl) ?_
    refine lv_bipush (v := (-9 : Int32)) hx hb dX1_readSkill_38 (by decide) ?_
    refine lv_icmp_ne (tgt := 45) hx hb dX1_readSkill_40 (by decide) (fun c_6 => ?_) (fun c_6 => ?_)
    · have hf := pif hf c_6
      refine lv_aload_n hx hb dX1_readSkill_45 rfl (lv_at hl 3 rfl) ?_
      refine lv_iconst (v := (0 : Int32)) hx hb dX1_readSkill_46 (by decide) ?_
      refine lv_bipush (v := (9 : Int32)) hx hb dX1_readSkill_47 (by decide) ?_
      obtain ⟨r_7, x1_current_8, hc, hf⟩ := pb2 hf
      refine gCi (va_runV (As := [.int (0 : Int32), .int (9 : Int32)]) (rest := []) hF (kX0_number l dC dI Z cC cI cZ cW a_x1 a_x1_signs a_x1_tokens a_x1_starts _ x1_length x1_cuts x1_current_5 x1_tokens (0 : Int32) (9 : Int32) N r_7 x1_current_8 hc) (cwV 2 hts gX1_readSkill_X0_number rfl rfl rfl (by decide +kernel) ⟨Nat.le_of_ble_eq_true rfl, Nat.le_of_ble_eq_true rfl⟩) (gPV (wc := [(a_x1, .inr (0, [.int x1_length, .ref a_x1_signs, .ref a_x1_tokens, .ref a_x1_starts, .int x1_cuts, .int x1_current_5])), (a_x1_tokens, .inl (cI, 401, .inl x1_tokens))]) hK hN hA hS hP hD [2, 3] rfl rfl (q0 := 0) (ci := 0) rfl rfl rfl) rfl rfl hl.1 rfl (lv_room (Nat.le_of_ble_eq_true rfl)) dX1_readSkill_49 ⟨Nat.zero_le _, Nat.zero_le _⟩) hP hD hS hA [2, 3] rfl rfl rfl (fun H locs hP hD hS => ?_)
      have hP : va_P (dC, dI) vwCl [(a_o, .inr (1, [.int o_trades, .int o_people, .ref a_o_needs, .ref a_o_yields, .ref a_o_skips, .ref a_o_skills, .ref a_o_places, .ref a_o_wheel, .int (1 : Int32)])), (a_o_skills, .inl (cI, 36, .inl o_skills)), (a_x1, .inr (0, [.int x1_length, .ref a_x1_signs, .ref a_x1_tokens, .ref a_x1_starts, .int x1_cuts, .int x1_current_8])), (a_x1_tokens, .inl (cI, 401, .inl x1_tokens))] H := hP
      have hD : va_D A [(a_o, .inr (1, [.int o_trades, .int o_people, .ref a_o_needs, .ref a_o_yields, .ref a_o_skips, .ref a_o_skills, .ref a_o_places, .ref a_o_wheel, .int (1 : Int32)])), (a_o_skills, .inl (cI, 36, .inl o_skills)), (a_x1, .inr (0, [.int x1_length, .ref a_x1_signs, .ref a_x1_tokens, .ref a_x1_starts, .int x1_cuts, .int x1_current_8])), (a_x1_tokens, .inl (cI, 401, .inl x1_tokens))] := hD
      refine lv_istore (lv' := [(4, .int r_7), (3, .int r_4), (2, .int r_1), (0, .ref a_o), (1, .ref a_x1)]) hx hb dX1_readSkill_52 hl (by decide) rfl (fun ls hl => ?_)
      refine lv_iload hx hb dX1_readSkill_54 (lv_at hl 0 rfl) ?_
      refine lv_bipush (v := (-9 : Int32)) hx hb dX1_readSkill_56 (by decide) ?_
      refine lv_icmp_ne (tgt := 63) hx hb dX1_readSkill_58 (by decide) (fun c_9 => ?_) (fun c_9 => ?_)
      · have hf := pif hf c_9
        refine lv_aload_n hx hb dX1_readSkill_63 rfl (lv_at hl 3 rfl) ?_
        refine va_get (D := (dC, dI)) (ci := 1) (v := .ref a_o_skills) (C := RX1) (T := TX1) (N := 9) hx hb hts uX1_readSkill_X1 hown hK hP 0 rfl rfl 5 (by decide) (hts _ mX1_readSkill_3) (fun _ h9 => h9) rfl dX1_readSkill_64 ?_
        refine lv_iload_n hx hb dX1_readSkill_67 rfl (lv_at hl 2 rfl) ?_
        refine lv_iload_n hx hb dX1_readSkill_68 rfl (lv_at hl 1 rfl) ?_
        obtain ⟨r_10, hc, hf⟩ := pb1 hf
        refine gCi (va_runSN (As := [.int r_1, .int r_4]) (rest := [.ref a_o_skills]) hF (kX4_cell l dC dI Z cC cI cZ cW  _  r_1 r_4 N r_10 hc) ⟨va_cnB 2 hts gX1_readSkill_X4_cell_n87 rfl rfl rfl (hN.1 (.methodLinkNest RX1 87 yX4_cell RX4) (by decide +kernel)) (hts _ mX1_readSkill_4) (by decide +kernel) ⟨Nat.le_of_ble_eq_true rfl, Nat.le_of_ble_eq_true rfl⟩, hts _ mX1_readSkill_5, trivial⟩ (gPS (wc := []) hK hN hA hS hP hD [] rfl rfl) rfl rfl hl.1 rfl (lv_room (Nat.le_of_ble_eq_true rfl)) dX1_readSkill_69 ⟨Nat.zero_le _, Nat.zero_le _⟩) hP hD hS hA [] rfl rfl rfl (fun H locs hP hD hS => ?_)
        have hP : va_P (dC, dI) vwCl [(a_o, .inr (1, [.int o_trades, .int o_people, .ref a_o_needs, .ref a_o_yields, .ref a_o_skips, .ref a_o_skills, .ref a_o_places, .ref a_o_wheel, .int (1 : Int32)])), (a_o_skills, .inl (cI, 36, .inl o_skills)), (a_x1, .inr (0, [.int x1_length, .ref a_x1_signs, .ref a_x1_tokens, .ref a_x1_starts, .int x1_cuts, .int x1_current_8])), (a_x1_tokens, .inl (cI, 401, .inl x1_tokens))] H := hP
        have hD : va_D A [(a_o, .inr (1, [.int o_trades, .int o_people, .ref a_o_needs, .ref a_o_yields, .ref a_o_skips, .ref a_o_skills, .ref a_o_places, .ref a_o_wheel, .int (1 : Int32)])), (a_o_skills, .inl (cI, 36, .inl o_skills)), (a_x1, .inr (0, [.int x1_length, .ref a_x1_signs, .ref a_x1_tokens, .ref a_x1_starts, .int x1_cuts, .int x1_current_8])), (a_x1_tokens, .inl (cI, 401, .inl x1_tokens))] := hD
        refine lv_iload hx hb dX1_readSkill_72 (lv_at hl 0 rfl) ?_
        obtain ⟨h_11, hf⟩ := pgd hf
        refine va_iast hx hb hK hP hD hS 1 1 rfl rfl h_11 dX1_readSkill_74 (fun H locs hP hD hS => ?_)
        have hP : va_P (dC, dI) vwCl [(a_o, .inr (1, [.int o_trades, .int o_people, .ref a_o_needs, .ref a_o_yields, .ref a_o_skips, .ref a_o_skills, .ref a_o_places, .ref a_o_wheel, .int (1 : Int32)])), (a_o_skills, .inl (cI, 36, .inl (upd o_skills r_10.toNatClampNeg r_7))), (a_x1, .inr (0, [.int x1_length, .ref a_x1_signs, .ref a_x1_tokens, .ref a_x1_starts, .int x1_cuts, .int x1_current_8])), (a_x1_tokens, .inl (cI, 401, .inl x1_tokens))] H := hP
        have hD : va_D A [(a_o, .inr (1, [.int o_trades, .int o_people, .ref a_o_needs, .ref a_o_yields, .ref a_o_skips, .ref a_o_skills, .ref a_o_places, .ref a_o_wheel, .int (1 : Int32)])), (a_o_skills, .inl (cI, 36, .inl (upd o_skills r_10.toNatClampNeg r_7))), (a_x1, .inr (0, [.int x1_length, .ref a_x1_signs, .ref a_x1_tokens, .ref a_x1_starts, .int x1_cuts, .int x1_current_8])), (a_x1_tokens, .inl (cI, 401, .inl x1_tokens))] := hD
        refine lv_iconst (v := (1 : Int32)) hx hb dX1_readSkill_75 (by decide) ?_
        have q0 := Option.some.inj hf
        obtain ⟨e0, q1⟩ := Prod.mk.inj q0
        obtain ⟨e1, q2⟩ := Prod.mk.inj q1
        obtain ⟨e2, q3⟩ := Prod.mk.inj q2
        subst e0
        subst e1
        subst e2
        subst q3
        exact gRz hx hb hr rfl hlocks hP hS dX1_readSkill_76
      · have hf := pit hf c_9
        refine lv_iconst (v := (0 : Int32)) hx hb dX1_readSkill_61 (by decide) ?_
        have q0 := Option.some.inj hf
        obtain ⟨e0, q1⟩ := Prod.mk.inj q0
        obtain ⟨e1, q2⟩ := Prod.mk.inj q1
        obtain ⟨e2, q3⟩ := Prod.mk.inj q2
        subst e0
        subst e1
        subst e2
        subst q3
        exact gRz hx hb hr rfl hlocks hP hS dX1_readSkill_62
    · have hf := pit hf c_6
      refine lv_iconst (v := (0 : Int32)) hx hb dX1_readSkill_43 (by decide) ?_
      have q0 := Option.some.inj hf
      obtain ⟨e0, q1⟩ := Prod.mk.inj q0
      obtain ⟨e1, q2⟩ := Prod.mk.inj q1
      obtain ⟨e2, q3⟩ := Prod.mk.inj q2
      subst e0
      subst e1
      subst e2
      subst q3
      exact gRz hx hb hr rfl hlocks hP hS dX1_readSkill_44
  · have hf := pit hf c_3
    refine lv_iconst (v := (0 : Int32)) hx hb dX1_readSkill_23 (by decide) ?_
    have q0 := Option.some.inj hf
    obtain ⟨e0, q1⟩ := Prod.mk.inj q0
    obtain ⟨e1, q2⟩ := Prod.mk.inj q1
    obtain ⟨e2, q3⟩ := Prod.mk.inj q2
    subst e0
    subst e1
    subst e2
    subst q3
    exact gRz hx hb hr rfl hlocks hP hS dX1_readSkill_24
abbrev rmX1_readSkip : Room := { frames := 2, cells := 0, slots := 0, locals := 45 }
set_option maxRecDepth 20000 in
theorem uX1_readSkip_X1 : ∀ w ∈ wsX10, w ∈ wsX1_readSkip := by decide +kernel
set_option maxRecDepth 20000 in
theorem mX1_readSkip_0 : (Cond.fieldLink RX1 37 "TradeWheel$Told" "tradesEnded" "Z" : Cond) ∈ wsX1_readSkip := by decide +kernel
set_option maxRecDepth 20000 in
theorem mX1_readSkip_1 : (Cond.fieldLink RX1 15 "TradeWheel$Told" "people" "I" : Cond) ∈ wsX1_readSkip := by decide +kernel
set_option maxRecDepth 20000 in
theorem mX1_readSkip_2 : (Cond.fieldLink RX1 9 "TradeWheel$Told" "trades" "I" : Cond) ∈ wsX1_readSkip := by decide +kernel
set_option maxRecDepth 20000 in
theorem mX1_readSkip_3 : (Cond.fieldLink RX1 25 "TradeWheel$Told" "skips" "[I" : Cond) ∈ wsX1_readSkip := by decide +kernel
set_option maxHeartbeats 4000000 in
set_option maxRecDepth 100000 in
theorem kX1_readSkip (l : Launch) (dC : Nat → ClassId) (dI : Nat → Nat → Nat) (Z : gZ) (cC cI cZ cW : ClassId) (a_o a_o_needs a_o_yields a_o_skips a_o_skills a_o_places a_o_wheel a_x1 a_x1_signs a_x1_tokens a_x1_starts : Nat) (sz : Nat) (o_trades : Int32) (o_people : Int32) (o_tradesEnded : Int32) (o_skips : Nat → Int32) (x1_length : Int32) (x1_cuts : Int32) (x1_current : Int32) (x1_tokens : Nat → Int32)  (N : Nat) (r' : Int32) (o_tradesEnded' : Int32) (o_skips' : Nat → Int32) (x1_current' : Int32) (hf : fX1_readSkip N o_trades o_people o_tradesEnded o_skips x1_cuts x1_current x1_tokens   = some (r', o_tradesEnded', o_skips', x1_current')) : Met l yX1_readSkip wsX1_readSkip rmX1_readSkip (va_Pc [.ref a_o, .ref a_x1] (gB (dC, dI) Z [(cC, .char), (cI, .int), (cZ, .boolean), (cW, .object RX3)] [(a_o, .inr (1, [.int o_trades, .int o_people, .ref a_o_needs, .ref a_o_yields, .ref a_o_skips, .ref a_o_skills, .ref a_o_places, .ref a_o_wheel, .int o_tradesEnded])), (a_o_skips, .inl (cI, 6, .inl o_skips)), (a_x1, .inr (0, [.int x1_length, .ref a_x1_signs, .ref a_x1_tokens, .ref a_x1_starts, .int x1_cuts, .int x1_current])), (a_x1_tokens, .inl (cI, 401, .inl x1_tokens))] sz)) (va_Qi (fun (r : Int32) (_ : Unit) => r = r') (gE (dC, dI) [(a_o, .inr (1, [.int o_trades, .int o_people, .ref a_o_needs, .ref a_o_yields, .ref a_o_skips, .ref a_o_skills, .ref a_o_places, .ref a_o_wheel, .int o_tradesEnded'])), (a_o_skips, .inl (cI, 6, .inl o_skips')), (a_x1, .inr (0, [.int x1_length, .ref a_x1_signs, .ref a_x1_tokens, .ref a_x1_starts, .int x1_cuts, .int x1_current'])), (a_x1_tokens, .inl (cI, 401, .inl x1_tokens))]) (va_A [(a_o, .inr (1, [.int o_trades, .int o_people, .ref a_o_needs, .ref a_o_yields, .ref a_o_skips, .ref a_o_skills, .ref a_o_places, .ref a_o_wheel, .int o_tradesEnded])), (a_o_skips, .inl (cI, 6, .inl o_skips)), (a_x1, .inr (0, [.int x1_length, .ref a_x1_signs, .ref a_x1_tokens, .ref a_x1_starts, .int x1_cuts, .int x1_current])), (a_x1_tokens, .inl (cI, 401, .inl x1_tokens))] sz)) 0 0 (va_A [(a_o, .inr (1, [.int o_trades, .int o_people, .ref a_o_needs, .ref a_o_yields, .ref a_o_skips, .ref a_o_skills, .ref a_o_places, .ref a_o_wheel, .int o_tradesEnded])), (a_o_skips, .inl (cI, 6, .inl o_skips)), (a_x1, .inr (0, [.int x1_length, .ref a_x1_signs, .ref a_x1_tokens, .ref a_x1_starts, .int x1_cuts, .int x1_current])), (a_x1_tokens, .inl (cI, 401, .inl x1_tokens))] sz) := by
  refine gMet (cc := cX1_readSkip) (maxL := 4) (ret := (some .boolean)) (Qc := fun A => va_Qi (fun (r : Int32) (_ : Unit) => r = r') (gE (dC, dI) [(a_o, .inr (1, [.int o_trades, .int o_people, .ref a_o_needs, .ref a_o_yields, .ref a_o_skips, .ref a_o_skills, .ref a_o_places, .ref a_o_wheel, .int o_tradesEnded'])), (a_o_skips, .inl (cI, 6, .inl o_skips')), (a_x1, .inr (0, [.int x1_length, .ref a_x1_signs, .ref a_x1_tokens, .ref a_x1_starts, .int x1_cuts, .int x1_current'])), (a_x1_tokens, .inl (cI, 401, .inl x1_tokens))]) A) (by decide) rfl (Nat.le_of_ble_eq_true rfl) ?_
  intro p e s m below meth c A ls hg0 _ hsz hP hD hS hl
  have hg0 : gX p s m _ meth c cX1_readSkip 4 (some .boolean) wsX1_readSkip RX1 (dC, dI) Z [(cC, .char), (cI, .int), (cZ, .boolean), (cW, .object RX3)] A := hg0
  obtain ⟨hx, hb, hr, hml, hown, hts, hlocks, hA, hK, hN⟩ := id hg0
  subst hsz
  have hF : CallFix p m c cX1_readSkip 4 s _ wsX1_readSkip RX1 := ⟨hx, hb, hml, hown, hts⟩
  have hl : lv_has ls 4 [(0, .ref a_o), (1, .ref a_x1)] := hl
  unfold fX1_readSkip at hf
  refine lv_aload_n hx hb dX1_readSkip_0 rfl (lv_at hl 0 rfl) ?_
  refine lv_iconst (v := (1 : Int32)) hx hb dX1_readSkip_1 (by decide) ?_
  refine va_put (D := (dC, dI)) (ci := 1) (v := .int (1 : Int32)) (ty := .boolean) (C := RX1) (T := TX1) (N := 9) hx hb hts uX1_readSkip_X1 tyX1 tyX1_ok nmX1 hown hK hP hD hS 0 rfl rfl 8 (by decide) (hts _ mX1_readSkip_0) (fun _ h9 => h9) rfl (by decide +kernel) rfl rfl (Nat.le_of_ble_eq_true rfl) dX1_readSkip_2 (fun H locs hP hD hS => ?_)
  have hP : va_P (dC, dI) vwCl [(a_o, .inr (1, [.int o_trades, .int o_people, .ref a_o_needs, .ref a_o_yields, .ref a_o_skips, .ref a_o_skills, .ref a_o_places, .ref a_o_wheel, .int (1 : Int32)])), (a_o_skips, .inl (cI, 6, .inl o_skips)), (a_x1, .inr (0, [.int x1_length, .ref a_x1_signs, .ref a_x1_tokens, .ref a_x1_starts, .int x1_cuts, .int x1_current])), (a_x1_tokens, .inl (cI, 401, .inl x1_tokens))] H := hP
  have hD : va_D A [(a_o, .inr (1, [.int o_trades, .int o_people, .ref a_o_needs, .ref a_o_yields, .ref a_o_skips, .ref a_o_skills, .ref a_o_places, .ref a_o_wheel, .int (1 : Int32)])), (a_o_skips, .inl (cI, 6, .inl o_skips)), (a_x1, .inr (0, [.int x1_length, .ref a_x1_signs, .ref a_x1_tokens, .ref a_x1_starts, .int x1_cuts, .int x1_current])), (a_x1_tokens, .inl (cI, 401, .inl x1_tokens))] := hD
  refine lv_aload_n hx hb dX1_readSkip_5 rfl (lv_at hl 1 rfl) ?_
  refine lv_iconst (v := (0 : Int32)) hx hb dX1_readSkip_6 (by decide) ?_
  refine lv_aload_n hx hb dX1_readSkip_7 rfl (lv_at hl 0 rfl) ?_
  refine va_get (D := (dC, dI)) (ci := 1) (v := .int o_people) (C := RX1) (T := TX1) (N := 9) hx hb hts uX1_readSkip_X1 hown hK hP 0 rfl rfl 1 (by decide) (hts _ mX1_readSkip_1) (fun _ h9 => h9) rfl dX1_readSkip_8 ?_
  refine lv_iconst (v := (1 : Int32)) hx hb dX1_readSkip_11 (by decide) ?_
  refine lv_isub hx hb dX1_readSkip_12 ?_
  obtain ⟨r_1, x1_current_2, hc, hf⟩ := pb2 hf
  refine gCi (va_runV (As := [.int (0 : Int32), .int (o_people - (1 : Int32))]) (rest := []) hF (kX0_number l dC dI Z cC cI cZ cW a_x1 a_x1_signs a_x1_tokens a_x1_starts _ x1_length x1_cuts x1_current x1_tokens (0 : Int32) (o_people - (1 : Int32)) N r_1 x1_current_2 hc) (cwV 2 hts gX1_readSkip_X0_number rfl rfl rfl (by decide +kernel) ⟨Nat.le_of_ble_eq_true rfl, Nat.le_of_ble_eq_true rfl⟩) (gPV (wc := [(a_x1, .inr (0, [.int x1_length, .ref a_x1_signs, .ref a_x1_tokens, .ref a_x1_starts, .int x1_cuts, .int x1_current])), (a_x1_tokens, .inl (cI, 401, .inl x1_tokens))]) hK hN hA hS hP hD [2, 3] rfl rfl (q0 := 0) (ci := 0) rfl rfl rfl) rfl rfl hl.1 rfl (lv_room (Nat.le_of_ble_eq_true rfl)) dX1_readSkip_13 ⟨Nat.zero_le _, Nat.zero_le _⟩) hP hD hS hA [2, 3] rfl rfl rfl (fun H locs hP hD hS => ?_)
  have hP : va_P (dC, dI) vwCl [(a_o, .inr (1, [.int o_trades, .int o_people, .ref a_o_needs, .ref a_o_yields, .ref a_o_skips, .ref a_o_skills, .ref a_o_places, .ref a_o_wheel, .int (1 : Int32)])), (a_o_skips, .inl (cI, 6, .inl o_skips)), (a_x1, .inr (0, [.int x1_length, .ref a_x1_signs, .ref a_x1_tokens, .ref a_x1_starts, .int x1_cuts, .int x1_current_2])), (a_x1_tokens, .inl (cI, 401, .inl x1_tokens))] H := hP
  have hD : va_D A [(a_o, .inr (1, [.int o_trades, .int o_people, .ref a_o_needs, .ref a_o_yields, .ref a_o_skips, .ref a_o_skills, .ref a_o_places, .ref a_o_wheel, .int (1 : Int32)])), (a_o_skips, .inl (cI, 6, .inl o_skips)), (a_x1, .inr (0, [.int x1_length, .ref a_x1_signs, .ref a_x1_tokens, .ref a_x1_starts, .int x1_cuts, .int x1_current_2])), (a_x1_tokens, .inl (cI, 401, .inl x1_tokens))] := hD
  refine lv_istore_n (lv' := [(2, .int r_1), (0, .ref a_o), (1, .ref a_x1)]) hx hb dX1_readSkip_16 rfl hl (by decide) rfl (fun ls hl => ?_)
  refine lv_iload_n hx hb dX1_readSkip_17 rfl (lv_at hl 0 rfl) ?_
  refine lv_bipush (v := (-9 : Int32)) hx hb dX1_readSkip_18 (by decide) ?_
  refine lv_icmp_ne (tgt := 25) hx hb dX1_readSkip_20 (by decide) (fun c_3 => ?_) (fun c_3 => ?_)
  · have hf := pif hf c_3
    refine lv_aload_n hx hb dX1_readSkip_25 rfl (lv_at hl 2 rfl) ?_
    refine lv_iconst (v := (0 : Int32)) hx hb dX1_readSkip_26 (by decide) ?_
    refine lv_aload_n hx hb dX1_readSkip_27 rfl (lv_at hl 1 rfl) ?_
    refine va_get (D := (dC, dI)) (ci := 1) (v := .int o_trades) (C := RX1) (T := TX1) (N := 9) hx hb hts uX1_readSkip_X1 hown hK hP 0 rfl rfl 0 (by decide) (hts _ mX1_readSkip_2) (fun _ h9 => h9) rfl dX1_readSkip_28 ?_
    refine lv_iconst (v := (1 : Int32)) hx hb dX1_readSkip_31 (by decide) ?_
    refine lv_isub hx hb dX1_readSkip_32 ?_
    obtain ⟨r_4, x1_current_5, hc, hf⟩ := pb2 hf
    refine gCi (va_runV (As := [.int (0 : Int32), .int (o_trades - (1 : Int32))]) (rest := []) hF (kX0_number l dC dI Z cC cI cZ cW a_x1 a_x1_signs a_x1_tokens a_x1_starts _ x1_length x1_cuts x1_current_2 x1_tokens (0 : Int32) (o_trades - (1 : Int32)) N r_4 x1_current_5 hc) (cwV 2 hts gX1_readSkip_X0_number rfl rfl rfl (by decide +kernel) ⟨Nat.le_of_ble_eq_true rfl, Nat.le_of_ble_eq_true rfl⟩) (gPV (wc := [(a_x1, .inr (0, [.int x1_length, .ref a_x1_signs, .ref a_x1_tokens, .ref a_x1_starts, .int x1_cuts, .int x1_current_2])), (a_x1_tokens, .inl (cI, 401, .inl x1_tokens))]) hK hN hA hS hP hD [2, 3] rfl rfl (q0 := 0) (ci := 0) rfl rfl rfl) rfl rfl hl.1 rfl (lv_room (Nat.le_of_ble_eq_true rfl)) dX1_readSkip_33 ⟨Nat.zero_le _, Nat.zero_le _⟩) hP hD hS hA [2, 3] rfl rfl rfl (fun H locs hP hD hS => ?_)
    have hP : va_P (dC, dI) vwCl [(a_o, .inr (1, [.int o_trades, .int o_people, .ref a_o_needs, .ref a_o_yields, .ref a_o_skips, .ref a_o_skills, .ref a_o_places, .ref a_o_wheel, .int (1 : Int32)])), (a_o_skips, .inl (cI, 6, .inl o_skips)), (a_x1, .inr (0, [.int x1_length, .ref a_x1_signs, .ref a_x1_tokens, .ref a_x1_starts, .int x1_cuts, .int x1_current_5])), (a_x1_tokens, .inl (cI, 401, .inl x1_tokens))] H := hP
    have hD : va_D A [(a_o, .inr (1, [.int o_trades, .int o_people, .ref a_o_needs, .ref a_o_yields, .ref a_o_skips, .ref a_o_skills, .ref a_o_places, .ref a_o_wheel, .int (1 : Int32)])), (a_o_skips, .inl (cI, 6, .inl o_skips)), (a_x1, .inr (0, [.int x1_length, .ref a_x1_signs, .ref a_x1_tokens, .ref a_x1_starts, .int x1_cuts, .int x1_current_5])), (a_x1_tokens, .inl (cI, 401, .inl x1_tokens))] := hD
    refine lv_istore_n (lv' := [(3, .int r_4), (2, .int r_1), (0, .ref a_o), (1, .ref a_x1)]) hx hb dX1_readSkip_36 rfl hl (by decide) rfl (fun ls hl => ?_)
    refine lv_iload_n hx hb dX1_readSkip_37 rfl (lv_at hl 0 rfl) ?_
    refine lv_bipush (v := (-9 : Int32)) hx hb dX1_readSkip_38 (by decide) ?_
    refine lv_icmp_ne (tgt := 45) hx hb dX1_readSkip_40 (by decide) (fun c_6 => ?_) (fun c_6 => ?_)
    · have hf := pif hf c_6
      refine lv_aload_n hx hb dX1_readSkip_45 rfl (lv_at hl 2 rfl) ?_
      refine va_get (D := (dC, dI)) (ci := 1) (v := .ref a_o_skips) (C := RX1) (T := TX1) (N := 9) hx hb hts uX1_readSkip_X1 hown hK hP 0 rfl rfl 4 (by decide) (hts _ mX1_readSkip_3) (fun _ h9 => h9) rfl dX1_readSkip_46 ?_
      refine lv_iload_n hx hb dX1_readSkip_49 rfl (lv_at hl 1 rfl) ?_
      refine lv_dup2_11 hx hb dX1_readSkip_50 rfl rfl ?_
      obtain ⟨h_7, hf⟩ := pgd hf
      refine va_iald hx hb hK hP 1 1 rfl rfl h_7 dX1_readSkip_51 ?_
      refine lv_iconst (v := (1 : Int32)) hx hb dX1_readSkip_52 (by decide) ?_
      refine lv_iload_n hx hb dX1_readSkip_53 rfl (lv_at hl 0 rfl) ?_
      refine lv_ishl hx hb dX1_readSkip_54 ?_
      refine lv_ior hx hb dX1_readSkip_55 ?_
      obtain ⟨h_8, hf⟩ := pgd hf
      refine va_iast hx hb hK hP hD hS 1 1 rfl rfl h_8 dX1_readSkip_56 (fun H locs hP hD hS => ?_)
      have hP : va_P (dC, dI) vwCl [(a_o, .inr (1, [.int o_trades, .int o_people, .ref a_o_needs, .ref a_o_yields, .ref a_o_skips, .ref a_o_skills, .ref a_o_places, .ref a_o_wheel, .int (1 : Int32)])), (a_o_skips, .inl (cI, 6, .inl (upd o_skips r_1.toNatClampNeg ((o_skips r_1.toNatClampNeg) ||| ((1 : Int32) <<< (r_4 &&& 31)))))), (a_x1, .inr (0, [.int x1_length, .ref a_x1_signs, .ref a_x1_tokens, .ref a_x1_starts, .int x1_cuts, .int x1_current_5])), (a_x1_tokens, .inl (cI, 401, .inl x1_tokens))] H := hP
      have hD : va_D A [(a_o, .inr (1, [.int o_trades, .int o_people, .ref a_o_needs, .ref a_o_yields, .ref a_o_skips, .ref a_o_skills, .ref a_o_places, .ref a_o_wheel, .int (1 : Int32)])), (a_o_skips, .inl (cI, 6, .inl (upd o_skips r_1.toNatClampNeg ((o_skips r_1.toNatClampNeg) ||| ((1 : Int32) <<< (r_4 &&& 31)))))), (a_x1, .inr (0, [.int x1_length, .ref a_x1_signs, .ref a_x1_tokens, .ref a_x1_starts, .int x1_cuts, .int x1_current_5])), (a_x1_tokens, .inl (cI, 401, .inl x1_tokens))] := hD
      refine lv_iconst (v := (1 : Int32)) hx hb dX1_readSkip_57 (by decide) ?_
      have q0 := Option.some.inj hf
      obtain ⟨e0, q1⟩ := Prod.mk.inj q0
      obtain ⟨e1, q2⟩ := Prod.mk.inj q1
      obtain ⟨e2, q3⟩ := Prod.mk.inj q2
      subst e0
      subst e1
      subst e2
      subst q3
      exact gRz hx hb hr rfl hlocks hP hS dX1_readSkip_58
    · have hf := pit hf c_6
      refine lv_iconst (v := (0 : Int32)) hx hb dX1_readSkip_43 (by decide) ?_
      have q0 := Option.some.inj hf
      obtain ⟨e0, q1⟩ := Prod.mk.inj q0
      obtain ⟨e1, q2⟩ := Prod.mk.inj q1
      obtain ⟨e2, q3⟩ := Prod.mk.inj q2
      subst e0
      subst e1
      subst e2
      subst q3
      exact gRz hx hb hr rfl hlocks hP hS dX1_readSkip_44
  · have hf := pit hf c_3
    refine lv_iconst (v := (0 : Int32)) hx hb dX1_readSkip_23 (by decide) ?_
    have q0 := Option.some.inj hf
    obtain ⟨e0, q1⟩ := Prod.mk.inj q0
    obtain ⟨e1, q2⟩ := Prod.mk.inj q1
    obtain ⟨e2, q3⟩ := Prod.mk.inj q2
    subst e0
    subst e1
    subst e2
    subst q3
    exact gRz hx hb hr rfl hlocks hP hS dX1_readSkip_24
abbrev rmX1_readTrade : Room := { frames := 2, cells := 0, slots := 0, locals := 45 }
set_option maxRecDepth 20000 in
theorem uX1_readTrade_X1 : ∀ w ∈ wsX10, w ∈ wsX1_readTrade := by decide +kernel
set_option maxRecDepth 20000 in
theorem mX1_readTrade_0 : (Cond.fieldLink RX1 18 "TradeWheel$Told" "needs" "[I" : Cond) ∈ wsX1_readTrade := by decide +kernel
set_option maxRecDepth 20000 in
theorem mX1_readTrade_1 : (Cond.fieldLink RX1 9 "TradeWheel$Told" "trades" "I" : Cond) ∈ wsX1_readTrade := by decide +kernel
set_option maxRecDepth 20000 in
theorem mX1_readTrade_2 : (Cond.fieldLink RX1 22 "TradeWheel$Told" "yields" "[I" : Cond) ∈ wsX1_readTrade := by decide +kernel
set_option maxHeartbeats 4000000 in
set_option maxRecDepth 100000 in
theorem kX1_readTrade (l : Launch) (dC : Nat → ClassId) (dI : Nat → Nat → Nat) (Z : gZ) (cC cI cZ cW : ClassId) (a_o a_o_needs a_o_yields a_o_skips a_o_skills a_o_places a_o_wheel a_x1 a_x1_signs a_x1_tokens a_x1_starts : Nat) (sz : Nat) (o_trades : Int32) (o_people : Int32) (o_tradesEnded : Int32) (o_needs : Nat → Int32) (o_yields : Nat → Int32) (x1_length : Int32) (x1_cuts : Int32) (x1_current : Int32) (x1_tokens : Nat → Int32)  (N : Nat) (r' : Int32) (o_trades' : Int32) (o_needs' : Nat → Int32) (o_yields' : Nat → Int32) (x1_current' : Int32) (hf : fX1_readTrade N o_trades o_needs o_yields x1_cuts x1_current x1_tokens   = some (r', o_trades', o_needs', o_yields', x1_current')) : Met l yX1_readTrade wsX1_readTrade rmX1_readTrade (va_Pc [.ref a_o, .ref a_x1] (gB (dC, dI) Z [(cC, .char), (cI, .int), (cZ, .boolean), (cW, .object RX3)] [(a_o, .inr (1, [.int o_trades, .int o_people, .ref a_o_needs, .ref a_o_yields, .ref a_o_skips, .ref a_o_skills, .ref a_o_places, .ref a_o_wheel, .int o_tradesEnded])), (a_o_needs, .inl (cI, 6, .inl o_needs)), (a_o_yields, .inl (cI, 6, .inl o_yields)), (a_x1, .inr (0, [.int x1_length, .ref a_x1_signs, .ref a_x1_tokens, .ref a_x1_starts, .int x1_cuts, .int x1_current])), (a_x1_tokens, .inl (cI, 401, .inl x1_tokens))] sz)) (va_Qi (fun (r : Int32) (_ : Unit) => r = r') (gE (dC, dI) [(a_o, .inr (1, [.int o_trades', .int o_people, .ref a_o_needs, .ref a_o_yields, .ref a_o_skips, .ref a_o_skills, .ref a_o_places, .ref a_o_wheel, .int o_tradesEnded])), (a_o_needs, .inl (cI, 6, .inl o_needs')), (a_o_yields, .inl (cI, 6, .inl o_yields')), (a_x1, .inr (0, [.int x1_length, .ref a_x1_signs, .ref a_x1_tokens, .ref a_x1_starts, .int x1_cuts, .int x1_current'])), (a_x1_tokens, .inl (cI, 401, .inl x1_tokens))]) (va_A [(a_o, .inr (1, [.int o_trades, .int o_people, .ref a_o_needs, .ref a_o_yields, .ref a_o_skips, .ref a_o_skills, .ref a_o_places, .ref a_o_wheel, .int o_tradesEnded])), (a_o_needs, .inl (cI, 6, .inl o_needs)), (a_o_yields, .inl (cI, 6, .inl o_yields)), (a_x1, .inr (0, [.int x1_length, .ref a_x1_signs, .ref a_x1_tokens, .ref a_x1_starts, .int x1_cuts, .int x1_current])), (a_x1_tokens, .inl (cI, 401, .inl x1_tokens))] sz)) 0 0 (va_A [(a_o, .inr (1, [.int o_trades, .int o_people, .ref a_o_needs, .ref a_o_yields, .ref a_o_skips, .ref a_o_skills, .ref a_o_places, .ref a_o_wheel, .int o_tradesEnded])), (a_o_needs, .inl (cI, 6, .inl o_needs)), (a_o_yields, .inl (cI, 6, .inl o_yields)), (a_x1, .inr (0, [.int x1_length, .ref a_x1_signs, .ref a_x1_tokens, .ref a_x1_starts, .int x1_cuts, .int x1_current])), (a_x1_tokens, .inl (cI, 401, .inl x1_tokens))] sz) := by
  refine gMet (cc := cX1_readTrade) (maxL := 4) (ret := (some .boolean)) (Qc := fun A => va_Qi (fun (r : Int32) (_ : Unit) => r = r') (gE (dC, dI) [(a_o, .inr (1, [.int o_trades', .int o_people, .ref a_o_needs, .ref a_o_yields, .ref a_o_skips, .ref a_o_skills, .ref a_o_places, .ref a_o_wheel, .int o_tradesEnded])), (a_o_needs, .inl (cI, 6, .inl o_needs')), (a_o_yields, .inl (cI, 6, .inl o_yields')), (a_x1, .inr (0, [.int x1_length, .ref a_x1_signs, .ref a_x1_tokens, .ref a_x1_starts, .int x1_cuts, .int x1_current'])), (a_x1_tokens, .inl (cI, 401, .inl x1_tokens))]) A) (by decide) rfl (Nat.le_of_ble_eq_true rfl) ?_
  intro p e s m below meth c A ls hg0 _ hsz hP hD hS hl
  have hg0 : gX p s m _ meth c cX1_readTrade 4 (some .boolean) wsX1_readTrade RX1 (dC, dI) Z [(cC, .char), (cI, .int), (cZ, .boolean), (cW, .object RX3)] A := hg0
  obtain ⟨hx, hb, hr, hml, hown, hts, hlocks, hA, hK, hN⟩ := id hg0
  subst hsz
  have hF : CallFix p m c cX1_readTrade 4 s _ wsX1_readTrade RX1 := ⟨hx, hb, hml, hown, hts⟩
  have hl : lv_has ls 4 [(0, .ref a_o), (1, .ref a_x1)] := hl
  unfold fX1_readTrade at hf
  refine lv_aload_n hx hb dX1_readTrade_0 rfl (lv_at hl 1 rfl) ?_
  refine lv_iconst (v := (0 : Int32)) hx hb dX1_readTrade_1 (by decide) ?_
  refine lv_bipush (v := (99 : Int32)) hx hb dX1_readTrade_2 (by decide) ?_
  obtain ⟨r_1, x1_current_2, hc, hf⟩ := pb2 hf
  refine gCi (va_runV (As := [.int (0 : Int32), .int (99 : Int32)]) (rest := []) hF (kX0_number l dC dI Z cC cI cZ cW a_x1 a_x1_signs a_x1_tokens a_x1_starts _ x1_length x1_cuts x1_current x1_tokens (0 : Int32) (99 : Int32) N r_1 x1_current_2 hc) (cwV 2 hts gX1_readTrade_X0_number rfl rfl rfl (by decide +kernel) ⟨Nat.le_of_ble_eq_true rfl, Nat.le_of_ble_eq_true rfl⟩) (gPV (wc := [(a_x1, .inr (0, [.int x1_length, .ref a_x1_signs, .ref a_x1_tokens, .ref a_x1_starts, .int x1_cuts, .int x1_current])), (a_x1_tokens, .inl (cI, 401, .inl x1_tokens))]) hK hN hA hS hP hD [3, 4] rfl rfl (q0 := 0) (ci := 0) rfl rfl rfl) rfl rfl hl.1 rfl (lv_room (Nat.le_of_ble_eq_true rfl)) dX1_readTrade_4 ⟨Nat.zero_le _, Nat.zero_le _⟩) hP hD hS hA [3, 4] rfl rfl rfl (fun H locs hP hD hS => ?_)
  have hP : va_P (dC, dI) vwCl [(a_o, .inr (1, [.int o_trades, .int o_people, .ref a_o_needs, .ref a_o_yields, .ref a_o_skips, .ref a_o_skills, .ref a_o_places, .ref a_o_wheel, .int o_tradesEnded])), (a_o_needs, .inl (cI, 6, .inl o_needs)), (a_o_yields, .inl (cI, 6, .inl o_yields)), (a_x1, .inr (0, [.int x1_length, .ref a_x1_signs, .ref a_x1_tokens, .ref a_x1_starts, .int x1_cuts, .int x1_current_2])), (a_x1_tokens, .inl (cI, 401, .inl x1_tokens))] H := hP
  have hD : va_D A [(a_o, .inr (1, [.int o_trades, .int o_people, .ref a_o_needs, .ref a_o_yields, .ref a_o_skips, .ref a_o_skills, .ref a_o_places, .ref a_o_wheel, .int o_tradesEnded])), (a_o_needs, .inl (cI, 6, .inl o_needs)), (a_o_yields, .inl (cI, 6, .inl o_yields)), (a_x1, .inr (0, [.int x1_length, .ref a_x1_signs, .ref a_x1_tokens, .ref a_x1_starts, .int x1_cuts, .int x1_current_2])), (a_x1_tokens, .inl (cI, 401, .inl x1_tokens))] := hD
  refine lv_istore_n (lv' := [(2, .int r_1), (0, .ref a_o), (1, .ref a_x1)]) hx hb dX1_readTrade_7 rfl hl (by decide) rfl (fun ls hl => ?_)
  refine lv_iload_n hx hb dX1_readTrade_8 rfl (lv_at hl 0 rfl) ?_
  refine lv_bipush (v := (-9 : Int32)) hx hb dX1_readTrade_9 (by decide) ?_
  refine lv_icmp_ne (tgt := 16) hx hb dX1_readTrade_11 (by decide) (fun c_3 => ?_) (fun c_3 => ?_)
  · have hf := pif hf c_3
    refine lv_aload_n hx hb dX1_readTrade_16 rfl (lv_at hl 2 rfl) ?_
    refine lv_iconst (v := (1 : Int32)) hx hb dX1_readTrade_17 (by decide) ?_
    refine lv_bipush (v := (9 : Int32)) hx hb dX1_readTrade_18 (by decide) ?_
    obtain ⟨r_4, x1_current_5, hc, hf⟩ := pb2 hf
    refine gCi (va_runV (As := [.int (1 : Int32), .int (9 : Int32)]) (rest := []) hF (kX0_number l dC dI Z cC cI cZ cW a_x1 a_x1_signs a_x1_tokens a_x1_starts _ x1_length x1_cuts x1_current_2 x1_tokens (1 : Int32) (9 : Int32) N r_4 x1_current_5 hc) (cwV 2 hts gX1_readTrade_X0_number rfl rfl rfl (by decide +kernel) ⟨Nat.le_of_ble_eq_true rfl, Nat.le_of_ble_eq_true rfl⟩) (gPV (wc := [(a_x1, .inr (0, [.int x1_length, .ref a_x1_signs, .ref a_x1_tokens, .ref a_x1_starts, .int x1_cuts, .int x1_current_2])), (a_x1_tokens, .inl (cI, 401, .inl x1_tokens))]) hK hN hA hS hP hD [3, 4] rfl rfl (q0 := 0) (ci := 0) rfl rfl rfl) rfl rfl hl.1 rfl (lv_room (Nat.le_of_ble_eq_true rfl)) dX1_readTrade_20 ⟨Nat.zero_le _, Nat.zero_le _⟩) hP hD hS hA [3, 4] rfl rfl rfl (fun H locs hP hD hS => ?_)
    have hP : va_P (dC, dI) vwCl [(a_o, .inr (1, [.int o_trades, .int o_people, .ref a_o_needs, .ref a_o_yields, .ref a_o_skips, .ref a_o_skills, .ref a_o_places, .ref a_o_wheel, .int o_tradesEnded])), (a_o_needs, .inl (cI, 6, .inl o_needs)), (a_o_yields, .inl (cI, 6, .inl o_yields)), (a_x1, .inr (0, [.int x1_length, .ref a_x1_signs, .ref a_x1_tokens, .ref a_x1_starts, .int x1_cuts, .int x1_current_5])), (a_x1_tokens, .inl (cI, 401, .inl x1_tokens))] H := hP
    have hD : va_D A [(a_o, .inr (1, [.int o_trades, .int o_people, .ref a_o_needs, .ref a_o_yields, .ref a_o_skips, .ref a_o_skills, .ref a_o_places, .ref a_o_wheel, .int o_tradesEnded])), (a_o_needs, .inl (cI, 6, .inl o_needs)), (a_o_yields, .inl (cI, 6, .inl o_yields)), (a_x1, .inr (0, [.int x1_length, .ref a_x1_signs, .ref a_x1_tokens, .ref a_x1_starts, .int x1_cuts, .int x1_current_5])), (a_x1_tokens, .inl (cI, 401, .inl x1_tokens))] := hD
    refine lv_istore_n (lv' := [(3, .int r_4), (2, .int r_1), (0, .ref a_o), (1, .ref a_x1)]) hx hb dX1_readTrade_23 rfl hl (by decide) rfl (fun ls hl => ?_)
    refine lv_iload_n hx hb dX1_readTrade_24 rfl (lv_at hl 0 rfl) ?_
    refine lv_bipush (v := (-9 : Int32)) hx hb dX1_readTrade_25 (by decide) ?_
    refine lv_icmp_ne (tgt := 32) hx hb dX1_readTrade_27 (by decide) (fun c_6 => ?_) (fun c_6 => ?_)
    · have hf := pif hf c_6
      refine lv_aload_n hx hb dX1_readTrade_32 rfl (lv_at hl 2 rfl) ?_
      refine va_get (D := (dC, dI)) (ci := 1) (v := .ref a_o_needs) (C := RX1) (T := TX1) (N := 9) hx hb hts uX1_readTrade_X1 hown hK hP 0 rfl rfl 2 (by decide) (hts _ mX1_readTrade_0) (fun _ h9 => h9) rfl dX1_readTrade_33 ?_
      refine lv_aload_n hx hb dX1_readTrade_36 rfl (lv_at hl 2 rfl) ?_
      refine va_get (D := (dC, dI)) (ci := 1) (v := .int o_trades) (C := RX1) (T := TX1) (N := 9) hx hb hts uX1_readTrade_X1 hown hK hP 0 rfl rfl 0 (by decide) (hts _ mX1_readTrade_1) (fun _ h9 => h9) rfl dX1_readTrade_37 ?_
      refine lv_iload_n hx hb dX1_readTrade_40 rfl (lv_at hl 1 rfl) ?_
      obtain ⟨h_7, hf⟩ := pgd hf
      refine va_iast hx hb hK hP hD hS 1 1 rfl rfl h_7 dX1_readTrade_41 (fun H locs hP hD hS => ?_)
      have hP : va_P (dC, dI) vwCl [(a_o, .inr (1, [.int o_trades, .int o_people, .ref a_o_needs, .ref a_o_yields, .ref a_o_skips, .ref a_o_skills, .ref a_o_places, .ref a_o_wheel, .int o_tradesEnded])), (a_o_needs, .inl (cI, 6, .inl (upd o_needs o_trades.toNatClampNeg r_1))), (a_o_yields, .inl (cI, 6, .inl o_yields)), (a_x1, .inr (0, [.int x1_length, .ref a_x1_signs, .ref a_x1_tokens, .ref a_x1_starts, .int x1_cuts, .int x1_current_5])), (a_x1_tokens, .inl (cI, 401, .inl x1_tokens))] H := hP
      have hD : va_D A [(a_o, .inr (1, [.int o_trades, .int o_people, .ref a_o_needs, .ref a_o_yields, .ref a_o_skips, .ref a_o_skills, .ref a_o_places, .ref a_o_wheel, .int o_tradesEnded])), (a_o_needs, .inl (cI, 6, .inl (upd o_needs o_trades.toNatClampNeg r_1))), (a_o_yields, .inl (cI, 6, .inl o_yields)), (a_x1, .inr (0, [.int x1_length, .ref a_x1_signs, .ref a_x1_tokens, .ref a_x1_starts, .int x1_cuts, .int x1_current_5])), (a_x1_tokens, .inl (cI, 401, .inl x1_tokens))] := hD
      refine lv_aload_n hx hb dX1_readTrade_42 rfl (lv_at hl 2 rfl) ?_
      refine va_get (D := (dC, dI)) (ci := 1) (v := .ref a_o_yields) (C := RX1) (T := TX1) (N := 9) hx hb hts uX1_readTrade_X1 hown hK hP 0 rfl rfl 3 (by decide) (hts _ mX1_readTrade_2) (fun _ h9 => h9) rfl dX1_readTrade_43 ?_
      refine lv_aload_n hx hb dX1_readTrade_46 rfl (lv_at hl 2 rfl) ?_
      refine va_get (D := (dC, dI)) (ci := 1) (v := .int o_trades) (C := RX1) (T := TX1) (N := 9) hx hb hts uX1_readTrade_X1 hown hK hP 0 rfl rfl 0 (by decide) (hts _ mX1_readTrade_1) (fun _ h9 => h9) rfl dX1_readTrade_47 ?_
      refine lv_iload_n hx hb dX1_readTrade_50 rfl (lv_at hl 0 rfl) ?_
      obtain ⟨h_8, hf⟩ := pgd hf
      refine va_iast hx hb hK hP hD hS 2 1 rfl rfl h_8 dX1_readTrade_51 (fun H locs hP hD hS => ?_)
      have hP : va_P (dC, dI) vwCl [(a_o, .inr (1, [.int o_trades, .int o_people, .ref a_o_needs, .ref a_o_yields, .ref a_o_skips, .ref a_o_skills, .ref a_o_places, .ref a_o_wheel, .int o_tradesEnded])), (a_o_needs, .inl (cI, 6, .inl (upd o_needs o_trades.toNatClampNeg r_1))), (a_o_yields, .inl (cI, 6, .inl (upd o_yields o_trades.toNatClampNeg r_4))), (a_x1, .inr (0, [.int x1_length, .ref a_x1_signs, .ref a_x1_tokens, .ref a_x1_starts, .int x1_cuts, .int x1_current_5])), (a_x1_tokens, .inl (cI, 401, .inl x1_tokens))] H := hP
      have hD : va_D A [(a_o, .inr (1, [.int o_trades, .int o_people, .ref a_o_needs, .ref a_o_yields, .ref a_o_skips, .ref a_o_skills, .ref a_o_places, .ref a_o_wheel, .int o_tradesEnded])), (a_o_needs, .inl (cI, 6, .inl (upd o_needs o_trades.toNatClampNeg r_1))), (a_o_yields, .inl (cI, 6, .inl (upd o_yields o_trades.toNatClampNeg r_4))), (a_x1, .inr (0, [.int x1_length, .ref a_x1_signs, .ref a_x1_tokens, .ref a_x1_starts, .int x1_cuts, .int x1_current_5])), (a_x1_tokens, .inl (cI, 401, .inl x1_tokens))] := hD
      refine lv_aload_n hx hb dX1_readTrade_52 rfl (lv_at hl 2 rfl) ?_
      refine lv_dup hx hb dX1_readTrade_53 rfl ?_
      refine va_get (D := (dC, dI)) (ci := 1) (v := .int o_trades) (C := RX1) (T := TX1) (N := 9) hx hb hts uX1_readTrade_X1 hown hK hP 0 rfl rfl 0 (by decide) (hts _ mX1_readTrade_1) (fun _ h9 => h9) rfl dX1_readTrade_54 ?_
      refine lv_iconst (v := (1 : Int32)) hx hb dX1_readTrade_57 (by decide) ?_
      refine lv_iadd hx hb dX1_readTrade_58 ?_
      refine va_put (D := (dC, dI)) (ci := 1) (v := .int (o_trades + (1 : Int32))) (ty := .int) (C := RX1) (T := TX1) (N := 9) hx hb hts uX1_readTrade_X1 tyX1 tyX1_ok nmX1 hown hK hP hD hS 0 rfl rfl 0 (by decide) (hts _ mX1_readTrade_1) (fun _ h9 => h9) rfl (by decide +kernel) rfl rfl (Nat.le_of_ble_eq_true rfl) dX1_readTrade_59 (fun H locs hP hD hS => ?_)
      have hP : va_P (dC, dI) vwCl [(a_o, .inr (1, [.int (o_trades + (1 : Int32)), .int o_people, .ref a_o_needs, .ref a_o_yields, .ref a_o_skips, .ref a_o_skills, .ref a_o_places, .ref a_o_wheel, .int o_tradesEnded])), (a_o_needs, .inl (cI, 6, .inl (upd o_needs o_trades.toNatClampNeg r_1))), (a_o_yields, .inl (cI, 6, .inl (upd o_yields o_trades.toNatClampNeg r_4))), (a_x1, .inr (0, [.int x1_length, .ref a_x1_signs, .ref a_x1_tokens, .ref a_x1_starts, .int x1_cuts, .int x1_current_5])), (a_x1_tokens, .inl (cI, 401, .inl x1_tokens))] H := hP
      have hD : va_D A [(a_o, .inr (1, [.int (o_trades + (1 : Int32)), .int o_people, .ref a_o_needs, .ref a_o_yields, .ref a_o_skips, .ref a_o_skills, .ref a_o_places, .ref a_o_wheel, .int o_tradesEnded])), (a_o_needs, .inl (cI, 6, .inl (upd o_needs o_trades.toNatClampNeg r_1))), (a_o_yields, .inl (cI, 6, .inl (upd o_yields o_trades.toNatClampNeg r_4))), (a_x1, .inr (0, [.int x1_length, .ref a_x1_signs, .ref a_x1_tokens, .ref a_x1_starts, .int x1_cuts, .int x1_current_5])), (a_x1_tokens, .inl (cI, 401, .inl x1_tokens))] := hD
      refine lv_iconst (v := (1 : Int32)) hx hb dX1_readTrade_62 (by decide) ?_
      have q0 := Option.some.inj hf
      obtain ⟨e0, q1⟩ := Prod.mk.inj q0
      obtain ⟨e1, q2⟩ := Prod.mk.inj q1
      obtain ⟨e2, q3⟩ := Prod.mk.inj q2
      obtain ⟨e3, q4⟩ := Prod.mk.inj q3
      subst e0
      subst e1
      subst e2
      subst e3
      subst q4
      exact gRz hx hb hr rfl hlocks hP hS dX1_readTrade_63
    · have hf := pit hf c_6
      refine lv_iconst (v := (0 : Int32)) hx hb dX1_readTrade_30 (by decide) ?_
      have q0 := Option.some.inj hf
      obtain ⟨e0, q1⟩ := Prod.mk.inj q0
      obtain ⟨e1, q2⟩ := Prod.mk.inj q1
      obtain ⟨e2, q3⟩ := Prod.mk.inj q2
      obtain ⟨e3, q4⟩ := Prod.mk.inj q3
      subst e0
      subst e1
      subst e2
      subst e3
      subst q4
      exact gRz hx hb hr rfl hlocks hP hS dX1_readTrade_31
  · have hf := pit hf c_3
    refine lv_iconst (v := (0 : Int32)) hx hb dX1_readTrade_14 (by decide) ?_
    have q0 := Option.some.inj hf
    obtain ⟨e0, q1⟩ := Prod.mk.inj q0
    obtain ⟨e1, q2⟩ := Prod.mk.inj q1
    obtain ⟨e2, q3⟩ := Prod.mk.inj q2
    obtain ⟨e3, q4⟩ := Prod.mk.inj q3
    subst e0
    subst e1
    subst e2
    subst e3
    subst q4
    exact gRz hx hb hr rfl hlocks hP hS dX1_readTrade_15
abbrev rmX1_readWheel : Room := { frames := 1, cells := 0, slots := 0, locals := 22 }
set_option maxRecDepth 20000 in
theorem uX1_readWheel_X1 : ∀ w ∈ wsX10, w ∈ wsX1_readWheel := by decide +kernel
set_option maxRecDepth 20000 in
theorem mX1_readWheel_0 : (Cond.fieldLink RX1 37 "TradeWheel$Told" "tradesEnded" "Z" : Cond) ∈ wsX1_readWheel := by decide +kernel
set_option maxRecDepth 20000 in
theorem mX1_readWheel_1 : (Cond.fieldLink RX1 9 "TradeWheel$Told" "trades" "I" : Cond) ∈ wsX1_readWheel := by decide +kernel
set_option maxRecDepth 20000 in
theorem mX1_readWheel_2 : (Cond.initialized RX4 : Cond) ∈ wsX1_readWheel := by decide +kernel
set_option maxRecDepth 20000 in
theorem mX1_readWheel_3 : (Cond.static yX4_within : Cond) ∈ wsX1_readWheel := by decide +kernel
set_option maxRecDepth 20000 in
theorem mX1_readWheel_4 : (Cond.fieldLink RX1 34 "TradeWheel$Told" "wheel" "[I" : Cond) ∈ wsX1_readWheel := by decide +kernel
set_option maxHeartbeats 4000000 in
set_option maxRecDepth 100000 in
theorem wX1_readWheel_9 {p : Program} {l : Launch} {e : Env} {s : State} {m : MethodId} {args : Array Value} {below : List Frame} {meth : Method} {c : Code} {Q : State → Prop} {A : Nat → Prop} {dC : Nat → ClassId} {dI : Nat → Nat → Nat} {Z : gZ} {cC cI cZ cW : ClassId} (hg0 : gX p s m args meth c cX1_readWheel 5 (some .boolean) wsX1_readWheel RX1 (dC, dI) Z [(cC, .char), (cI, .int), (cZ, .boolean), (cW, .object RX3)] A) (a_o a_o_needs a_o_yields a_o_skips a_o_skills a_o_places a_o_wheel a_x1 a_x1_signs a_x1_tokens a_x1_starts : Nat) (o_trades : Int32) (o_people : Int32) (o_tradesEnded : Int32) (x1_length : Int32) (x1_cuts : Int32) (x1_tokens : Nat → Int32)  (N : Nat) : ∀ (n : Nat) (o_wheel : Nat → Int32) (x1_current : Int32) (l2 : Int32) (l3 : Int32) (ro' : Option Int32) (o_wheel' : Nat → Int32) (x1_current' : Int32) (l2' : Int32) (l3' : Int32), fX1_readWheel_9 N o_trades x1_cuts x1_tokens n o_wheel x1_current l2 l3 = some (ro', o_wheel', x1_current', l2', l3') → ∀ (H : Heap) (locs : List Loc) (ls : Array Slot), va_P (dC, dI) vwCl [(a_o, .inr (1, [.int o_trades, .int o_people, .ref a_o_needs, .ref a_o_yields, .ref a_o_skips, .ref a_o_skills, .ref a_o_places, .ref a_o_wheel, .int o_tradesEnded])), (a_o_wheel, .inl (cI, 6, .inl o_wheel)), (a_x1, .inr (0, [.int x1_length, .ref a_x1_signs, .ref a_x1_tokens, .ref a_x1_starts, .int x1_cuts, .int x1_current])), (a_x1_tokens, .inl (cI, 401, .inl x1_tokens))] H → va_D A [(a_o, .inr (1, [.int o_trades, .int o_people, .ref a_o_needs, .ref a_o_yields, .ref a_o_skips, .ref a_o_skills, .ref a_o_places, .ref a_o_wheel, .int o_tradesEnded])), (a_o_wheel, .inl (cI, 6, .inl o_wheel)), (a_x1, .inr (0, [.int x1_length, .ref a_x1_signs, .ref a_x1_tokens, .ref a_x1_starts, .int x1_cuts, .int x1_current])), (a_x1_tokens, .inl (cI, 401, .inl x1_tokens))] → va_S A s.heap H locs → lv_has ls 5 [(0, .ref a_o), (1, .ref a_x1), (2, .int l2), (3, .int l3)] → (ro' = none → ∀ (H : Heap) (locs : List Loc) (ls : Array Slot), va_P (dC, dI) vwCl [(a_o, .inr (1, [.int o_trades, .int o_people, .ref a_o_needs, .ref a_o_yields, .ref a_o_skips, .ref a_o_skills, .ref a_o_places, .ref a_o_wheel, .int o_tradesEnded])), (a_o_wheel, .inl (cI, 6, .inl o_wheel')), (a_x1, .inr (0, [.int x1_length, .ref a_x1_signs, .ref a_x1_tokens, .ref a_x1_starts, .int x1_cuts, .int x1_current'])), (a_x1_tokens, .inl (cI, 401, .inl x1_tokens))] H → va_D A [(a_o, .inr (1, [.int o_trades, .int o_people, .ref a_o_needs, .ref a_o_yields, .ref a_o_skips, .ref a_o_skills, .ref a_o_places, .ref a_o_wheel, .int o_tradesEnded])), (a_o_wheel, .inl (cI, 6, .inl o_wheel')), (a_x1, .inr (0, [.int x1_length, .ref a_x1_signs, .ref a_x1_tokens, .ref a_x1_starts, .int x1_cuts, .int x1_current'])), (a_x1_tokens, .inl (cI, 401, .inl x1_tokens))] → va_S A s.heap H locs → lv_has ls 5 [] → W p l e (headSpec wsX1_readWheel rmX1_readWheel).room s m args below meth c H locs 0 0 Q (F0 m 74 ls [])) → (∀ r9 : Int32, ro' = some r9 → ∀ (H : Heap) (locs : List Loc) (ls : Array Slot), va_P (dC, dI) vwCl [(a_o, .inr (1, [.int o_trades, .int o_people, .ref a_o_needs, .ref a_o_yields, .ref a_o_skips, .ref a_o_skills, .ref a_o_places, .ref a_o_wheel, .int o_tradesEnded])), (a_o_wheel, .inl (cI, 6, .inl o_wheel')), (a_x1, .inr (0, [.int x1_length, .ref a_x1_signs, .ref a_x1_tokens, .ref a_x1_starts, .int x1_cuts, .int x1_current'])), (a_x1_tokens, .inl (cI, 401, .inl x1_tokens))] H → va_D A [(a_o, .inr (1, [.int o_trades, .int o_people, .ref a_o_needs, .ref a_o_yields, .ref a_o_skips, .ref a_o_skills, .ref a_o_places, .ref a_o_wheel, .int o_tradesEnded])), (a_o_wheel, .inl (cI, 6, .inl o_wheel')), (a_x1, .inr (0, [.int x1_length, .ref a_x1_signs, .ref a_x1_tokens, .ref a_x1_starts, .int x1_cuts, .int x1_current'])), (a_x1_tokens, .inl (cI, 401, .inl x1_tokens))] → va_S A s.heap H locs → W p l e (headSpec wsX1_readWheel rmX1_readWheel).room s m args below meth c H locs 0 0 Q (F0 m 48 ls [.int r9])) → W p l e (headSpec wsX1_readWheel rmX1_readWheel).room s m args below meth c H locs 0 0 Q (F0 m 9 ls []) := by
  obtain ⟨hx, hb, hr, hml, hown, hts, hlocks, hA, hK, hN⟩ := id hg0
  have hF : CallFix p m c cX1_readWheel 5 s args wsX1_readWheel RX1 := ⟨hx, hb, hml, hown, hts⟩
  intro n
  induction n with
  | zero =>
    intro o_wheel x1_current l2 l3 ro' o_wheel' x1_current' l2' l3' hf
    have hf := fX1_readWheel_9_0.symm.trans hf
    cases hf
  | succ n ih =>
    intro o_wheel x1_current l2 l3 ro' o_wheel' x1_current' l2' l3' hf H locs ls hP hD hS hl kx kr48
    have hf := fX1_readWheel_9_s.symm.trans hf
    refine lv_iload_n hx hb dX1_readWheel_9 rfl (lv_at hl 3 rfl) ?_
    refine lv_aload_n hx hb dX1_readWheel_10 rfl (lv_at hl 0 rfl) ?_
    refine va_get (D := (dC, dI)) (ci := 1) (v := .int o_trades) (C := RX1) (T := TX1) (N := 9) hx hb hts uX1_readWheel_X1 hown hK hP 0 rfl rfl 0 (by decide) (hts _ mX1_readWheel_1) (fun _ h9 => h9) rfl dX1_readWheel_11 ?_
    refine lv_icmp_ge (tgt := 74) hx hb dX1_readWheel_14 (by decide) (fun c_1 => ?_) (fun c_1 => ?_)
    · have hf := pit hf c_1
      have q0 := Option.some.inj hf
      obtain ⟨e0, q1⟩ := Prod.mk.inj q0
      obtain ⟨e1, q2⟩ := Prod.mk.inj q1
      obtain ⟨e2, q3⟩ := Prod.mk.inj q2
      obtain ⟨e3, q4⟩ := Prod.mk.inj q3
      subst e0
      subst e1
      subst e2
      subst e3
      subst q4
      exact kx rfl _ _ _ hP hD hS (lv_sub hl [] rfl)
    · have hf := pif hf c_1
      refine lv_aload_n hx hb dX1_readWheel_17 rfl (lv_at hl 1 rfl) ?_
      obtain ⟨r_2, hc, hf⟩ := pb1 hf
      refine gCi (va_runV (As := []) (rest := []) hF (kX0_token l dC dI Z cC cI cZ cW a_x1 a_x1_signs a_x1_tokens a_x1_starts _ x1_length x1_cuts x1_current x1_tokens  N r_2 hc) (cwV 0 hts gX1_readWheel_X0_token rfl rfl rfl (by decide +kernel) ⟨Nat.le_of_ble_eq_true rfl, Nat.le_of_ble_eq_true rfl⟩) (gPV (wc := [(a_x1, .inr (0, [.int x1_length, .ref a_x1_signs, .ref a_x1_tokens, .ref a_x1_starts, .int x1_cuts, .int x1_current])), (a_x1_tokens, .inl (cI, 401, .inl x1_tokens))]) hK hN hA hS hP hD [2, 3] rfl rfl (q0 := 0) (ci := 0) rfl rfl rfl) rfl rfl hl.1 rfl (lv_room (Nat.le_of_ble_eq_true rfl)) dX1_readWheel_18 ⟨Nat.zero_le _, Nat.zero_le _⟩) hP hD hS hA [2, 3] rfl rfl rfl (fun H locs hP hD hS => ?_)
      have hP : va_P (dC, dI) vwCl [(a_o, .inr (1, [.int o_trades, .int o_people, .ref a_o_needs, .ref a_o_yields, .ref a_o_skips, .ref a_o_skills, .ref a_o_places, .ref a_o_wheel, .int o_tradesEnded])), (a_o_wheel, .inl (cI, 6, .inl o_wheel)), (a_x1, .inr (0, [.int x1_length, .ref a_x1_signs, .ref a_x1_tokens, .ref a_x1_starts, .int x1_cuts, .int x1_current])), (a_x1_tokens, .inl (cI, 401, .inl x1_tokens))] H := hP
      have hD : va_D A [(a_o, .inr (1, [.int o_trades, .int o_people, .ref a_o_needs, .ref a_o_yields, .ref a_o_skips, .ref a_o_skills, .ref a_o_places, .ref a_o_wheel, .int o_tradesEnded])), (a_o_wheel, .inl (cI, 6, .inl o_wheel)), (a_x1, .inr (0, [.int x1_length, .ref a_x1_signs, .ref a_x1_tokens, .ref a_x1_starts, .int x1_cuts, .int x1_current])), (a_x1_tokens, .inl (cI, 401, .inl x1_tokens))] := hD
      refine lv_istore (lv' := [(4, .int r_2), (0, .ref a_o), (1, .ref a_x1), (2, .int l2), (3, .int l3)]) hx hb dX1_readWheel_21 hl (by decide) rfl (fun ls hl => ?_)
      refine lv_iload hx hb dX1_readWheel_23 (lv_at hl 0 rfl) ?_
      refine lv_iconst (v := (0 : Int32)) hx hb dX1_readWheel_25 (by decide) ?_
      refine lv_aload_n hx hb dX1_readWheel_26 rfl (lv_at hl 1 rfl) ?_
      refine va_get (D := (dC, dI)) (ci := 1) (v := .int o_trades) (C := RX1) (T := TX1) (N := 9) hx hb hts uX1_readWheel_X1 hown hK hP 0 rfl rfl 0 (by decide) (hts _ mX1_readWheel_1) (fun _ h9 => h9) rfl dX1_readWheel_27 ?_
      refine lv_iconst (v := (1 : Int32)) hx hb dX1_readWheel_30 (by decide) ?_
      refine lv_isub hx hb dX1_readWheel_31 ?_
      obtain ⟨r_3, hc, hf⟩ := pb1 hf
      refine gCi (va_runSN (As := [.int r_2, .int (0 : Int32), .int (o_trades - (1 : Int32))]) (rest := []) hF (kX4_within l dC dI Z cC cI cZ cW  _  r_2 (0 : Int32) (o_trades - (1 : Int32)) N r_3 hc) ⟨va_cnB 3 hts gX1_readWheel_X4_within_n90 rfl rfl rfl (hN.1 (.methodLinkNest RX1 90 yX4_within RX4) (by decide +kernel)) (hts _ mX1_readWheel_2) (by decide +kernel) ⟨Nat.le_of_ble_eq_true rfl, Nat.le_of_ble_eq_true rfl⟩, hts _ mX1_readWheel_3, trivial⟩ (gPS (wc := []) hK hN hA hS hP hD [] rfl rfl) rfl rfl hl.1 rfl (lv_room (Nat.le_of_ble_eq_true rfl)) dX1_readWheel_32 ⟨Nat.zero_le _, Nat.zero_le _⟩) hP hD hS hA [] rfl rfl rfl (fun H locs hP hD hS => ?_)
      have hP : va_P (dC, dI) vwCl [(a_o, .inr (1, [.int o_trades, .int o_people, .ref a_o_needs, .ref a_o_yields, .ref a_o_skips, .ref a_o_skills, .ref a_o_places, .ref a_o_wheel, .int o_tradesEnded])), (a_o_wheel, .inl (cI, 6, .inl o_wheel)), (a_x1, .inr (0, [.int x1_length, .ref a_x1_signs, .ref a_x1_tokens, .ref a_x1_starts, .int x1_cuts, .int x1_current])), (a_x1_tokens, .inl (cI, 401, .inl x1_tokens))] H := hP
      have hD : va_D A [(a_o, .inr (1, [.int o_trades, .int o_people, .ref a_o_needs, .ref a_o_yields, .ref a_o_skips, .ref a_o_skills, .ref a_o_places, .ref a_o_wheel, .int o_tradesEnded])), (a_o_wheel, .inl (cI, 6, .inl o_wheel)), (a_x1, .inr (0, [.int x1_length, .ref a_x1_signs, .ref a_x1_tokens, .ref a_x1_starts, .int x1_cuts, .int x1_current])), (a_x1_tokens, .inl (cI, 401, .inl x1_tokens))] := hD
      refine lv_if_eq (tgt := 47) hx hb dX1_readWheel_35 (by decide) (fun c_4 => ?_) (fun c_4 => ?_)
      · have hf := pit hf c_4
        refine lv_iconst (v := (0 : Int32)) hx hb dX1_readWheel_47 (by decide) ?_
        have q0 := Option.some.inj hf
        obtain ⟨e0, q1⟩ := Prod.mk.inj q0
        obtain ⟨e1, q2⟩ := Prod.mk.inj q1
        obtain ⟨e2, q3⟩ := Prod.mk.inj q2
        obtain ⟨e3, q4⟩ := Prod.mk.inj q3
        subst e0
        subst e1
        subst e2
        subst e3
        subst q4
        exact kr48 _ rfl _ _ _ hP hD hS
      · have hf := pif hf c_4
        refine lv_iload_n hx hb dX1_readWheel_38 rfl (lv_at hl 3 rfl) ?_
        refine lv_iload hx hb dX1_readWheel_39 (lv_at hl 0 rfl) ?_
        refine lv_ishr hx hb dX1_readWheel_41 ?_
        refine lv_iconst (v := (1 : Int32)) hx hb dX1_readWheel_42 (by decide) ?_
        refine lv_iand hx hb dX1_readWheel_43 ?_
        refine lv_if_eq (tgt := 49) hx hb dX1_readWheel_44 (by decide) (fun c_5 => ?_) (fun c_5 => ?_)
        · have hf := pit hf c_5
          refine lv_aload_n hx hb dX1_readWheel_49 rfl (lv_at hl 2 rfl) ?_
          obtain ⟨x1_current_6, hc, hf⟩ := pb1 hf
          refine gCv (va_runV (As := []) (rest := []) hF (kX0_pass l dC dI Z cC cI cZ cW a_x1 a_x1_signs a_x1_tokens a_x1_starts _ x1_length x1_cuts x1_current  N x1_current_6 hc) (cwV 0 hts gX1_readWheel_X0_pass rfl rfl rfl (by decide +kernel) ⟨Nat.le_of_ble_eq_true rfl, Nat.le_of_ble_eq_true rfl⟩) (gPV (wc := [(a_x1, .inr (0, [.int x1_length, .ref a_x1_signs, .ref a_x1_tokens, .ref a_x1_starts, .int x1_cuts, .int x1_current]))]) hK hN hA hS hP hD [2] rfl rfl (q0 := 0) (ci := 0) rfl rfl rfl) rfl rfl hl.1 rfl (lv_room (Nat.le_of_ble_eq_true rfl)) dX1_readWheel_50 ⟨Nat.zero_le _, Nat.zero_le _⟩) hP hD hS hA [2] rfl rfl rfl (fun H locs hP hD hS => ?_)
          have hP : va_P (dC, dI) vwCl [(a_o, .inr (1, [.int o_trades, .int o_people, .ref a_o_needs, .ref a_o_yields, .ref a_o_skips, .ref a_o_skills, .ref a_o_places, .ref a_o_wheel, .int o_tradesEnded])), (a_o_wheel, .inl (cI, 6, .inl o_wheel)), (a_x1, .inr (0, [.int x1_length, .ref a_x1_signs, .ref a_x1_tokens, .ref a_x1_starts, .int x1_cuts, .int x1_current_6])), (a_x1_tokens, .inl (cI, 401, .inl x1_tokens))] H := hP
          have hD : va_D A [(a_o, .inr (1, [.int o_trades, .int o_people, .ref a_o_needs, .ref a_o_yields, .ref a_o_skips, .ref a_o_skills, .ref a_o_places, .ref a_o_wheel, .int o_tradesEnded])), (a_o_wheel, .inl (cI, 6, .inl o_wheel)), (a_x1, .inr (0, [.int x1_length, .ref a_x1_signs, .ref a_x1_tokens, .ref a_x1_starts, .int x1_cuts, .int x1_current_6])), (a_x1_tokens, .inl (cI, 401, .inl x1_tokens))] := hD
          refine lv_iload_n hx hb dX1_readWheel_53 rfl (lv_at hl 3 rfl) ?_
          refine lv_iconst (v := (1 : Int32)) hx hb dX1_readWheel_54 (by decide) ?_
          refine lv_iload hx hb dX1_readWheel_55 (lv_at hl 0 rfl) ?_
          refine lv_ishl hx hb dX1_readWheel_57 ?_
          refine lv_ior hx hb dX1_readWheel_58 ?_
          refine lv_istore_n (lv' := [(2, .int (l2 ||| ((1 : Int32) <<< (r_2 &&& 31)))), (4, .int r_2), (0, .ref a_o), (1, .ref a_x1), (3, .int l3)]) hx hb dX1_readWheel_59 rfl hl (by decide) rfl (fun ls hl => ?_)
          refine lv_aload_n hx hb dX1_readWheel_60 rfl (lv_at hl 2 rfl) ?_
          refine va_get (D := (dC, dI)) (ci := 1) (v := .ref a_o_wheel) (C := RX1) (T := TX1) (N := 9) hx hb hts uX1_readWheel_X1 hown hK hP 0 rfl rfl 7 (by decide) (hts _ mX1_readWheel_4) (fun _ h9 => h9) rfl dX1_readWheel_61 ?_
          refine lv_iload_n hx hb dX1_readWheel_64 rfl (lv_at hl 4 rfl) ?_
          refine lv_iload hx hb dX1_readWheel_65 (lv_at hl 1 rfl) ?_
          obtain ⟨h_7, hf⟩ := pgd hf
          refine va_iast hx hb hK hP hD hS 1 1 rfl rfl h_7 dX1_readWheel_67 (fun H locs hP hD hS => ?_)
          have hP : va_P (dC, dI) vwCl [(a_o, .inr (1, [.int o_trades, .int o_people, .ref a_o_needs, .ref a_o_yields, .ref a_o_skips, .ref a_o_skills, .ref a_o_places, .ref a_o_wheel, .int o_tradesEnded])), (a_o_wheel, .inl (cI, 6, .inl (upd o_wheel l3.toNatClampNeg r_2))), (a_x1, .inr (0, [.int x1_length, .ref a_x1_signs, .ref a_x1_tokens, .ref a_x1_starts, .int x1_cuts, .int x1_current_6])), (a_x1_tokens, .inl (cI, 401, .inl x1_tokens))] H := hP
          have hD : va_D A [(a_o, .inr (1, [.int o_trades, .int o_people, .ref a_o_needs, .ref a_o_yields, .ref a_o_skips, .ref a_o_skills, .ref a_o_places, .ref a_o_wheel, .int o_tradesEnded])), (a_o_wheel, .inl (cI, 6, .inl (upd o_wheel l3.toNatClampNeg r_2))), (a_x1, .inr (0, [.int x1_length, .ref a_x1_signs, .ref a_x1_tokens, .ref a_x1_starts, .int x1_cuts, .int x1_current_6])), (a_x1_tokens, .inl (cI, 401, .inl x1_tokens))] := hD
          refine lv_iinc (v := (l3 + 1)) (lv' := [(3, .int (l3 + 1)), (2, .int (l2 ||| ((1 : Int32) <<< (r_2 &&& 31)))), (4, .int r_2), (0, .ref a_o), (1, .ref a_x1)]) hx hb dX1_readWheel_68 hl (k := 4) rfl rfl (by decide) rfl (fun ls hl => ?_)
          refine lv_goto (tgt := 9) hx hb dX1_readWheel_71 (by decide) ?_
          exact ih _ _ _ _ _ _ _ _ _ hf _ _ _ hP hD hS (lv_sub hl [3, 4, 1, 0] rfl) kx kr48
        · have hf := pif hf c_5
          refine lv_iconst (v := (0 : Int32)) hx hb dX1_readWheel_47 (by decide) ?_
          have q0 := Option.some.inj hf
          obtain ⟨e0, q1⟩ := Prod.mk.inj q0
          obtain ⟨e1, q2⟩ := Prod.mk.inj q1
          obtain ⟨e2, q3⟩ := Prod.mk.inj q2
          obtain ⟨e3, q4⟩ := Prod.mk.inj q3
          subst e0
          subst e1
          subst e2
          subst e3
          subst q4
          exact kr48 _ rfl _ _ _ hP hD hS
set_option maxHeartbeats 4000000 in
set_option maxRecDepth 100000 in
theorem kX1_readWheel (l : Launch) (dC : Nat → ClassId) (dI : Nat → Nat → Nat) (Z : gZ) (cC cI cZ cW : ClassId) (a_o a_o_needs a_o_yields a_o_skips a_o_skills a_o_places a_o_wheel a_x1 a_x1_signs a_x1_tokens a_x1_starts : Nat) (sz : Nat) (o_trades : Int32) (o_people : Int32) (o_tradesEnded : Int32) (o_wheel : Nat → Int32) (x1_length : Int32) (x1_cuts : Int32) (x1_current : Int32) (x1_tokens : Nat → Int32)  (N : Nat) (r' : Int32) (o_tradesEnded' : Int32) (o_wheel' : Nat → Int32) (x1_current' : Int32) (hf : fX1_readWheel N o_trades o_tradesEnded o_wheel x1_cuts x1_current x1_tokens   = some (r', o_tradesEnded', o_wheel', x1_current')) : Met l yX1_readWheel wsX1_readWheel rmX1_readWheel (va_Pc [.ref a_o, .ref a_x1] (gB (dC, dI) Z [(cC, .char), (cI, .int), (cZ, .boolean), (cW, .object RX3)] [(a_o, .inr (1, [.int o_trades, .int o_people, .ref a_o_needs, .ref a_o_yields, .ref a_o_skips, .ref a_o_skills, .ref a_o_places, .ref a_o_wheel, .int o_tradesEnded])), (a_o_wheel, .inl (cI, 6, .inl o_wheel)), (a_x1, .inr (0, [.int x1_length, .ref a_x1_signs, .ref a_x1_tokens, .ref a_x1_starts, .int x1_cuts, .int x1_current])), (a_x1_tokens, .inl (cI, 401, .inl x1_tokens))] sz)) (va_Qi (fun (r : Int32) (_ : Unit) => r = r') (gE (dC, dI) [(a_o, .inr (1, [.int o_trades, .int o_people, .ref a_o_needs, .ref a_o_yields, .ref a_o_skips, .ref a_o_skills, .ref a_o_places, .ref a_o_wheel, .int o_tradesEnded'])), (a_o_wheel, .inl (cI, 6, .inl o_wheel')), (a_x1, .inr (0, [.int x1_length, .ref a_x1_signs, .ref a_x1_tokens, .ref a_x1_starts, .int x1_cuts, .int x1_current'])), (a_x1_tokens, .inl (cI, 401, .inl x1_tokens))]) (va_A [(a_o, .inr (1, [.int o_trades, .int o_people, .ref a_o_needs, .ref a_o_yields, .ref a_o_skips, .ref a_o_skills, .ref a_o_places, .ref a_o_wheel, .int o_tradesEnded])), (a_o_wheel, .inl (cI, 6, .inl o_wheel)), (a_x1, .inr (0, [.int x1_length, .ref a_x1_signs, .ref a_x1_tokens, .ref a_x1_starts, .int x1_cuts, .int x1_current])), (a_x1_tokens, .inl (cI, 401, .inl x1_tokens))] sz)) 0 0 (va_A [(a_o, .inr (1, [.int o_trades, .int o_people, .ref a_o_needs, .ref a_o_yields, .ref a_o_skips, .ref a_o_skills, .ref a_o_places, .ref a_o_wheel, .int o_tradesEnded])), (a_o_wheel, .inl (cI, 6, .inl o_wheel)), (a_x1, .inr (0, [.int x1_length, .ref a_x1_signs, .ref a_x1_tokens, .ref a_x1_starts, .int x1_cuts, .int x1_current])), (a_x1_tokens, .inl (cI, 401, .inl x1_tokens))] sz) := by
  refine gMet (cc := cX1_readWheel) (maxL := 5) (ret := (some .boolean)) (Qc := fun A => va_Qi (fun (r : Int32) (_ : Unit) => r = r') (gE (dC, dI) [(a_o, .inr (1, [.int o_trades, .int o_people, .ref a_o_needs, .ref a_o_yields, .ref a_o_skips, .ref a_o_skills, .ref a_o_places, .ref a_o_wheel, .int o_tradesEnded'])), (a_o_wheel, .inl (cI, 6, .inl o_wheel')), (a_x1, .inr (0, [.int x1_length, .ref a_x1_signs, .ref a_x1_tokens, .ref a_x1_starts, .int x1_cuts, .int x1_current'])), (a_x1_tokens, .inl (cI, 401, .inl x1_tokens))]) A) (by decide) rfl (Nat.le_of_ble_eq_true rfl) ?_
  intro p e s m below meth c A ls hg0 _ hsz hP hD hS hl
  have hg0 : gX p s m _ meth c cX1_readWheel 5 (some .boolean) wsX1_readWheel RX1 (dC, dI) Z [(cC, .char), (cI, .int), (cZ, .boolean), (cW, .object RX3)] A := hg0
  obtain ⟨hx, hb, hr, hml, hown, hts, hlocks, hA, hK, hN⟩ := id hg0
  subst hsz
  have hF : CallFix p m c cX1_readWheel 5 s _ wsX1_readWheel RX1 := ⟨hx, hb, hml, hown, hts⟩
  have hl : lv_has ls 5 [(0, .ref a_o), (1, .ref a_x1)] := hl
  unfold fX1_readWheel at hf
  refine lv_aload_n hx hb dX1_readWheel_0 rfl (lv_at hl 0 rfl) ?_
  refine lv_iconst (v := (1 : Int32)) hx hb dX1_readWheel_1 (by decide) ?_
  refine va_put (D := (dC, dI)) (ci := 1) (v := .int (1 : Int32)) (ty := .boolean) (C := RX1) (T := TX1) (N := 9) hx hb hts uX1_readWheel_X1 tyX1 tyX1_ok nmX1 hown hK hP hD hS 0 rfl rfl 8 (by decide) (hts _ mX1_readWheel_0) (fun _ h9 => h9) rfl (by decide +kernel) rfl rfl (Nat.le_of_ble_eq_true rfl) dX1_readWheel_2 (fun H locs hP hD hS => ?_)
  have hP : va_P (dC, dI) vwCl [(a_o, .inr (1, [.int o_trades, .int o_people, .ref a_o_needs, .ref a_o_yields, .ref a_o_skips, .ref a_o_skills, .ref a_o_places, .ref a_o_wheel, .int (1 : Int32)])), (a_o_wheel, .inl (cI, 6, .inl o_wheel)), (a_x1, .inr (0, [.int x1_length, .ref a_x1_signs, .ref a_x1_tokens, .ref a_x1_starts, .int x1_cuts, .int x1_current])), (a_x1_tokens, .inl (cI, 401, .inl x1_tokens))] H := hP
  have hD : va_D A [(a_o, .inr (1, [.int o_trades, .int o_people, .ref a_o_needs, .ref a_o_yields, .ref a_o_skips, .ref a_o_skills, .ref a_o_places, .ref a_o_wheel, .int (1 : Int32)])), (a_o_wheel, .inl (cI, 6, .inl o_wheel)), (a_x1, .inr (0, [.int x1_length, .ref a_x1_signs, .ref a_x1_tokens, .ref a_x1_starts, .int x1_cuts, .int x1_current])), (a_x1_tokens, .inl (cI, 401, .inl x1_tokens))] := hD
  refine lv_iconst (v := (0 : Int32)) hx hb dX1_readWheel_5 (by decide) ?_
  refine lv_istore_n (lv' := [(2, .int (0 : Int32)), (0, .ref a_o), (1, .ref a_x1)]) hx hb dX1_readWheel_6 rfl hl (by decide) rfl (fun ls hl => ?_)
  refine lv_iconst (v := (0 : Int32)) hx hb dX1_readWheel_7 (by decide) ?_
  refine lv_istore_n (lv' := [(3, .int (0 : Int32)), (2, .int (0 : Int32)), (0, .ref a_o), (1, .ref a_x1)]) hx hb dX1_readWheel_8 rfl hl (by decide) rfl (fun ls hl => ?_)
  obtain ⟨ro_1, o_wheel_2, x1_current_3, l2_4, l3_5, hc, hf⟩ := pb5 hf
  refine wX1_readWheel_9 hg0 a_o a_o_needs a_o_yields a_o_skips a_o_skills a_o_places a_o_wheel a_x1 a_x1_signs a_x1_tokens a_x1_starts o_trades o_people (1 : Int32) x1_length x1_cuts x1_tokens  N N o_wheel x1_current (0 : Int32) (0 : Int32) ro_1 o_wheel_2 x1_current_3 l2_4 l3_5 hc _ _ _ hP hD hS (lv_sub hl [2, 3, 1, 0] rfl) (fun hro H locs ls hP hD hS hl => ?_) (fun r9 hro H locs ls hP hD hS => ?_)
  · subst hro
    have hf := rjn hf
    refine lv_iconst (v := (1 : Int32)) hx hb dX1_readWheel_74 (by decide) ?_
    have q0 := Option.some.inj hf
    obtain ⟨e0, q1⟩ := Prod.mk.inj q0
    obtain ⟨e1, q2⟩ := Prod.mk.inj q1
    obtain ⟨e2, q3⟩ := Prod.mk.inj q2
    subst e0
    subst e1
    subst e2
    subst q3
    exact gRz hx hb hr rfl hlocks hP hS dX1_readWheel_75
  · subst hro
    have hf := rjs hf
    obtain ⟨hbz, hf⟩ := pgb hf
    have q0 := Option.some.inj hf
    obtain ⟨e0, q1⟩ := Prod.mk.inj q0
    obtain ⟨e1, q2⟩ := Prod.mk.inj q1
    obtain ⟨e2, q3⟩ := Prod.mk.inj q2
    subst e0
    subst e1
    subst e2
    subst q3
    exact gRz hx hb hr (nar_b hbz) hlocks hP hS dX1_readWheel_48
abbrev rmX1_readItem : Room := { frames := 3, cells := 0, slots := 0, locals := 69 }
set_option maxHeartbeats 4000000 in
set_option maxRecDepth 100000 in
theorem kX1_readItem (l : Launch) (dC : Nat → ClassId) (dI : Nat → Nat → Nat) (Z : gZ) (cC cI cZ cW : ClassId) (a_o a_o_needs a_o_yields a_o_skips a_o_skills a_o_places a_o_wheel a_x1 a_x1_signs a_x1_tokens a_x1_starts : Nat) (sz : Nat) (o_trades : Int32) (o_people : Int32) (o_tradesEnded : Int32) (o_needs : Nat → Int32) (o_yields : Nat → Int32) (o_skips : Nat → Int32) (o_skills : Nat → Int32) (o_places : Nat → Int32) (o_wheel : Nat → Int32) (x1_length : Int32) (x1_cuts : Int32) (x1_current : Int32) (x1_tokens : Nat → Int32)  (N : Nat) (r' : Int32) (o_trades' : Int32) (o_people' : Int32) (o_tradesEnded' : Int32) (o_needs' : Nat → Int32) (o_yields' : Nat → Int32) (o_skips' : Nat → Int32) (o_skills' : Nat → Int32) (o_places' : Nat → Int32) (o_wheel' : Nat → Int32) (x1_current' : Int32) (hf : fX1_readItem N o_trades o_people o_tradesEnded o_needs o_yields o_skips o_skills o_places o_wheel x1_cuts x1_current x1_tokens   = some (r', o_trades', o_people', o_tradesEnded', o_needs', o_yields', o_skips', o_skills', o_places', o_wheel', x1_current')) : Met l yX1_readItem wsX1_readItem rmX1_readItem (va_Pc [.ref a_o, .ref a_x1] (gB (dC, dI) Z [(cC, .char), (cI, .int), (cZ, .boolean), (cW, .object RX3)] [(a_o, .inr (1, [.int o_trades, .int o_people, .ref a_o_needs, .ref a_o_yields, .ref a_o_skips, .ref a_o_skills, .ref a_o_places, .ref a_o_wheel, .int o_tradesEnded])), (a_o_needs, .inl (cI, 6, .inl o_needs)), (a_o_yields, .inl (cI, 6, .inl o_yields)), (a_o_skips, .inl (cI, 6, .inl o_skips)), (a_o_skills, .inl (cI, 36, .inl o_skills)), (a_o_places, .inl (cI, 6, .inl o_places)), (a_o_wheel, .inl (cI, 6, .inl o_wheel)), (a_x1, .inr (0, [.int x1_length, .ref a_x1_signs, .ref a_x1_tokens, .ref a_x1_starts, .int x1_cuts, .int x1_current])), (a_x1_tokens, .inl (cI, 401, .inl x1_tokens))] sz)) (va_Qi (fun (r : Int32) (_ : Unit) => r = r') (gE (dC, dI) [(a_o, .inr (1, [.int o_trades', .int o_people', .ref a_o_needs, .ref a_o_yields, .ref a_o_skips, .ref a_o_skills, .ref a_o_places, .ref a_o_wheel, .int o_tradesEnded'])), (a_o_needs, .inl (cI, 6, .inl o_needs')), (a_o_yields, .inl (cI, 6, .inl o_yields')), (a_o_skips, .inl (cI, 6, .inl o_skips')), (a_o_skills, .inl (cI, 36, .inl o_skills')), (a_o_places, .inl (cI, 6, .inl o_places')), (a_o_wheel, .inl (cI, 6, .inl o_wheel')), (a_x1, .inr (0, [.int x1_length, .ref a_x1_signs, .ref a_x1_tokens, .ref a_x1_starts, .int x1_cuts, .int x1_current'])), (a_x1_tokens, .inl (cI, 401, .inl x1_tokens))]) (va_A [(a_o, .inr (1, [.int o_trades, .int o_people, .ref a_o_needs, .ref a_o_yields, .ref a_o_skips, .ref a_o_skills, .ref a_o_places, .ref a_o_wheel, .int o_tradesEnded])), (a_o_needs, .inl (cI, 6, .inl o_needs)), (a_o_yields, .inl (cI, 6, .inl o_yields)), (a_o_skips, .inl (cI, 6, .inl o_skips)), (a_o_skills, .inl (cI, 36, .inl o_skills)), (a_o_places, .inl (cI, 6, .inl o_places)), (a_o_wheel, .inl (cI, 6, .inl o_wheel)), (a_x1, .inr (0, [.int x1_length, .ref a_x1_signs, .ref a_x1_tokens, .ref a_x1_starts, .int x1_cuts, .int x1_current])), (a_x1_tokens, .inl (cI, 401, .inl x1_tokens))] sz)) 0 0 (va_A [(a_o, .inr (1, [.int o_trades, .int o_people, .ref a_o_needs, .ref a_o_yields, .ref a_o_skips, .ref a_o_skills, .ref a_o_places, .ref a_o_wheel, .int o_tradesEnded])), (a_o_needs, .inl (cI, 6, .inl o_needs)), (a_o_yields, .inl (cI, 6, .inl o_yields)), (a_o_skips, .inl (cI, 6, .inl o_skips)), (a_o_skills, .inl (cI, 36, .inl o_skills)), (a_o_places, .inl (cI, 6, .inl o_places)), (a_o_wheel, .inl (cI, 6, .inl o_wheel)), (a_x1, .inr (0, [.int x1_length, .ref a_x1_signs, .ref a_x1_tokens, .ref a_x1_starts, .int x1_cuts, .int x1_current])), (a_x1_tokens, .inl (cI, 401, .inl x1_tokens))] sz) := by
  refine gMet (cc := cX1_readItem) (maxL := 3) (ret := (some .boolean)) (Qc := fun A => va_Qi (fun (r : Int32) (_ : Unit) => r = r') (gE (dC, dI) [(a_o, .inr (1, [.int o_trades', .int o_people', .ref a_o_needs, .ref a_o_yields, .ref a_o_skips, .ref a_o_skills, .ref a_o_places, .ref a_o_wheel, .int o_tradesEnded'])), (a_o_needs, .inl (cI, 6, .inl o_needs')), (a_o_yields, .inl (cI, 6, .inl o_yields')), (a_o_skips, .inl (cI, 6, .inl o_skips')), (a_o_skills, .inl (cI, 36, .inl o_skills')), (a_o_places, .inl (cI, 6, .inl o_places')), (a_o_wheel, .inl (cI, 6, .inl o_wheel')), (a_x1, .inr (0, [.int x1_length, .ref a_x1_signs, .ref a_x1_tokens, .ref a_x1_starts, .int x1_cuts, .int x1_current'])), (a_x1_tokens, .inl (cI, 401, .inl x1_tokens))]) A) (by decide) rfl (Nat.le_of_ble_eq_true rfl) ?_
  intro p e s m below meth c A ls hg0 _ hsz hP hD hS hl
  have hg0 : gX p s m _ meth c cX1_readItem 3 (some .boolean) wsX1_readItem RX1 (dC, dI) Z [(cC, .char), (cI, .int), (cZ, .boolean), (cW, .object RX3)] A := hg0
  obtain ⟨hx, hb, hr, hml, hown, hts, hlocks, hA, hK, hN⟩ := id hg0
  subst hsz
  have hF : CallFix p m c cX1_readItem 3 s _ wsX1_readItem RX1 := ⟨hx, hb, hml, hown, hts⟩
  have hl : lv_has ls 3 [(0, .ref a_o), (1, .ref a_x1)] := hl
  unfold fX1_readItem at hf
  refine lv_aload_n hx hb dX1_readItem_0 rfl (lv_at hl 1 rfl) ?_
  obtain ⟨r_1, hc, hf⟩ := pb1 hf
  refine gCi (va_runV (As := []) (rest := []) hF (kX0_token l dC dI Z cC cI cZ cW a_x1 a_x1_signs a_x1_tokens a_x1_starts _ x1_length x1_cuts x1_current x1_tokens  N r_1 hc) (cwV 0 hts gX1_readItem_X0_token rfl rfl rfl (by decide +kernel) ⟨Nat.le_of_ble_eq_true rfl, Nat.le_of_ble_eq_true rfl⟩) (gPV (wc := [(a_x1, .inr (0, [.int x1_length, .ref a_x1_signs, .ref a_x1_tokens, .ref a_x1_starts, .int x1_cuts, .int x1_current])), (a_x1_tokens, .inl (cI, 401, .inl x1_tokens))]) hK hN hA hS hP hD [7, 8] rfl rfl (q0 := 0) (ci := 0) rfl rfl rfl) rfl rfl hl.1 rfl (lv_room (Nat.le_of_ble_eq_true rfl)) dX1_readItem_1 ⟨Nat.zero_le _, Nat.zero_le _⟩) hP hD hS hA [7, 8] rfl rfl rfl (fun H locs hP hD hS => ?_)
  have hP : va_P (dC, dI) vwCl [(a_o, .inr (1, [.int o_trades, .int o_people, .ref a_o_needs, .ref a_o_yields, .ref a_o_skips, .ref a_o_skills, .ref a_o_places, .ref a_o_wheel, .int o_tradesEnded])), (a_o_needs, .inl (cI, 6, .inl o_needs)), (a_o_yields, .inl (cI, 6, .inl o_yields)), (a_o_skips, .inl (cI, 6, .inl o_skips)), (a_o_skills, .inl (cI, 36, .inl o_skills)), (a_o_places, .inl (cI, 6, .inl o_places)), (a_o_wheel, .inl (cI, 6, .inl o_wheel)), (a_x1, .inr (0, [.int x1_length, .ref a_x1_signs, .ref a_x1_tokens, .ref a_x1_starts, .int x1_cuts, .int x1_current])), (a_x1_tokens, .inl (cI, 401, .inl x1_tokens))] H := hP
  have hD : va_D A [(a_o, .inr (1, [.int o_trades, .int o_people, .ref a_o_needs, .ref a_o_yields, .ref a_o_skips, .ref a_o_skills, .ref a_o_places, .ref a_o_wheel, .int o_tradesEnded])), (a_o_needs, .inl (cI, 6, .inl o_needs)), (a_o_yields, .inl (cI, 6, .inl o_yields)), (a_o_skips, .inl (cI, 6, .inl o_skips)), (a_o_skills, .inl (cI, 36, .inl o_skills)), (a_o_places, .inl (cI, 6, .inl o_places)), (a_o_wheel, .inl (cI, 6, .inl o_wheel)), (a_x1, .inr (0, [.int x1_length, .ref a_x1_signs, .ref a_x1_tokens, .ref a_x1_starts, .int x1_cuts, .int x1_current])), (a_x1_tokens, .inl (cI, 401, .inl x1_tokens))] := hD
  refine lv_istore_n (lv' := [(2, .int r_1), (0, .ref a_o), (1, .ref a_x1)]) hx hb dX1_readItem_4 rfl hl (by decide) rfl (fun ls hl => ?_)
  refine lv_aload_n hx hb dX1_readItem_5 rfl (lv_at hl 1 rfl) ?_
  refine lv_iload_n hx hb dX1_readItem_6 rfl (lv_at hl 0 rfl) ?_
  obtain ⟨r_2, hc, hf⟩ := pb1 hf
  refine gCi (va_runV (As := [.int r_1]) (rest := []) hF (kX1_canBegin l dC dI Z cC cI cZ cW a_o a_o_needs a_o_yields a_o_skips a_o_skills a_o_places a_o_wheel _ o_trades o_people o_tradesEnded r_1 N r_2 hc) (cwV 1 hts gX1_readItem_X1_canBegin rfl rfl rfl (by decide +kernel) ⟨Nat.le_of_ble_eq_true rfl, Nat.le_of_ble_eq_true rfl⟩) (gPV (wc := [(a_o, .inr (1, [.int o_trades, .int o_people, .ref a_o_needs, .ref a_o_yields, .ref a_o_skips, .ref a_o_skills, .ref a_o_places, .ref a_o_wheel, .int o_tradesEnded]))]) hK hN hA hS hP hD [0] rfl rfl (q0 := 0) (ci := 1) rfl rfl rfl) rfl rfl hl.1 rfl (lv_room (Nat.le_of_ble_eq_true rfl)) dX1_readItem_7 ⟨Nat.zero_le _, Nat.zero_le _⟩) hP hD hS hA [0] rfl rfl rfl (fun H locs hP hD hS => ?_)
  have hP : va_P (dC, dI) vwCl [(a_o, .inr (1, [.int o_trades, .int o_people, .ref a_o_needs, .ref a_o_yields, .ref a_o_skips, .ref a_o_skills, .ref a_o_places, .ref a_o_wheel, .int o_tradesEnded])), (a_o_needs, .inl (cI, 6, .inl o_needs)), (a_o_yields, .inl (cI, 6, .inl o_yields)), (a_o_skips, .inl (cI, 6, .inl o_skips)), (a_o_skills, .inl (cI, 36, .inl o_skills)), (a_o_places, .inl (cI, 6, .inl o_places)), (a_o_wheel, .inl (cI, 6, .inl o_wheel)), (a_x1, .inr (0, [.int x1_length, .ref a_x1_signs, .ref a_x1_tokens, .ref a_x1_starts, .int x1_cuts, .int x1_current])), (a_x1_tokens, .inl (cI, 401, .inl x1_tokens))] H := hP
  have hD : va_D A [(a_o, .inr (1, [.int o_trades, .int o_people, .ref a_o_needs, .ref a_o_yields, .ref a_o_skips, .ref a_o_skills, .ref a_o_places, .ref a_o_wheel, .int o_tradesEnded])), (a_o_needs, .inl (cI, 6, .inl o_needs)), (a_o_yields, .inl (cI, 6, .inl o_yields)), (a_o_skips, .inl (cI, 6, .inl o_skips)), (a_o_skills, .inl (cI, 36, .inl o_skills)), (a_o_places, .inl (cI, 6, .inl o_places)), (a_o_wheel, .inl (cI, 6, .inl o_wheel)), (a_x1, .inr (0, [.int x1_length, .ref a_x1_signs, .ref a_x1_tokens, .ref a_x1_starts, .int x1_cuts, .int x1_current])), (a_x1_tokens, .inl (cI, 401, .inl x1_tokens))] := hD
  refine lv_if_ne (tgt := 15) hx hb dX1_readItem_10 (by decide) (fun c_3 => ?_) (fun c_3 => ?_)
  · have hf := pif hf c_3
    refine lv_aload_n hx hb dX1_readItem_15 rfl (lv_at hl 2 rfl) ?_
    obtain ⟨x1_current_4, hc, hf⟩ := pb1 hf
    refine gCv (va_runV (As := []) (rest := []) hF (kX0_pass l dC dI Z cC cI cZ cW a_x1 a_x1_signs a_x1_tokens a_x1_starts _ x1_length x1_cuts x1_current  N x1_current_4 hc) (cwV 0 hts gX1_readItem_X0_pass rfl rfl rfl (by decide +kernel) ⟨Nat.le_of_ble_eq_true rfl, Nat.le_of_ble_eq_true rfl⟩) (gPV (wc := [(a_x1, .inr (0, [.int x1_length, .ref a_x1_signs, .ref a_x1_tokens, .ref a_x1_starts, .int x1_cuts, .int x1_current]))]) hK hN hA hS hP hD [7] rfl rfl (q0 := 0) (ci := 0) rfl rfl rfl) rfl rfl hl.1 rfl (lv_room (Nat.le_of_ble_eq_true rfl)) dX1_readItem_16 ⟨Nat.zero_le _, Nat.zero_le _⟩) hP hD hS hA [7] rfl rfl rfl (fun H locs hP hD hS => ?_)
    have hP : va_P (dC, dI) vwCl [(a_o, .inr (1, [.int o_trades, .int o_people, .ref a_o_needs, .ref a_o_yields, .ref a_o_skips, .ref a_o_skills, .ref a_o_places, .ref a_o_wheel, .int o_tradesEnded])), (a_o_needs, .inl (cI, 6, .inl o_needs)), (a_o_yields, .inl (cI, 6, .inl o_yields)), (a_o_skips, .inl (cI, 6, .inl o_skips)), (a_o_skills, .inl (cI, 36, .inl o_skills)), (a_o_places, .inl (cI, 6, .inl o_places)), (a_o_wheel, .inl (cI, 6, .inl o_wheel)), (a_x1, .inr (0, [.int x1_length, .ref a_x1_signs, .ref a_x1_tokens, .ref a_x1_starts, .int x1_cuts, .int x1_current_4])), (a_x1_tokens, .inl (cI, 401, .inl x1_tokens))] H := hP
    have hD : va_D A [(a_o, .inr (1, [.int o_trades, .int o_people, .ref a_o_needs, .ref a_o_yields, .ref a_o_skips, .ref a_o_skills, .ref a_o_places, .ref a_o_wheel, .int o_tradesEnded])), (a_o_needs, .inl (cI, 6, .inl o_needs)), (a_o_yields, .inl (cI, 6, .inl o_yields)), (a_o_skips, .inl (cI, 6, .inl o_skips)), (a_o_skills, .inl (cI, 36, .inl o_skills)), (a_o_places, .inl (cI, 6, .inl o_places)), (a_o_wheel, .inl (cI, 6, .inl o_wheel)), (a_x1, .inr (0, [.int x1_length, .ref a_x1_signs, .ref a_x1_tokens, .ref a_x1_starts, .int x1_cuts, .int x1_current_4])), (a_x1_tokens, .inl (cI, 401, .inl x1_tokens))] := hD
    refine lv_iload_n hx hb dX1_readItem_19 rfl (lv_at hl 0 rfl) ?_
    by_cases c_28 : r_1 = (-8 : Int32)
    · have hf := pit hf c_28
      refine gTab (off := 59) (tgt := 79) hx hb c_28 dX1_readItem_20 (by decide) (by decide) (by decide) (by decide) ?_
      refine lv_aload_n hx hb dX1_readItem_79 rfl (lv_at hl 1 rfl) ?_
      refine lv_aload_n hx hb dX1_readItem_80 rfl (lv_at hl 2 rfl) ?_
      obtain ⟨r_5, o_tradesEnded_6, o_places_7, x1_current_8, hc, hf⟩ := pb4 hf
      refine gCi (va_runV (As := [.ref a_x1]) (rest := []) hF (kX1_readPlace l dC dI Z cC cI cZ cW a_o a_o_needs a_o_yields a_o_skips a_o_skills a_o_places a_o_wheel a_x1 a_x1_signs a_x1_tokens a_x1_starts _ o_trades o_people o_tradesEnded o_places x1_length x1_cuts x1_current_4 x1_tokens  N r_5 o_tradesEnded_6 o_places_7 x1_current_8 hc) (cwV 1 hts gX1_readItem_X1_readPlace rfl rfl rfl (by decide +kernel) ⟨Nat.le_of_ble_eq_true rfl, Nat.le_of_ble_eq_true rfl⟩) (gPV (wc := [(a_o, .inr (1, [.int o_trades, .int o_people, .ref a_o_needs, .ref a_o_yields, .ref a_o_skips, .ref a_o_skills, .ref a_o_places, .ref a_o_wheel, .int o_tradesEnded])), (a_o_places, .inl (cI, 6, .inl o_places)), (a_x1, .inr (0, [.int x1_length, .ref a_x1_signs, .ref a_x1_tokens, .ref a_x1_starts, .int x1_cuts, .int x1_current_4])), (a_x1_tokens, .inl (cI, 401, .inl x1_tokens))]) hK hN hA hS hP hD [0, 5, 7, 8] rfl rfl (q0 := 0) (ci := 1) rfl rfl rfl) rfl rfl hl.1 rfl (lv_room (Nat.le_of_ble_eq_true rfl)) dX1_readItem_81 ⟨Nat.zero_le _, Nat.zero_le _⟩) hP hD hS hA [0, 5, 7, 8] rfl rfl rfl (fun H locs hP hD hS => ?_)
      have hP : va_P (dC, dI) vwCl [(a_o, .inr (1, [.int o_trades, .int o_people, .ref a_o_needs, .ref a_o_yields, .ref a_o_skips, .ref a_o_skills, .ref a_o_places, .ref a_o_wheel, .int o_tradesEnded_6])), (a_o_needs, .inl (cI, 6, .inl o_needs)), (a_o_yields, .inl (cI, 6, .inl o_yields)), (a_o_skips, .inl (cI, 6, .inl o_skips)), (a_o_skills, .inl (cI, 36, .inl o_skills)), (a_o_places, .inl (cI, 6, .inl o_places_7)), (a_o_wheel, .inl (cI, 6, .inl o_wheel)), (a_x1, .inr (0, [.int x1_length, .ref a_x1_signs, .ref a_x1_tokens, .ref a_x1_starts, .int x1_cuts, .int x1_current_8])), (a_x1_tokens, .inl (cI, 401, .inl x1_tokens))] H := hP
      have hD : va_D A [(a_o, .inr (1, [.int o_trades, .int o_people, .ref a_o_needs, .ref a_o_yields, .ref a_o_skips, .ref a_o_skills, .ref a_o_places, .ref a_o_wheel, .int o_tradesEnded_6])), (a_o_needs, .inl (cI, 6, .inl o_needs)), (a_o_yields, .inl (cI, 6, .inl o_yields)), (a_o_skips, .inl (cI, 6, .inl o_skips)), (a_o_skills, .inl (cI, 36, .inl o_skills)), (a_o_places, .inl (cI, 6, .inl o_places_7)), (a_o_wheel, .inl (cI, 6, .inl o_wheel)), (a_x1, .inr (0, [.int x1_length, .ref a_x1_signs, .ref a_x1_tokens, .ref a_x1_starts, .int x1_cuts, .int x1_current_8])), (a_x1_tokens, .inl (cI, 401, .inl x1_tokens))] := hD
      obtain ⟨hbz, hf⟩ := pgb hf
      have q0 := Option.some.inj hf
      obtain ⟨e0, q1⟩ := Prod.mk.inj q0
      obtain ⟨e1, q2⟩ := Prod.mk.inj q1
      obtain ⟨e2, q3⟩ := Prod.mk.inj q2
      obtain ⟨e3, q4⟩ := Prod.mk.inj q3
      obtain ⟨e4, q5⟩ := Prod.mk.inj q4
      obtain ⟨e5, q6⟩ := Prod.mk.inj q5
      obtain ⟨e6, q7⟩ := Prod.mk.inj q6
      obtain ⟨e7, q8⟩ := Prod.mk.inj q7
      obtain ⟨e8, q9⟩ := Prod.mk.inj q8
      obtain ⟨e9, q10⟩ := Prod.mk.inj q9
      subst e0
      subst e1
      subst e2
      subst e3
      subst e4
      subst e5
      subst e6
      subst e7
      subst e8
      subst e9
      subst q10
      exact gRz hx hb hr (nar_b hbz) hlocks hP hS dX1_readItem_84
    · have hf := pif hf c_28
      by_cases c_29 : r_1 = (-7 : Int32)
      · have hf := pit hf c_29
        refine gTab (off := 53) (tgt := 73) hx hb c_29 dX1_readItem_20 (by decide) (by decide) (by decide) (by decide) ?_
        refine lv_aload_n hx hb dX1_readItem_73 rfl (lv_at hl 1 rfl) ?_
        refine lv_aload_n hx hb dX1_readItem_74 rfl (lv_at hl 2 rfl) ?_
        obtain ⟨r_9, o_tradesEnded_10, o_skips_11, x1_current_12, hc, hf⟩ := pb4 hf
        refine gCi (va_runV (As := [.ref a_x1]) (rest := []) hF (kX1_readSkip l dC dI Z cC cI cZ cW a_o a_o_needs a_o_yields a_o_skips a_o_skills a_o_places a_o_wheel a_x1 a_x1_signs a_x1_tokens a_x1_starts _ o_trades o_people o_tradesEnded o_skips x1_length x1_cuts x1_current_4 x1_tokens  N r_9 o_tradesEnded_10 o_skips_11 x1_current_12 hc) (cwV 1 hts gX1_readItem_X1_readSkip rfl rfl rfl (by decide +kernel) ⟨Nat.le_of_ble_eq_true rfl, Nat.le_of_ble_eq_true rfl⟩) (gPV (wc := [(a_o, .inr (1, [.int o_trades, .int o_people, .ref a_o_needs, .ref a_o_yields, .ref a_o_skips, .ref a_o_skills, .ref a_o_places, .ref a_o_wheel, .int o_tradesEnded])), (a_o_skips, .inl (cI, 6, .inl o_skips)), (a_x1, .inr (0, [.int x1_length, .ref a_x1_signs, .ref a_x1_tokens, .ref a_x1_starts, .int x1_cuts, .int x1_current_4])), (a_x1_tokens, .inl (cI, 401, .inl x1_tokens))]) hK hN hA hS hP hD [0, 3, 7, 8] rfl rfl (q0 := 0) (ci := 1) rfl rfl rfl) rfl rfl hl.1 rfl (lv_room (Nat.le_of_ble_eq_true rfl)) dX1_readItem_75 ⟨Nat.zero_le _, Nat.zero_le _⟩) hP hD hS hA [0, 3, 7, 8] rfl rfl rfl (fun H locs hP hD hS => ?_)
        have hP : va_P (dC, dI) vwCl [(a_o, .inr (1, [.int o_trades, .int o_people, .ref a_o_needs, .ref a_o_yields, .ref a_o_skips, .ref a_o_skills, .ref a_o_places, .ref a_o_wheel, .int o_tradesEnded_10])), (a_o_needs, .inl (cI, 6, .inl o_needs)), (a_o_yields, .inl (cI, 6, .inl o_yields)), (a_o_skips, .inl (cI, 6, .inl o_skips_11)), (a_o_skills, .inl (cI, 36, .inl o_skills)), (a_o_places, .inl (cI, 6, .inl o_places)), (a_o_wheel, .inl (cI, 6, .inl o_wheel)), (a_x1, .inr (0, [.int x1_length, .ref a_x1_signs, .ref a_x1_tokens, .ref a_x1_starts, .int x1_cuts, .int x1_current_12])), (a_x1_tokens, .inl (cI, 401, .inl x1_tokens))] H := hP
        have hD : va_D A [(a_o, .inr (1, [.int o_trades, .int o_people, .ref a_o_needs, .ref a_o_yields, .ref a_o_skips, .ref a_o_skills, .ref a_o_places, .ref a_o_wheel, .int o_tradesEnded_10])), (a_o_needs, .inl (cI, 6, .inl o_needs)), (a_o_yields, .inl (cI, 6, .inl o_yields)), (a_o_skips, .inl (cI, 6, .inl o_skips_11)), (a_o_skills, .inl (cI, 36, .inl o_skills)), (a_o_places, .inl (cI, 6, .inl o_places)), (a_o_wheel, .inl (cI, 6, .inl o_wheel)), (a_x1, .inr (0, [.int x1_length, .ref a_x1_signs, .ref a_x1_tokens, .ref a_x1_starts, .int x1_cuts, .int x1_current_12])), (a_x1_tokens, .inl (cI, 401, .inl x1_tokens))] := hD
        obtain ⟨hbz, hf⟩ := pgb hf
        have q0 := Option.some.inj hf
        obtain ⟨e0, q1⟩ := Prod.mk.inj q0
        obtain ⟨e1, q2⟩ := Prod.mk.inj q1
        obtain ⟨e2, q3⟩ := Prod.mk.inj q2
        obtain ⟨e3, q4⟩ := Prod.mk.inj q3
        obtain ⟨e4, q5⟩ := Prod.mk.inj q4
        obtain ⟨e5, q6⟩ := Prod.mk.inj q5
        obtain ⟨e6, q7⟩ := Prod.mk.inj q6
        obtain ⟨e7, q8⟩ := Prod.mk.inj q7
        obtain ⟨e8, q9⟩ := Prod.mk.inj q8
        obtain ⟨e9, q10⟩ := Prod.mk.inj q9
        subst e0
        subst e1
        subst e2
        subst e3
        subst e4
        subst e5
        subst e6
        subst e7
        subst e8
        subst e9
        subst q10
        exact gRz hx hb hr (nar_b hbz) hlocks hP hS dX1_readItem_78
      · have hf := pif hf c_29
        by_cases c_30 : r_1 = (-6 : Int32)
        · have hf := pit hf c_30
          refine gTab (off := 47) (tgt := 67) hx hb c_30 dX1_readItem_20 (by decide) (by decide) (by decide) (by decide) ?_
          refine lv_aload_n hx hb dX1_readItem_67 rfl (lv_at hl 1 rfl) ?_
          refine lv_aload_n hx hb dX1_readItem_68 rfl (lv_at hl 2 rfl) ?_
          obtain ⟨r_13, o_tradesEnded_14, o_skills_15, x1_current_16, hc, hf⟩ := pb4 hf
          refine gCi (va_runV (As := [.ref a_x1]) (rest := []) hF (kX1_readSkill l dC dI Z cC cI cZ cW a_o a_o_needs a_o_yields a_o_skips a_o_skills a_o_places a_o_wheel a_x1 a_x1_signs a_x1_tokens a_x1_starts _ o_trades o_people o_tradesEnded o_skills x1_length x1_cuts x1_current_4 x1_tokens  N r_13 o_tradesEnded_14 o_skills_15 x1_current_16 hc) (cwV 1 hts gX1_readItem_X1_readSkill rfl rfl rfl (by decide +kernel) ⟨Nat.le_of_ble_eq_true rfl, Nat.le_of_ble_eq_true rfl⟩) (gPV (wc := [(a_o, .inr (1, [.int o_trades, .int o_people, .ref a_o_needs, .ref a_o_yields, .ref a_o_skips, .ref a_o_skills, .ref a_o_places, .ref a_o_wheel, .int o_tradesEnded])), (a_o_skills, .inl (cI, 36, .inl o_skills)), (a_x1, .inr (0, [.int x1_length, .ref a_x1_signs, .ref a_x1_tokens, .ref a_x1_starts, .int x1_cuts, .int x1_current_4])), (a_x1_tokens, .inl (cI, 401, .inl x1_tokens))]) hK hN hA hS hP hD [0, 4, 7, 8] rfl rfl (q0 := 0) (ci := 1) rfl rfl rfl) rfl rfl hl.1 rfl (lv_room (Nat.le_of_ble_eq_true rfl)) dX1_readItem_69 ⟨Nat.zero_le _, Nat.zero_le _⟩) hP hD hS hA [0, 4, 7, 8] rfl rfl rfl (fun H locs hP hD hS => ?_)
          have hP : va_P (dC, dI) vwCl [(a_o, .inr (1, [.int o_trades, .int o_people, .ref a_o_needs, .ref a_o_yields, .ref a_o_skips, .ref a_o_skills, .ref a_o_places, .ref a_o_wheel, .int o_tradesEnded_14])), (a_o_needs, .inl (cI, 6, .inl o_needs)), (a_o_yields, .inl (cI, 6, .inl o_yields)), (a_o_skips, .inl (cI, 6, .inl o_skips)), (a_o_skills, .inl (cI, 36, .inl o_skills_15)), (a_o_places, .inl (cI, 6, .inl o_places)), (a_o_wheel, .inl (cI, 6, .inl o_wheel)), (a_x1, .inr (0, [.int x1_length, .ref a_x1_signs, .ref a_x1_tokens, .ref a_x1_starts, .int x1_cuts, .int x1_current_16])), (a_x1_tokens, .inl (cI, 401, .inl x1_tokens))] H := hP
          have hD : va_D A [(a_o, .inr (1, [.int o_trades, .int o_people, .ref a_o_needs, .ref a_o_yields, .ref a_o_skips, .ref a_o_skills, .ref a_o_places, .ref a_o_wheel, .int o_tradesEnded_14])), (a_o_needs, .inl (cI, 6, .inl o_needs)), (a_o_yields, .inl (cI, 6, .inl o_yields)), (a_o_skips, .inl (cI, 6, .inl o_skips)), (a_o_skills, .inl (cI, 36, .inl o_skills_15)), (a_o_places, .inl (cI, 6, .inl o_places)), (a_o_wheel, .inl (cI, 6, .inl o_wheel)), (a_x1, .inr (0, [.int x1_length, .ref a_x1_signs, .ref a_x1_tokens, .ref a_x1_starts, .int x1_cuts, .int x1_current_16])), (a_x1_tokens, .inl (cI, 401, .inl x1_tokens))] := hD
          obtain ⟨hbz, hf⟩ := pgb hf
          have q0 := Option.some.inj hf
          obtain ⟨e0, q1⟩ := Prod.mk.inj q0
          obtain ⟨e1, q2⟩ := Prod.mk.inj q1
          obtain ⟨e2, q3⟩ := Prod.mk.inj q2
          obtain ⟨e3, q4⟩ := Prod.mk.inj q3
          obtain ⟨e4, q5⟩ := Prod.mk.inj q4
          obtain ⟨e5, q6⟩ := Prod.mk.inj q5
          obtain ⟨e6, q7⟩ := Prod.mk.inj q6
          obtain ⟨e7, q8⟩ := Prod.mk.inj q7
          obtain ⟨e8, q9⟩ := Prod.mk.inj q8
          obtain ⟨e9, q10⟩ := Prod.mk.inj q9
          subst e0
          subst e1
          subst e2
          subst e3
          subst e4
          subst e5
          subst e6
          subst e7
          subst e8
          subst e9
          subst q10
          exact gRz hx hb hr (nar_b hbz) hlocks hP hS dX1_readItem_72
        · have hf := pif hf c_30
          by_cases c_31 : r_1 = (-5 : Int32)
          · have hf := pit hf c_31
            refine gTab (off := 42) (tgt := 62) hx hb c_31 dX1_readItem_20 (by decide) (by decide) (by decide) (by decide) ?_
            refine lv_aload_n hx hb dX1_readItem_62 rfl (lv_at hl 1 rfl) ?_
            obtain ⟨r_17, o_people_18, hc, hf⟩ := pb2 hf
            refine gCi (va_runV (As := []) (rest := []) hF (kX1_readPerson l dC dI Z cC cI cZ cW a_o a_o_needs a_o_yields a_o_skips a_o_skills a_o_places a_o_wheel _ o_trades o_people o_tradesEnded  N r_17 o_people_18 hc) (cwV 0 hts gX1_readItem_X1_readPerson rfl rfl rfl (by decide +kernel) ⟨Nat.le_of_ble_eq_true rfl, Nat.le_of_ble_eq_true rfl⟩) (gPV (wc := [(a_o, .inr (1, [.int o_trades, .int o_people, .ref a_o_needs, .ref a_o_yields, .ref a_o_skips, .ref a_o_skills, .ref a_o_places, .ref a_o_wheel, .int o_tradesEnded]))]) hK hN hA hS hP hD [0] rfl rfl (q0 := 0) (ci := 1) rfl rfl rfl) rfl rfl hl.1 rfl (lv_room (Nat.le_of_ble_eq_true rfl)) dX1_readItem_63 ⟨Nat.zero_le _, Nat.zero_le _⟩) hP hD hS hA [0] rfl rfl rfl (fun H locs hP hD hS => ?_)
            have hP : va_P (dC, dI) vwCl [(a_o, .inr (1, [.int o_trades, .int o_people_18, .ref a_o_needs, .ref a_o_yields, .ref a_o_skips, .ref a_o_skills, .ref a_o_places, .ref a_o_wheel, .int o_tradesEnded])), (a_o_needs, .inl (cI, 6, .inl o_needs)), (a_o_yields, .inl (cI, 6, .inl o_yields)), (a_o_skips, .inl (cI, 6, .inl o_skips)), (a_o_skills, .inl (cI, 36, .inl o_skills)), (a_o_places, .inl (cI, 6, .inl o_places)), (a_o_wheel, .inl (cI, 6, .inl o_wheel)), (a_x1, .inr (0, [.int x1_length, .ref a_x1_signs, .ref a_x1_tokens, .ref a_x1_starts, .int x1_cuts, .int x1_current_4])), (a_x1_tokens, .inl (cI, 401, .inl x1_tokens))] H := hP
            have hD : va_D A [(a_o, .inr (1, [.int o_trades, .int o_people_18, .ref a_o_needs, .ref a_o_yields, .ref a_o_skips, .ref a_o_skills, .ref a_o_places, .ref a_o_wheel, .int o_tradesEnded])), (a_o_needs, .inl (cI, 6, .inl o_needs)), (a_o_yields, .inl (cI, 6, .inl o_yields)), (a_o_skips, .inl (cI, 6, .inl o_skips)), (a_o_skills, .inl (cI, 36, .inl o_skills)), (a_o_places, .inl (cI, 6, .inl o_places)), (a_o_wheel, .inl (cI, 6, .inl o_wheel)), (a_x1, .inr (0, [.int x1_length, .ref a_x1_signs, .ref a_x1_tokens, .ref a_x1_starts, .int x1_cuts, .int x1_current_4])), (a_x1_tokens, .inl (cI, 401, .inl x1_tokens))] := hD
            obtain ⟨hbz, hf⟩ := pgb hf
            have q0 := Option.some.inj hf
            obtain ⟨e0, q1⟩ := Prod.mk.inj q0
            obtain ⟨e1, q2⟩ := Prod.mk.inj q1
            obtain ⟨e2, q3⟩ := Prod.mk.inj q2
            obtain ⟨e3, q4⟩ := Prod.mk.inj q3
            obtain ⟨e4, q5⟩ := Prod.mk.inj q4
            obtain ⟨e5, q6⟩ := Prod.mk.inj q5
            obtain ⟨e6, q7⟩ := Prod.mk.inj q6
            obtain ⟨e7, q8⟩ := Prod.mk.inj q7
            obtain ⟨e8, q9⟩ := Prod.mk.inj q8
            obtain ⟨e9, q10⟩ := Prod.mk.inj q9
            subst e0
            subst e1
            subst e2
            subst e3
            subst e4
            subst e5
            subst e6
            subst e7
            subst e8
            subst e9
            subst q10
            exact gRz hx hb hr (nar_b hbz) hlocks hP hS dX1_readItem_66
          · have hf := pif hf c_31
            by_cases c_32 : r_1 = (-4 : Int32)
            · have hf := pit hf c_32
              refine gTab (off := 36) (tgt := 56) hx hb c_32 dX1_readItem_20 (by decide) (by decide) (by decide) (by decide) ?_
              refine lv_aload_n hx hb dX1_readItem_56 rfl (lv_at hl 1 rfl) ?_
              refine lv_aload_n hx hb dX1_readItem_57 rfl (lv_at hl 2 rfl) ?_
              obtain ⟨r_19, o_trades_20, o_needs_21, o_yields_22, x1_current_23, hc, hf⟩ := pb5 hf
              refine gCi (va_runV (As := [.ref a_x1]) (rest := []) hF (kX1_readTrade l dC dI Z cC cI cZ cW a_o a_o_needs a_o_yields a_o_skips a_o_skills a_o_places a_o_wheel a_x1 a_x1_signs a_x1_tokens a_x1_starts _ o_trades o_people o_tradesEnded o_needs o_yields x1_length x1_cuts x1_current_4 x1_tokens  N r_19 o_trades_20 o_needs_21 o_yields_22 x1_current_23 hc) (cwV 1 hts gX1_readItem_X1_readTrade rfl rfl rfl (by decide +kernel) ⟨Nat.le_of_ble_eq_true rfl, Nat.le_of_ble_eq_true rfl⟩) (gPV (wc := [(a_o, .inr (1, [.int o_trades, .int o_people, .ref a_o_needs, .ref a_o_yields, .ref a_o_skips, .ref a_o_skills, .ref a_o_places, .ref a_o_wheel, .int o_tradesEnded])), (a_o_needs, .inl (cI, 6, .inl o_needs)), (a_o_yields, .inl (cI, 6, .inl o_yields)), (a_x1, .inr (0, [.int x1_length, .ref a_x1_signs, .ref a_x1_tokens, .ref a_x1_starts, .int x1_cuts, .int x1_current_4])), (a_x1_tokens, .inl (cI, 401, .inl x1_tokens))]) hK hN hA hS hP hD [0, 1, 2, 7, 8] rfl rfl (q0 := 0) (ci := 1) rfl rfl rfl) rfl rfl hl.1 rfl (lv_room (Nat.le_of_ble_eq_true rfl)) dX1_readItem_58 ⟨Nat.zero_le _, Nat.zero_le _⟩) hP hD hS hA [0, 1, 2, 7, 8] rfl rfl rfl (fun H locs hP hD hS => ?_)
              have hP : va_P (dC, dI) vwCl [(a_o, .inr (1, [.int o_trades_20, .int o_people, .ref a_o_needs, .ref a_o_yields, .ref a_o_skips, .ref a_o_skills, .ref a_o_places, .ref a_o_wheel, .int o_tradesEnded])), (a_o_needs, .inl (cI, 6, .inl o_needs_21)), (a_o_yields, .inl (cI, 6, .inl o_yields_22)), (a_o_skips, .inl (cI, 6, .inl o_skips)), (a_o_skills, .inl (cI, 36, .inl o_skills)), (a_o_places, .inl (cI, 6, .inl o_places)), (a_o_wheel, .inl (cI, 6, .inl o_wheel)), (a_x1, .inr (0, [.int x1_length, .ref a_x1_signs, .ref a_x1_tokens, .ref a_x1_starts, .int x1_cuts, .int x1_current_23])), (a_x1_tokens, .inl (cI, 401, .inl x1_tokens))] H := hP
              have hD : va_D A [(a_o, .inr (1, [.int o_trades_20, .int o_people, .ref a_o_needs, .ref a_o_yields, .ref a_o_skips, .ref a_o_skills, .ref a_o_places, .ref a_o_wheel, .int o_tradesEnded])), (a_o_needs, .inl (cI, 6, .inl o_needs_21)), (a_o_yields, .inl (cI, 6, .inl o_yields_22)), (a_o_skips, .inl (cI, 6, .inl o_skips)), (a_o_skills, .inl (cI, 36, .inl o_skills)), (a_o_places, .inl (cI, 6, .inl o_places)), (a_o_wheel, .inl (cI, 6, .inl o_wheel)), (a_x1, .inr (0, [.int x1_length, .ref a_x1_signs, .ref a_x1_tokens, .ref a_x1_starts, .int x1_cuts, .int x1_current_23])), (a_x1_tokens, .inl (cI, 401, .inl x1_tokens))] := hD
              obtain ⟨hbz, hf⟩ := pgb hf
              have q0 := Option.some.inj hf
              obtain ⟨e0, q1⟩ := Prod.mk.inj q0
              obtain ⟨e1, q2⟩ := Prod.mk.inj q1
              obtain ⟨e2, q3⟩ := Prod.mk.inj q2
              obtain ⟨e3, q4⟩ := Prod.mk.inj q3
              obtain ⟨e4, q5⟩ := Prod.mk.inj q4
              obtain ⟨e5, q6⟩ := Prod.mk.inj q5
              obtain ⟨e6, q7⟩ := Prod.mk.inj q6
              obtain ⟨e7, q8⟩ := Prod.mk.inj q7
              obtain ⟨e8, q9⟩ := Prod.mk.inj q8
              obtain ⟨e9, q10⟩ := Prod.mk.inj q9
              subst e0
              subst e1
              subst e2
              subst e3
              subst e4
              subst e5
              subst e6
              subst e7
              subst e8
              subst e9
              subst q10
              exact gRz hx hb hr (nar_b hbz) hlocks hP hS dX1_readItem_61
            · have hf := pif hf c_32
              have c_28 := ti_ne (k := -8) c_28 (by decide)
              have c_29 := ti_ne (k := -7) c_29 (by decide)
              have c_30 := ti_ne (k := -6) c_30 (by decide)
              have c_31 := ti_ne (k := -5) c_31 (by decide)
              have c_32 := ti_ne (k := -4) c_32 (by decide)
              refine lv_tableOut (tgt := 85) hx hb dX1_readItem_20 (by omega) (by decide) ?_
              refine lv_aload_n hx hb dX1_readItem_85 rfl (lv_at hl 1 rfl) ?_
              refine lv_aload_n hx hb dX1_readItem_86 rfl (lv_at hl 2 rfl) ?_
              obtain ⟨r_24, o_tradesEnded_25, o_wheel_26, x1_current_27, hc, hf⟩ := pb4 hf
              refine gCi (va_runV (As := [.ref a_x1]) (rest := []) hF (kX1_readWheel l dC dI Z cC cI cZ cW a_o a_o_needs a_o_yields a_o_skips a_o_skills a_o_places a_o_wheel a_x1 a_x1_signs a_x1_tokens a_x1_starts _ o_trades o_people o_tradesEnded o_wheel x1_length x1_cuts x1_current_4 x1_tokens  N r_24 o_tradesEnded_25 o_wheel_26 x1_current_27 hc) (cwV 1 hts gX1_readItem_X1_readWheel rfl rfl rfl (by decide +kernel) ⟨Nat.le_of_ble_eq_true rfl, Nat.le_of_ble_eq_true rfl⟩) (gPV (wc := [(a_o, .inr (1, [.int o_trades, .int o_people, .ref a_o_needs, .ref a_o_yields, .ref a_o_skips, .ref a_o_skills, .ref a_o_places, .ref a_o_wheel, .int o_tradesEnded])), (a_o_wheel, .inl (cI, 6, .inl o_wheel)), (a_x1, .inr (0, [.int x1_length, .ref a_x1_signs, .ref a_x1_tokens, .ref a_x1_starts, .int x1_cuts, .int x1_current_4])), (a_x1_tokens, .inl (cI, 401, .inl x1_tokens))]) hK hN hA hS hP hD [0, 6, 7, 8] rfl rfl (q0 := 0) (ci := 1) rfl rfl rfl) rfl rfl hl.1 rfl (lv_room (Nat.le_of_ble_eq_true rfl)) dX1_readItem_87 ⟨Nat.zero_le _, Nat.zero_le _⟩) hP hD hS hA [0, 6, 7, 8] rfl rfl rfl (fun H locs hP hD hS => ?_)
              have hP : va_P (dC, dI) vwCl [(a_o, .inr (1, [.int o_trades, .int o_people, .ref a_o_needs, .ref a_o_yields, .ref a_o_skips, .ref a_o_skills, .ref a_o_places, .ref a_o_wheel, .int o_tradesEnded_25])), (a_o_needs, .inl (cI, 6, .inl o_needs)), (a_o_yields, .inl (cI, 6, .inl o_yields)), (a_o_skips, .inl (cI, 6, .inl o_skips)), (a_o_skills, .inl (cI, 36, .inl o_skills)), (a_o_places, .inl (cI, 6, .inl o_places)), (a_o_wheel, .inl (cI, 6, .inl o_wheel_26)), (a_x1, .inr (0, [.int x1_length, .ref a_x1_signs, .ref a_x1_tokens, .ref a_x1_starts, .int x1_cuts, .int x1_current_27])), (a_x1_tokens, .inl (cI, 401, .inl x1_tokens))] H := hP
              have hD : va_D A [(a_o, .inr (1, [.int o_trades, .int o_people, .ref a_o_needs, .ref a_o_yields, .ref a_o_skips, .ref a_o_skills, .ref a_o_places, .ref a_o_wheel, .int o_tradesEnded_25])), (a_o_needs, .inl (cI, 6, .inl o_needs)), (a_o_yields, .inl (cI, 6, .inl o_yields)), (a_o_skips, .inl (cI, 6, .inl o_skips)), (a_o_skills, .inl (cI, 36, .inl o_skills)), (a_o_places, .inl (cI, 6, .inl o_places)), (a_o_wheel, .inl (cI, 6, .inl o_wheel_26)), (a_x1, .inr (0, [.int x1_length, .ref a_x1_signs, .ref a_x1_tokens, .ref a_x1_starts, .int x1_cuts, .int x1_current_27])), (a_x1_tokens, .inl (cI, 401, .inl x1_tokens))] := hD
              obtain ⟨hbz, hf⟩ := pgb hf
              have q0 := Option.some.inj hf
              obtain ⟨e0, q1⟩ := Prod.mk.inj q0
              obtain ⟨e1, q2⟩ := Prod.mk.inj q1
              obtain ⟨e2, q3⟩ := Prod.mk.inj q2
              obtain ⟨e3, q4⟩ := Prod.mk.inj q3
              obtain ⟨e4, q5⟩ := Prod.mk.inj q4
              obtain ⟨e5, q6⟩ := Prod.mk.inj q5
              obtain ⟨e6, q7⟩ := Prod.mk.inj q6
              obtain ⟨e7, q8⟩ := Prod.mk.inj q7
              obtain ⟨e8, q9⟩ := Prod.mk.inj q8
              obtain ⟨e9, q10⟩ := Prod.mk.inj q9
              subst e0
              subst e1
              subst e2
              subst e3
              subst e4
              subst e5
              subst e6
              subst e7
              subst e8
              subst e9
              subst q10
              exact gRz hx hb hr (nar_b hbz) hlocks hP hS dX1_readItem_90
  · have hf := pit hf c_3
    refine lv_iconst (v := (0 : Int32)) hx hb dX1_readItem_13 (by decide) ?_
    have q0 := Option.some.inj hf
    obtain ⟨e0, q1⟩ := Prod.mk.inj q0
    obtain ⟨e1, q2⟩ := Prod.mk.inj q1
    obtain ⟨e2, q3⟩ := Prod.mk.inj q2
    obtain ⟨e3, q4⟩ := Prod.mk.inj q3
    obtain ⟨e4, q5⟩ := Prod.mk.inj q4
    obtain ⟨e5, q6⟩ := Prod.mk.inj q5
    obtain ⟨e6, q7⟩ := Prod.mk.inj q6
    obtain ⟨e7, q8⟩ := Prod.mk.inj q7
    obtain ⟨e8, q9⟩ := Prod.mk.inj q8
    obtain ⟨e9, q10⟩ := Prod.mk.inj q9
    subst e0
    subst e1
    subst e2
    subst e3
    subst e4
    subst e5
    subst e6
    subst e7
    subst e8
    subst e9
    subst q10
    exact gRz hx hb hr rfl hlocks hP hS dX1_readItem_14
abbrev rmX1_tellNothing : Room := { frames := 0, cells := 0, slots := 0, locals := 0 }
set_option maxRecDepth 20000 in
theorem uX1_tellNothing_X1 : ∀ w ∈ wsX10, w ∈ wsX1_tellNothing := by decide +kernel
set_option maxRecDepth 20000 in
theorem mX1_tellNothing_0 : (Cond.fieldLink RX1 9 "TradeWheel$Told" "trades" "I" : Cond) ∈ wsX1_tellNothing := by decide +kernel
set_option maxRecDepth 20000 in
theorem mX1_tellNothing_1 : (Cond.fieldLink RX1 15 "TradeWheel$Told" "people" "I" : Cond) ∈ wsX1_tellNothing := by decide +kernel
set_option maxRecDepth 20000 in
theorem mX1_tellNothing_2 : (Cond.fieldLink RX1 37 "TradeWheel$Told" "tradesEnded" "Z" : Cond) ∈ wsX1_tellNothing := by decide +kernel
set_option maxRecDepth 20000 in
theorem mX1_tellNothing_3 : (Cond.fieldLink RX1 34 "TradeWheel$Told" "wheel" "[I" : Cond) ∈ wsX1_tellNothing := by decide +kernel
set_option maxRecDepth 20000 in
theorem mX1_tellNothing_4 : (Cond.fieldLink RX1 25 "TradeWheel$Told" "skips" "[I" : Cond) ∈ wsX1_tellNothing := by decide +kernel
set_option maxRecDepth 20000 in
theorem mX1_tellNothing_5 : (Cond.fieldLink RX1 31 "TradeWheel$Told" "places" "[I" : Cond) ∈ wsX1_tellNothing := by decide +kernel
set_option maxRecDepth 20000 in
theorem mX1_tellNothing_6 : (Cond.fieldLink RX1 28 "TradeWheel$Told" "skills" "[I" : Cond) ∈ wsX1_tellNothing := by decide +kernel
set_option maxHeartbeats 4000000 in
set_option maxRecDepth 100000 in
theorem wX1_tellNothing_17 {p : Program} {l : Launch} {e : Env} {s : State} {m : MethodId} {args : Array Value} {below : List Frame} {meth : Method} {c : Code} {Q : State → Prop} {A : Nat → Prop} {dC : Nat → ClassId} {dI : Nat → Nat → Nat} {Z : gZ} {cC cI cZ cW : ClassId} (hg0 : gX p s m args meth c cX1_tellNothing 2 none wsX1_tellNothing RX1 (dC, dI) Z [(cC, .char), (cI, .int), (cZ, .boolean), (cW, .object RX3)] A) (a_o a_o_needs a_o_yields a_o_skips a_o_skills a_o_places a_o_wheel : Nat) (o_trades : Int32) (o_people : Int32) (o_tradesEnded : Int32) (o_skips : Nat → Int32) (o_skills : Nat → Int32) (o_places : Nat → Int32)  (N : Nat) : ∀ (n : Nat) (o_wheel : Nat → Int32) (l1 : Int32) (o_wheel' : Nat → Int32) (l1' : Int32), fX1_tellNothing_17 N  n o_wheel l1 = some (o_wheel', l1') → ∀ (H : Heap) (locs : List Loc) (ls : Array Slot), va_P (dC, dI) vwCl [(a_o, .inr (1, [.int o_trades, .int o_people, .ref a_o_needs, .ref a_o_yields, .ref a_o_skips, .ref a_o_skills, .ref a_o_places, .ref a_o_wheel, .int o_tradesEnded])), (a_o_skips, .inl (cI, 6, .inl o_skips)), (a_o_skills, .inl (cI, 36, .inl o_skills)), (a_o_places, .inl (cI, 6, .inl o_places)), (a_o_wheel, .inl (cI, 6, .inl o_wheel))] H → va_D A [(a_o, .inr (1, [.int o_trades, .int o_people, .ref a_o_needs, .ref a_o_yields, .ref a_o_skips, .ref a_o_skills, .ref a_o_places, .ref a_o_wheel, .int o_tradesEnded])), (a_o_skips, .inl (cI, 6, .inl o_skips)), (a_o_skills, .inl (cI, 36, .inl o_skills)), (a_o_places, .inl (cI, 6, .inl o_places)), (a_o_wheel, .inl (cI, 6, .inl o_wheel))] → va_S A s.heap H locs → lv_has ls 2 [(0, .ref a_o), (1, .int l1)] → (∀ (H : Heap) (locs : List Loc) (ls : Array Slot), va_P (dC, dI) vwCl [(a_o, .inr (1, [.int o_trades, .int o_people, .ref a_o_needs, .ref a_o_yields, .ref a_o_skips, .ref a_o_skills, .ref a_o_places, .ref a_o_wheel, .int o_tradesEnded])), (a_o_skips, .inl (cI, 6, .inl o_skips)), (a_o_skills, .inl (cI, 36, .inl o_skills)), (a_o_places, .inl (cI, 6, .inl o_places)), (a_o_wheel, .inl (cI, 6, .inl o_wheel'))] H → va_D A [(a_o, .inr (1, [.int o_trades, .int o_people, .ref a_o_needs, .ref a_o_yields, .ref a_o_skips, .ref a_o_skills, .ref a_o_places, .ref a_o_wheel, .int o_tradesEnded])), (a_o_skips, .inl (cI, 6, .inl o_skips)), (a_o_skills, .inl (cI, 36, .inl o_skills)), (a_o_places, .inl (cI, 6, .inl o_places)), (a_o_wheel, .inl (cI, 6, .inl o_wheel'))] → va_S A s.heap H locs → lv_has ls 2 [(0, .ref a_o)] → W p l e (headSpec wsX1_tellNothing rmX1_tellNothing).room s m args below meth c H locs 0 0 Q (F0 m 36 ls [])) → W p l e (headSpec wsX1_tellNothing rmX1_tellNothing).room s m args below meth c H locs 0 0 Q (F0 m 17 ls []) := by
  obtain ⟨hx, hb, hr, hml, hown, hts, hlocks, hA, hK, hN⟩ := id hg0
  have hF : CallFix p m c cX1_tellNothing 2 s args wsX1_tellNothing RX1 := ⟨hx, hb, hml, hown, hts⟩
  intro n
  induction n with
  | zero =>
    intro o_wheel l1 o_wheel' l1' hf
    have hf := fX1_tellNothing_17_0.symm.trans hf
    cases hf
  | succ n ih =>
    intro o_wheel l1 o_wheel' l1' hf H locs ls hP hD hS hl kx
    have hf := fX1_tellNothing_17_s.symm.trans hf
    refine lv_iload_n hx hb dX1_tellNothing_17 rfl (lv_at hl 1 rfl) ?_
    refine lv_bipush (v := (6 : Int32)) hx hb dX1_tellNothing_18 (by decide) ?_
    refine lv_icmp_ge (tgt := 36) hx hb dX1_tellNothing_20 (by decide) (fun c_1 => ?_) (fun c_1 => ?_)
    · have hf := pit hf c_1
      have q0 := Option.some.inj hf
      obtain ⟨e0, q1⟩ := Prod.mk.inj q0
      subst e0
      subst q1
      exact kx _ _ _ hP hD hS (lv_sub hl [0] rfl)
    · have hf := pif hf c_1
      refine lv_aload_n hx hb dX1_tellNothing_23 rfl (lv_at hl 0 rfl) ?_
      refine va_get (D := (dC, dI)) (ci := 1) (v := .ref a_o_wheel) (C := RX1) (T := TX1) (N := 9) hx hb hts uX1_tellNothing_X1 hown hK hP 0 rfl rfl 7 (by decide) (hts _ mX1_tellNothing_3) (fun _ h9 => h9) rfl dX1_tellNothing_24 ?_
      refine lv_iload_n hx hb dX1_tellNothing_27 rfl (lv_at hl 1 rfl) ?_
      refine lv_iload_n hx hb dX1_tellNothing_28 rfl (lv_at hl 1 rfl) ?_
      obtain ⟨h_2, hf⟩ := pgd hf
      refine va_iast hx hb hK hP hD hS 4 1 rfl rfl h_2 dX1_tellNothing_29 (fun H locs hP hD hS => ?_)
      have hP : va_P (dC, dI) vwCl [(a_o, .inr (1, [.int o_trades, .int o_people, .ref a_o_needs, .ref a_o_yields, .ref a_o_skips, .ref a_o_skills, .ref a_o_places, .ref a_o_wheel, .int o_tradesEnded])), (a_o_skips, .inl (cI, 6, .inl o_skips)), (a_o_skills, .inl (cI, 36, .inl o_skills)), (a_o_places, .inl (cI, 6, .inl o_places)), (a_o_wheel, .inl (cI, 6, .inl (upd o_wheel l1.toNatClampNeg l1)))] H := hP
      have hD : va_D A [(a_o, .inr (1, [.int o_trades, .int o_people, .ref a_o_needs, .ref a_o_yields, .ref a_o_skips, .ref a_o_skills, .ref a_o_places, .ref a_o_wheel, .int o_tradesEnded])), (a_o_skips, .inl (cI, 6, .inl o_skips)), (a_o_skills, .inl (cI, 36, .inl o_skills)), (a_o_places, .inl (cI, 6, .inl o_places)), (a_o_wheel, .inl (cI, 6, .inl (upd o_wheel l1.toNatClampNeg l1)))] := hD
      refine lv_iinc (v := (l1 + 1)) (lv' := [(1, .int (l1 + 1)), (0, .ref a_o)]) hx hb dX1_tellNothing_30 hl (k := 1) rfl rfl (by decide) rfl (fun ls hl => ?_)
      refine lv_goto (tgt := 17) hx hb dX1_tellNothing_33 (by decide) ?_
      exact ih _ _ _ _ hf _ _ _ hP hD hS (lv_sub hl [1, 0] rfl) kx
set_option maxHeartbeats 4000000 in
set_option maxRecDepth 100000 in
theorem wX1_tellNothing_38 {p : Program} {l : Launch} {e : Env} {s : State} {m : MethodId} {args : Array Value} {below : List Frame} {meth : Method} {c : Code} {Q : State → Prop} {A : Nat → Prop} {dC : Nat → ClassId} {dI : Nat → Nat → Nat} {Z : gZ} {cC cI cZ cW : ClassId} (hg0 : gX p s m args meth c cX1_tellNothing 2 none wsX1_tellNothing RX1 (dC, dI) Z [(cC, .char), (cI, .int), (cZ, .boolean), (cW, .object RX3)] A) (a_o a_o_needs a_o_yields a_o_skips a_o_skills a_o_places a_o_wheel : Nat) (o_trades : Int32) (o_people : Int32) (o_tradesEnded : Int32) (o_skills : Nat → Int32) (o_wheel : Nat → Int32)  (N : Nat) : ∀ (n : Nat) (o_skips : Nat → Int32) (o_places : Nat → Int32) (l1 : Int32) (o_skips' : Nat → Int32) (o_places' : Nat → Int32) (l1' : Int32), fX1_tellNothing_38 N  n o_skips o_places l1 = some (o_skips', o_places', l1') → ∀ (H : Heap) (locs : List Loc) (ls : Array Slot), va_P (dC, dI) vwCl [(a_o, .inr (1, [.int o_trades, .int o_people, .ref a_o_needs, .ref a_o_yields, .ref a_o_skips, .ref a_o_skills, .ref a_o_places, .ref a_o_wheel, .int o_tradesEnded])), (a_o_skips, .inl (cI, 6, .inl o_skips)), (a_o_skills, .inl (cI, 36, .inl o_skills)), (a_o_places, .inl (cI, 6, .inl o_places)), (a_o_wheel, .inl (cI, 6, .inl o_wheel))] H → va_D A [(a_o, .inr (1, [.int o_trades, .int o_people, .ref a_o_needs, .ref a_o_yields, .ref a_o_skips, .ref a_o_skills, .ref a_o_places, .ref a_o_wheel, .int o_tradesEnded])), (a_o_skips, .inl (cI, 6, .inl o_skips)), (a_o_skills, .inl (cI, 36, .inl o_skills)), (a_o_places, .inl (cI, 6, .inl o_places)), (a_o_wheel, .inl (cI, 6, .inl o_wheel))] → va_S A s.heap H locs → lv_has ls 2 [(0, .ref a_o), (1, .int l1)] → (∀ (H : Heap) (locs : List Loc) (ls : Array Slot), va_P (dC, dI) vwCl [(a_o, .inr (1, [.int o_trades, .int o_people, .ref a_o_needs, .ref a_o_yields, .ref a_o_skips, .ref a_o_skills, .ref a_o_places, .ref a_o_wheel, .int o_tradesEnded])), (a_o_skips, .inl (cI, 6, .inl o_skips')), (a_o_skills, .inl (cI, 36, .inl o_skills)), (a_o_places, .inl (cI, 6, .inl o_places')), (a_o_wheel, .inl (cI, 6, .inl o_wheel))] H → va_D A [(a_o, .inr (1, [.int o_trades, .int o_people, .ref a_o_needs, .ref a_o_yields, .ref a_o_skips, .ref a_o_skills, .ref a_o_places, .ref a_o_wheel, .int o_tradesEnded])), (a_o_skips, .inl (cI, 6, .inl o_skips')), (a_o_skills, .inl (cI, 36, .inl o_skills)), (a_o_places, .inl (cI, 6, .inl o_places')), (a_o_wheel, .inl (cI, 6, .inl o_wheel))] → va_S A s.heap H locs → lv_has ls 2 [(0, .ref a_o)] → W p l e (headSpec wsX1_tellNothing rmX1_tellNothing).room s m args below meth c H locs 0 0 Q (F0 m 65 ls [])) → W p l e (headSpec wsX1_tellNothing rmX1_tellNothing).room s m args below meth c H locs 0 0 Q (F0 m 38 ls []) := by
  obtain ⟨hx, hb, hr, hml, hown, hts, hlocks, hA, hK, hN⟩ := id hg0
  have hF : CallFix p m c cX1_tellNothing 2 s args wsX1_tellNothing RX1 := ⟨hx, hb, hml, hown, hts⟩
  intro n
  induction n with
  | zero =>
    intro o_skips o_places l1 o_skips' o_places' l1' hf
    have hf := fX1_tellNothing_38_0.symm.trans hf
    cases hf
  | succ n ih =>
    intro o_skips o_places l1 o_skips' o_places' l1' hf H locs ls hP hD hS hl kx
    have hf := fX1_tellNothing_38_s.symm.trans hf
    refine lv_iload_n hx hb dX1_tellNothing_38 rfl (lv_at hl 1 rfl) ?_
    refine lv_bipush (v := (6 : Int32)) hx hb dX1_tellNothing_39 (by decide) ?_
    refine lv_icmp_ge (tgt := 65) hx hb dX1_tellNothing_41 (by decide) (fun c_1 => ?_) (fun c_1 => ?_)
    · have hf := pit hf c_1
      have q0 := Option.some.inj hf
      obtain ⟨e0, q1⟩ := Prod.mk.inj q0
      obtain ⟨e1, q2⟩ := Prod.mk.inj q1
      subst e0
      subst e1
      subst q2
      exact kx _ _ _ hP hD hS (lv_sub hl [0] rfl)
    · have hf := pif hf c_1
      refine lv_aload_n hx hb dX1_tellNothing_44 rfl (lv_at hl 0 rfl) ?_
      refine va_get (D := (dC, dI)) (ci := 1) (v := .ref a_o_skips) (C := RX1) (T := TX1) (N := 9) hx hb hts uX1_tellNothing_X1 hown hK hP 0 rfl rfl 4 (by decide) (hts _ mX1_tellNothing_4) (fun _ h9 => h9) rfl dX1_tellNothing_45 ?_
      refine lv_iload_n hx hb dX1_tellNothing_48 rfl (lv_at hl 1 rfl) ?_
      refine lv_iconst (v := (0 : Int32)) hx hb dX1_tellNothing_49 (by decide) ?_
      obtain ⟨h_2, hf⟩ := pgd hf
      refine va_iast hx hb hK hP hD hS 1 1 rfl rfl h_2 dX1_tellNothing_50 (fun H locs hP hD hS => ?_)
      have hP : va_P (dC, dI) vwCl [(a_o, .inr (1, [.int o_trades, .int o_people, .ref a_o_needs, .ref a_o_yields, .ref a_o_skips, .ref a_o_skills, .ref a_o_places, .ref a_o_wheel, .int o_tradesEnded])), (a_o_skips, .inl (cI, 6, .inl (upd o_skips l1.toNatClampNeg (0 : Int32)))), (a_o_skills, .inl (cI, 36, .inl o_skills)), (a_o_places, .inl (cI, 6, .inl o_places)), (a_o_wheel, .inl (cI, 6, .inl o_wheel))] H := hP
      have hD : va_D A [(a_o, .inr (1, [.int o_trades, .int o_people, .ref a_o_needs, .ref a_o_yields, .ref a_o_skips, .ref a_o_skills, .ref a_o_places, .ref a_o_wheel, .int o_tradesEnded])), (a_o_skips, .inl (cI, 6, .inl (upd o_skips l1.toNatClampNeg (0 : Int32)))), (a_o_skills, .inl (cI, 36, .inl o_skills)), (a_o_places, .inl (cI, 6, .inl o_places)), (a_o_wheel, .inl (cI, 6, .inl o_wheel))] := hD
      refine lv_aload_n hx hb dX1_tellNothing_51 rfl (lv_at hl 0 rfl) ?_
      refine va_get (D := (dC, dI)) (ci := 1) (v := .ref a_o_places) (C := RX1) (T := TX1) (N := 9) hx hb hts uX1_tellNothing_X1 hown hK hP 0 rfl rfl 6 (by decide) (hts _ mX1_tellNothing_5) (fun _ h9 => h9) rfl dX1_tellNothing_52 ?_
      refine lv_iload_n hx hb dX1_tellNothing_55 rfl (lv_at hl 1 rfl) ?_
      refine lv_bipush (v := (-9 : Int32)) hx hb dX1_tellNothing_56 (by decide) ?_
      obtain ⟨h_3, hf⟩ := pgd hf
      refine va_iast hx hb hK hP hD hS 3 1 rfl rfl h_3 dX1_tellNothing_58 (fun H locs hP hD hS => ?_)
      have hP : va_P (dC, dI) vwCl [(a_o, .inr (1, [.int o_trades, .int o_people, .ref a_o_needs, .ref a_o_yields, .ref a_o_skips, .ref a_o_skills, .ref a_o_places, .ref a_o_wheel, .int o_tradesEnded])), (a_o_skips, .inl (cI, 6, .inl (upd o_skips l1.toNatClampNeg (0 : Int32)))), (a_o_skills, .inl (cI, 36, .inl o_skills)), (a_o_places, .inl (cI, 6, .inl (upd o_places l1.toNatClampNeg (-9 : Int32)))), (a_o_wheel, .inl (cI, 6, .inl o_wheel))] H := hP
      have hD : va_D A [(a_o, .inr (1, [.int o_trades, .int o_people, .ref a_o_needs, .ref a_o_yields, .ref a_o_skips, .ref a_o_skills, .ref a_o_places, .ref a_o_wheel, .int o_tradesEnded])), (a_o_skips, .inl (cI, 6, .inl (upd o_skips l1.toNatClampNeg (0 : Int32)))), (a_o_skills, .inl (cI, 36, .inl o_skills)), (a_o_places, .inl (cI, 6, .inl (upd o_places l1.toNatClampNeg (-9 : Int32)))), (a_o_wheel, .inl (cI, 6, .inl o_wheel))] := hD
      refine lv_iinc (v := (l1 + 1)) (lv' := [(1, .int (l1 + 1)), (0, .ref a_o)]) hx hb dX1_tellNothing_59 hl (k := 1) rfl rfl (by decide) rfl (fun ls hl => ?_)
      refine lv_goto (tgt := 38) hx hb dX1_tellNothing_62 (by decide) ?_
      exact ih _ _ _ _ _ _ hf _ _ _ hP hD hS (lv_sub hl [1, 0] rfl) kx
set_option maxHeartbeats 4000000 in
set_option maxRecDepth 100000 in
theorem wX1_tellNothing_67 {p : Program} {l : Launch} {e : Env} {s : State} {m : MethodId} {args : Array Value} {below : List Frame} {meth : Method} {c : Code} {Q : State → Prop} {A : Nat → Prop} {dC : Nat → ClassId} {dI : Nat → Nat → Nat} {Z : gZ} {cC cI cZ cW : ClassId} (hg0 : gX p s m args meth c cX1_tellNothing 2 none wsX1_tellNothing RX1 (dC, dI) Z [(cC, .char), (cI, .int), (cZ, .boolean), (cW, .object RX3)] A) (a_o a_o_needs a_o_yields a_o_skips a_o_skills a_o_places a_o_wheel : Nat) (o_trades : Int32) (o_people : Int32) (o_tradesEnded : Int32) (o_skips : Nat → Int32) (o_places : Nat → Int32) (o_wheel : Nat → Int32)  (N : Nat) : ∀ (n : Nat) (o_skills : Nat → Int32) (l1 : Int32) (o_skills' : Nat → Int32) (l1' : Int32), fX1_tellNothing_67 N  n o_skills l1 = some (o_skills', l1') → ∀ (H : Heap) (locs : List Loc) (ls : Array Slot), va_P (dC, dI) vwCl [(a_o, .inr (1, [.int o_trades, .int o_people, .ref a_o_needs, .ref a_o_yields, .ref a_o_skips, .ref a_o_skills, .ref a_o_places, .ref a_o_wheel, .int o_tradesEnded])), (a_o_skips, .inl (cI, 6, .inl o_skips)), (a_o_skills, .inl (cI, 36, .inl o_skills)), (a_o_places, .inl (cI, 6, .inl o_places)), (a_o_wheel, .inl (cI, 6, .inl o_wheel))] H → va_D A [(a_o, .inr (1, [.int o_trades, .int o_people, .ref a_o_needs, .ref a_o_yields, .ref a_o_skips, .ref a_o_skills, .ref a_o_places, .ref a_o_wheel, .int o_tradesEnded])), (a_o_skips, .inl (cI, 6, .inl o_skips)), (a_o_skills, .inl (cI, 36, .inl o_skills)), (a_o_places, .inl (cI, 6, .inl o_places)), (a_o_wheel, .inl (cI, 6, .inl o_wheel))] → va_S A s.heap H locs → lv_has ls 2 [(0, .ref a_o), (1, .int l1)] → (∀ (H : Heap) (locs : List Loc) (ls : Array Slot), va_P (dC, dI) vwCl [(a_o, .inr (1, [.int o_trades, .int o_people, .ref a_o_needs, .ref a_o_yields, .ref a_o_skips, .ref a_o_skills, .ref a_o_places, .ref a_o_wheel, .int o_tradesEnded])), (a_o_skips, .inl (cI, 6, .inl o_skips)), (a_o_skills, .inl (cI, 36, .inl o_skills')), (a_o_places, .inl (cI, 6, .inl o_places)), (a_o_wheel, .inl (cI, 6, .inl o_wheel))] H → va_D A [(a_o, .inr (1, [.int o_trades, .int o_people, .ref a_o_needs, .ref a_o_yields, .ref a_o_skips, .ref a_o_skills, .ref a_o_places, .ref a_o_wheel, .int o_tradesEnded])), (a_o_skips, .inl (cI, 6, .inl o_skips)), (a_o_skills, .inl (cI, 36, .inl o_skills')), (a_o_places, .inl (cI, 6, .inl o_places)), (a_o_wheel, .inl (cI, 6, .inl o_wheel))] → va_S A s.heap H locs → lv_has ls 2 [] → W p l e (headSpec wsX1_tellNothing rmX1_tellNothing).room s m args below meth c H locs 0 0 Q (F0 m 89 ls [])) → W p l e (headSpec wsX1_tellNothing rmX1_tellNothing).room s m args below meth c H locs 0 0 Q (F0 m 67 ls []) := by
  obtain ⟨hx, hb, hr, hml, hown, hts, hlocks, hA, hK, hN⟩ := id hg0
  have hF : CallFix p m c cX1_tellNothing 2 s args wsX1_tellNothing RX1 := ⟨hx, hb, hml, hown, hts⟩
  intro n
  induction n with
  | zero =>
    intro o_skills l1 o_skills' l1' hf
    have hf := fX1_tellNothing_67_0.symm.trans hf
    cases hf
  | succ n ih =>
    intro o_skills l1 o_skills' l1' hf H locs ls hP hD hS hl kx
    have hf := fX1_tellNothing_67_s.symm.trans hf
    refine lv_iload_n hx hb dX1_tellNothing_67 rfl (lv_at hl 1 rfl) ?_
    refine lv_aload_n hx hb dX1_tellNothing_68 rfl (lv_at hl 0 rfl) ?_
    refine va_get (D := (dC, dI)) (ci := 1) (v := .ref a_o_skills) (C := RX1) (T := TX1) (N := 9) hx hb hts uX1_tellNothing_X1 hown hK hP 0 rfl rfl 5 (by decide) (hts _ mX1_tellNothing_6) (fun _ h9 => h9) rfl dX1_tellNothing_69 ?_
    refine va_alen (v := (36 : Int32)) hx hb hK hP 2 1 rfl rfl rfl dX1_tellNothing_72 ?_
    refine lv_icmp_ge (tgt := 89) hx hb dX1_tellNothing_73 (by decide) (fun c_1 => ?_) (fun c_1 => ?_)
    · have hf := pit hf c_1
      have q0 := Option.some.inj hf
      obtain ⟨e0, q1⟩ := Prod.mk.inj q0
      subst e0
      subst q1
      exact kx _ _ _ hP hD hS (lv_sub hl [] rfl)
    · have hf := pif hf c_1
      refine lv_aload_n hx hb dX1_tellNothing_76 rfl (lv_at hl 0 rfl) ?_
      refine va_get (D := (dC, dI)) (ci := 1) (v := .ref a_o_skills) (C := RX1) (T := TX1) (N := 9) hx hb hts uX1_tellNothing_X1 hown hK hP 0 rfl rfl 5 (by decide) (hts _ mX1_tellNothing_6) (fun _ h9 => h9) rfl dX1_tellNothing_77 ?_
      refine lv_iload_n hx hb dX1_tellNothing_80 rfl (lv_at hl 1 rfl) ?_
      refine lv_iconst (v := (3 : Int32)) hx hb dX1_tellNothing_81 (by decide) ?_
      obtain ⟨h_2, hf⟩ := pgd hf
      refine va_iast hx hb hK hP hD hS 2 1 rfl rfl h_2 dX1_tellNothing_82 (fun H locs hP hD hS => ?_)
      have hP : va_P (dC, dI) vwCl [(a_o, .inr (1, [.int o_trades, .int o_people, .ref a_o_needs, .ref a_o_yields, .ref a_o_skips, .ref a_o_skills, .ref a_o_places, .ref a_o_wheel, .int o_tradesEnded])), (a_o_skips, .inl (cI, 6, .inl o_skips)), (a_o_skills, .inl (cI, 36, .inl (upd o_skills l1.toNatClampNeg (3 : Int32)))), (a_o_places, .inl (cI, 6, .inl o_places)), (a_o_wheel, .inl (cI, 6, .inl o_wheel))] H := hP
      have hD : va_D A [(a_o, .inr (1, [.int o_trades, .int o_people, .ref a_o_needs, .ref a_o_yields, .ref a_o_skips, .ref a_o_skills, .ref a_o_places, .ref a_o_wheel, .int o_tradesEnded])), (a_o_skips, .inl (cI, 6, .inl o_skips)), (a_o_skills, .inl (cI, 36, .inl (upd o_skills l1.toNatClampNeg (3 : Int32)))), (a_o_places, .inl (cI, 6, .inl o_places)), (a_o_wheel, .inl (cI, 6, .inl o_wheel))] := hD
      refine lv_iinc (v := (l1 + 1)) (lv' := [(1, .int (l1 + 1)), (0, .ref a_o)]) hx hb dX1_tellNothing_83 hl (k := 1) rfl rfl (by decide) rfl (fun ls hl => ?_)
      refine lv_goto (tgt := 67) hx hb dX1_tellNothing_86 (by decide) ?_
      exact ih _ _ _ _ hf _ _ _ hP hD hS (lv_sub hl [1, 0] rfl) kx
set_option maxHeartbeats 4000000 in
set_option maxRecDepth 100000 in
theorem kX1_tellNothing (l : Launch) (dC : Nat → ClassId) (dI : Nat → Nat → Nat) (Z : gZ) (cC cI cZ cW : ClassId) (a_o a_o_needs a_o_yields a_o_skips a_o_skills a_o_places a_o_wheel : Nat) (sz : Nat) (o_trades : Int32) (o_people : Int32) (o_tradesEnded : Int32) (o_skips : Nat → Int32) (o_skills : Nat → Int32) (o_places : Nat → Int32) (o_wheel : Nat → Int32)  (N : Nat) (o_trades' : Int32) (o_people' : Int32) (o_tradesEnded' : Int32) (o_skips' : Nat → Int32) (o_skills' : Nat → Int32) (o_places' : Nat → Int32) (o_wheel' : Nat → Int32) (hf : fX1_tellNothing N o_trades o_people o_tradesEnded o_skips o_skills o_places o_wheel   = some (o_trades', o_people', o_tradesEnded', o_skips', o_skills', o_places', o_wheel')) : Met l yX1_tellNothing wsX1_tellNothing rmX1_tellNothing (va_Pc [.ref a_o] (gB (dC, dI) Z [(cC, .char), (cI, .int), (cZ, .boolean), (cW, .object RX3)] [(a_o, .inr (1, [.int o_trades, .int o_people, .ref a_o_needs, .ref a_o_yields, .ref a_o_skips, .ref a_o_skills, .ref a_o_places, .ref a_o_wheel, .int o_tradesEnded])), (a_o_skips, .inl (cI, 6, .inl o_skips)), (a_o_skills, .inl (cI, 36, .inl o_skills)), (a_o_places, .inl (cI, 6, .inl o_places)), (a_o_wheel, .inl (cI, 6, .inl o_wheel))] sz)) (va_Qv (fun (_ : Unit) => True) (gE (dC, dI) [(a_o, .inr (1, [.int o_trades', .int o_people', .ref a_o_needs, .ref a_o_yields, .ref a_o_skips, .ref a_o_skills, .ref a_o_places, .ref a_o_wheel, .int o_tradesEnded'])), (a_o_skips, .inl (cI, 6, .inl o_skips')), (a_o_skills, .inl (cI, 36, .inl o_skills')), (a_o_places, .inl (cI, 6, .inl o_places')), (a_o_wheel, .inl (cI, 6, .inl o_wheel'))]) (va_A [(a_o, .inr (1, [.int o_trades, .int o_people, .ref a_o_needs, .ref a_o_yields, .ref a_o_skips, .ref a_o_skills, .ref a_o_places, .ref a_o_wheel, .int o_tradesEnded])), (a_o_skips, .inl (cI, 6, .inl o_skips)), (a_o_skills, .inl (cI, 36, .inl o_skills)), (a_o_places, .inl (cI, 6, .inl o_places)), (a_o_wheel, .inl (cI, 6, .inl o_wheel))] sz)) 0 0 (va_A [(a_o, .inr (1, [.int o_trades, .int o_people, .ref a_o_needs, .ref a_o_yields, .ref a_o_skips, .ref a_o_skills, .ref a_o_places, .ref a_o_wheel, .int o_tradesEnded])), (a_o_skips, .inl (cI, 6, .inl o_skips)), (a_o_skills, .inl (cI, 36, .inl o_skills)), (a_o_places, .inl (cI, 6, .inl o_places)), (a_o_wheel, .inl (cI, 6, .inl o_wheel))] sz) := by
  refine gMet (cc := cX1_tellNothing) (maxL := 2) (ret := none) (Qc := fun A => va_Qv (fun (_ : Unit) => True) (gE (dC, dI) [(a_o, .inr (1, [.int o_trades', .int o_people', .ref a_o_needs, .ref a_o_yields, .ref a_o_skips, .ref a_o_skills, .ref a_o_places, .ref a_o_wheel, .int o_tradesEnded'])), (a_o_skips, .inl (cI, 6, .inl o_skips')), (a_o_skills, .inl (cI, 36, .inl o_skills')), (a_o_places, .inl (cI, 6, .inl o_places')), (a_o_wheel, .inl (cI, 6, .inl o_wheel'))]) A) (by decide) rfl (Nat.le_of_ble_eq_true rfl) ?_
  intro p e s m below meth c A ls hg0 _ hsz hP hD hS hl
  have hg0 : gX p s m _ meth c cX1_tellNothing 2 none wsX1_tellNothing RX1 (dC, dI) Z [(cC, .char), (cI, .int), (cZ, .boolean), (cW, .object RX3)] A := hg0
  obtain ⟨hx, hb, hr, hml, hown, hts, hlocks, hA, hK, hN⟩ := id hg0
  subst hsz
  have hF : CallFix p m c cX1_tellNothing 2 s _ wsX1_tellNothing RX1 := ⟨hx, hb, hml, hown, hts⟩
  have hl : lv_has ls 2 [(0, .ref a_o)] := hl
  unfold fX1_tellNothing at hf
  refine lv_aload_n hx hb dX1_tellNothing_0 rfl (lv_at hl 0 rfl) ?_
  refine lv_iconst (v := (0 : Int32)) hx hb dX1_tellNothing_1 (by decide) ?_
  refine va_put (D := (dC, dI)) (ci := 1) (v := .int (0 : Int32)) (ty := .int) (C := RX1) (T := TX1) (N := 9) hx hb hts uX1_tellNothing_X1 tyX1 tyX1_ok nmX1 hown hK hP hD hS 0 rfl rfl 0 (by decide) (hts _ mX1_tellNothing_0) (fun _ h9 => h9) rfl (by decide +kernel) rfl rfl (Nat.le_of_ble_eq_true rfl) dX1_tellNothing_2 (fun H locs hP hD hS => ?_)
  have hP : va_P (dC, dI) vwCl [(a_o, .inr (1, [.int (0 : Int32), .int o_people, .ref a_o_needs, .ref a_o_yields, .ref a_o_skips, .ref a_o_skills, .ref a_o_places, .ref a_o_wheel, .int o_tradesEnded])), (a_o_skips, .inl (cI, 6, .inl o_skips)), (a_o_skills, .inl (cI, 36, .inl o_skills)), (a_o_places, .inl (cI, 6, .inl o_places)), (a_o_wheel, .inl (cI, 6, .inl o_wheel))] H := hP
  have hD : va_D A [(a_o, .inr (1, [.int (0 : Int32), .int o_people, .ref a_o_needs, .ref a_o_yields, .ref a_o_skips, .ref a_o_skills, .ref a_o_places, .ref a_o_wheel, .int o_tradesEnded])), (a_o_skips, .inl (cI, 6, .inl o_skips)), (a_o_skills, .inl (cI, 36, .inl o_skills)), (a_o_places, .inl (cI, 6, .inl o_places)), (a_o_wheel, .inl (cI, 6, .inl o_wheel))] := hD
  refine lv_aload_n hx hb dX1_tellNothing_5 rfl (lv_at hl 0 rfl) ?_
  refine lv_iconst (v := (0 : Int32)) hx hb dX1_tellNothing_6 (by decide) ?_
  refine va_put (D := (dC, dI)) (ci := 1) (v := .int (0 : Int32)) (ty := .int) (C := RX1) (T := TX1) (N := 9) hx hb hts uX1_tellNothing_X1 tyX1 tyX1_ok nmX1 hown hK hP hD hS 0 rfl rfl 1 (by decide) (hts _ mX1_tellNothing_1) (fun _ h9 => h9) rfl (by decide +kernel) rfl rfl (Nat.le_of_ble_eq_true rfl) dX1_tellNothing_7 (fun H locs hP hD hS => ?_)
  have hP : va_P (dC, dI) vwCl [(a_o, .inr (1, [.int (0 : Int32), .int (0 : Int32), .ref a_o_needs, .ref a_o_yields, .ref a_o_skips, .ref a_o_skills, .ref a_o_places, .ref a_o_wheel, .int o_tradesEnded])), (a_o_skips, .inl (cI, 6, .inl o_skips)), (a_o_skills, .inl (cI, 36, .inl o_skills)), (a_o_places, .inl (cI, 6, .inl o_places)), (a_o_wheel, .inl (cI, 6, .inl o_wheel))] H := hP
  have hD : va_D A [(a_o, .inr (1, [.int (0 : Int32), .int (0 : Int32), .ref a_o_needs, .ref a_o_yields, .ref a_o_skips, .ref a_o_skills, .ref a_o_places, .ref a_o_wheel, .int o_tradesEnded])), (a_o_skips, .inl (cI, 6, .inl o_skips)), (a_o_skills, .inl (cI, 36, .inl o_skills)), (a_o_places, .inl (cI, 6, .inl o_places)), (a_o_wheel, .inl (cI, 6, .inl o_wheel))] := hD
  refine lv_aload_n hx hb dX1_tellNothing_10 rfl (lv_at hl 0 rfl) ?_
  refine lv_iconst (v := (0 : Int32)) hx hb dX1_tellNothing_11 (by decide) ?_
  refine va_put (D := (dC, dI)) (ci := 1) (v := .int (0 : Int32)) (ty := .boolean) (C := RX1) (T := TX1) (N := 9) hx hb hts uX1_tellNothing_X1 tyX1 tyX1_ok nmX1 hown hK hP hD hS 0 rfl rfl 8 (by decide) (hts _ mX1_tellNothing_2) (fun _ h9 => h9) rfl (by decide +kernel) rfl rfl (Nat.le_of_ble_eq_true rfl) dX1_tellNothing_12 (fun H locs hP hD hS => ?_)
  have hP : va_P (dC, dI) vwCl [(a_o, .inr (1, [.int (0 : Int32), .int (0 : Int32), .ref a_o_needs, .ref a_o_yields, .ref a_o_skips, .ref a_o_skills, .ref a_o_places, .ref a_o_wheel, .int (0 : Int32)])), (a_o_skips, .inl (cI, 6, .inl o_skips)), (a_o_skills, .inl (cI, 36, .inl o_skills)), (a_o_places, .inl (cI, 6, .inl o_places)), (a_o_wheel, .inl (cI, 6, .inl o_wheel))] H := hP
  have hD : va_D A [(a_o, .inr (1, [.int (0 : Int32), .int (0 : Int32), .ref a_o_needs, .ref a_o_yields, .ref a_o_skips, .ref a_o_skills, .ref a_o_places, .ref a_o_wheel, .int (0 : Int32)])), (a_o_skips, .inl (cI, 6, .inl o_skips)), (a_o_skills, .inl (cI, 36, .inl o_skills)), (a_o_places, .inl (cI, 6, .inl o_places)), (a_o_wheel, .inl (cI, 6, .inl o_wheel))] := hD
  refine lv_iconst (v := (0 : Int32)) hx hb dX1_tellNothing_15 (by decide) ?_
  refine lv_istore_n (lv' := [(1, .int (0 : Int32)), (0, .ref a_o)]) hx hb dX1_tellNothing_16 rfl hl (by decide) rfl (fun ls hl => ?_)
  obtain ⟨o_wheel_1, l1_2, hc, hf⟩ := pb2 hf
  refine wX1_tellNothing_17 hg0 a_o a_o_needs a_o_yields a_o_skips a_o_skills a_o_places a_o_wheel (0 : Int32) (0 : Int32) (0 : Int32) o_skips o_skills o_places  N N o_wheel (0 : Int32) o_wheel_1 l1_2 hc _ _ _ hP hD hS (lv_sub hl [1, 0] rfl) (fun H locs ls hP hD hS hl => ?_)
  refine lv_iconst (v := (0 : Int32)) hx hb dX1_tellNothing_36 (by decide) ?_
  refine lv_istore_n (lv' := [(1, .int (0 : Int32)), (0, .ref a_o)]) hx hb dX1_tellNothing_37 rfl hl (by decide) rfl (fun ls hl => ?_)
  obtain ⟨o_skips_3, o_places_4, l1_5, hc, hf⟩ := pb3 hf
  refine wX1_tellNothing_38 hg0 a_o a_o_needs a_o_yields a_o_skips a_o_skills a_o_places a_o_wheel (0 : Int32) (0 : Int32) (0 : Int32) o_skills o_wheel_1  N N o_skips o_places (0 : Int32) o_skips_3 o_places_4 l1_5 hc _ _ _ hP hD hS (lv_sub hl [1, 0] rfl) (fun H locs ls hP hD hS hl => ?_)
  refine lv_iconst (v := (0 : Int32)) hx hb dX1_tellNothing_65 (by decide) ?_
  refine lv_istore_n (lv' := [(1, .int (0 : Int32)), (0, .ref a_o)]) hx hb dX1_tellNothing_66 rfl hl (by decide) rfl (fun ls hl => ?_)
  obtain ⟨o_skills_6, l1_7, hc, hf⟩ := pb2 hf
  refine wX1_tellNothing_67 hg0 a_o a_o_needs a_o_yields a_o_skips a_o_skills a_o_places a_o_wheel (0 : Int32) (0 : Int32) (0 : Int32) o_skips_3 o_places_4 o_wheel_1  N N o_skills (0 : Int32) o_skills_6 l1_7 hc _ _ _ hP hD hS (lv_sub hl [1, 0] rfl) (fun H locs ls hP hD hS hl => ?_)
  have q0 := Option.some.inj hf
  obtain ⟨e0, q1⟩ := Prod.mk.inj q0
  obtain ⟨e1, q2⟩ := Prod.mk.inj q1
  obtain ⟨e2, q3⟩ := Prod.mk.inj q2
  obtain ⟨e3, q4⟩ := Prod.mk.inj q3
  obtain ⟨e4, q5⟩ := Prod.mk.inj q4
  obtain ⟨e5, q6⟩ := Prod.mk.inj q5
  subst e0
  subst e1
  subst e2
  subst e3
  subst e4
  subst e5
  subst q6
  exact gRv hx hb hr hlocks hP hS dX1_tellNothing_89
abbrev rmX1_readAll : Room := { frames := 4, cells := 0, slots := 0, locals := 91 }
set_option maxHeartbeats 4000000 in
set_option maxRecDepth 100000 in
theorem wX1_readAll_6 {p : Program} {l : Launch} {e : Env} {s : State} {m : MethodId} {args : Array Value} {below : List Frame} {meth : Method} {c : Code} {Q : State → Prop} {A : Nat → Prop} {dC : Nat → ClassId} {dI : Nat → Nat → Nat} {Z : gZ} {cC cI cZ cW : ClassId} (hg0 : gX p s m args meth c cX1_readAll 3 (some .int) wsX1_readAll RX1 (dC, dI) Z [(cC, .char), (cI, .int), (cZ, .boolean), (cW, .object RX3)] A) (a_o a_o_needs a_o_yields a_o_skips a_o_skills a_o_places a_o_wheel a_x1 a_x1_signs a_x1_tokens a_x1_starts : Nat) (x1_length : Int32) (x1_cuts : Int32) (x1_tokens : Nat → Int32)  (N : Nat) : ∀ (n : Nat) (o_trades : Int32) (o_people : Int32) (o_tradesEnded : Int32) (o_needs : Nat → Int32) (o_yields : Nat → Int32) (o_skips : Nat → Int32) (o_skills : Nat → Int32) (o_places : Nat → Int32) (o_wheel : Nat → Int32) (x1_current : Int32) (l2 : Int32) (ro' : Option Int32) (o_trades' : Int32) (o_people' : Int32) (o_tradesEnded' : Int32) (o_needs' : Nat → Int32) (o_yields' : Nat → Int32) (o_skips' : Nat → Int32) (o_skills' : Nat → Int32) (o_places' : Nat → Int32) (o_wheel' : Nat → Int32) (x1_current' : Int32) (l2' : Int32), fX1_readAll_6 N x1_cuts x1_tokens n o_trades o_people o_tradesEnded o_needs o_yields o_skips o_skills o_places o_wheel x1_current l2 = some (ro', o_trades', o_people', o_tradesEnded', o_needs', o_yields', o_skips', o_skills', o_places', o_wheel', x1_current', l2') → ∀ (H : Heap) (locs : List Loc) (ls : Array Slot), va_P (dC, dI) vwCl [(a_o, .inr (1, [.int o_trades, .int o_people, .ref a_o_needs, .ref a_o_yields, .ref a_o_skips, .ref a_o_skills, .ref a_o_places, .ref a_o_wheel, .int o_tradesEnded])), (a_o_needs, .inl (cI, 6, .inl o_needs)), (a_o_yields, .inl (cI, 6, .inl o_yields)), (a_o_skips, .inl (cI, 6, .inl o_skips)), (a_o_skills, .inl (cI, 36, .inl o_skills)), (a_o_places, .inl (cI, 6, .inl o_places)), (a_o_wheel, .inl (cI, 6, .inl o_wheel)), (a_x1, .inr (0, [.int x1_length, .ref a_x1_signs, .ref a_x1_tokens, .ref a_x1_starts, .int x1_cuts, .int x1_current])), (a_x1_tokens, .inl (cI, 401, .inl x1_tokens))] H → va_D A [(a_o, .inr (1, [.int o_trades, .int o_people, .ref a_o_needs, .ref a_o_yields, .ref a_o_skips, .ref a_o_skills, .ref a_o_places, .ref a_o_wheel, .int o_tradesEnded])), (a_o_needs, .inl (cI, 6, .inl o_needs)), (a_o_yields, .inl (cI, 6, .inl o_yields)), (a_o_skips, .inl (cI, 6, .inl o_skips)), (a_o_skills, .inl (cI, 36, .inl o_skills)), (a_o_places, .inl (cI, 6, .inl o_places)), (a_o_wheel, .inl (cI, 6, .inl o_wheel)), (a_x1, .inr (0, [.int x1_length, .ref a_x1_signs, .ref a_x1_tokens, .ref a_x1_starts, .int x1_cuts, .int x1_current])), (a_x1_tokens, .inl (cI, 401, .inl x1_tokens))] → va_S A s.heap H locs → lv_has ls 3 [(0, .ref a_o), (1, .ref a_x1), (2, .int l2)] → (ro' = none → ∀ (H : Heap) (locs : List Loc) (ls : Array Slot), va_P (dC, dI) vwCl [(a_o, .inr (1, [.int o_trades', .int o_people', .ref a_o_needs, .ref a_o_yields, .ref a_o_skips, .ref a_o_skills, .ref a_o_places, .ref a_o_wheel, .int o_tradesEnded'])), (a_o_needs, .inl (cI, 6, .inl o_needs')), (a_o_yields, .inl (cI, 6, .inl o_yields')), (a_o_skips, .inl (cI, 6, .inl o_skips')), (a_o_skills, .inl (cI, 36, .inl o_skills')), (a_o_places, .inl (cI, 6, .inl o_places')), (a_o_wheel, .inl (cI, 6, .inl o_wheel')), (a_x1, .inr (0, [.int x1_length, .ref a_x1_signs, .ref a_x1_tokens, .ref a_x1_starts, .int x1_cuts, .int x1_current'])), (a_x1_tokens, .inl (cI, 401, .inl x1_tokens))] H → va_D A [(a_o, .inr (1, [.int o_trades', .int o_people', .ref a_o_needs, .ref a_o_yields, .ref a_o_skips, .ref a_o_skills, .ref a_o_places, .ref a_o_wheel, .int o_tradesEnded'])), (a_o_needs, .inl (cI, 6, .inl o_needs')), (a_o_yields, .inl (cI, 6, .inl o_yields')), (a_o_skips, .inl (cI, 6, .inl o_skips')), (a_o_skills, .inl (cI, 36, .inl o_skills')), (a_o_places, .inl (cI, 6, .inl o_places')), (a_o_wheel, .inl (cI, 6, .inl o_wheel')), (a_x1, .inr (0, [.int x1_length, .ref a_x1_signs, .ref a_x1_tokens, .ref a_x1_starts, .int x1_cuts, .int x1_current'])), (a_x1_tokens, .inl (cI, 401, .inl x1_tokens))] → va_S A s.heap H locs → lv_has ls 3 [(0, .ref a_o), (2, .int l2')] → W p l e (headSpec wsX1_readAll rmX1_readAll).room s m args below meth c H locs 0 0 Q (F0 m 51 ls [])) → (∀ r9 : Int32, ro' = some r9 → ∀ (H : Heap) (locs : List Loc) (ls : Array Slot), va_P (dC, dI) vwCl [(a_o, .inr (1, [.int o_trades', .int o_people', .ref a_o_needs, .ref a_o_yields, .ref a_o_skips, .ref a_o_skills, .ref a_o_places, .ref a_o_wheel, .int o_tradesEnded'])), (a_o_needs, .inl (cI, 6, .inl o_needs')), (a_o_yields, .inl (cI, 6, .inl o_yields')), (a_o_skips, .inl (cI, 6, .inl o_skips')), (a_o_skills, .inl (cI, 36, .inl o_skills')), (a_o_places, .inl (cI, 6, .inl o_places')), (a_o_wheel, .inl (cI, 6, .inl o_wheel')), (a_x1, .inr (0, [.int x1_length, .ref a_x1_signs, .ref a_x1_tokens, .ref a_x1_starts, .int x1_cuts, .int x1_current'])), (a_x1_tokens, .inl (cI, 401, .inl x1_tokens))] H → va_D A [(a_o, .inr (1, [.int o_trades', .int o_people', .ref a_o_needs, .ref a_o_yields, .ref a_o_skips, .ref a_o_skills, .ref a_o_places, .ref a_o_wheel, .int o_tradesEnded'])), (a_o_needs, .inl (cI, 6, .inl o_needs')), (a_o_yields, .inl (cI, 6, .inl o_yields')), (a_o_skips, .inl (cI, 6, .inl o_skips')), (a_o_skills, .inl (cI, 36, .inl o_skills')), (a_o_places, .inl (cI, 6, .inl o_places')), (a_o_wheel, .inl (cI, 6, .inl o_wheel')), (a_x1, .inr (0, [.int x1_length, .ref a_x1_signs, .ref a_x1_tokens, .ref a_x1_starts, .int x1_cuts, .int x1_current'])), (a_x1_tokens, .inl (cI, 401, .inl x1_tokens))] → va_S A s.heap H locs → W p l e (headSpec wsX1_readAll rmX1_readAll).room s m args below meth c H locs 0 0 Q (F0 m 40 ls [.int r9])) → W p l e (headSpec wsX1_readAll rmX1_readAll).room s m args below meth c H locs 0 0 Q (F0 m 6 ls []) := by
  obtain ⟨hx, hb, hr, hml, hown, hts, hlocks, hA, hK, hN⟩ := id hg0
  have hF : CallFix p m c cX1_readAll 3 s args wsX1_readAll RX1 := ⟨hx, hb, hml, hown, hts⟩
  intro n
  induction n with
  | zero =>
    intro o_trades o_people o_tradesEnded o_needs o_yields o_skips o_skills o_places o_wheel x1_current l2 ro' o_trades' o_people' o_tradesEnded' o_needs' o_yields' o_skips' o_skills' o_places' o_wheel' x1_current' l2' hf
    have hf := fX1_readAll_6_0.symm.trans hf
    cases hf
  | succ n ih =>
    intro o_trades o_people o_tradesEnded o_needs o_yields o_skips o_skills o_places o_wheel x1_current l2 ro' o_trades' o_people' o_tradesEnded' o_needs' o_yields' o_skips' o_skills' o_places' o_wheel' x1_current' l2' hf H locs ls hP hD hS hl kx kr40
    have hf := fX1_readAll_6_s.symm.trans hf
    refine lv_aload_n hx hb dX1_readAll_6 rfl (lv_at hl 1 rfl) ?_
    obtain ⟨r_1, hc, hf⟩ := pb1 hf
    refine gCi (va_runV (As := []) (rest := []) hF (kX0_token l dC dI Z cC cI cZ cW a_x1 a_x1_signs a_x1_tokens a_x1_starts _ x1_length x1_cuts x1_current x1_tokens  N r_1 hc) (cwV 0 hts gX1_readAll_X0_token rfl rfl rfl (by decide +kernel) ⟨Nat.le_of_ble_eq_true rfl, Nat.le_of_ble_eq_true rfl⟩) (gPV (wc := [(a_x1, .inr (0, [.int x1_length, .ref a_x1_signs, .ref a_x1_tokens, .ref a_x1_starts, .int x1_cuts, .int x1_current])), (a_x1_tokens, .inl (cI, 401, .inl x1_tokens))]) hK hN hA hS hP hD [7, 8] rfl rfl (q0 := 0) (ci := 0) rfl rfl rfl) rfl rfl hl.1 rfl (lv_room (Nat.le_of_ble_eq_true rfl)) dX1_readAll_7 ⟨Nat.zero_le _, Nat.zero_le _⟩) hP hD hS hA [7, 8] rfl rfl rfl (fun H locs hP hD hS => ?_)
    have hP : va_P (dC, dI) vwCl [(a_o, .inr (1, [.int o_trades, .int o_people, .ref a_o_needs, .ref a_o_yields, .ref a_o_skips, .ref a_o_skills, .ref a_o_places, .ref a_o_wheel, .int o_tradesEnded])), (a_o_needs, .inl (cI, 6, .inl o_needs)), (a_o_yields, .inl (cI, 6, .inl o_yields)), (a_o_skips, .inl (cI, 6, .inl o_skips)), (a_o_skills, .inl (cI, 36, .inl o_skills)), (a_o_places, .inl (cI, 6, .inl o_places)), (a_o_wheel, .inl (cI, 6, .inl o_wheel)), (a_x1, .inr (0, [.int x1_length, .ref a_x1_signs, .ref a_x1_tokens, .ref a_x1_starts, .int x1_cuts, .int x1_current])), (a_x1_tokens, .inl (cI, 401, .inl x1_tokens))] H := hP
    have hD : va_D A [(a_o, .inr (1, [.int o_trades, .int o_people, .ref a_o_needs, .ref a_o_yields, .ref a_o_skips, .ref a_o_skills, .ref a_o_places, .ref a_o_wheel, .int o_tradesEnded])), (a_o_needs, .inl (cI, 6, .inl o_needs)), (a_o_yields, .inl (cI, 6, .inl o_yields)), (a_o_skips, .inl (cI, 6, .inl o_skips)), (a_o_skills, .inl (cI, 36, .inl o_skills)), (a_o_places, .inl (cI, 6, .inl o_places)), (a_o_wheel, .inl (cI, 6, .inl o_wheel)), (a_x1, .inr (0, [.int x1_length, .ref a_x1_signs, .ref a_x1_tokens, .ref a_x1_starts, .int x1_cuts, .int x1_current])), (a_x1_tokens, .inl (cI, 401, .inl x1_tokens))] := hD
    refine lv_iconst (v := (-1 : Int32)) hx hb dX1_readAll_10 (by decide) ?_
    refine lv_icmp_eq (tgt := 51) hx hb dX1_readAll_11 (by decide) (fun c_2 => ?_) (fun c_2 => ?_)
    · have hf := pit hf c_2
      have q0 := Option.some.inj hf
      obtain ⟨e0, q1⟩ := Prod.mk.inj q0
      obtain ⟨e1, q2⟩ := Prod.mk.inj q1
      obtain ⟨e2, q3⟩ := Prod.mk.inj q2
      obtain ⟨e3, q4⟩ := Prod.mk.inj q3
      obtain ⟨e4, q5⟩ := Prod.mk.inj q4
      obtain ⟨e5, q6⟩ := Prod.mk.inj q5
      obtain ⟨e6, q7⟩ := Prod.mk.inj q6
      obtain ⟨e7, q8⟩ := Prod.mk.inj q7
      obtain ⟨e8, q9⟩ := Prod.mk.inj q8
      obtain ⟨e9, q10⟩ := Prod.mk.inj q9
      obtain ⟨e10, q11⟩ := Prod.mk.inj q10
      subst e0
      subst e1
      subst e2
      subst e3
      subst e4
      subst e5
      subst e6
      subst e7
      subst e8
      subst e9
      subst e10
      subst q11
      exact kx rfl _ _ _ hP hD hS (lv_sub hl [0, 2] rfl)
    · have hf := pif hf c_2
      refine lv_iload_n hx hb dX1_readAll_14 rfl (lv_at hl 2 rfl) ?_
      refine lv_sipush (v := (400 : Int32)) hx hb dX1_readAll_15 (by decide) ?_
      refine lv_icmp_ge (tgt := 51) hx hb dX1_readAll_18 (by decide) (fun c_3 => ?_) (fun c_3 => ?_)
      · have hf := pit hf c_3
        have q0 := Option.some.inj hf
        obtain ⟨e0, q1⟩ := Prod.mk.inj q0
        obtain ⟨e1, q2⟩ := Prod.mk.inj q1
        obtain ⟨e2, q3⟩ := Prod.mk.inj q2
        obtain ⟨e3, q4⟩ := Prod.mk.inj q3
        obtain ⟨e4, q5⟩ := Prod.mk.inj q4
        obtain ⟨e5, q6⟩ := Prod.mk.inj q5
        obtain ⟨e6, q7⟩ := Prod.mk.inj q6
        obtain ⟨e7, q8⟩ := Prod.mk.inj q7
        obtain ⟨e8, q9⟩ := Prod.mk.inj q8
        obtain ⟨e9, q10⟩ := Prod.mk.inj q9
        obtain ⟨e10, q11⟩ := Prod.mk.inj q10
        subst e0
        subst e1
        subst e2
        subst e3
        subst e4
        subst e5
        subst e6
        subst e7
        subst e8
        subst e9
        subst e10
        subst q11
        exact kx rfl _ _ _ hP hD hS (lv_sub hl [0, 2] rfl)
      · have hf := pif hf c_3
        refine lv_aload_n hx hb dX1_readAll_21 rfl (lv_at hl 0 rfl) ?_
        refine lv_aload_n hx hb dX1_readAll_22 rfl (lv_at hl 1 rfl) ?_
        obtain ⟨r_4, o_trades_5, o_people_6, o_tradesEnded_7, o_needs_8, o_yields_9, o_skips_10, o_skills_11, o_places_12, o_wheel_13, x1_current_14, hc, hf⟩ := pb11 hf
        refine gCi (va_runV (As := [.ref a_x1]) (rest := []) hF (kX1_readItem l dC dI Z cC cI cZ cW a_o a_o_needs a_o_yields a_o_skips a_o_skills a_o_places a_o_wheel a_x1 a_x1_signs a_x1_tokens a_x1_starts _ o_trades o_people o_tradesEnded o_needs o_yields o_skips o_skills o_places o_wheel x1_length x1_cuts x1_current x1_tokens  N r_4 o_trades_5 o_people_6 o_tradesEnded_7 o_needs_8 o_yields_9 o_skips_10 o_skills_11 o_places_12 o_wheel_13 x1_current_14 hc) (cwV 1 hts gX1_readAll_X1_readItem rfl rfl rfl (by decide +kernel) ⟨Nat.le_of_ble_eq_true rfl, Nat.le_of_ble_eq_true rfl⟩) (gPV (wc := [(a_o, .inr (1, [.int o_trades, .int o_people, .ref a_o_needs, .ref a_o_yields, .ref a_o_skips, .ref a_o_skills, .ref a_o_places, .ref a_o_wheel, .int o_tradesEnded])), (a_o_needs, .inl (cI, 6, .inl o_needs)), (a_o_yields, .inl (cI, 6, .inl o_yields)), (a_o_skips, .inl (cI, 6, .inl o_skips)), (a_o_skills, .inl (cI, 36, .inl o_skills)), (a_o_places, .inl (cI, 6, .inl o_places)), (a_o_wheel, .inl (cI, 6, .inl o_wheel)), (a_x1, .inr (0, [.int x1_length, .ref a_x1_signs, .ref a_x1_tokens, .ref a_x1_starts, .int x1_cuts, .int x1_current])), (a_x1_tokens, .inl (cI, 401, .inl x1_tokens))]) hK hN hA hS hP hD [0, 1, 2, 3, 4, 5, 6, 7, 8] rfl rfl (q0 := 0) (ci := 1) rfl rfl rfl) rfl rfl hl.1 rfl (lv_room (Nat.le_of_ble_eq_true rfl)) dX1_readAll_23 ⟨Nat.zero_le _, Nat.zero_le _⟩) hP hD hS hA [0, 1, 2, 3, 4, 5, 6, 7, 8] rfl rfl rfl (fun H locs hP hD hS => ?_)
        have hP : va_P (dC, dI) vwCl [(a_o, .inr (1, [.int o_trades_5, .int o_people_6, .ref a_o_needs, .ref a_o_yields, .ref a_o_skips, .ref a_o_skills, .ref a_o_places, .ref a_o_wheel, .int o_tradesEnded_7])), (a_o_needs, .inl (cI, 6, .inl o_needs_8)), (a_o_yields, .inl (cI, 6, .inl o_yields_9)), (a_o_skips, .inl (cI, 6, .inl o_skips_10)), (a_o_skills, .inl (cI, 36, .inl o_skills_11)), (a_o_places, .inl (cI, 6, .inl o_places_12)), (a_o_wheel, .inl (cI, 6, .inl o_wheel_13)), (a_x1, .inr (0, [.int x1_length, .ref a_x1_signs, .ref a_x1_tokens, .ref a_x1_starts, .int x1_cuts, .int x1_current_14])), (a_x1_tokens, .inl (cI, 401, .inl x1_tokens))] H := hP
        have hD : va_D A [(a_o, .inr (1, [.int o_trades_5, .int o_people_6, .ref a_o_needs, .ref a_o_yields, .ref a_o_skips, .ref a_o_skills, .ref a_o_places, .ref a_o_wheel, .int o_tradesEnded_7])), (a_o_needs, .inl (cI, 6, .inl o_needs_8)), (a_o_yields, .inl (cI, 6, .inl o_yields_9)), (a_o_skips, .inl (cI, 6, .inl o_skips_10)), (a_o_skills, .inl (cI, 36, .inl o_skills_11)), (a_o_places, .inl (cI, 6, .inl o_places_12)), (a_o_wheel, .inl (cI, 6, .inl o_wheel_13)), (a_x1, .inr (0, [.int x1_length, .ref a_x1_signs, .ref a_x1_tokens, .ref a_x1_starts, .int x1_cuts, .int x1_current_14])), (a_x1_tokens, .inl (cI, 401, .inl x1_tokens))] := hD
        refine lv_if_eq (tgt := 38) hx hb dX1_readAll_26 (by decide) (fun c_15 => ?_) (fun c_15 => ?_)
        · have hf := pit hf c_15
          refine lv_bipush (v := (-9 : Int32)) hx hb dX1_readAll_38 (by decide) ?_
          have q0 := Option.some.inj hf
          obtain ⟨e0, q1⟩ := Prod.mk.inj q0
          obtain ⟨e1, q2⟩ := Prod.mk.inj q1
          obtain ⟨e2, q3⟩ := Prod.mk.inj q2
          obtain ⟨e3, q4⟩ := Prod.mk.inj q3
          obtain ⟨e4, q5⟩ := Prod.mk.inj q4
          obtain ⟨e5, q6⟩ := Prod.mk.inj q5
          obtain ⟨e6, q7⟩ := Prod.mk.inj q6
          obtain ⟨e7, q8⟩ := Prod.mk.inj q7
          obtain ⟨e8, q9⟩ := Prod.mk.inj q8
          obtain ⟨e9, q10⟩ := Prod.mk.inj q9
          obtain ⟨e10, q11⟩ := Prod.mk.inj q10
          subst e0
          subst e1
          subst e2
          subst e3
          subst e4
          subst e5
          subst e6
          subst e7
          subst e8
          subst e9
          subst e10
          subst q11
          exact kr40 _ rfl _ _ _ hP hD hS
        · have hf := pif hf c_15
          refine lv_aload_n hx hb dX1_readAll_29 rfl (lv_at hl 1 rfl) ?_
          obtain ⟨r_16, hc, hf⟩ := pb1 hf
          refine gCi (va_runV (As := []) (rest := []) hF (kX0_token l dC dI Z cC cI cZ cW a_x1 a_x1_signs a_x1_tokens a_x1_starts _ x1_length x1_cuts x1_current_14 x1_tokens  N r_16 hc) (cwV 0 hts gX1_readAll_X0_token rfl rfl rfl (by decide +kernel) ⟨Nat.le_of_ble_eq_true rfl, Nat.le_of_ble_eq_true rfl⟩) (gPV (wc := [(a_x1, .inr (0, [.int x1_length, .ref a_x1_signs, .ref a_x1_tokens, .ref a_x1_starts, .int x1_cuts, .int x1_current_14])), (a_x1_tokens, .inl (cI, 401, .inl x1_tokens))]) hK hN hA hS hP hD [7, 8] rfl rfl (q0 := 0) (ci := 0) rfl rfl rfl) rfl rfl hl.1 rfl (lv_room (Nat.le_of_ble_eq_true rfl)) dX1_readAll_30 ⟨Nat.zero_le _, Nat.zero_le _⟩) hP hD hS hA [7, 8] rfl rfl rfl (fun H locs hP hD hS => ?_)
          have hP : va_P (dC, dI) vwCl [(a_o, .inr (1, [.int o_trades_5, .int o_people_6, .ref a_o_needs, .ref a_o_yields, .ref a_o_skips, .ref a_o_skills, .ref a_o_places, .ref a_o_wheel, .int o_tradesEnded_7])), (a_o_needs, .inl (cI, 6, .inl o_needs_8)), (a_o_yields, .inl (cI, 6, .inl o_yields_9)), (a_o_skips, .inl (cI, 6, .inl o_skips_10)), (a_o_skills, .inl (cI, 36, .inl o_skills_11)), (a_o_places, .inl (cI, 6, .inl o_places_12)), (a_o_wheel, .inl (cI, 6, .inl o_wheel_13)), (a_x1, .inr (0, [.int x1_length, .ref a_x1_signs, .ref a_x1_tokens, .ref a_x1_starts, .int x1_cuts, .int x1_current_14])), (a_x1_tokens, .inl (cI, 401, .inl x1_tokens))] H := hP
          have hD : va_D A [(a_o, .inr (1, [.int o_trades_5, .int o_people_6, .ref a_o_needs, .ref a_o_yields, .ref a_o_skips, .ref a_o_skills, .ref a_o_places, .ref a_o_wheel, .int o_tradesEnded_7])), (a_o_needs, .inl (cI, 6, .inl o_needs_8)), (a_o_yields, .inl (cI, 6, .inl o_yields_9)), (a_o_skips, .inl (cI, 6, .inl o_skips_10)), (a_o_skills, .inl (cI, 36, .inl o_skills_11)), (a_o_places, .inl (cI, 6, .inl o_places_12)), (a_o_wheel, .inl (cI, 6, .inl o_wheel_13)), (a_x1, .inr (0, [.int x1_length, .ref a_x1_signs, .ref a_x1_tokens, .ref a_x1_starts, .int x1_cuts, .int x1_current_14])), (a_x1_tokens, .inl (cI, 401, .inl x1_tokens))] := hD
          refine lv_bipush (v := (-2 : Int32)) hx hb dX1_readAll_33 (by decide) ?_
          refine lv_icmp_eq (tgt := 41) hx hb dX1_readAll_35 (by decide) (fun c_17 => ?_) (fun c_17 => ?_)
          · have hf := pit hf c_17
            refine lv_aload_n hx hb dX1_readAll_41 rfl (lv_at hl 1 rfl) ?_
            obtain ⟨x1_current_18, hc, hf⟩ := pb1 hf
            refine gCv (va_runV (As := []) (rest := []) hF (kX0_pass l dC dI Z cC cI cZ cW a_x1 a_x1_signs a_x1_tokens a_x1_starts _ x1_length x1_cuts x1_current_14  N x1_current_18 hc) (cwV 0 hts gX1_readAll_X0_pass rfl rfl rfl (by decide +kernel) ⟨Nat.le_of_ble_eq_true rfl, Nat.le_of_ble_eq_true rfl⟩) (gPV (wc := [(a_x1, .inr (0, [.int x1_length, .ref a_x1_signs, .ref a_x1_tokens, .ref a_x1_starts, .int x1_cuts, .int x1_current_14]))]) hK hN hA hS hP hD [7] rfl rfl (q0 := 0) (ci := 0) rfl rfl rfl) rfl rfl hl.1 rfl (lv_room (Nat.le_of_ble_eq_true rfl)) dX1_readAll_42 ⟨Nat.zero_le _, Nat.zero_le _⟩) hP hD hS hA [7] rfl rfl rfl (fun H locs hP hD hS => ?_)
            have hP : va_P (dC, dI) vwCl [(a_o, .inr (1, [.int o_trades_5, .int o_people_6, .ref a_o_needs, .ref a_o_yields, .ref a_o_skips, .ref a_o_skills, .ref a_o_places, .ref a_o_wheel, .int o_tradesEnded_7])), (a_o_needs, .inl (cI, 6, .inl o_needs_8)), (a_o_yields, .inl (cI, 6, .inl o_yields_9)), (a_o_skips, .inl (cI, 6, .inl o_skips_10)), (a_o_skills, .inl (cI, 36, .inl o_skills_11)), (a_o_places, .inl (cI, 6, .inl o_places_12)), (a_o_wheel, .inl (cI, 6, .inl o_wheel_13)), (a_x1, .inr (0, [.int x1_length, .ref a_x1_signs, .ref a_x1_tokens, .ref a_x1_starts, .int x1_cuts, .int x1_current_18])), (a_x1_tokens, .inl (cI, 401, .inl x1_tokens))] H := hP
            have hD : va_D A [(a_o, .inr (1, [.int o_trades_5, .int o_people_6, .ref a_o_needs, .ref a_o_yields, .ref a_o_skips, .ref a_o_skills, .ref a_o_places, .ref a_o_wheel, .int o_tradesEnded_7])), (a_o_needs, .inl (cI, 6, .inl o_needs_8)), (a_o_yields, .inl (cI, 6, .inl o_yields_9)), (a_o_skips, .inl (cI, 6, .inl o_skips_10)), (a_o_skills, .inl (cI, 36, .inl o_skills_11)), (a_o_places, .inl (cI, 6, .inl o_places_12)), (a_o_wheel, .inl (cI, 6, .inl o_wheel_13)), (a_x1, .inr (0, [.int x1_length, .ref a_x1_signs, .ref a_x1_tokens, .ref a_x1_starts, .int x1_cuts, .int x1_current_18])), (a_x1_tokens, .inl (cI, 401, .inl x1_tokens))] := hD
            refine lv_iinc (v := (l2 + 1)) (lv' := [(2, .int (l2 + 1)), (0, .ref a_o), (1, .ref a_x1)]) hx hb dX1_readAll_45 hl (k := 2) rfl rfl (by decide) rfl (fun ls hl => ?_)
            refine lv_goto (tgt := 6) hx hb dX1_readAll_48 (by decide) ?_
            exact ih _ _ _ _ _ _ _ _ _ _ _ _ _ _ _ _ _ _ _ _ _ _ _ hf _ _ _ hP hD hS (lv_sub hl [1, 2, 0] rfl) kx kr40
          · have hf := pif hf c_17
            refine lv_bipush (v := (-9 : Int32)) hx hb dX1_readAll_38 (by decide) ?_
            have q0 := Option.some.inj hf
            obtain ⟨e0, q1⟩ := Prod.mk.inj q0
            obtain ⟨e1, q2⟩ := Prod.mk.inj q1
            obtain ⟨e2, q3⟩ := Prod.mk.inj q2
            obtain ⟨e3, q4⟩ := Prod.mk.inj q3
            obtain ⟨e4, q5⟩ := Prod.mk.inj q4
            obtain ⟨e5, q6⟩ := Prod.mk.inj q5
            obtain ⟨e6, q7⟩ := Prod.mk.inj q6
            obtain ⟨e7, q8⟩ := Prod.mk.inj q7
            obtain ⟨e8, q9⟩ := Prod.mk.inj q8
            obtain ⟨e9, q10⟩ := Prod.mk.inj q9
            obtain ⟨e10, q11⟩ := Prod.mk.inj q10
            subst e0
            subst e1
            subst e2
            subst e3
            subst e4
            subst e5
            subst e6
            subst e7
            subst e8
            subst e9
            subst e10
            subst q11
            exact kr40 _ rfl _ _ _ hP hD hS
set_option maxHeartbeats 4000000 in
set_option maxRecDepth 100000 in
theorem kX1_readAll (l : Launch) (dC : Nat → ClassId) (dI : Nat → Nat → Nat) (Z : gZ) (cC cI cZ cW : ClassId) (a_o a_o_needs a_o_yields a_o_skips a_o_skills a_o_places a_o_wheel a_x1 a_x1_signs a_x1_tokens a_x1_starts : Nat) (sz : Nat) (o_trades : Int32) (o_people : Int32) (o_tradesEnded : Int32) (o_needs : Nat → Int32) (o_yields : Nat → Int32) (o_skips : Nat → Int32) (o_skills : Nat → Int32) (o_places : Nat → Int32) (o_wheel : Nat → Int32) (x1_length : Int32) (x1_cuts : Int32) (x1_current : Int32) (x1_tokens : Nat → Int32)  (N : Nat) (r' : Int32) (o_trades' : Int32) (o_people' : Int32) (o_tradesEnded' : Int32) (o_needs' : Nat → Int32) (o_yields' : Nat → Int32) (o_skips' : Nat → Int32) (o_skills' : Nat → Int32) (o_places' : Nat → Int32) (o_wheel' : Nat → Int32) (x1_current' : Int32) (hf : fX1_readAll N o_trades o_people o_tradesEnded o_needs o_yields o_skips o_skills o_places o_wheel x1_cuts x1_current x1_tokens   = some (r', o_trades', o_people', o_tradesEnded', o_needs', o_yields', o_skips', o_skills', o_places', o_wheel', x1_current')) : Met l yX1_readAll wsX1_readAll rmX1_readAll (va_Pc [.ref a_o, .ref a_x1] (gB (dC, dI) Z [(cC, .char), (cI, .int), (cZ, .boolean), (cW, .object RX3)] [(a_o, .inr (1, [.int o_trades, .int o_people, .ref a_o_needs, .ref a_o_yields, .ref a_o_skips, .ref a_o_skills, .ref a_o_places, .ref a_o_wheel, .int o_tradesEnded])), (a_o_needs, .inl (cI, 6, .inl o_needs)), (a_o_yields, .inl (cI, 6, .inl o_yields)), (a_o_skips, .inl (cI, 6, .inl o_skips)), (a_o_skills, .inl (cI, 36, .inl o_skills)), (a_o_places, .inl (cI, 6, .inl o_places)), (a_o_wheel, .inl (cI, 6, .inl o_wheel)), (a_x1, .inr (0, [.int x1_length, .ref a_x1_signs, .ref a_x1_tokens, .ref a_x1_starts, .int x1_cuts, .int x1_current])), (a_x1_tokens, .inl (cI, 401, .inl x1_tokens))] sz)) (va_Qi (fun (r : Int32) (_ : Unit) => r = r') (gE (dC, dI) [(a_o, .inr (1, [.int o_trades', .int o_people', .ref a_o_needs, .ref a_o_yields, .ref a_o_skips, .ref a_o_skills, .ref a_o_places, .ref a_o_wheel, .int o_tradesEnded'])), (a_o_needs, .inl (cI, 6, .inl o_needs')), (a_o_yields, .inl (cI, 6, .inl o_yields')), (a_o_skips, .inl (cI, 6, .inl o_skips')), (a_o_skills, .inl (cI, 36, .inl o_skills')), (a_o_places, .inl (cI, 6, .inl o_places')), (a_o_wheel, .inl (cI, 6, .inl o_wheel')), (a_x1, .inr (0, [.int x1_length, .ref a_x1_signs, .ref a_x1_tokens, .ref a_x1_starts, .int x1_cuts, .int x1_current'])), (a_x1_tokens, .inl (cI, 401, .inl x1_tokens))]) (va_A [(a_o, .inr (1, [.int o_trades, .int o_people, .ref a_o_needs, .ref a_o_yields, .ref a_o_skips, .ref a_o_skills, .ref a_o_places, .ref a_o_wheel, .int o_tradesEnded])), (a_o_needs, .inl (cI, 6, .inl o_needs)), (a_o_yields, .inl (cI, 6, .inl o_yields)), (a_o_skips, .inl (cI, 6, .inl o_skips)), (a_o_skills, .inl (cI, 36, .inl o_skills)), (a_o_places, .inl (cI, 6, .inl o_places)), (a_o_wheel, .inl (cI, 6, .inl o_wheel)), (a_x1, .inr (0, [.int x1_length, .ref a_x1_signs, .ref a_x1_tokens, .ref a_x1_starts, .int x1_cuts, .int x1_current])), (a_x1_tokens, .inl (cI, 401, .inl x1_tokens))] sz)) 0 0 (va_A [(a_o, .inr (1, [.int o_trades, .int o_people, .ref a_o_needs, .ref a_o_yields, .ref a_o_skips, .ref a_o_skills, .ref a_o_places, .ref a_o_wheel, .int o_tradesEnded])), (a_o_needs, .inl (cI, 6, .inl o_needs)), (a_o_yields, .inl (cI, 6, .inl o_yields)), (a_o_skips, .inl (cI, 6, .inl o_skips)), (a_o_skills, .inl (cI, 36, .inl o_skills)), (a_o_places, .inl (cI, 6, .inl o_places)), (a_o_wheel, .inl (cI, 6, .inl o_wheel)), (a_x1, .inr (0, [.int x1_length, .ref a_x1_signs, .ref a_x1_tokens, .ref a_x1_starts, .int x1_cuts, .int x1_current])), (a_x1_tokens, .inl (cI, 401, .inl x1_tokens))] sz) := by
  refine gMet (cc := cX1_readAll) (maxL := 3) (ret := (some .int)) (Qc := fun A => va_Qi (fun (r : Int32) (_ : Unit) => r = r') (gE (dC, dI) [(a_o, .inr (1, [.int o_trades', .int o_people', .ref a_o_needs, .ref a_o_yields, .ref a_o_skips, .ref a_o_skills, .ref a_o_places, .ref a_o_wheel, .int o_tradesEnded'])), (a_o_needs, .inl (cI, 6, .inl o_needs')), (a_o_yields, .inl (cI, 6, .inl o_yields')), (a_o_skips, .inl (cI, 6, .inl o_skips')), (a_o_skills, .inl (cI, 36, .inl o_skills')), (a_o_places, .inl (cI, 6, .inl o_places')), (a_o_wheel, .inl (cI, 6, .inl o_wheel')), (a_x1, .inr (0, [.int x1_length, .ref a_x1_signs, .ref a_x1_tokens, .ref a_x1_starts, .int x1_cuts, .int x1_current'])), (a_x1_tokens, .inl (cI, 401, .inl x1_tokens))]) A) (by decide) rfl (Nat.le_of_ble_eq_true rfl) ?_
  intro p e s m below meth c A ls hg0 _ hsz hP hD hS hl
  have hg0 : gX p s m _ meth c cX1_readAll 3 (some .int) wsX1_readAll RX1 (dC, dI) Z [(cC, .char), (cI, .int), (cZ, .boolean), (cW, .object RX3)] A := hg0
  obtain ⟨hx, hb, hr, hml, hown, hts, hlocks, hA, hK, hN⟩ := id hg0
  subst hsz
  have hF : CallFix p m c cX1_readAll 3 s _ wsX1_readAll RX1 := ⟨hx, hb, hml, hown, hts⟩
  have hl : lv_has ls 3 [(0, .ref a_o), (1, .ref a_x1)] := hl
  unfold fX1_readAll at hf
  refine lv_aload_n hx hb dX1_readAll_0 rfl (lv_at hl 0 rfl) ?_
  obtain ⟨o_trades_1, o_people_2, o_tradesEnded_3, o_skips_4, o_skills_5, o_places_6, o_wheel_7, hc, hf⟩ := pb7 hf
  refine gCv (va_runV (As := []) (rest := []) hF (kX1_tellNothing l dC dI Z cC cI cZ cW a_o a_o_needs a_o_yields a_o_skips a_o_skills a_o_places a_o_wheel _ o_trades o_people o_tradesEnded o_skips o_skills o_places o_wheel  N o_trades_1 o_people_2 o_tradesEnded_3 o_skips_4 o_skills_5 o_places_6 o_wheel_7 hc) (cwV 0 hts gX1_readAll_X1_tellNothing rfl rfl rfl (by decide +kernel) ⟨Nat.le_of_ble_eq_true rfl, Nat.le_of_ble_eq_true rfl⟩) (gPV (wc := [(a_o, .inr (1, [.int o_trades, .int o_people, .ref a_o_needs, .ref a_o_yields, .ref a_o_skips, .ref a_o_skills, .ref a_o_places, .ref a_o_wheel, .int o_tradesEnded])), (a_o_skips, .inl (cI, 6, .inl o_skips)), (a_o_skills, .inl (cI, 36, .inl o_skills)), (a_o_places, .inl (cI, 6, .inl o_places)), (a_o_wheel, .inl (cI, 6, .inl o_wheel))]) hK hN hA hS hP hD [0, 3, 4, 5, 6] rfl rfl (q0 := 0) (ci := 1) rfl rfl rfl) rfl rfl hl.1 rfl (lv_room (Nat.le_of_ble_eq_true rfl)) dX1_readAll_1 ⟨Nat.zero_le _, Nat.zero_le _⟩) hP hD hS hA [0, 3, 4, 5, 6] rfl rfl rfl (fun H locs hP hD hS => ?_)
  have hP : va_P (dC, dI) vwCl [(a_o, .inr (1, [.int o_trades_1, .int o_people_2, .ref a_o_needs, .ref a_o_yields, .ref a_o_skips, .ref a_o_skills, .ref a_o_places, .ref a_o_wheel, .int o_tradesEnded_3])), (a_o_needs, .inl (cI, 6, .inl o_needs)), (a_o_yields, .inl (cI, 6, .inl o_yields)), (a_o_skips, .inl (cI, 6, .inl o_skips_4)), (a_o_skills, .inl (cI, 36, .inl o_skills_5)), (a_o_places, .inl (cI, 6, .inl o_places_6)), (a_o_wheel, .inl (cI, 6, .inl o_wheel_7)), (a_x1, .inr (0, [.int x1_length, .ref a_x1_signs, .ref a_x1_tokens, .ref a_x1_starts, .int x1_cuts, .int x1_current])), (a_x1_tokens, .inl (cI, 401, .inl x1_tokens))] H := hP
  have hD : va_D A [(a_o, .inr (1, [.int o_trades_1, .int o_people_2, .ref a_o_needs, .ref a_o_yields, .ref a_o_skips, .ref a_o_skills, .ref a_o_places, .ref a_o_wheel, .int o_tradesEnded_3])), (a_o_needs, .inl (cI, 6, .inl o_needs)), (a_o_yields, .inl (cI, 6, .inl o_yields)), (a_o_skips, .inl (cI, 6, .inl o_skips_4)), (a_o_skills, .inl (cI, 36, .inl o_skills_5)), (a_o_places, .inl (cI, 6, .inl o_places_6)), (a_o_wheel, .inl (cI, 6, .inl o_wheel_7)), (a_x1, .inr (0, [.int x1_length, .ref a_x1_signs, .ref a_x1_tokens, .ref a_x1_starts, .int x1_cuts, .int x1_current])), (a_x1_tokens, .inl (cI, 401, .inl x1_tokens))] := hD
  refine lv_iconst (v := (0 : Int32)) hx hb dX1_readAll_4 (by decide) ?_
  refine lv_istore_n (lv' := [(2, .int (0 : Int32)), (0, .ref a_o), (1, .ref a_x1)]) hx hb dX1_readAll_5 rfl hl (by decide) rfl (fun ls hl => ?_)
  obtain ⟨ro_8, o_trades_9, o_people_10, o_tradesEnded_11, o_needs_12, o_yields_13, o_skips_14, o_skills_15, o_places_16, o_wheel_17, x1_current_18, l2_19, hc, hf⟩ := pb12 hf
  refine wX1_readAll_6 hg0 a_o a_o_needs a_o_yields a_o_skips a_o_skills a_o_places a_o_wheel a_x1 a_x1_signs a_x1_tokens a_x1_starts x1_length x1_cuts x1_tokens  N N o_trades_1 o_people_2 o_tradesEnded_3 o_needs o_yields o_skips_4 o_skills_5 o_places_6 o_wheel_7 x1_current (0 : Int32) ro_8 o_trades_9 o_people_10 o_tradesEnded_11 o_needs_12 o_yields_13 o_skips_14 o_skills_15 o_places_16 o_wheel_17 x1_current_18 l2_19 hc _ _ _ hP hD hS (lv_sub hl [1, 2, 0] rfl) (fun hro H locs ls hP hD hS hl => ?_) (fun r9 hro H locs ls hP hD hS => ?_)
  · subst hro
    have hf := rjn hf
    refine lv_aload_n hx hb dX1_readAll_51 rfl (lv_at hl 0 rfl) ?_
    obtain ⟨o_places_20, hc, hf⟩ := pb1 hf
    refine gCv (va_runV (As := []) (rest := []) hF (kX1_placeTheRest l dC dI Z cC cI cZ cW a_o a_o_needs a_o_yields a_o_skips a_o_skills a_o_places a_o_wheel _ o_trades_9 o_people_10 o_tradesEnded_11 o_places_16  N o_places_20 hc) (cwV 0 hts gX1_readAll_X1_placeTheRest rfl rfl rfl (by decide +kernel) ⟨Nat.le_of_ble_eq_true rfl, Nat.le_of_ble_eq_true rfl⟩) (gPV (wc := [(a_o, .inr (1, [.int o_trades_9, .int o_people_10, .ref a_o_needs, .ref a_o_yields, .ref a_o_skips, .ref a_o_skills, .ref a_o_places, .ref a_o_wheel, .int o_tradesEnded_11])), (a_o_places, .inl (cI, 6, .inl o_places_16))]) hK hN hA hS hP hD [0, 5] rfl rfl (q0 := 0) (ci := 1) rfl rfl rfl) rfl rfl hl.1 rfl (lv_room (Nat.le_of_ble_eq_true rfl)) dX1_readAll_52 ⟨Nat.zero_le _, Nat.zero_le _⟩) hP hD hS hA [0, 5] rfl rfl rfl (fun H locs hP hD hS => ?_)
    have hP : va_P (dC, dI) vwCl [(a_o, .inr (1, [.int o_trades_9, .int o_people_10, .ref a_o_needs, .ref a_o_yields, .ref a_o_skips, .ref a_o_skills, .ref a_o_places, .ref a_o_wheel, .int o_tradesEnded_11])), (a_o_needs, .inl (cI, 6, .inl o_needs_12)), (a_o_yields, .inl (cI, 6, .inl o_yields_13)), (a_o_skips, .inl (cI, 6, .inl o_skips_14)), (a_o_skills, .inl (cI, 36, .inl o_skills_15)), (a_o_places, .inl (cI, 6, .inl o_places_20)), (a_o_wheel, .inl (cI, 6, .inl o_wheel_17)), (a_x1, .inr (0, [.int x1_length, .ref a_x1_signs, .ref a_x1_tokens, .ref a_x1_starts, .int x1_cuts, .int x1_current_18])), (a_x1_tokens, .inl (cI, 401, .inl x1_tokens))] H := hP
    have hD : va_D A [(a_o, .inr (1, [.int o_trades_9, .int o_people_10, .ref a_o_needs, .ref a_o_yields, .ref a_o_skips, .ref a_o_skills, .ref a_o_places, .ref a_o_wheel, .int o_tradesEnded_11])), (a_o_needs, .inl (cI, 6, .inl o_needs_12)), (a_o_yields, .inl (cI, 6, .inl o_yields_13)), (a_o_skips, .inl (cI, 6, .inl o_skips_14)), (a_o_skills, .inl (cI, 36, .inl o_skills_15)), (a_o_places, .inl (cI, 6, .inl o_places_20)), (a_o_wheel, .inl (cI, 6, .inl o_wheel_17)), (a_x1, .inr (0, [.int x1_length, .ref a_x1_signs, .ref a_x1_tokens, .ref a_x1_starts, .int x1_cuts, .int x1_current_18])), (a_x1_tokens, .inl (cI, 401, .inl x1_tokens))] := hD
    refine lv_iload_n hx hb dX1_readAll_55 rfl (lv_at hl 1 rfl) ?_
    have q0 := Option.some.inj hf
    obtain ⟨e0, q1⟩ := Prod.mk.inj q0
    obtain ⟨e1, q2⟩ := Prod.mk.inj q1
    obtain ⟨e2, q3⟩ := Prod.mk.inj q2
    obtain ⟨e3, q4⟩ := Prod.mk.inj q3
    obtain ⟨e4, q5⟩ := Prod.mk.inj q4
    obtain ⟨e5, q6⟩ := Prod.mk.inj q5
    obtain ⟨e6, q7⟩ := Prod.mk.inj q6
    obtain ⟨e7, q8⟩ := Prod.mk.inj q7
    obtain ⟨e8, q9⟩ := Prod.mk.inj q8
    obtain ⟨e9, q10⟩ := Prod.mk.inj q9
    subst e0
    subst e1
    subst e2
    subst e3
    subst e4
    subst e5
    subst e6
    subst e7
    subst e8
    subst e9
    subst q10
    exact gRi hx hb hr hlocks hP hS dX1_readAll_56
  · subst hro
    have hf := rjs hf
    have q0 := Option.some.inj hf
    obtain ⟨e0, q1⟩ := Prod.mk.inj q0
    obtain ⟨e1, q2⟩ := Prod.mk.inj q1
    obtain ⟨e2, q3⟩ := Prod.mk.inj q2
    obtain ⟨e3, q4⟩ := Prod.mk.inj q3
    obtain ⟨e4, q5⟩ := Prod.mk.inj q4
    obtain ⟨e5, q6⟩ := Prod.mk.inj q5
    obtain ⟨e6, q7⟩ := Prod.mk.inj q6
    obtain ⟨e7, q8⟩ := Prod.mk.inj q7
    obtain ⟨e8, q9⟩ := Prod.mk.inj q8
    obtain ⟨e9, q10⟩ := Prod.mk.inj q9
    subst e0
    subst e1
    subst e2
    subst e3
    subst e4
    subst e5
    subst e6
    subst e7
    subst e8
    subst e9
    subst q10
    exact gRi hx hb hr hlocks hP hS dX1_readAll_40
abbrev rmX1_behind : Room := { frames := 0, cells := 0, slots := 0, locals := 0 }
set_option maxRecDepth 20000 in
theorem uX1_behind_X1 : ∀ w ∈ wsX10, w ∈ wsX1_behind := by decide +kernel
set_option maxRecDepth 20000 in
theorem mX1_behind_0 : (Cond.fieldLink RX1 9 "TradeWheel$Told" "trades" "I" : Cond) ∈ wsX1_behind := by decide +kernel
set_option maxHeartbeats 4000000 in
set_option maxRecDepth 100000 in
theorem kX1_behind (l : Launch) (dC : Nat → ClassId) (dI : Nat → Nat → Nat) (Z : gZ) (cC cI cZ cW : ClassId) (a_o a_o_needs a_o_yields a_o_skips a_o_skills a_o_places a_o_wheel : Nat) (sz : Nat) (o_trades : Int32) (o_people : Int32) (o_tradesEnded : Int32) (i1 : Int32) (N : Nat) (r' : Int32) (hf : fX1_behind N o_trades  i1 = some r') : Met l yX1_behind wsX1_behind rmX1_behind (va_Pc [.ref a_o, .int i1] (gB (dC, dI) Z [(cC, .char), (cI, .int), (cZ, .boolean), (cW, .object RX3)] [(a_o, .inr (1, [.int o_trades, .int o_people, .ref a_o_needs, .ref a_o_yields, .ref a_o_skips, .ref a_o_skills, .ref a_o_places, .ref a_o_wheel, .int o_tradesEnded]))] sz)) (va_Qi (fun (r : Int32) (_ : Unit) => r = r') (gE (dC, dI) [(a_o, .inr (1, [.int o_trades, .int o_people, .ref a_o_needs, .ref a_o_yields, .ref a_o_skips, .ref a_o_skills, .ref a_o_places, .ref a_o_wheel, .int o_tradesEnded]))]) (va_A [(a_o, .inr (1, [.int o_trades, .int o_people, .ref a_o_needs, .ref a_o_yields, .ref a_o_skips, .ref a_o_skills, .ref a_o_places, .ref a_o_wheel, .int o_tradesEnded]))] sz)) 0 0 (va_A [(a_o, .inr (1, [.int o_trades, .int o_people, .ref a_o_needs, .ref a_o_yields, .ref a_o_skips, .ref a_o_skills, .ref a_o_places, .ref a_o_wheel, .int o_tradesEnded]))] sz) := by
  refine gMet (cc := cX1_behind) (maxL := 2) (ret := (some .int)) (Qc := fun A => va_Qi (fun (r : Int32) (_ : Unit) => r = r') (gE (dC, dI) [(a_o, .inr (1, [.int o_trades, .int o_people, .ref a_o_needs, .ref a_o_yields, .ref a_o_skips, .ref a_o_skills, .ref a_o_places, .ref a_o_wheel, .int o_tradesEnded]))]) A) (by decide) rfl (Nat.le_of_ble_eq_true rfl) ?_
  intro p e s m below meth c A ls hg0 _ hsz hP hD hS hl
  have hg0 : gX p s m _ meth c cX1_behind 2 (some .int) wsX1_behind RX1 (dC, dI) Z [(cC, .char), (cI, .int), (cZ, .boolean), (cW, .object RX3)] A := hg0
  obtain ⟨hx, hb, hr, hml, hown, hts, hlocks, hA, hK, hN⟩ := id hg0
  subst hsz
  have hF : CallFix p m c cX1_behind 2 s _ wsX1_behind RX1 := ⟨hx, hb, hml, hown, hts⟩
  have hl : lv_has ls 2 [(0, .ref a_o), (1, .int i1)] := hl
  unfold fX1_behind at hf
  refine lv_iload_n hx hb dX1_behind_0 rfl (lv_at hl 1 rfl) ?_
  refine lv_iconst (v := (1 : Int32)) hx hb dX1_behind_1 (by decide) ?_
  refine lv_iadd hx hb dX1_behind_2 ?_
  refine lv_aload_n hx hb dX1_behind_3 rfl (lv_at hl 0 rfl) ?_
  refine va_get (D := (dC, dI)) (ci := 1) (v := .int o_trades) (C := RX1) (T := TX1) (N := 9) hx hb hts uX1_behind_X1 hown hK hP 0 rfl rfl 0 (by decide) (hts _ mX1_behind_0) (fun _ h9 => h9) rfl dX1_behind_4 ?_
  refine lv_icmp_ge (tgt := 16) hx hb dX1_behind_7 (by decide) (fun c_1 => ?_) (fun c_1 => ?_)
  · have hf := pit hf c_1
    refine lv_iconst (v := (0 : Int32)) hx hb dX1_behind_16 (by decide) ?_
    have q0 := Option.some.inj hf
    subst q0
    exact gRi hx hb hr hlocks hP hS dX1_behind_17
  · have hf := pif hf c_1
    refine lv_iload_n hx hb dX1_behind_10 rfl (lv_at hl 1 rfl) ?_
    refine lv_iconst (v := (1 : Int32)) hx hb dX1_behind_11 (by decide) ?_
    refine lv_iadd hx hb dX1_behind_12 ?_
    refine lv_goto (tgt := 17) hx hb dX1_behind_13 (by decide) ?_
    have q0 := Option.some.inj hf
    subst q0
    exact gRi hx hb hr hlocks hP hS dX1_behind_17
