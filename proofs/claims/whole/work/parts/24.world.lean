abbrev rmX3_startAs : Room := { frames := 1, cells := 0, slots := 0, locals := 60 }
set_option maxRecDepth 20000 in
theorem uX3_startAs_X1 : ∀ w ∈ wsX10, w ∈ wsX3_startAs := by decide +kernel
set_option maxRecDepth 20000 in
theorem uX3_startAs_X3 : ∀ w ∈ wsX30, w ∈ wsX3_startAs := by decide +kernel
set_option maxRecDepth 20000 in
theorem mX3_startAs_0 : (Cond.fieldLink RX3 9 "TradeWheel$World" "round" "I" : Cond) ∈ wsX3_startAs := by decide +kernel
set_option maxRecDepth 20000 in
theorem mX3_startAs_1 : (Cond.fieldLink RX3 15 "TradeWheel$World" "fell" "I" : Cond) ∈ wsX3_startAs := by decide +kernel
set_option maxRecDepth 20000 in
theorem mX3_startAs_2 : (Cond.fieldLink RX3 18 "TradeWheel$World" "ills" "I" : Cond) ∈ wsX3_startAs := by decide +kernel
set_option maxRecDepth 20000 in
theorem mX3_startAs_3 : (Cond.fieldLink RX3 46 "TradeWheel$Told" "skills" "[I" : Cond) ∈ wsX3_startAs := by decide +kernel
set_option maxRecDepth 20000 in
theorem mX3_startAs_4 : (Cond.fieldLink RX3 21 "TradeWheel$World" "skills" "[I" : Cond) ∈ wsX3_startAs := by decide +kernel
set_option maxRecDepth 20000 in
theorem mX3_startAs_5 : (Cond.methodLink RX3 49 arraycopyName : Cond) ∈ wsX3_startAs := by decide +kernel
set_option maxRecDepth 20000 in
theorem mX3_startAs_6 : (Cond.native arraycopyName : Cond) ∈ wsX3_startAs := by decide +kernel
set_option maxRecDepth 20000 in
theorem mX3_startAs_7 : (Cond.static arraycopyName : Cond) ∈ wsX3_startAs := by decide +kernel
set_option maxRecDepth 20000 in
theorem mX3_startAs_8 : (Cond.initialized "java/lang/System" : Cond) ∈ wsX3_startAs := by decide +kernel
set_option maxRecDepth 20000 in
theorem mX3_startAs_9 : (Cond.fieldLink RX3 55 "TradeWheel$Told" "places" "[I" : Cond) ∈ wsX3_startAs := by decide +kernel
set_option maxRecDepth 20000 in
theorem mX3_startAs_10 : (Cond.fieldLink RX3 25 "TradeWheel$World" "places" "[I" : Cond) ∈ wsX3_startAs := by decide +kernel
set_option maxRecDepth 20000 in
theorem mX3_startAs_11 : (Cond.fieldLink RX3 56 "TradeWheel$Told" "wheel" "[I" : Cond) ∈ wsX3_startAs := by decide +kernel
set_option maxRecDepth 20000 in
theorem mX3_startAs_12 : (Cond.fieldLink RX3 40 "TradeWheel$World" "wheel" "[I" : Cond) ∈ wsX3_startAs := by decide +kernel
set_option maxRecDepth 20000 in
theorem mX3_startAs_13 : (Cond.fieldLink RX3 28 "TradeWheel$World" "stores" "[I" : Cond) ∈ wsX3_startAs := by decide +kernel
set_option maxRecDepth 20000 in
theorem mX3_startAs_14 : (Cond.fieldLink RX3 31 "TradeWheel$World" "lacked" "[I" : Cond) ∈ wsX3_startAs := by decide +kernel
set_option maxRecDepth 20000 in
theorem mX3_startAs_15 : (Cond.fieldLink RX3 34 "TradeWheel$World" "helpers" "[I" : Cond) ∈ wsX3_startAs := by decide +kernel
set_option maxRecDepth 20000 in
theorem mX3_startAs_16 : (Cond.fieldLink RX3 37 "TradeWheel$World" "favours" "[I" : Cond) ∈ wsX3_startAs := by decide +kernel
set_option maxHeartbeats 4000000 in
set_option maxRecDepth 100000 in
theorem wX3_startAs_65 {p : Program} {l : Launch} {e : Env} {s : State} {m : MethodId} {args : Array Value} {below : List Frame} {meth : Method} {c : Code} {Q : State → Prop} {A : Nat → Prop} {dC : Nat → ClassId} {dI : Nat → Nat → Nat} {Z : gZ} {cC cI cZ cW : ClassId} (hg0 : gX p s m args meth c cX3_startAs 3 none wsX3_startAs RX3 (dC, dI) Z [(cC, .char), (cI, .int), (cZ, .boolean), (cW, .object RX3)] A) (a_o a_o_skills a_o_places a_o_stores a_o_lacked a_o_helpers a_o_favours a_o_wheel a_o_works a_x1 a_x1_needs a_x1_yields a_x1_skips a_x1_skills a_x1_places a_x1_wheel : Nat) (o_round : Int32) (o_fell : Int32) (o_ills : Int32) (o_skills : Nat → Int32) (o_places : Nat → Int32) (o_helpers : Nat → Int32) (o_favours : Nat → Int32) (o_wheel : Nat → Int32) (x1_trades : Int32) (x1_people : Int32) (x1_tradesEnded : Int32) (x1_skills : Nat → Int32) (x1_places : Nat → Int32) (x1_wheel : Nat → Int32)  (N : Nat) : ∀ (n : Nat) (o_stores : Nat → Int32) (o_lacked : Nat → Int32) (l2 : Int32) (o_stores' : Nat → Int32) (o_lacked' : Nat → Int32) (l2' : Int32), fX3_startAs_65 N  n o_stores o_lacked l2 = some (o_stores', o_lacked', l2') → ∀ (H : Heap) (locs : List Loc) (ls : Array Slot), va_P (dC, dI) vwCl [(a_o, .inr (3, [.int o_round, .int o_fell, .int o_ills, .ref a_o_skills, .ref a_o_places, .ref a_o_stores, .ref a_o_lacked, .ref a_o_helpers, .ref a_o_favours, .ref a_o_wheel, .ref a_o_works])), (a_o_skills, .inl (cI, 36, .inl o_skills)), (a_o_places, .inl (cI, 6, .inl o_places)), (a_o_stores, .inl (cI, 6, .inl o_stores)), (a_o_lacked, .inl (cI, 6, .inl o_lacked)), (a_o_helpers, .inl (cI, 6, .inl o_helpers)), (a_o_favours, .inl (cI, 36, .inl o_favours)), (a_o_wheel, .inl (cI, 6, .inl o_wheel)), (a_x1, .inr (1, [.int x1_trades, .int x1_people, .ref a_x1_needs, .ref a_x1_yields, .ref a_x1_skips, .ref a_x1_skills, .ref a_x1_places, .ref a_x1_wheel, .int x1_tradesEnded])), (a_x1_skills, .inl (cI, 36, .inl x1_skills)), (a_x1_places, .inl (cI, 6, .inl x1_places)), (a_x1_wheel, .inl (cI, 6, .inl x1_wheel))] H → va_D A [(a_o, .inr (3, [.int o_round, .int o_fell, .int o_ills, .ref a_o_skills, .ref a_o_places, .ref a_o_stores, .ref a_o_lacked, .ref a_o_helpers, .ref a_o_favours, .ref a_o_wheel, .ref a_o_works])), (a_o_skills, .inl (cI, 36, .inl o_skills)), (a_o_places, .inl (cI, 6, .inl o_places)), (a_o_stores, .inl (cI, 6, .inl o_stores)), (a_o_lacked, .inl (cI, 6, .inl o_lacked)), (a_o_helpers, .inl (cI, 6, .inl o_helpers)), (a_o_favours, .inl (cI, 36, .inl o_favours)), (a_o_wheel, .inl (cI, 6, .inl o_wheel)), (a_x1, .inr (1, [.int x1_trades, .int x1_people, .ref a_x1_needs, .ref a_x1_yields, .ref a_x1_skips, .ref a_x1_skills, .ref a_x1_places, .ref a_x1_wheel, .int x1_tradesEnded])), (a_x1_skills, .inl (cI, 36, .inl x1_skills)), (a_x1_places, .inl (cI, 6, .inl x1_places)), (a_x1_wheel, .inl (cI, 6, .inl x1_wheel))] → va_S A s.heap H locs → lv_has ls 3 [(0, .ref a_o), (2, .int l2)] → (∀ (H : Heap) (locs : List Loc) (ls : Array Slot), va_P (dC, dI) vwCl [(a_o, .inr (3, [.int o_round, .int o_fell, .int o_ills, .ref a_o_skills, .ref a_o_places, .ref a_o_stores, .ref a_o_lacked, .ref a_o_helpers, .ref a_o_favours, .ref a_o_wheel, .ref a_o_works])), (a_o_skills, .inl (cI, 36, .inl o_skills)), (a_o_places, .inl (cI, 6, .inl o_places)), (a_o_stores, .inl (cI, 6, .inl o_stores')), (a_o_lacked, .inl (cI, 6, .inl o_lacked')), (a_o_helpers, .inl (cI, 6, .inl o_helpers)), (a_o_favours, .inl (cI, 36, .inl o_favours)), (a_o_wheel, .inl (cI, 6, .inl o_wheel)), (a_x1, .inr (1, [.int x1_trades, .int x1_people, .ref a_x1_needs, .ref a_x1_yields, .ref a_x1_skips, .ref a_x1_skills, .ref a_x1_places, .ref a_x1_wheel, .int x1_tradesEnded])), (a_x1_skills, .inl (cI, 36, .inl x1_skills)), (a_x1_places, .inl (cI, 6, .inl x1_places)), (a_x1_wheel, .inl (cI, 6, .inl x1_wheel))] H → va_D A [(a_o, .inr (3, [.int o_round, .int o_fell, .int o_ills, .ref a_o_skills, .ref a_o_places, .ref a_o_stores, .ref a_o_lacked, .ref a_o_helpers, .ref a_o_favours, .ref a_o_wheel, .ref a_o_works])), (a_o_skills, .inl (cI, 36, .inl o_skills)), (a_o_places, .inl (cI, 6, .inl o_places)), (a_o_stores, .inl (cI, 6, .inl o_stores')), (a_o_lacked, .inl (cI, 6, .inl o_lacked')), (a_o_helpers, .inl (cI, 6, .inl o_helpers)), (a_o_favours, .inl (cI, 36, .inl o_favours)), (a_o_wheel, .inl (cI, 6, .inl o_wheel)), (a_x1, .inr (1, [.int x1_trades, .int x1_people, .ref a_x1_needs, .ref a_x1_yields, .ref a_x1_skips, .ref a_x1_skills, .ref a_x1_places, .ref a_x1_wheel, .int x1_tradesEnded])), (a_x1_skills, .inl (cI, 36, .inl x1_skills)), (a_x1_places, .inl (cI, 6, .inl x1_places)), (a_x1_wheel, .inl (cI, 6, .inl x1_wheel))] → va_S A s.heap H locs → lv_has ls 3 [(0, .ref a_o)] → W p l e (headSpec wsX3_startAs rmX3_startAs).room s m args below meth c H locs 0 0 Q (F0 m 91 ls [])) → W p l e (headSpec wsX3_startAs rmX3_startAs).room s m args below meth c H locs 0 0 Q (F0 m 65 ls []) := by
  obtain ⟨hx, hb, hr, hml, hown, hts, hlocks, hA, hK, hN⟩ := id hg0
  have hF : CallFix p m c cX3_startAs 3 s args wsX3_startAs RX3 := ⟨hx, hb, hml, hown, hts⟩
  intro n
  induction n with
  | zero =>
    intro o_stores o_lacked l2 o_stores' o_lacked' l2' hf
    have hf := fX3_startAs_65_0.symm.trans hf
    cases hf
  | succ n ih =>
    intro o_stores o_lacked l2 o_stores' o_lacked' l2' hf H locs ls hP hD hS hl kx
    have hf := fX3_startAs_65_s.symm.trans hf
    refine lv_iload_n hx hb dX3_startAs_65 rfl (lv_at hl 1 rfl) ?_
    refine lv_bipush (v := (6 : Int32)) hx hb dX3_startAs_66 (by decide) ?_
    refine lv_icmp_ge (tgt := 91) hx hb dX3_startAs_68 (by decide) (fun c_1 => ?_) (fun c_1 => ?_)
    · have hf := pit hf c_1
      have q0 := Option.some.inj hf
      obtain ⟨e0, q1⟩ := Prod.mk.inj q0
      obtain ⟨e1, q2⟩ := Prod.mk.inj q1
      subst e0
      subst e1
      subst q2
      exact kx _ _ _ hP hD hS (lv_sub hl [0] rfl)
    · have hf := pif hf c_1
      refine lv_aload_n hx hb dX3_startAs_71 rfl (lv_at hl 0 rfl) ?_
      refine va_get (D := (dC, dI)) (ci := 3) (v := .ref a_o_stores) (C := RX3) (T := TX3) (N := 11) hx hb hts uX3_startAs_X3 hown hK hP 0 rfl rfl 5 (by decide) (hts _ mX3_startAs_13) (fun _ h9 => h9) rfl dX3_startAs_72 ?_
      refine lv_iload_n hx hb dX3_startAs_75 rfl (lv_at hl 1 rfl) ?_
      refine lv_iconst (v := (0 : Int32)) hx hb dX3_startAs_76 (by decide) ?_
      obtain ⟨h_2, hf⟩ := pgd hf
      refine va_iast hx hb hK hP hD hS 3 1 rfl rfl h_2 dX3_startAs_77 (fun H locs hP hD hS => ?_)
      have hP : va_P (dC, dI) vwCl [(a_o, .inr (3, [.int o_round, .int o_fell, .int o_ills, .ref a_o_skills, .ref a_o_places, .ref a_o_stores, .ref a_o_lacked, .ref a_o_helpers, .ref a_o_favours, .ref a_o_wheel, .ref a_o_works])), (a_o_skills, .inl (cI, 36, .inl o_skills)), (a_o_places, .inl (cI, 6, .inl o_places)), (a_o_stores, .inl (cI, 6, .inl (upd o_stores l2.toNatClampNeg (0 : Int32)))), (a_o_lacked, .inl (cI, 6, .inl o_lacked)), (a_o_helpers, .inl (cI, 6, .inl o_helpers)), (a_o_favours, .inl (cI, 36, .inl o_favours)), (a_o_wheel, .inl (cI, 6, .inl o_wheel)), (a_x1, .inr (1, [.int x1_trades, .int x1_people, .ref a_x1_needs, .ref a_x1_yields, .ref a_x1_skips, .ref a_x1_skills, .ref a_x1_places, .ref a_x1_wheel, .int x1_tradesEnded])), (a_x1_skills, .inl (cI, 36, .inl x1_skills)), (a_x1_places, .inl (cI, 6, .inl x1_places)), (a_x1_wheel, .inl (cI, 6, .inl x1_wheel))] H := hP
      have hD : va_D A [(a_o, .inr (3, [.int o_round, .int o_fell, .int o_ills, .ref a_o_skills, .ref a_o_places, .ref a_o_stores, .ref a_o_lacked, .ref a_o_helpers, .ref a_o_favours, .ref a_o_wheel, .ref a_o_works])), (a_o_skills, .inl (cI, 36, .inl o_skills)), (a_o_places, .inl (cI, 6, .inl o_places)), (a_o_stores, .inl (cI, 6, .inl (upd o_stores l2.toNatClampNeg (0 : Int32)))), (a_o_lacked, .inl (cI, 6, .inl o_lacked)), (a_o_helpers, .inl (cI, 6, .inl o_helpers)), (a_o_favours, .inl (cI, 36, .inl o_favours)), (a_o_wheel, .inl (cI, 6, .inl o_wheel)), (a_x1, .inr (1, [.int x1_trades, .int x1_people, .ref a_x1_needs, .ref a_x1_yields, .ref a_x1_skips, .ref a_x1_skills, .ref a_x1_places, .ref a_x1_wheel, .int x1_tradesEnded])), (a_x1_skills, .inl (cI, 36, .inl x1_skills)), (a_x1_places, .inl (cI, 6, .inl x1_places)), (a_x1_wheel, .inl (cI, 6, .inl x1_wheel))] := hD
      refine lv_aload_n hx hb dX3_startAs_78 rfl (lv_at hl 0 rfl) ?_
      refine va_get (D := (dC, dI)) (ci := 3) (v := .ref a_o_lacked) (C := RX3) (T := TX3) (N := 11) hx hb hts uX3_startAs_X3 hown hK hP 0 rfl rfl 6 (by decide) (hts _ mX3_startAs_14) (fun _ h9 => h9) rfl dX3_startAs_79 ?_
      refine lv_iload_n hx hb dX3_startAs_82 rfl (lv_at hl 1 rfl) ?_
      refine lv_iconst (v := (0 : Int32)) hx hb dX3_startAs_83 (by decide) ?_
      obtain ⟨h_3, hf⟩ := pgd hf
      refine va_iast hx hb hK hP hD hS 4 1 rfl rfl h_3 dX3_startAs_84 (fun H locs hP hD hS => ?_)
      have hP : va_P (dC, dI) vwCl [(a_o, .inr (3, [.int o_round, .int o_fell, .int o_ills, .ref a_o_skills, .ref a_o_places, .ref a_o_stores, .ref a_o_lacked, .ref a_o_helpers, .ref a_o_favours, .ref a_o_wheel, .ref a_o_works])), (a_o_skills, .inl (cI, 36, .inl o_skills)), (a_o_places, .inl (cI, 6, .inl o_places)), (a_o_stores, .inl (cI, 6, .inl (upd o_stores l2.toNatClampNeg (0 : Int32)))), (a_o_lacked, .inl (cI, 6, .inl (upd o_lacked l2.toNatClampNeg (0 : Int32)))), (a_o_helpers, .inl (cI, 6, .inl o_helpers)), (a_o_favours, .inl (cI, 36, .inl o_favours)), (a_o_wheel, .inl (cI, 6, .inl o_wheel)), (a_x1, .inr (1, [.int x1_trades, .int x1_people, .ref a_x1_needs, .ref a_x1_yields, .ref a_x1_skips, .ref a_x1_skills, .ref a_x1_places, .ref a_x1_wheel, .int x1_tradesEnded])), (a_x1_skills, .inl (cI, 36, .inl x1_skills)), (a_x1_places, .inl (cI, 6, .inl x1_places)), (a_x1_wheel, .inl (cI, 6, .inl x1_wheel))] H := hP
      have hD : va_D A [(a_o, .inr (3, [.int o_round, .int o_fell, .int o_ills, .ref a_o_skills, .ref a_o_places, .ref a_o_stores, .ref a_o_lacked, .ref a_o_helpers, .ref a_o_favours, .ref a_o_wheel, .ref a_o_works])), (a_o_skills, .inl (cI, 36, .inl o_skills)), (a_o_places, .inl (cI, 6, .inl o_places)), (a_o_stores, .inl (cI, 6, .inl (upd o_stores l2.toNatClampNeg (0 : Int32)))), (a_o_lacked, .inl (cI, 6, .inl (upd o_lacked l2.toNatClampNeg (0 : Int32)))), (a_o_helpers, .inl (cI, 6, .inl o_helpers)), (a_o_favours, .inl (cI, 36, .inl o_favours)), (a_o_wheel, .inl (cI, 6, .inl o_wheel)), (a_x1, .inr (1, [.int x1_trades, .int x1_people, .ref a_x1_needs, .ref a_x1_yields, .ref a_x1_skips, .ref a_x1_skills, .ref a_x1_places, .ref a_x1_wheel, .int x1_tradesEnded])), (a_x1_skills, .inl (cI, 36, .inl x1_skills)), (a_x1_places, .inl (cI, 6, .inl x1_places)), (a_x1_wheel, .inl (cI, 6, .inl x1_wheel))] := hD
      refine lv_iinc (v := (l2 + 1)) (lv' := [(2, .int (l2 + 1)), (0, .ref a_o)]) hx hb dX3_startAs_85 hl (k := 1) rfl rfl (by decide) rfl (fun ls hl => ?_)
      refine lv_goto (tgt := 65) hx hb dX3_startAs_88 (by decide) ?_
      exact ih _ _ _ _ _ _ hf _ _ _ hP hD hS (lv_sub hl [1, 0] rfl) kx
set_option maxHeartbeats 4000000 in
set_option maxRecDepth 100000 in
theorem wX3_startAs_93 {p : Program} {l : Launch} {e : Env} {s : State} {m : MethodId} {args : Array Value} {below : List Frame} {meth : Method} {c : Code} {Q : State → Prop} {A : Nat → Prop} {dC : Nat → ClassId} {dI : Nat → Nat → Nat} {Z : gZ} {cC cI cZ cW : ClassId} (hg0 : gX p s m args meth c cX3_startAs 3 none wsX3_startAs RX3 (dC, dI) Z [(cC, .char), (cI, .int), (cZ, .boolean), (cW, .object RX3)] A) (a_o a_o_skills a_o_places a_o_stores a_o_lacked a_o_helpers a_o_favours a_o_wheel a_o_works a_x1 a_x1_needs a_x1_yields a_x1_skips a_x1_skills a_x1_places a_x1_wheel : Nat) (o_round : Int32) (o_fell : Int32) (o_ills : Int32) (o_skills : Nat → Int32) (o_places : Nat → Int32) (o_stores : Nat → Int32) (o_lacked : Nat → Int32) (o_favours : Nat → Int32) (o_wheel : Nat → Int32) (x1_trades : Int32) (x1_people : Int32) (x1_tradesEnded : Int32) (x1_skills : Nat → Int32) (x1_places : Nat → Int32) (x1_wheel : Nat → Int32)  (N : Nat) : ∀ (n : Nat) (o_helpers : Nat → Int32) (l2 : Int32) (o_helpers' : Nat → Int32) (l2' : Int32), fX3_startAs_93 N  n o_helpers l2 = some (o_helpers', l2') → ∀ (H : Heap) (locs : List Loc) (ls : Array Slot), va_P (dC, dI) vwCl [(a_o, .inr (3, [.int o_round, .int o_fell, .int o_ills, .ref a_o_skills, .ref a_o_places, .ref a_o_stores, .ref a_o_lacked, .ref a_o_helpers, .ref a_o_favours, .ref a_o_wheel, .ref a_o_works])), (a_o_skills, .inl (cI, 36, .inl o_skills)), (a_o_places, .inl (cI, 6, .inl o_places)), (a_o_stores, .inl (cI, 6, .inl o_stores)), (a_o_lacked, .inl (cI, 6, .inl o_lacked)), (a_o_helpers, .inl (cI, 6, .inl o_helpers)), (a_o_favours, .inl (cI, 36, .inl o_favours)), (a_o_wheel, .inl (cI, 6, .inl o_wheel)), (a_x1, .inr (1, [.int x1_trades, .int x1_people, .ref a_x1_needs, .ref a_x1_yields, .ref a_x1_skips, .ref a_x1_skills, .ref a_x1_places, .ref a_x1_wheel, .int x1_tradesEnded])), (a_x1_skills, .inl (cI, 36, .inl x1_skills)), (a_x1_places, .inl (cI, 6, .inl x1_places)), (a_x1_wheel, .inl (cI, 6, .inl x1_wheel))] H → va_D A [(a_o, .inr (3, [.int o_round, .int o_fell, .int o_ills, .ref a_o_skills, .ref a_o_places, .ref a_o_stores, .ref a_o_lacked, .ref a_o_helpers, .ref a_o_favours, .ref a_o_wheel, .ref a_o_works])), (a_o_skills, .inl (cI, 36, .inl o_skills)), (a_o_places, .inl (cI, 6, .inl o_places)), (a_o_stores, .inl (cI, 6, .inl o_stores)), (a_o_lacked, .inl (cI, 6, .inl o_lacked)), (a_o_helpers, .inl (cI, 6, .inl o_helpers)), (a_o_favours, .inl (cI, 36, .inl o_favours)), (a_o_wheel, .inl (cI, 6, .inl o_wheel)), (a_x1, .inr (1, [.int x1_trades, .int x1_people, .ref a_x1_needs, .ref a_x1_yields, .ref a_x1_skips, .ref a_x1_skills, .ref a_x1_places, .ref a_x1_wheel, .int x1_tradesEnded])), (a_x1_skills, .inl (cI, 36, .inl x1_skills)), (a_x1_places, .inl (cI, 6, .inl x1_places)), (a_x1_wheel, .inl (cI, 6, .inl x1_wheel))] → va_S A s.heap H locs → lv_has ls 3 [(0, .ref a_o), (2, .int l2)] → (∀ (H : Heap) (locs : List Loc) (ls : Array Slot), va_P (dC, dI) vwCl [(a_o, .inr (3, [.int o_round, .int o_fell, .int o_ills, .ref a_o_skills, .ref a_o_places, .ref a_o_stores, .ref a_o_lacked, .ref a_o_helpers, .ref a_o_favours, .ref a_o_wheel, .ref a_o_works])), (a_o_skills, .inl (cI, 36, .inl o_skills)), (a_o_places, .inl (cI, 6, .inl o_places)), (a_o_stores, .inl (cI, 6, .inl o_stores)), (a_o_lacked, .inl (cI, 6, .inl o_lacked)), (a_o_helpers, .inl (cI, 6, .inl o_helpers')), (a_o_favours, .inl (cI, 36, .inl o_favours)), (a_o_wheel, .inl (cI, 6, .inl o_wheel)), (a_x1, .inr (1, [.int x1_trades, .int x1_people, .ref a_x1_needs, .ref a_x1_yields, .ref a_x1_skips, .ref a_x1_skills, .ref a_x1_places, .ref a_x1_wheel, .int x1_tradesEnded])), (a_x1_skills, .inl (cI, 36, .inl x1_skills)), (a_x1_places, .inl (cI, 6, .inl x1_places)), (a_x1_wheel, .inl (cI, 6, .inl x1_wheel))] H → va_D A [(a_o, .inr (3, [.int o_round, .int o_fell, .int o_ills, .ref a_o_skills, .ref a_o_places, .ref a_o_stores, .ref a_o_lacked, .ref a_o_helpers, .ref a_o_favours, .ref a_o_wheel, .ref a_o_works])), (a_o_skills, .inl (cI, 36, .inl o_skills)), (a_o_places, .inl (cI, 6, .inl o_places)), (a_o_stores, .inl (cI, 6, .inl o_stores)), (a_o_lacked, .inl (cI, 6, .inl o_lacked)), (a_o_helpers, .inl (cI, 6, .inl o_helpers')), (a_o_favours, .inl (cI, 36, .inl o_favours)), (a_o_wheel, .inl (cI, 6, .inl o_wheel)), (a_x1, .inr (1, [.int x1_trades, .int x1_people, .ref a_x1_needs, .ref a_x1_yields, .ref a_x1_skips, .ref a_x1_skills, .ref a_x1_places, .ref a_x1_wheel, .int x1_tradesEnded])), (a_x1_skills, .inl (cI, 36, .inl x1_skills)), (a_x1_places, .inl (cI, 6, .inl x1_places)), (a_x1_wheel, .inl (cI, 6, .inl x1_wheel))] → va_S A s.heap H locs → lv_has ls 3 [(0, .ref a_o)] → W p l e (headSpec wsX3_startAs rmX3_startAs).room s m args below meth c H locs 0 0 Q (F0 m 113 ls [])) → W p l e (headSpec wsX3_startAs rmX3_startAs).room s m args below meth c H locs 0 0 Q (F0 m 93 ls []) := by
  obtain ⟨hx, hb, hr, hml, hown, hts, hlocks, hA, hK, hN⟩ := id hg0
  have hF : CallFix p m c cX3_startAs 3 s args wsX3_startAs RX3 := ⟨hx, hb, hml, hown, hts⟩
  intro n
  induction n with
  | zero =>
    intro o_helpers l2 o_helpers' l2' hf
    have hf := fX3_startAs_93_0.symm.trans hf
    cases hf
  | succ n ih =>
    intro o_helpers l2 o_helpers' l2' hf H locs ls hP hD hS hl kx
    have hf := fX3_startAs_93_s.symm.trans hf
    refine lv_iload_n hx hb dX3_startAs_93 rfl (lv_at hl 1 rfl) ?_
    refine lv_bipush (v := (6 : Int32)) hx hb dX3_startAs_94 (by decide) ?_
    refine lv_icmp_ge (tgt := 113) hx hb dX3_startAs_96 (by decide) (fun c_1 => ?_) (fun c_1 => ?_)
    · have hf := pit hf c_1
      have q0 := Option.some.inj hf
      obtain ⟨e0, q1⟩ := Prod.mk.inj q0
      subst e0
      subst q1
      exact kx _ _ _ hP hD hS (lv_sub hl [0] rfl)
    · have hf := pif hf c_1
      refine lv_aload_n hx hb dX3_startAs_99 rfl (lv_at hl 0 rfl) ?_
      refine va_get (D := (dC, dI)) (ci := 3) (v := .ref a_o_helpers) (C := RX3) (T := TX3) (N := 11) hx hb hts uX3_startAs_X3 hown hK hP 0 rfl rfl 7 (by decide) (hts _ mX3_startAs_15) (fun _ h9 => h9) rfl dX3_startAs_100 ?_
      refine lv_iload_n hx hb dX3_startAs_103 rfl (lv_at hl 1 rfl) ?_
      refine lv_bipush (v := (-9 : Int32)) hx hb dX3_startAs_104 (by decide) ?_
      obtain ⟨h_2, hf⟩ := pgd hf
      refine va_iast hx hb hK hP hD hS 5 1 rfl rfl h_2 dX3_startAs_106 (fun H locs hP hD hS => ?_)
      have hP : va_P (dC, dI) vwCl [(a_o, .inr (3, [.int o_round, .int o_fell, .int o_ills, .ref a_o_skills, .ref a_o_places, .ref a_o_stores, .ref a_o_lacked, .ref a_o_helpers, .ref a_o_favours, .ref a_o_wheel, .ref a_o_works])), (a_o_skills, .inl (cI, 36, .inl o_skills)), (a_o_places, .inl (cI, 6, .inl o_places)), (a_o_stores, .inl (cI, 6, .inl o_stores)), (a_o_lacked, .inl (cI, 6, .inl o_lacked)), (a_o_helpers, .inl (cI, 6, .inl (upd o_helpers l2.toNatClampNeg (-9 : Int32)))), (a_o_favours, .inl (cI, 36, .inl o_favours)), (a_o_wheel, .inl (cI, 6, .inl o_wheel)), (a_x1, .inr (1, [.int x1_trades, .int x1_people, .ref a_x1_needs, .ref a_x1_yields, .ref a_x1_skips, .ref a_x1_skills, .ref a_x1_places, .ref a_x1_wheel, .int x1_tradesEnded])), (a_x1_skills, .inl (cI, 36, .inl x1_skills)), (a_x1_places, .inl (cI, 6, .inl x1_places)), (a_x1_wheel, .inl (cI, 6, .inl x1_wheel))] H := hP
      have hD : va_D A [(a_o, .inr (3, [.int o_round, .int o_fell, .int o_ills, .ref a_o_skills, .ref a_o_places, .ref a_o_stores, .ref a_o_lacked, .ref a_o_helpers, .ref a_o_favours, .ref a_o_wheel, .ref a_o_works])), (a_o_skills, .inl (cI, 36, .inl o_skills)), (a_o_places, .inl (cI, 6, .inl o_places)), (a_o_stores, .inl (cI, 6, .inl o_stores)), (a_o_lacked, .inl (cI, 6, .inl o_lacked)), (a_o_helpers, .inl (cI, 6, .inl (upd o_helpers l2.toNatClampNeg (-9 : Int32)))), (a_o_favours, .inl (cI, 36, .inl o_favours)), (a_o_wheel, .inl (cI, 6, .inl o_wheel)), (a_x1, .inr (1, [.int x1_trades, .int x1_people, .ref a_x1_needs, .ref a_x1_yields, .ref a_x1_skips, .ref a_x1_skills, .ref a_x1_places, .ref a_x1_wheel, .int x1_tradesEnded])), (a_x1_skills, .inl (cI, 36, .inl x1_skills)), (a_x1_places, .inl (cI, 6, .inl x1_places)), (a_x1_wheel, .inl (cI, 6, .inl x1_wheel))] := hD
      refine lv_iinc (v := (l2 + 1)) (lv' := [(2, .int (l2 + 1)), (0, .ref a_o)]) hx hb dX3_startAs_107 hl (k := 1) rfl rfl (by decide) rfl (fun ls hl => ?_)
      refine lv_goto (tgt := 93) hx hb dX3_startAs_110 (by decide) ?_
      exact ih _ _ _ _ hf _ _ _ hP hD hS (lv_sub hl [1, 0] rfl) kx
set_option maxHeartbeats 4000000 in
set_option maxRecDepth 100000 in
theorem wX3_startAs_115 {p : Program} {l : Launch} {e : Env} {s : State} {m : MethodId} {args : Array Value} {below : List Frame} {meth : Method} {c : Code} {Q : State → Prop} {A : Nat → Prop} {dC : Nat → ClassId} {dI : Nat → Nat → Nat} {Z : gZ} {cC cI cZ cW : ClassId} (hg0 : gX p s m args meth c cX3_startAs 3 none wsX3_startAs RX3 (dC, dI) Z [(cC, .char), (cI, .int), (cZ, .boolean), (cW, .object RX3)] A) (a_o a_o_skills a_o_places a_o_stores a_o_lacked a_o_helpers a_o_favours a_o_wheel a_o_works a_x1 a_x1_needs a_x1_yields a_x1_skips a_x1_skills a_x1_places a_x1_wheel : Nat) (o_round : Int32) (o_fell : Int32) (o_ills : Int32) (o_skills : Nat → Int32) (o_places : Nat → Int32) (o_stores : Nat → Int32) (o_lacked : Nat → Int32) (o_helpers : Nat → Int32) (o_wheel : Nat → Int32) (x1_trades : Int32) (x1_people : Int32) (x1_tradesEnded : Int32) (x1_skills : Nat → Int32) (x1_places : Nat → Int32) (x1_wheel : Nat → Int32)  (N : Nat) : ∀ (n : Nat) (o_favours : Nat → Int32) (l2 : Int32) (o_favours' : Nat → Int32) (l2' : Int32), fX3_startAs_115 N  n o_favours l2 = some (o_favours', l2') → ∀ (H : Heap) (locs : List Loc) (ls : Array Slot), va_P (dC, dI) vwCl [(a_o, .inr (3, [.int o_round, .int o_fell, .int o_ills, .ref a_o_skills, .ref a_o_places, .ref a_o_stores, .ref a_o_lacked, .ref a_o_helpers, .ref a_o_favours, .ref a_o_wheel, .ref a_o_works])), (a_o_skills, .inl (cI, 36, .inl o_skills)), (a_o_places, .inl (cI, 6, .inl o_places)), (a_o_stores, .inl (cI, 6, .inl o_stores)), (a_o_lacked, .inl (cI, 6, .inl o_lacked)), (a_o_helpers, .inl (cI, 6, .inl o_helpers)), (a_o_favours, .inl (cI, 36, .inl o_favours)), (a_o_wheel, .inl (cI, 6, .inl o_wheel)), (a_x1, .inr (1, [.int x1_trades, .int x1_people, .ref a_x1_needs, .ref a_x1_yields, .ref a_x1_skips, .ref a_x1_skills, .ref a_x1_places, .ref a_x1_wheel, .int x1_tradesEnded])), (a_x1_skills, .inl (cI, 36, .inl x1_skills)), (a_x1_places, .inl (cI, 6, .inl x1_places)), (a_x1_wheel, .inl (cI, 6, .inl x1_wheel))] H → va_D A [(a_o, .inr (3, [.int o_round, .int o_fell, .int o_ills, .ref a_o_skills, .ref a_o_places, .ref a_o_stores, .ref a_o_lacked, .ref a_o_helpers, .ref a_o_favours, .ref a_o_wheel, .ref a_o_works])), (a_o_skills, .inl (cI, 36, .inl o_skills)), (a_o_places, .inl (cI, 6, .inl o_places)), (a_o_stores, .inl (cI, 6, .inl o_stores)), (a_o_lacked, .inl (cI, 6, .inl o_lacked)), (a_o_helpers, .inl (cI, 6, .inl o_helpers)), (a_o_favours, .inl (cI, 36, .inl o_favours)), (a_o_wheel, .inl (cI, 6, .inl o_wheel)), (a_x1, .inr (1, [.int x1_trades, .int x1_people, .ref a_x1_needs, .ref a_x1_yields, .ref a_x1_skips, .ref a_x1_skills, .ref a_x1_places, .ref a_x1_wheel, .int x1_tradesEnded])), (a_x1_skills, .inl (cI, 36, .inl x1_skills)), (a_x1_places, .inl (cI, 6, .inl x1_places)), (a_x1_wheel, .inl (cI, 6, .inl x1_wheel))] → va_S A s.heap H locs → lv_has ls 3 [(0, .ref a_o), (2, .int l2)] → (∀ (H : Heap) (locs : List Loc) (ls : Array Slot), va_P (dC, dI) vwCl [(a_o, .inr (3, [.int o_round, .int o_fell, .int o_ills, .ref a_o_skills, .ref a_o_places, .ref a_o_stores, .ref a_o_lacked, .ref a_o_helpers, .ref a_o_favours, .ref a_o_wheel, .ref a_o_works])), (a_o_skills, .inl (cI, 36, .inl o_skills)), (a_o_places, .inl (cI, 6, .inl o_places)), (a_o_stores, .inl (cI, 6, .inl o_stores)), (a_o_lacked, .inl (cI, 6, .inl o_lacked)), (a_o_helpers, .inl (cI, 6, .inl o_helpers)), (a_o_favours, .inl (cI, 36, .inl o_favours')), (a_o_wheel, .inl (cI, 6, .inl o_wheel)), (a_x1, .inr (1, [.int x1_trades, .int x1_people, .ref a_x1_needs, .ref a_x1_yields, .ref a_x1_skips, .ref a_x1_skills, .ref a_x1_places, .ref a_x1_wheel, .int x1_tradesEnded])), (a_x1_skills, .inl (cI, 36, .inl x1_skills)), (a_x1_places, .inl (cI, 6, .inl x1_places)), (a_x1_wheel, .inl (cI, 6, .inl x1_wheel))] H → va_D A [(a_o, .inr (3, [.int o_round, .int o_fell, .int o_ills, .ref a_o_skills, .ref a_o_places, .ref a_o_stores, .ref a_o_lacked, .ref a_o_helpers, .ref a_o_favours, .ref a_o_wheel, .ref a_o_works])), (a_o_skills, .inl (cI, 36, .inl o_skills)), (a_o_places, .inl (cI, 6, .inl o_places)), (a_o_stores, .inl (cI, 6, .inl o_stores)), (a_o_lacked, .inl (cI, 6, .inl o_lacked)), (a_o_helpers, .inl (cI, 6, .inl o_helpers)), (a_o_favours, .inl (cI, 36, .inl o_favours')), (a_o_wheel, .inl (cI, 6, .inl o_wheel)), (a_x1, .inr (1, [.int x1_trades, .int x1_people, .ref a_x1_needs, .ref a_x1_yields, .ref a_x1_skips, .ref a_x1_skills, .ref a_x1_places, .ref a_x1_wheel, .int x1_tradesEnded])), (a_x1_skills, .inl (cI, 36, .inl x1_skills)), (a_x1_places, .inl (cI, 6, .inl x1_places)), (a_x1_wheel, .inl (cI, 6, .inl x1_wheel))] → va_S A s.heap H locs → lv_has ls 3 [] → W p l e (headSpec wsX3_startAs rmX3_startAs).room s m args below meth c H locs 0 0 Q (F0 m 137 ls [])) → W p l e (headSpec wsX3_startAs rmX3_startAs).room s m args below meth c H locs 0 0 Q (F0 m 115 ls []) := by
  obtain ⟨hx, hb, hr, hml, hown, hts, hlocks, hA, hK, hN⟩ := id hg0
  have hF : CallFix p m c cX3_startAs 3 s args wsX3_startAs RX3 := ⟨hx, hb, hml, hown, hts⟩
  intro n
  induction n with
  | zero =>
    intro o_favours l2 o_favours' l2' hf
    have hf := fX3_startAs_115_0.symm.trans hf
    cases hf
  | succ n ih =>
    intro o_favours l2 o_favours' l2' hf H locs ls hP hD hS hl kx
    have hf := fX3_startAs_115_s.symm.trans hf
    refine lv_iload_n hx hb dX3_startAs_115 rfl (lv_at hl 1 rfl) ?_
    refine lv_aload_n hx hb dX3_startAs_116 rfl (lv_at hl 0 rfl) ?_
    refine va_get (D := (dC, dI)) (ci := 3) (v := .ref a_o_favours) (C := RX3) (T := TX3) (N := 11) hx hb hts uX3_startAs_X3 hown hK hP 0 rfl rfl 8 (by decide) (hts _ mX3_startAs_16) (fun _ h9 => h9) rfl dX3_startAs_117 ?_
    refine va_alen (v := (36 : Int32)) hx hb hK hP 6 1 rfl rfl rfl dX3_startAs_120 ?_
    refine lv_icmp_ge (tgt := 137) hx hb dX3_startAs_121 (by decide) (fun c_1 => ?_) (fun c_1 => ?_)
    · have hf := pit hf c_1
      have q0 := Option.some.inj hf
      obtain ⟨e0, q1⟩ := Prod.mk.inj q0
      subst e0
      subst q1
      exact kx _ _ _ hP hD hS (lv_sub hl [] rfl)
    · have hf := pif hf c_1
      refine lv_aload_n hx hb dX3_startAs_124 rfl (lv_at hl 0 rfl) ?_
      refine va_get (D := (dC, dI)) (ci := 3) (v := .ref a_o_favours) (C := RX3) (T := TX3) (N := 11) hx hb hts uX3_startAs_X3 hown hK hP 0 rfl rfl 8 (by decide) (hts _ mX3_startAs_16) (fun _ h9 => h9) rfl dX3_startAs_125 ?_
      refine lv_iload_n hx hb dX3_startAs_128 rfl (lv_at hl 1 rfl) ?_
      refine lv_iconst (v := (0 : Int32)) hx hb dX3_startAs_129 (by decide) ?_
      obtain ⟨h_2, hf⟩ := pgd hf
      refine va_iast hx hb hK hP hD hS 6 1 rfl rfl h_2 dX3_startAs_130 (fun H locs hP hD hS => ?_)
      have hP : va_P (dC, dI) vwCl [(a_o, .inr (3, [.int o_round, .int o_fell, .int o_ills, .ref a_o_skills, .ref a_o_places, .ref a_o_stores, .ref a_o_lacked, .ref a_o_helpers, .ref a_o_favours, .ref a_o_wheel, .ref a_o_works])), (a_o_skills, .inl (cI, 36, .inl o_skills)), (a_o_places, .inl (cI, 6, .inl o_places)), (a_o_stores, .inl (cI, 6, .inl o_stores)), (a_o_lacked, .inl (cI, 6, .inl o_lacked)), (a_o_helpers, .inl (cI, 6, .inl o_helpers)), (a_o_favours, .inl (cI, 36, .inl (upd o_favours l2.toNatClampNeg (0 : Int32)))), (a_o_wheel, .inl (cI, 6, .inl o_wheel)), (a_x1, .inr (1, [.int x1_trades, .int x1_people, .ref a_x1_needs, .ref a_x1_yields, .ref a_x1_skips, .ref a_x1_skills, .ref a_x1_places, .ref a_x1_wheel, .int x1_tradesEnded])), (a_x1_skills, .inl (cI, 36, .inl x1_skills)), (a_x1_places, .inl (cI, 6, .inl x1_places)), (a_x1_wheel, .inl (cI, 6, .inl x1_wheel))] H := hP
      have hD : va_D A [(a_o, .inr (3, [.int o_round, .int o_fell, .int o_ills, .ref a_o_skills, .ref a_o_places, .ref a_o_stores, .ref a_o_lacked, .ref a_o_helpers, .ref a_o_favours, .ref a_o_wheel, .ref a_o_works])), (a_o_skills, .inl (cI, 36, .inl o_skills)), (a_o_places, .inl (cI, 6, .inl o_places)), (a_o_stores, .inl (cI, 6, .inl o_stores)), (a_o_lacked, .inl (cI, 6, .inl o_lacked)), (a_o_helpers, .inl (cI, 6, .inl o_helpers)), (a_o_favours, .inl (cI, 36, .inl (upd o_favours l2.toNatClampNeg (0 : Int32)))), (a_o_wheel, .inl (cI, 6, .inl o_wheel)), (a_x1, .inr (1, [.int x1_trades, .int x1_people, .ref a_x1_needs, .ref a_x1_yields, .ref a_x1_skips, .ref a_x1_skills, .ref a_x1_places, .ref a_x1_wheel, .int x1_tradesEnded])), (a_x1_skills, .inl (cI, 36, .inl x1_skills)), (a_x1_places, .inl (cI, 6, .inl x1_places)), (a_x1_wheel, .inl (cI, 6, .inl x1_wheel))] := hD
      refine lv_iinc (v := (l2 + 1)) (lv' := [(2, .int (l2 + 1)), (0, .ref a_o)]) hx hb dX3_startAs_131 hl (k := 1) rfl rfl (by decide) rfl (fun ls hl => ?_)
      refine lv_goto (tgt := 115) hx hb dX3_startAs_134 (by decide) ?_
      exact ih _ _ _ _ hf _ _ _ hP hD hS (lv_sub hl [1, 0] rfl) kx
set_option maxHeartbeats 4000000 in
set_option maxRecDepth 100000 in
theorem kX3_startAs (l : Launch) (dC : Nat → ClassId) (dI : Nat → Nat → Nat) (Z : gZ) (cC cI cZ cW : ClassId) (a_o a_o_skills a_o_places a_o_stores a_o_lacked a_o_helpers a_o_favours a_o_wheel a_o_works a_x1 a_x1_needs a_x1_yields a_x1_skips a_x1_skills a_x1_places a_x1_wheel : Nat) (sz : Nat) (o_round : Int32) (o_fell : Int32) (o_ills : Int32) (o_skills : Nat → Int32) (o_places : Nat → Int32) (o_stores : Nat → Int32) (o_lacked : Nat → Int32) (o_helpers : Nat → Int32) (o_favours : Nat → Int32) (o_wheel : Nat → Int32) (x1_trades : Int32) (x1_people : Int32) (x1_tradesEnded : Int32) (x1_skills : Nat → Int32) (x1_places : Nat → Int32) (x1_wheel : Nat → Int32)  (N : Nat) (o_round' : Int32) (o_fell' : Int32) (o_ills' : Int32) (o_skills' : Nat → Int32) (o_places' : Nat → Int32) (o_stores' : Nat → Int32) (o_lacked' : Nat → Int32) (o_helpers' : Nat → Int32) (o_favours' : Nat → Int32) (o_wheel' : Nat → Int32) (hf : fX3_startAs N o_round o_fell o_ills o_skills o_places o_stores o_lacked o_helpers o_favours o_wheel x1_skills x1_places x1_wheel   = some (o_round', o_fell', o_ills', o_skills', o_places', o_stores', o_lacked', o_helpers', o_favours', o_wheel')) : Met l yX3_startAs wsX3_startAs rmX3_startAs (va_Pc [.ref a_o, .ref a_x1] (gB (dC, dI) Z [(cC, .char), (cI, .int), (cZ, .boolean), (cW, .object RX3)] [(a_o, .inr (3, [.int o_round, .int o_fell, .int o_ills, .ref a_o_skills, .ref a_o_places, .ref a_o_stores, .ref a_o_lacked, .ref a_o_helpers, .ref a_o_favours, .ref a_o_wheel, .ref a_o_works])), (a_o_skills, .inl (cI, 36, .inl o_skills)), (a_o_places, .inl (cI, 6, .inl o_places)), (a_o_stores, .inl (cI, 6, .inl o_stores)), (a_o_lacked, .inl (cI, 6, .inl o_lacked)), (a_o_helpers, .inl (cI, 6, .inl o_helpers)), (a_o_favours, .inl (cI, 36, .inl o_favours)), (a_o_wheel, .inl (cI, 6, .inl o_wheel)), (a_x1, .inr (1, [.int x1_trades, .int x1_people, .ref a_x1_needs, .ref a_x1_yields, .ref a_x1_skips, .ref a_x1_skills, .ref a_x1_places, .ref a_x1_wheel, .int x1_tradesEnded])), (a_x1_skills, .inl (cI, 36, .inl x1_skills)), (a_x1_places, .inl (cI, 6, .inl x1_places)), (a_x1_wheel, .inl (cI, 6, .inl x1_wheel))] sz)) (va_Qv (fun (_ : Unit) => True) (gE (dC, dI) [(a_o, .inr (3, [.int o_round', .int o_fell', .int o_ills', .ref a_o_skills, .ref a_o_places, .ref a_o_stores, .ref a_o_lacked, .ref a_o_helpers, .ref a_o_favours, .ref a_o_wheel, .ref a_o_works])), (a_o_skills, .inl (cI, 36, .inl o_skills')), (a_o_places, .inl (cI, 6, .inl o_places')), (a_o_stores, .inl (cI, 6, .inl o_stores')), (a_o_lacked, .inl (cI, 6, .inl o_lacked')), (a_o_helpers, .inl (cI, 6, .inl o_helpers')), (a_o_favours, .inl (cI, 36, .inl o_favours')), (a_o_wheel, .inl (cI, 6, .inl o_wheel')), (a_x1, .inr (1, [.int x1_trades, .int x1_people, .ref a_x1_needs, .ref a_x1_yields, .ref a_x1_skips, .ref a_x1_skills, .ref a_x1_places, .ref a_x1_wheel, .int x1_tradesEnded])), (a_x1_skills, .inl (cI, 36, .inl x1_skills)), (a_x1_places, .inl (cI, 6, .inl x1_places)), (a_x1_wheel, .inl (cI, 6, .inl x1_wheel))]) (va_A [(a_o, .inr (3, [.int o_round, .int o_fell, .int o_ills, .ref a_o_skills, .ref a_o_places, .ref a_o_stores, .ref a_o_lacked, .ref a_o_helpers, .ref a_o_favours, .ref a_o_wheel, .ref a_o_works])), (a_o_skills, .inl (cI, 36, .inl o_skills)), (a_o_places, .inl (cI, 6, .inl o_places)), (a_o_stores, .inl (cI, 6, .inl o_stores)), (a_o_lacked, .inl (cI, 6, .inl o_lacked)), (a_o_helpers, .inl (cI, 6, .inl o_helpers)), (a_o_favours, .inl (cI, 36, .inl o_favours)), (a_o_wheel, .inl (cI, 6, .inl o_wheel)), (a_x1, .inr (1, [.int x1_trades, .int x1_people, .ref a_x1_needs, .ref a_x1_yields, .ref a_x1_skips, .ref a_x1_skills, .ref a_x1_places, .ref a_x1_wheel, .int x1_tradesEnded])), (a_x1_skills, .inl (cI, 36, .inl x1_skills)), (a_x1_places, .inl (cI, 6, .inl x1_places)), (a_x1_wheel, .inl (cI, 6, .inl x1_wheel))] sz)) 0 0 (va_A [(a_o, .inr (3, [.int o_round, .int o_fell, .int o_ills, .ref a_o_skills, .ref a_o_places, .ref a_o_stores, .ref a_o_lacked, .ref a_o_helpers, .ref a_o_favours, .ref a_o_wheel, .ref a_o_works])), (a_o_skills, .inl (cI, 36, .inl o_skills)), (a_o_places, .inl (cI, 6, .inl o_places)), (a_o_stores, .inl (cI, 6, .inl o_stores)), (a_o_lacked, .inl (cI, 6, .inl o_lacked)), (a_o_helpers, .inl (cI, 6, .inl o_helpers)), (a_o_favours, .inl (cI, 36, .inl o_favours)), (a_o_wheel, .inl (cI, 6, .inl o_wheel)), (a_x1, .inr (1, [.int x1_trades, .int x1_people, .ref a_x1_needs, .ref a_x1_yields, .ref a_x1_skips, .ref a_x1_skills, .ref a_x1_places, .ref a_x1_wheel, .int x1_tradesEnded])), (a_x1_skills, .inl (cI, 36, .inl x1_skills)), (a_x1_places, .inl (cI, 6, .inl x1_places)), (a_x1_wheel, .inl (cI, 6, .inl x1_wheel))] sz) := by
  refine gMet (cc := cX3_startAs) (maxL := 3) (ret := none) (Qc := fun A => va_Qv (fun (_ : Unit) => True) (gE (dC, dI) [(a_o, .inr (3, [.int o_round', .int o_fell', .int o_ills', .ref a_o_skills, .ref a_o_places, .ref a_o_stores, .ref a_o_lacked, .ref a_o_helpers, .ref a_o_favours, .ref a_o_wheel, .ref a_o_works])), (a_o_skills, .inl (cI, 36, .inl o_skills')), (a_o_places, .inl (cI, 6, .inl o_places')), (a_o_stores, .inl (cI, 6, .inl o_stores')), (a_o_lacked, .inl (cI, 6, .inl o_lacked')), (a_o_helpers, .inl (cI, 6, .inl o_helpers')), (a_o_favours, .inl (cI, 36, .inl o_favours')), (a_o_wheel, .inl (cI, 6, .inl o_wheel')), (a_x1, .inr (1, [.int x1_trades, .int x1_people, .ref a_x1_needs, .ref a_x1_yields, .ref a_x1_skips, .ref a_x1_skills, .ref a_x1_places, .ref a_x1_wheel, .int x1_tradesEnded])), (a_x1_skills, .inl (cI, 36, .inl x1_skills)), (a_x1_places, .inl (cI, 6, .inl x1_places)), (a_x1_wheel, .inl (cI, 6, .inl x1_wheel))]) A) (by decide) rfl (Nat.le_of_ble_eq_true rfl) ?_
  intro p e s m below meth c A ls hg0 _ hsz hP hD hS hl
  have hg0 : gX p s m _ meth c cX3_startAs 3 none wsX3_startAs RX3 (dC, dI) Z [(cC, .char), (cI, .int), (cZ, .boolean), (cW, .object RX3)] A := hg0
  obtain ⟨hx, hb, hr, hml, hown, hts, hlocks, hA, hK, hN⟩ := id hg0
  subst hsz
  have hF : CallFix p m c cX3_startAs 3 s _ wsX3_startAs RX3 := ⟨hx, hb, hml, hown, hts⟩
  have hl : lv_has ls 3 [(0, .ref a_o), (1, .ref a_x1)] := hl
  unfold fX3_startAs at hf
  refine lv_aload_n hx hb dX3_startAs_0 rfl (lv_at hl 0 rfl) ?_
  refine lv_iconst (v := (0 : Int32)) hx hb dX3_startAs_1 (by decide) ?_
  refine va_put (D := (dC, dI)) (ci := 3) (v := .int (0 : Int32)) (ty := .int) (C := RX3) (T := TX3) (N := 11) hx hb hts uX3_startAs_X3 tyX3 tyX3_ok nmX3 hown hK hP hD hS 0 rfl rfl 0 (by decide) (hts _ mX3_startAs_0) (fun _ h9 => h9) rfl (by decide +kernel) rfl rfl (Nat.le_of_ble_eq_true rfl) dX3_startAs_2 (fun H locs hP hD hS => ?_)
  have hP : va_P (dC, dI) vwCl [(a_o, .inr (3, [.int (0 : Int32), .int o_fell, .int o_ills, .ref a_o_skills, .ref a_o_places, .ref a_o_stores, .ref a_o_lacked, .ref a_o_helpers, .ref a_o_favours, .ref a_o_wheel, .ref a_o_works])), (a_o_skills, .inl (cI, 36, .inl o_skills)), (a_o_places, .inl (cI, 6, .inl o_places)), (a_o_stores, .inl (cI, 6, .inl o_stores)), (a_o_lacked, .inl (cI, 6, .inl o_lacked)), (a_o_helpers, .inl (cI, 6, .inl o_helpers)), (a_o_favours, .inl (cI, 36, .inl o_favours)), (a_o_wheel, .inl (cI, 6, .inl o_wheel)), (a_x1, .inr (1, [.int x1_trades, .int x1_people, .ref a_x1_needs, .ref a_x1_yields, .ref a_x1_skips, .ref a_x1_skills, .ref a_x1_places, .ref a_x1_wheel, .int x1_tradesEnded])), (a_x1_skills, .inl (cI, 36, .inl x1_skills)), (a_x1_places, .inl (cI, 6, .inl x1_places)), (a_x1_wheel, .inl (cI, 6, .inl x1_wheel))] H := hP
  have hD : va_D A [(a_o, .inr (3, [.int (0 : Int32), .int o_fell, .int o_ills, .ref a_o_skills, .ref a_o_places, .ref a_o_stores, .ref a_o_lacked, .ref a_o_helpers, .ref a_o_favours, .ref a_o_wheel, .ref a_o_works])), (a_o_skills, .inl (cI, 36, .inl o_skills)), (a_o_places, .inl (cI, 6, .inl o_places)), (a_o_stores, .inl (cI, 6, .inl o_stores)), (a_o_lacked, .inl (cI, 6, .inl o_lacked)), (a_o_helpers, .inl (cI, 6, .inl o_helpers)), (a_o_favours, .inl (cI, 36, .inl o_favours)), (a_o_wheel, .inl (cI, 6, .inl o_wheel)), (a_x1, .inr (1, [.int x1_trades, .int x1_people, .ref a_x1_needs, .ref a_x1_yields, .ref a_x1_skips, .ref a_x1_skills, .ref a_x1_places, .ref a_x1_wheel, .int x1_tradesEnded])), (a_x1_skills, .inl (cI, 36, .inl x1_skills)), (a_x1_places, .inl (cI, 6, .inl x1_places)), (a_x1_wheel, .inl (cI, 6, .inl x1_wheel))] := hD
  refine lv_aload_n hx hb dX3_startAs_5 rfl (lv_at hl 0 rfl) ?_
  refine lv_iconst (v := (0 : Int32)) hx hb dX3_startAs_6 (by decide) ?_
  refine va_put (D := (dC, dI)) (ci := 3) (v := .int (0 : Int32)) (ty := .int) (C := RX3) (T := TX3) (N := 11) hx hb hts uX3_startAs_X3 tyX3 tyX3_ok nmX3 hown hK hP hD hS 0 rfl rfl 1 (by decide) (hts _ mX3_startAs_1) (fun _ h9 => h9) rfl (by decide +kernel) rfl rfl (Nat.le_of_ble_eq_true rfl) dX3_startAs_7 (fun H locs hP hD hS => ?_)
  have hP : va_P (dC, dI) vwCl [(a_o, .inr (3, [.int (0 : Int32), .int (0 : Int32), .int o_ills, .ref a_o_skills, .ref a_o_places, .ref a_o_stores, .ref a_o_lacked, .ref a_o_helpers, .ref a_o_favours, .ref a_o_wheel, .ref a_o_works])), (a_o_skills, .inl (cI, 36, .inl o_skills)), (a_o_places, .inl (cI, 6, .inl o_places)), (a_o_stores, .inl (cI, 6, .inl o_stores)), (a_o_lacked, .inl (cI, 6, .inl o_lacked)), (a_o_helpers, .inl (cI, 6, .inl o_helpers)), (a_o_favours, .inl (cI, 36, .inl o_favours)), (a_o_wheel, .inl (cI, 6, .inl o_wheel)), (a_x1, .inr (1, [.int x1_trades, .int x1_people, .ref a_x1_needs, .ref a_x1_yields, .ref a_x1_skips, .ref a_x1_skills, .ref a_x1_places, .ref a_x1_wheel, .int x1_tradesEnded])), (a_x1_skills, .inl (cI, 36, .inl x1_skills)), (a_x1_places, .inl (cI, 6, .inl x1_places)), (a_x1_wheel, .inl (cI, 6, .inl x1_wheel))] H := hP
  have hD : va_D A [(a_o, .inr (3, [.int (0 : Int32), .int (0 : Int32), .int o_ills, .ref a_o_skills, .ref a_o_places, .ref a_o_stores, .ref a_o_lacked, .ref a_o_helpers, .ref a_o_favours, .ref a_o_wheel, .ref a_o_works])), (a_o_skills, .inl (cI, 36, .inl o_skills)), (a_o_places, .inl (cI, 6, .inl o_places)), (a_o_stores, .inl (cI, 6, .inl o_stores)), (a_o_lacked, .inl (cI, 6, .inl o_lacked)), (a_o_helpers, .inl (cI, 6, .inl o_helpers)), (a_o_favours, .inl (cI, 36, .inl o_favours)), (a_o_wheel, .inl (cI, 6, .inl o_wheel)), (a_x1, .inr (1, [.int x1_trades, .int x1_people, .ref a_x1_needs, .ref a_x1_yields, .ref a_x1_skips, .ref a_x1_skills, .ref a_x1_places, .ref a_x1_wheel, .int x1_tradesEnded])), (a_x1_skills, .inl (cI, 36, .inl x1_skills)), (a_x1_places, .inl (cI, 6, .inl x1_places)), (a_x1_wheel, .inl (cI, 6, .inl x1_wheel))] := hD
  refine lv_aload_n hx hb dX3_startAs_10 rfl (lv_at hl 0 rfl) ?_
  refine lv_iconst (v := (0 : Int32)) hx hb dX3_startAs_11 (by decide) ?_
  refine va_put (D := (dC, dI)) (ci := 3) (v := .int (0 : Int32)) (ty := .int) (C := RX3) (T := TX3) (N := 11) hx hb hts uX3_startAs_X3 tyX3 tyX3_ok nmX3 hown hK hP hD hS 0 rfl rfl 2 (by decide) (hts _ mX3_startAs_2) (fun _ h9 => h9) rfl (by decide +kernel) rfl rfl (Nat.le_of_ble_eq_true rfl) dX3_startAs_12 (fun H locs hP hD hS => ?_)
  have hP : va_P (dC, dI) vwCl [(a_o, .inr (3, [.int (0 : Int32), .int (0 : Int32), .int (0 : Int32), .ref a_o_skills, .ref a_o_places, .ref a_o_stores, .ref a_o_lacked, .ref a_o_helpers, .ref a_o_favours, .ref a_o_wheel, .ref a_o_works])), (a_o_skills, .inl (cI, 36, .inl o_skills)), (a_o_places, .inl (cI, 6, .inl o_places)), (a_o_stores, .inl (cI, 6, .inl o_stores)), (a_o_lacked, .inl (cI, 6, .inl o_lacked)), (a_o_helpers, .inl (cI, 6, .inl o_helpers)), (a_o_favours, .inl (cI, 36, .inl o_favours)), (a_o_wheel, .inl (cI, 6, .inl o_wheel)), (a_x1, .inr (1, [.int x1_trades, .int x1_people, .ref a_x1_needs, .ref a_x1_yields, .ref a_x1_skips, .ref a_x1_skills, .ref a_x1_places, .ref a_x1_wheel, .int x1_tradesEnded])), (a_x1_skills, .inl (cI, 36, .inl x1_skills)), (a_x1_places, .inl (cI, 6, .inl x1_places)), (a_x1_wheel, .inl (cI, 6, .inl x1_wheel))] H := hP
  have hD : va_D A [(a_o, .inr (3, [.int (0 : Int32), .int (0 : Int32), .int (0 : Int32), .ref a_o_skills, .ref a_o_places, .ref a_o_stores, .ref a_o_lacked, .ref a_o_helpers, .ref a_o_favours, .ref a_o_wheel, .ref a_o_works])), (a_o_skills, .inl (cI, 36, .inl o_skills)), (a_o_places, .inl (cI, 6, .inl o_places)), (a_o_stores, .inl (cI, 6, .inl o_stores)), (a_o_lacked, .inl (cI, 6, .inl o_lacked)), (a_o_helpers, .inl (cI, 6, .inl o_helpers)), (a_o_favours, .inl (cI, 36, .inl o_favours)), (a_o_wheel, .inl (cI, 6, .inl o_wheel)), (a_x1, .inr (1, [.int x1_trades, .int x1_people, .ref a_x1_needs, .ref a_x1_yields, .ref a_x1_skips, .ref a_x1_skills, .ref a_x1_places, .ref a_x1_wheel, .int x1_tradesEnded])), (a_x1_skills, .inl (cI, 36, .inl x1_skills)), (a_x1_places, .inl (cI, 6, .inl x1_places)), (a_x1_wheel, .inl (cI, 6, .inl x1_wheel))] := hD
  refine lv_aload_n hx hb dX3_startAs_15 rfl (lv_at hl 1 rfl) ?_
  refine va_get (D := (dC, dI)) (ci := 1) (v := .ref a_x1_skills) (C := RX1) (T := TX1) (N := 9) hx hb hts uX3_startAs_X1 hown hK hP 8 rfl rfl 5 (by decide) (hts _ mX3_startAs_3) (fun _ h9 => h9) rfl dX3_startAs_16 ?_
  refine lv_iconst (v := (0 : Int32)) hx hb dX3_startAs_19 (by decide) ?_
  refine lv_aload_n hx hb dX3_startAs_20 rfl (lv_at hl 0 rfl) ?_
  refine va_get (D := (dC, dI)) (ci := 3) (v := .ref a_o_skills) (C := RX3) (T := TX3) (N := 11) hx hb hts uX3_startAs_X3 hown hK hP 0 rfl rfl 3 (by decide) (hts _ mX3_startAs_4) (fun _ h9 => h9) rfl dX3_startAs_21 ?_
  refine lv_iconst (v := (0 : Int32)) hx hb dX3_startAs_24 (by decide) ?_
  refine lv_aload_n hx hb dX3_startAs_25 rfl (lv_at hl 0 rfl) ?_
  refine va_get (D := (dC, dI)) (ci := 3) (v := .ref a_o_skills) (C := RX3) (T := TX3) (N := 11) hx hb hts uX3_startAs_X3 hown hK hP 0 rfl rfl 3 (by decide) (hts _ mX3_startAs_4) (fun _ h9 => h9) rfl dX3_startAs_26 ?_
  refine va_alen (v := (36 : Int32)) hx hb hK hP 1 1 rfl rfl rfl dX3_startAs_29 ?_
  refine va_copyi hx hb (hml.trans hl.1.symm) hown (hts _ mX3_startAs_5) (hts _ mX3_startAs_6) (hts _ mX3_startAs_7) (hts _ mX3_startAs_8) hK hP hD hS 9 1 1 1 rfl rfl rfl rfl rfl (by decide) (by decide) (by decide) (by decide) (by decide) (fun _ _ => rfl) (Nat.le_of_ble_eq_true rfl) (Nat.le_of_ble_eq_true rfl) dX3_startAs_30 (fun H locs hP hD hS => ?_)
  have hP : va_P (dC, dI) vwCl [(a_o, .inr (3, [.int (0 : Int32), .int (0 : Int32), .int (0 : Int32), .ref a_o_skills, .ref a_o_places, .ref a_o_stores, .ref a_o_lacked, .ref a_o_helpers, .ref a_o_favours, .ref a_o_wheel, .ref a_o_works])), (a_o_skills, .inl (cI, 36, .inl (va_cpy x1_skills o_skills 0 0 36))), (a_o_places, .inl (cI, 6, .inl o_places)), (a_o_stores, .inl (cI, 6, .inl o_stores)), (a_o_lacked, .inl (cI, 6, .inl o_lacked)), (a_o_helpers, .inl (cI, 6, .inl o_helpers)), (a_o_favours, .inl (cI, 36, .inl o_favours)), (a_o_wheel, .inl (cI, 6, .inl o_wheel)), (a_x1, .inr (1, [.int x1_trades, .int x1_people, .ref a_x1_needs, .ref a_x1_yields, .ref a_x1_skips, .ref a_x1_skills, .ref a_x1_places, .ref a_x1_wheel, .int x1_tradesEnded])), (a_x1_skills, .inl (cI, 36, .inl x1_skills)), (a_x1_places, .inl (cI, 6, .inl x1_places)), (a_x1_wheel, .inl (cI, 6, .inl x1_wheel))] H := hP
  have hD : va_D A [(a_o, .inr (3, [.int (0 : Int32), .int (0 : Int32), .int (0 : Int32), .ref a_o_skills, .ref a_o_places, .ref a_o_stores, .ref a_o_lacked, .ref a_o_helpers, .ref a_o_favours, .ref a_o_wheel, .ref a_o_works])), (a_o_skills, .inl (cI, 36, .inl (va_cpy x1_skills o_skills 0 0 36))), (a_o_places, .inl (cI, 6, .inl o_places)), (a_o_stores, .inl (cI, 6, .inl o_stores)), (a_o_lacked, .inl (cI, 6, .inl o_lacked)), (a_o_helpers, .inl (cI, 6, .inl o_helpers)), (a_o_favours, .inl (cI, 36, .inl o_favours)), (a_o_wheel, .inl (cI, 6, .inl o_wheel)), (a_x1, .inr (1, [.int x1_trades, .int x1_people, .ref a_x1_needs, .ref a_x1_yields, .ref a_x1_skips, .ref a_x1_skills, .ref a_x1_places, .ref a_x1_wheel, .int x1_tradesEnded])), (a_x1_skills, .inl (cI, 36, .inl x1_skills)), (a_x1_places, .inl (cI, 6, .inl x1_places)), (a_x1_wheel, .inl (cI, 6, .inl x1_wheel))] := hD
  refine lv_aload_n hx hb dX3_startAs_33 rfl (lv_at hl 1 rfl) ?_
  refine va_get (D := (dC, dI)) (ci := 1) (v := .ref a_x1_places) (C := RX1) (T := TX1) (N := 9) hx hb hts uX3_startAs_X1 hown hK hP 8 rfl rfl 6 (by decide) (hts _ mX3_startAs_9) (fun _ h9 => h9) rfl dX3_startAs_34 ?_
  refine lv_iconst (v := (0 : Int32)) hx hb dX3_startAs_37 (by decide) ?_
  refine lv_aload_n hx hb dX3_startAs_38 rfl (lv_at hl 0 rfl) ?_
  refine va_get (D := (dC, dI)) (ci := 3) (v := .ref a_o_places) (C := RX3) (T := TX3) (N := 11) hx hb hts uX3_startAs_X3 hown hK hP 0 rfl rfl 4 (by decide) (hts _ mX3_startAs_10) (fun _ h9 => h9) rfl dX3_startAs_39 ?_
  refine lv_iconst (v := (0 : Int32)) hx hb dX3_startAs_42 (by decide) ?_
  refine lv_bipush (v := (6 : Int32)) hx hb dX3_startAs_43 (by decide) ?_
  refine va_copyi hx hb (hml.trans hl.1.symm) hown (hts _ mX3_startAs_5) (hts _ mX3_startAs_6) (hts _ mX3_startAs_7) (hts _ mX3_startAs_8) hK hP hD hS 10 2 1 1 rfl rfl rfl rfl rfl (by decide) (by decide) (by decide) (by decide) (by decide) (fun _ _ => rfl) (Nat.le_of_ble_eq_true rfl) (Nat.le_of_ble_eq_true rfl) dX3_startAs_45 (fun H locs hP hD hS => ?_)
  have hP : va_P (dC, dI) vwCl [(a_o, .inr (3, [.int (0 : Int32), .int (0 : Int32), .int (0 : Int32), .ref a_o_skills, .ref a_o_places, .ref a_o_stores, .ref a_o_lacked, .ref a_o_helpers, .ref a_o_favours, .ref a_o_wheel, .ref a_o_works])), (a_o_skills, .inl (cI, 36, .inl (va_cpy x1_skills o_skills 0 0 36))), (a_o_places, .inl (cI, 6, .inl (va_cpy x1_places o_places 0 0 6))), (a_o_stores, .inl (cI, 6, .inl o_stores)), (a_o_lacked, .inl (cI, 6, .inl o_lacked)), (a_o_helpers, .inl (cI, 6, .inl o_helpers)), (a_o_favours, .inl (cI, 36, .inl o_favours)), (a_o_wheel, .inl (cI, 6, .inl o_wheel)), (a_x1, .inr (1, [.int x1_trades, .int x1_people, .ref a_x1_needs, .ref a_x1_yields, .ref a_x1_skips, .ref a_x1_skills, .ref a_x1_places, .ref a_x1_wheel, .int x1_tradesEnded])), (a_x1_skills, .inl (cI, 36, .inl x1_skills)), (a_x1_places, .inl (cI, 6, .inl x1_places)), (a_x1_wheel, .inl (cI, 6, .inl x1_wheel))] H := hP
  have hD : va_D A [(a_o, .inr (3, [.int (0 : Int32), .int (0 : Int32), .int (0 : Int32), .ref a_o_skills, .ref a_o_places, .ref a_o_stores, .ref a_o_lacked, .ref a_o_helpers, .ref a_o_favours, .ref a_o_wheel, .ref a_o_works])), (a_o_skills, .inl (cI, 36, .inl (va_cpy x1_skills o_skills 0 0 36))), (a_o_places, .inl (cI, 6, .inl (va_cpy x1_places o_places 0 0 6))), (a_o_stores, .inl (cI, 6, .inl o_stores)), (a_o_lacked, .inl (cI, 6, .inl o_lacked)), (a_o_helpers, .inl (cI, 6, .inl o_helpers)), (a_o_favours, .inl (cI, 36, .inl o_favours)), (a_o_wheel, .inl (cI, 6, .inl o_wheel)), (a_x1, .inr (1, [.int x1_trades, .int x1_people, .ref a_x1_needs, .ref a_x1_yields, .ref a_x1_skips, .ref a_x1_skills, .ref a_x1_places, .ref a_x1_wheel, .int x1_tradesEnded])), (a_x1_skills, .inl (cI, 36, .inl x1_skills)), (a_x1_places, .inl (cI, 6, .inl x1_places)), (a_x1_wheel, .inl (cI, 6, .inl x1_wheel))] := hD
  refine lv_aload_n hx hb dX3_startAs_48 rfl (lv_at hl 1 rfl) ?_
  refine va_get (D := (dC, dI)) (ci := 1) (v := .ref a_x1_wheel) (C := RX1) (T := TX1) (N := 9) hx hb hts uX3_startAs_X1 hown hK hP 8 rfl rfl 7 (by decide) (hts _ mX3_startAs_11) (fun _ h9 => h9) rfl dX3_startAs_49 ?_
  refine lv_iconst (v := (0 : Int32)) hx hb dX3_startAs_52 (by decide) ?_
  refine lv_aload_n hx hb dX3_startAs_53 rfl (lv_at hl 0 rfl) ?_
  refine va_get (D := (dC, dI)) (ci := 3) (v := .ref a_o_wheel) (C := RX3) (T := TX3) (N := 11) hx hb hts uX3_startAs_X3 hown hK hP 0 rfl rfl 9 (by decide) (hts _ mX3_startAs_12) (fun _ h9 => h9) rfl dX3_startAs_54 ?_
  refine lv_iconst (v := (0 : Int32)) hx hb dX3_startAs_57 (by decide) ?_
  refine lv_bipush (v := (6 : Int32)) hx hb dX3_startAs_58 (by decide) ?_
  refine va_copyi hx hb (hml.trans hl.1.symm) hown (hts _ mX3_startAs_5) (hts _ mX3_startAs_6) (hts _ mX3_startAs_7) (hts _ mX3_startAs_8) hK hP hD hS 11 7 1 1 rfl rfl rfl rfl rfl (by decide) (by decide) (by decide) (by decide) (by decide) (fun _ _ => rfl) (Nat.le_of_ble_eq_true rfl) (Nat.le_of_ble_eq_true rfl) dX3_startAs_60 (fun H locs hP hD hS => ?_)
  have hP : va_P (dC, dI) vwCl [(a_o, .inr (3, [.int (0 : Int32), .int (0 : Int32), .int (0 : Int32), .ref a_o_skills, .ref a_o_places, .ref a_o_stores, .ref a_o_lacked, .ref a_o_helpers, .ref a_o_favours, .ref a_o_wheel, .ref a_o_works])), (a_o_skills, .inl (cI, 36, .inl (va_cpy x1_skills o_skills 0 0 36))), (a_o_places, .inl (cI, 6, .inl (va_cpy x1_places o_places 0 0 6))), (a_o_stores, .inl (cI, 6, .inl o_stores)), (a_o_lacked, .inl (cI, 6, .inl o_lacked)), (a_o_helpers, .inl (cI, 6, .inl o_helpers)), (a_o_favours, .inl (cI, 36, .inl o_favours)), (a_o_wheel, .inl (cI, 6, .inl (va_cpy x1_wheel o_wheel 0 0 6))), (a_x1, .inr (1, [.int x1_trades, .int x1_people, .ref a_x1_needs, .ref a_x1_yields, .ref a_x1_skips, .ref a_x1_skills, .ref a_x1_places, .ref a_x1_wheel, .int x1_tradesEnded])), (a_x1_skills, .inl (cI, 36, .inl x1_skills)), (a_x1_places, .inl (cI, 6, .inl x1_places)), (a_x1_wheel, .inl (cI, 6, .inl x1_wheel))] H := hP
  have hD : va_D A [(a_o, .inr (3, [.int (0 : Int32), .int (0 : Int32), .int (0 : Int32), .ref a_o_skills, .ref a_o_places, .ref a_o_stores, .ref a_o_lacked, .ref a_o_helpers, .ref a_o_favours, .ref a_o_wheel, .ref a_o_works])), (a_o_skills, .inl (cI, 36, .inl (va_cpy x1_skills o_skills 0 0 36))), (a_o_places, .inl (cI, 6, .inl (va_cpy x1_places o_places 0 0 6))), (a_o_stores, .inl (cI, 6, .inl o_stores)), (a_o_lacked, .inl (cI, 6, .inl o_lacked)), (a_o_helpers, .inl (cI, 6, .inl o_helpers)), (a_o_favours, .inl (cI, 36, .inl o_favours)), (a_o_wheel, .inl (cI, 6, .inl (va_cpy x1_wheel o_wheel 0 0 6))), (a_x1, .inr (1, [.int x1_trades, .int x1_people, .ref a_x1_needs, .ref a_x1_yields, .ref a_x1_skips, .ref a_x1_skills, .ref a_x1_places, .ref a_x1_wheel, .int x1_tradesEnded])), (a_x1_skills, .inl (cI, 36, .inl x1_skills)), (a_x1_places, .inl (cI, 6, .inl x1_places)), (a_x1_wheel, .inl (cI, 6, .inl x1_wheel))] := hD
  refine lv_iconst (v := (0 : Int32)) hx hb dX3_startAs_63 (by decide) ?_
  refine lv_istore_n (lv' := [(2, .int (0 : Int32)), (0, .ref a_o), (1, .ref a_x1)]) hx hb dX3_startAs_64 rfl hl (by decide) rfl (fun ls hl => ?_)
  obtain ⟨o_stores_1, o_lacked_2, l2_3, hc, hf⟩ := pb3 hf
  refine wX3_startAs_65 hg0 a_o a_o_skills a_o_places a_o_stores a_o_lacked a_o_helpers a_o_favours a_o_wheel a_o_works a_x1 a_x1_needs a_x1_yields a_x1_skips a_x1_skills a_x1_places a_x1_wheel (0 : Int32) (0 : Int32) (0 : Int32) (va_cpy x1_skills o_skills 0 0 36) (va_cpy x1_places o_places 0 0 6) o_helpers o_favours (va_cpy x1_wheel o_wheel 0 0 6) x1_trades x1_people x1_tradesEnded x1_skills x1_places x1_wheel  N N o_stores o_lacked (0 : Int32) o_stores_1 o_lacked_2 l2_3 hc _ _ _ hP hD hS (lv_sub hl [1, 0] rfl) (fun H locs ls hP hD hS hl => ?_)
  refine lv_iconst (v := (0 : Int32)) hx hb dX3_startAs_91 (by decide) ?_
  refine lv_istore_n (lv' := [(2, .int (0 : Int32)), (0, .ref a_o)]) hx hb dX3_startAs_92 rfl hl (by decide) rfl (fun ls hl => ?_)
  obtain ⟨o_helpers_4, l2_5, hc, hf⟩ := pb2 hf
  refine wX3_startAs_93 hg0 a_o a_o_skills a_o_places a_o_stores a_o_lacked a_o_helpers a_o_favours a_o_wheel a_o_works a_x1 a_x1_needs a_x1_yields a_x1_skips a_x1_skills a_x1_places a_x1_wheel (0 : Int32) (0 : Int32) (0 : Int32) (va_cpy x1_skills o_skills 0 0 36) (va_cpy x1_places o_places 0 0 6) o_stores_1 o_lacked_2 o_favours (va_cpy x1_wheel o_wheel 0 0 6) x1_trades x1_people x1_tradesEnded x1_skills x1_places x1_wheel  N N o_helpers (0 : Int32) o_helpers_4 l2_5 hc _ _ _ hP hD hS (lv_sub hl [1, 0] rfl) (fun H locs ls hP hD hS hl => ?_)
  refine lv_iconst (v := (0 : Int32)) hx hb dX3_startAs_113 (by decide) ?_
  refine lv_istore_n (lv' := [(2, .int (0 : Int32)), (0, .ref a_o)]) hx hb dX3_startAs_114 rfl hl (by decide) rfl (fun ls hl => ?_)
  obtain ⟨o_favours_6, l2_7, hc, hf⟩ := pb2 hf
  refine wX3_startAs_115 hg0 a_o a_o_skills a_o_places a_o_stores a_o_lacked a_o_helpers a_o_favours a_o_wheel a_o_works a_x1 a_x1_needs a_x1_yields a_x1_skips a_x1_skills a_x1_places a_x1_wheel (0 : Int32) (0 : Int32) (0 : Int32) (va_cpy x1_skills o_skills 0 0 36) (va_cpy x1_places o_places 0 0 6) o_stores_1 o_lacked_2 o_helpers_4 (va_cpy x1_wheel o_wheel 0 0 6) x1_trades x1_people x1_tradesEnded x1_skills x1_places x1_wheel  N N o_favours (0 : Int32) o_favours_6 l2_7 hc _ _ _ hP hD hS (lv_sub hl [1, 0] rfl) (fun H locs ls hP hD hS hl => ?_)
  have q0 := Option.some.inj hf
  obtain ⟨e0, q1⟩ := Prod.mk.inj q0
  obtain ⟨e1, q2⟩ := Prod.mk.inj q1
  obtain ⟨e2, q3⟩ := Prod.mk.inj q2
  obtain ⟨e3, q4⟩ := Prod.mk.inj q3
  obtain ⟨e4, q5⟩ := Prod.mk.inj q4
  obtain ⟨e5, q6⟩ := Prod.mk.inj q5
  obtain ⟨e6, q7⟩ := Prod.mk.inj q6
  obtain ⟨e7, q8⟩ := Prod.mk.inj q7
  obtain ⟨e8, q9⟩ := Prod.mk.inj q8
  subst e0
  subst e1
  subst e2
  subst e3
  subst e4
  subst e5
  subst e6
  subst e7
  subst e8
  subst q9
  exact gRv hx hb hr hlocks hP hS dX3_startAs_137
abbrev rmX3_isIll : Room := { frames := 0, cells := 0, slots := 0, locals := 0 }
set_option maxRecDepth 20000 in
theorem uX3_isIll_X3 : ∀ w ∈ wsX30, w ∈ wsX3_isIll := by decide +kernel
set_option maxRecDepth 20000 in
theorem mX3_isIll_0 : (Cond.fieldLink RX3 18 "TradeWheel$World" "ills" "I" : Cond) ∈ wsX3_isIll := by decide +kernel
set_option maxHeartbeats 4000000 in
set_option maxRecDepth 100000 in
theorem kX3_isIll (l : Launch) (dC : Nat → ClassId) (dI : Nat → Nat → Nat) (Z : gZ) (cC cI cZ cW : ClassId) (a_o a_o_skills a_o_places a_o_stores a_o_lacked a_o_helpers a_o_favours a_o_wheel a_o_works : Nat) (sz : Nat) (o_round : Int32) (o_fell : Int32) (o_ills : Int32) (i1 : Int32) (N : Nat) (r' : Int32) (hf : fX3_isIll N o_ills  i1 = some r') : Met l yX3_isIll wsX3_isIll rmX3_isIll (va_Pc [.ref a_o, .int i1] (gB (dC, dI) Z [(cC, .char), (cI, .int), (cZ, .boolean), (cW, .object RX3)] [(a_o, .inr (3, [.int o_round, .int o_fell, .int o_ills, .ref a_o_skills, .ref a_o_places, .ref a_o_stores, .ref a_o_lacked, .ref a_o_helpers, .ref a_o_favours, .ref a_o_wheel, .ref a_o_works]))] sz)) (va_Qi (fun (r : Int32) (_ : Unit) => r = r') (gE (dC, dI) [(a_o, .inr (3, [.int o_round, .int o_fell, .int o_ills, .ref a_o_skills, .ref a_o_places, .ref a_o_stores, .ref a_o_lacked, .ref a_o_helpers, .ref a_o_favours, .ref a_o_wheel, .ref a_o_works]))]) (va_A [(a_o, .inr (3, [.int o_round, .int o_fell, .int o_ills, .ref a_o_skills, .ref a_o_places, .ref a_o_stores, .ref a_o_lacked, .ref a_o_helpers, .ref a_o_favours, .ref a_o_wheel, .ref a_o_works]))] sz)) 0 0 (va_A [(a_o, .inr (3, [.int o_round, .int o_fell, .int o_ills, .ref a_o_skills, .ref a_o_places, .ref a_o_stores, .ref a_o_lacked, .ref a_o_helpers, .ref a_o_favours, .ref a_o_wheel, .ref a_o_works]))] sz) := by
  refine gMet (cc := cX3_isIll) (maxL := 2) (ret := (some .boolean)) (Qc := fun A => va_Qi (fun (r : Int32) (_ : Unit) => r = r') (gE (dC, dI) [(a_o, .inr (3, [.int o_round, .int o_fell, .int o_ills, .ref a_o_skills, .ref a_o_places, .ref a_o_stores, .ref a_o_lacked, .ref a_o_helpers, .ref a_o_favours, .ref a_o_wheel, .ref a_o_works]))]) A) (by decide) rfl (Nat.le_of_ble_eq_true rfl) ?_
  intro p e s m below meth c A ls hg0 _ hsz hP hD hS hl
  have hg0 : gX p s m _ meth c cX3_isIll 2 (some .boolean) wsX3_isIll RX3 (dC, dI) Z [(cC, .char), (cI, .int), (cZ, .boolean), (cW, .object RX3)] A := hg0
  obtain ⟨hx, hb, hr, hml, hown, hts, hlocks, hA, hK, hN⟩ := id hg0
  subst hsz
  have hF : CallFix p m c cX3_isIll 2 s _ wsX3_isIll RX3 := ⟨hx, hb, hml, hown, hts⟩
  have hl : lv_has ls 2 [(0, .ref a_o), (1, .int i1)] := hl
  unfold fX3_isIll at hf
  refine lv_aload_n hx hb dX3_isIll_0 rfl (lv_at hl 0 rfl) ?_
  refine va_get (D := (dC, dI)) (ci := 3) (v := .int o_ills) (C := RX3) (T := TX3) (N := 11) hx hb hts uX3_isIll_X3 hown hK hP 0 rfl rfl 2 (by decide) (hts _ mX3_isIll_0) (fun _ h9 => h9) rfl dX3_isIll_1 ?_
  refine lv_iload_n hx hb dX3_isIll_4 rfl (lv_at hl 1 rfl) ?_
  refine lv_ishr hx hb dX3_isIll_5 ?_
  refine lv_iconst (v := (1 : Int32)) hx hb dX3_isIll_6 (by decide) ?_
  refine lv_iand hx hb dX3_isIll_7 ?_
  refine lv_if_eq (tgt := 15) hx hb dX3_isIll_8 (by decide) (fun c_1 => ?_) (fun c_1 => ?_)
  · have hf := pit hf c_1
    refine lv_iconst (v := (0 : Int32)) hx hb dX3_isIll_15 (by decide) ?_
    have q0 := Option.some.inj hf
    subst q0
    exact gRz hx hb hr rfl hlocks hP hS dX3_isIll_16
  · have hf := pif hf c_1
    refine lv_iconst (v := (1 : Int32)) hx hb dX3_isIll_11 (by decide) ?_
    refine lv_goto (tgt := 16) hx hb dX3_isIll_12 (by decide) ?_
    have q0 := Option.some.inj hf
    subst q0
    exact gRz hx hb hr rfl hlocks hP hS dX3_isIll_16
abbrev rmX3_workplace : Room := { frames := 1, cells := 0, slots := 0, locals := 21 }
set_option maxRecDepth 20000 in
theorem uX3_workplace_X1 : ∀ w ∈ wsX10, w ∈ wsX3_workplace := by decide +kernel
set_option maxRecDepth 20000 in
theorem uX3_workplace_X3 : ∀ w ∈ wsX30, w ∈ wsX3_workplace := by decide +kernel
set_option maxRecDepth 20000 in
theorem mX3_workplace_0 : (Cond.fieldLink RX3 25 "TradeWheel$World" "places" "[I" : Cond) ∈ wsX3_workplace := by decide +kernel
set_option maxRecDepth 20000 in
theorem mX3_workplace_1 : (Cond.fieldLink RX3 57 "TradeWheel$Told" "trades" "I" : Cond) ∈ wsX3_workplace := by decide +kernel
set_option maxRecDepth 20000 in
theorem mX3_workplace_2 : (Cond.fieldLink RX3 60 "TradeWheel$Told" "skips" "[I" : Cond) ∈ wsX3_workplace := by decide +kernel
set_option maxRecDepth 20000 in
theorem mX3_workplace_3 : (Cond.fieldLink RX3 40 "TradeWheel$World" "wheel" "[I" : Cond) ∈ wsX3_workplace := by decide +kernel
set_option maxHeartbeats 4000000 in
set_option maxRecDepth 100000 in
theorem wX3_workplace_10 {p : Program} {l : Launch} {e : Env} {s : State} {m : MethodId} {args : Array Value} {below : List Frame} {meth : Method} {c : Code} {Q : State → Prop} {A : Nat → Prop} {dC : Nat → ClassId} {dI : Nat → Nat → Nat} {Z : gZ} {cC cI cZ cW : ClassId} (hg0 : gX p s m args meth c cX3_workplace 5 (some .int) wsX3_workplace RX3 (dC, dI) Z [(cC, .char), (cI, .int), (cZ, .boolean), (cW, .object RX3)] A) (a_o a_o_skills a_o_places a_o_stores a_o_lacked a_o_helpers a_o_favours a_o_wheel a_o_works a_x2 a_x2_needs a_x2_yields a_x2_skips a_x2_skills a_x2_places a_x2_wheel : Nat) (o_round : Int32) (o_fell : Int32) (o_ills : Int32) (o_places : Nat → Int32) (o_wheel : Nat → Int32) (x2_trades : Int32) (x2_people : Int32) (x2_tradesEnded : Int32) (x2_skips : Nat → Int32) (l1 : Int32) (N : Nat) : ∀ (n : Nat) (l3 : Int32) (l4 : Int32) (ro' : Option Int32) (l3' : Int32) (l4' : Int32), fX3_workplace_10 N o_wheel x2_trades x2_skips l1 n l3 l4 = some (ro', l3', l4') → ∀ (H : Heap) (locs : List Loc) (ls : Array Slot), va_P (dC, dI) vwCl [(a_o, .inr (3, [.int o_round, .int o_fell, .int o_ills, .ref a_o_skills, .ref a_o_places, .ref a_o_stores, .ref a_o_lacked, .ref a_o_helpers, .ref a_o_favours, .ref a_o_wheel, .ref a_o_works])), (a_o_places, .inl (cI, 6, .inl o_places)), (a_o_wheel, .inl (cI, 6, .inl o_wheel)), (a_x2, .inr (1, [.int x2_trades, .int x2_people, .ref a_x2_needs, .ref a_x2_yields, .ref a_x2_skips, .ref a_x2_skills, .ref a_x2_places, .ref a_x2_wheel, .int x2_tradesEnded])), (a_x2_skips, .inl (cI, 6, .inl x2_skips))] H → va_D A [(a_o, .inr (3, [.int o_round, .int o_fell, .int o_ills, .ref a_o_skills, .ref a_o_places, .ref a_o_stores, .ref a_o_lacked, .ref a_o_helpers, .ref a_o_favours, .ref a_o_wheel, .ref a_o_works])), (a_o_places, .inl (cI, 6, .inl o_places)), (a_o_wheel, .inl (cI, 6, .inl o_wheel)), (a_x2, .inr (1, [.int x2_trades, .int x2_people, .ref a_x2_needs, .ref a_x2_yields, .ref a_x2_skips, .ref a_x2_skills, .ref a_x2_places, .ref a_x2_wheel, .int x2_tradesEnded])), (a_x2_skips, .inl (cI, 6, .inl x2_skips))] → va_S A s.heap H locs → lv_has ls 5 [(0, .ref a_o), (1, .int l1), (2, .ref a_x2), (3, .int l3), (4, .int l4)] → (ro' = none → ∀ (H : Heap) (locs : List Loc) (ls : Array Slot), va_P (dC, dI) vwCl [(a_o, .inr (3, [.int o_round, .int o_fell, .int o_ills, .ref a_o_skills, .ref a_o_places, .ref a_o_stores, .ref a_o_lacked, .ref a_o_helpers, .ref a_o_favours, .ref a_o_wheel, .ref a_o_works])), (a_o_places, .inl (cI, 6, .inl o_places)), (a_o_wheel, .inl (cI, 6, .inl o_wheel)), (a_x2, .inr (1, [.int x2_trades, .int x2_people, .ref a_x2_needs, .ref a_x2_yields, .ref a_x2_skips, .ref a_x2_skills, .ref a_x2_places, .ref a_x2_wheel, .int x2_tradesEnded])), (a_x2_skips, .inl (cI, 6, .inl x2_skips))] H → va_D A [(a_o, .inr (3, [.int o_round, .int o_fell, .int o_ills, .ref a_o_skills, .ref a_o_places, .ref a_o_stores, .ref a_o_lacked, .ref a_o_helpers, .ref a_o_favours, .ref a_o_wheel, .ref a_o_works])), (a_o_places, .inl (cI, 6, .inl o_places)), (a_o_wheel, .inl (cI, 6, .inl o_wheel)), (a_x2, .inr (1, [.int x2_trades, .int x2_people, .ref a_x2_needs, .ref a_x2_yields, .ref a_x2_skips, .ref a_x2_skills, .ref a_x2_places, .ref a_x2_wheel, .int x2_tradesEnded])), (a_x2_skips, .inl (cI, 6, .inl x2_skips))] → va_S A s.heap H locs → lv_has ls 5 [] → W p l e (headSpec wsX3_workplace rmX3_workplace).room s m args below meth c H locs 0 0 Q (F0 m 51 ls [])) → (∀ r9 : Int32, ro' = some r9 → ∀ (H : Heap) (locs : List Loc) (ls : Array Slot), va_P (dC, dI) vwCl [(a_o, .inr (3, [.int o_round, .int o_fell, .int o_ills, .ref a_o_skills, .ref a_o_places, .ref a_o_stores, .ref a_o_lacked, .ref a_o_helpers, .ref a_o_favours, .ref a_o_wheel, .ref a_o_works])), (a_o_places, .inl (cI, 6, .inl o_places)), (a_o_wheel, .inl (cI, 6, .inl o_wheel)), (a_x2, .inr (1, [.int x2_trades, .int x2_people, .ref a_x2_needs, .ref a_x2_yields, .ref a_x2_skips, .ref a_x2_skills, .ref a_x2_places, .ref a_x2_wheel, .int x2_tradesEnded])), (a_x2_skips, .inl (cI, 6, .inl x2_skips))] H → va_D A [(a_o, .inr (3, [.int o_round, .int o_fell, .int o_ills, .ref a_o_skills, .ref a_o_places, .ref a_o_stores, .ref a_o_lacked, .ref a_o_helpers, .ref a_o_favours, .ref a_o_wheel, .ref a_o_works])), (a_o_places, .inl (cI, 6, .inl o_places)), (a_o_wheel, .inl (cI, 6, .inl o_wheel)), (a_x2, .inr (1, [.int x2_trades, .int x2_people, .ref a_x2_needs, .ref a_x2_yields, .ref a_x2_skips, .ref a_x2_skills, .ref a_x2_places, .ref a_x2_wheel, .int x2_tradesEnded])), (a_x2_skips, .inl (cI, 6, .inl x2_skips))] → va_S A s.heap H locs → W p l e (headSpec wsX3_workplace rmX3_workplace).room s m args below meth c H locs 0 0 Q (F0 m 38 ls [.int r9])) → W p l e (headSpec wsX3_workplace rmX3_workplace).room s m args below meth c H locs 0 0 Q (F0 m 10 ls []) := by
  obtain ⟨hx, hb, hr, hml, hown, hts, hlocks, hA, hK, hN⟩ := id hg0
  have hF : CallFix p m c cX3_workplace 5 s args wsX3_workplace RX3 := ⟨hx, hb, hml, hown, hts⟩
  intro n
  induction n with
  | zero =>
    intro l3 l4 ro' l3' l4' hf
    have hf := fX3_workplace_10_0.symm.trans hf
    cases hf
  | succ n ih =>
    intro l3 l4 ro' l3' l4' hf H locs ls hP hD hS hl kx kr38
    have hf := fX3_workplace_10_s.symm.trans hf
    refine lv_iload hx hb dX3_workplace_10 (lv_at hl 4 rfl) ?_
    refine lv_aload_n hx hb dX3_workplace_12 rfl (lv_at hl 2 rfl) ?_
    refine va_get (D := (dC, dI)) (ci := 1) (v := .int x2_trades) (C := RX1) (T := TX1) (N := 9) hx hb hts uX3_workplace_X1 hown hK hP 3 rfl rfl 0 (by decide) (hts _ mX3_workplace_1) (fun _ h9 => h9) rfl dX3_workplace_13 ?_
    refine lv_icmp_ge (tgt := 51) hx hb dX3_workplace_16 (by decide) (fun c_1 => ?_) (fun c_1 => ?_)
    · have hf := pit hf c_1
      have q0 := Option.some.inj hf
      obtain ⟨e0, q1⟩ := Prod.mk.inj q0
      obtain ⟨e1, q2⟩ := Prod.mk.inj q1
      subst e0
      subst e1
      subst q2
      exact kx rfl _ _ _ hP hD hS (lv_sub hl [] rfl)
    · have hf := pif hf c_1
      refine lv_aload_n hx hb dX3_workplace_19 rfl (lv_at hl 2 rfl) ?_
      refine va_get (D := (dC, dI)) (ci := 1) (v := .ref a_x2_skips) (C := RX1) (T := TX1) (N := 9) hx hb hts uX3_workplace_X1 hown hK hP 3 rfl rfl 4 (by decide) (hts _ mX3_workplace_2) (fun _ h9 => h9) rfl dX3_workplace_20 ?_
      refine lv_iload_n hx hb dX3_workplace_23 rfl (lv_at hl 1 rfl) ?_
      obtain ⟨h_2, hf⟩ := pgd hf
      refine va_iald hx hb hK hP 4 1 rfl rfl h_2 dX3_workplace_24 ?_
      refine lv_aload_n hx hb dX3_workplace_25 rfl (lv_at hl 0 rfl) ?_
      refine va_get (D := (dC, dI)) (ci := 3) (v := .ref a_o_wheel) (C := RX3) (T := TX3) (N := 11) hx hb hts uX3_workplace_X3 hown hK hP 0 rfl rfl 9 (by decide) (hts _ mX3_workplace_3) (fun _ h9 => h9) rfl dX3_workplace_26 ?_
      refine lv_iload_n hx hb dX3_workplace_29 rfl (lv_at hl 3 rfl) ?_
      obtain ⟨h_3, hf⟩ := pgd hf
      refine va_iald hx hb hK hP 2 1 rfl rfl h_3 dX3_workplace_30 ?_
      refine lv_ishr hx hb dX3_workplace_31 ?_
      refine lv_iconst (v := (1 : Int32)) hx hb dX3_workplace_32 (by decide) ?_
      refine lv_iand hx hb dX3_workplace_33 ?_
      refine lv_if_ne (tgt := 39) hx hb dX3_workplace_34 (by decide) (fun c_4 => ?_) (fun c_4 => ?_)
      · have hf := pif hf c_4
        refine lv_aload_n hx hb dX3_workplace_39 rfl (lv_at hl 2 rfl) ?_
        refine lv_iload_n hx hb dX3_workplace_40 rfl (lv_at hl 3 rfl) ?_
        obtain ⟨r_5, hc, hf⟩ := pb1 hf
        refine gCi (va_runV (As := [.int l3]) (rest := []) hF (kX1_behind l dC dI Z cC cI cZ cW a_x2 a_x2_needs a_x2_yields a_x2_skips a_x2_skills a_x2_places a_x2_wheel _ x2_trades x2_people x2_tradesEnded l3 N r_5 hc) (cwV 1 hts gX3_workplace_X1_behind rfl rfl rfl (by decide +kernel) ⟨Nat.le_of_ble_eq_true rfl, Nat.le_of_ble_eq_true rfl⟩) (gPV (wc := [(a_x2, .inr (1, [.int x2_trades, .int x2_people, .ref a_x2_needs, .ref a_x2_yields, .ref a_x2_skips, .ref a_x2_skills, .ref a_x2_places, .ref a_x2_wheel, .int x2_tradesEnded]))]) hK hN hA hS hP hD [3] rfl rfl (q0 := 0) (ci := 1) rfl rfl rfl) rfl rfl hl.1 rfl (lv_room (Nat.le_of_ble_eq_true rfl)) dX3_workplace_41 ⟨Nat.zero_le _, Nat.zero_le _⟩) hP hD hS hA [3] rfl rfl rfl (fun H locs hP hD hS => ?_)
        have hP : va_P (dC, dI) vwCl [(a_o, .inr (3, [.int o_round, .int o_fell, .int o_ills, .ref a_o_skills, .ref a_o_places, .ref a_o_stores, .ref a_o_lacked, .ref a_o_helpers, .ref a_o_favours, .ref a_o_wheel, .ref a_o_works])), (a_o_places, .inl (cI, 6, .inl o_places)), (a_o_wheel, .inl (cI, 6, .inl o_wheel)), (a_x2, .inr (1, [.int x2_trades, .int x2_people, .ref a_x2_needs, .ref a_x2_yields, .ref a_x2_skips, .ref a_x2_skills, .ref a_x2_places, .ref a_x2_wheel, .int x2_tradesEnded])), (a_x2_skips, .inl (cI, 6, .inl x2_skips))] H := hP
        have hD : va_D A [(a_o, .inr (3, [.int o_round, .int o_fell, .int o_ills, .ref a_o_skills, .ref a_o_places, .ref a_o_stores, .ref a_o_lacked, .ref a_o_helpers, .ref a_o_favours, .ref a_o_wheel, .ref a_o_works])), (a_o_places, .inl (cI, 6, .inl o_places)), (a_o_wheel, .inl (cI, 6, .inl o_wheel)), (a_x2, .inr (1, [.int x2_trades, .int x2_people, .ref a_x2_needs, .ref a_x2_yields, .ref a_x2_skips, .ref a_x2_skills, .ref a_x2_places, .ref a_x2_wheel, .int x2_tradesEnded])), (a_x2_skips, .inl (cI, 6, .inl x2_skips))] := hD
        refine lv_istore_n (lv' := [(3, .int r_5), (0, .ref a_o), (1, .int l1), (2, .ref a_x2), (4, .int l4)]) hx hb dX3_workplace_44 rfl hl (by decide) rfl (fun ls hl => ?_)
        refine lv_iinc (v := (l4 + 1)) (lv' := [(4, .int (l4 + 1)), (3, .int r_5), (0, .ref a_o), (1, .int l1), (2, .ref a_x2)]) hx hb dX3_workplace_45 hl (k := 4) rfl rfl (by decide) rfl (fun ls hl => ?_)
        refine lv_goto (tgt := 10) hx hb dX3_workplace_48 (by decide) ?_
        exact ih _ _ _ _ _ hf _ _ _ hP hD hS (lv_sub hl [2, 3, 4, 1, 0] rfl) kx kr38
      · have hf := pit hf c_4
        refine lv_iload_n hx hb dX3_workplace_37 rfl (lv_at hl 3 rfl) ?_
        have q0 := Option.some.inj hf
        obtain ⟨e0, q1⟩ := Prod.mk.inj q0
        obtain ⟨e1, q2⟩ := Prod.mk.inj q1
        subst e0
        subst e1
        subst q2
        exact kr38 _ rfl _ _ _ hP hD hS
set_option maxHeartbeats 4000000 in
set_option maxRecDepth 100000 in
theorem kX3_workplace (l : Launch) (dC : Nat → ClassId) (dI : Nat → Nat → Nat) (Z : gZ) (cC cI cZ cW : ClassId) (a_o a_o_skills a_o_places a_o_stores a_o_lacked a_o_helpers a_o_favours a_o_wheel a_o_works a_x2 a_x2_needs a_x2_yields a_x2_skips a_x2_skills a_x2_places a_x2_wheel : Nat) (sz : Nat) (o_round : Int32) (o_fell : Int32) (o_ills : Int32) (o_places : Nat → Int32) (o_wheel : Nat → Int32) (x2_trades : Int32) (x2_people : Int32) (x2_tradesEnded : Int32) (x2_skips : Nat → Int32) (i1 : Int32) (N : Nat) (r' : Int32) (hf : fX3_workplace N o_places o_wheel x2_trades x2_skips  i1 = some r') : Met l yX3_workplace wsX3_workplace rmX3_workplace (va_Pc [.ref a_o, .int i1, .ref a_x2] (gB (dC, dI) Z [(cC, .char), (cI, .int), (cZ, .boolean), (cW, .object RX3)] [(a_o, .inr (3, [.int o_round, .int o_fell, .int o_ills, .ref a_o_skills, .ref a_o_places, .ref a_o_stores, .ref a_o_lacked, .ref a_o_helpers, .ref a_o_favours, .ref a_o_wheel, .ref a_o_works])), (a_o_places, .inl (cI, 6, .inl o_places)), (a_o_wheel, .inl (cI, 6, .inl o_wheel)), (a_x2, .inr (1, [.int x2_trades, .int x2_people, .ref a_x2_needs, .ref a_x2_yields, .ref a_x2_skips, .ref a_x2_skills, .ref a_x2_places, .ref a_x2_wheel, .int x2_tradesEnded])), (a_x2_skips, .inl (cI, 6, .inl x2_skips))] sz)) (va_Qi (fun (r : Int32) (_ : Unit) => r = r') (gE (dC, dI) [(a_o, .inr (3, [.int o_round, .int o_fell, .int o_ills, .ref a_o_skills, .ref a_o_places, .ref a_o_stores, .ref a_o_lacked, .ref a_o_helpers, .ref a_o_favours, .ref a_o_wheel, .ref a_o_works])), (a_o_places, .inl (cI, 6, .inl o_places)), (a_o_wheel, .inl (cI, 6, .inl o_wheel)), (a_x2, .inr (1, [.int x2_trades, .int x2_people, .ref a_x2_needs, .ref a_x2_yields, .ref a_x2_skips, .ref a_x2_skills, .ref a_x2_places, .ref a_x2_wheel, .int x2_tradesEnded])), (a_x2_skips, .inl (cI, 6, .inl x2_skips))]) (va_A [(a_o, .inr (3, [.int o_round, .int o_fell, .int o_ills, .ref a_o_skills, .ref a_o_places, .ref a_o_stores, .ref a_o_lacked, .ref a_o_helpers, .ref a_o_favours, .ref a_o_wheel, .ref a_o_works])), (a_o_places, .inl (cI, 6, .inl o_places)), (a_o_wheel, .inl (cI, 6, .inl o_wheel)), (a_x2, .inr (1, [.int x2_trades, .int x2_people, .ref a_x2_needs, .ref a_x2_yields, .ref a_x2_skips, .ref a_x2_skills, .ref a_x2_places, .ref a_x2_wheel, .int x2_tradesEnded])), (a_x2_skips, .inl (cI, 6, .inl x2_skips))] sz)) 0 0 (va_A [(a_o, .inr (3, [.int o_round, .int o_fell, .int o_ills, .ref a_o_skills, .ref a_o_places, .ref a_o_stores, .ref a_o_lacked, .ref a_o_helpers, .ref a_o_favours, .ref a_o_wheel, .ref a_o_works])), (a_o_places, .inl (cI, 6, .inl o_places)), (a_o_wheel, .inl (cI, 6, .inl o_wheel)), (a_x2, .inr (1, [.int x2_trades, .int x2_people, .ref a_x2_needs, .ref a_x2_yields, .ref a_x2_skips, .ref a_x2_skills, .ref a_x2_places, .ref a_x2_wheel, .int x2_tradesEnded])), (a_x2_skips, .inl (cI, 6, .inl x2_skips))] sz) := by
  refine gMet (cc := cX3_workplace) (maxL := 5) (ret := (some .int)) (Qc := fun A => va_Qi (fun (r : Int32) (_ : Unit) => r = r') (gE (dC, dI) [(a_o, .inr (3, [.int o_round, .int o_fell, .int o_ills, .ref a_o_skills, .ref a_o_places, .ref a_o_stores, .ref a_o_lacked, .ref a_o_helpers, .ref a_o_favours, .ref a_o_wheel, .ref a_o_works])), (a_o_places, .inl (cI, 6, .inl o_places)), (a_o_wheel, .inl (cI, 6, .inl o_wheel)), (a_x2, .inr (1, [.int x2_trades, .int x2_people, .ref a_x2_needs, .ref a_x2_yields, .ref a_x2_skips, .ref a_x2_skills, .ref a_x2_places, .ref a_x2_wheel, .int x2_tradesEnded])), (a_x2_skips, .inl (cI, 6, .inl x2_skips))]) A) (by decide) rfl (Nat.le_of_ble_eq_true rfl) ?_
  intro p e s m below meth c A ls hg0 _ hsz hP hD hS hl
  have hg0 : gX p s m _ meth c cX3_workplace 5 (some .int) wsX3_workplace RX3 (dC, dI) Z [(cC, .char), (cI, .int), (cZ, .boolean), (cW, .object RX3)] A := hg0
  obtain ⟨hx, hb, hr, hml, hown, hts, hlocks, hA, hK, hN⟩ := id hg0
  subst hsz
  have hF : CallFix p m c cX3_workplace 5 s _ wsX3_workplace RX3 := ⟨hx, hb, hml, hown, hts⟩
  have hl : lv_has ls 5 [(0, .ref a_o), (1, .int i1), (2, .ref a_x2)] := hl
  unfold fX3_workplace at hf
  refine lv_aload_n hx hb dX3_workplace_0 rfl (lv_at hl 0 rfl) ?_
  refine va_get (D := (dC, dI)) (ci := 3) (v := .ref a_o_places) (C := RX3) (T := TX3) (N := 11) hx hb hts uX3_workplace_X3 hown hK hP 0 rfl rfl 4 (by decide) (hts _ mX3_workplace_0) (fun _ h9 => h9) rfl dX3_workplace_1 ?_
  refine lv_iload_n hx hb dX3_workplace_4 rfl (lv_at hl 1 rfl) ?_
  obtain ⟨h_1, hf⟩ := pgd hf
  refine va_iald hx hb hK hP 1 1 rfl rfl h_1 dX3_workplace_5 ?_
  refine lv_istore_n (lv' := [(3, .int (o_places i1.toNatClampNeg)), (0, .ref a_o), (1, .int i1), (2, .ref a_x2)]) hx hb dX3_workplace_6 rfl hl (by decide) rfl (fun ls hl => ?_)
  refine lv_iconst (v := (0 : Int32)) hx hb dX3_workplace_7 (by decide) ?_
  refine lv_istore (lv' := [(4, .int (0 : Int32)), (3, .int (o_places i1.toNatClampNeg)), (0, .ref a_o), (1, .int i1), (2, .ref a_x2)]) hx hb dX3_workplace_8 hl (by decide) rfl (fun ls hl => ?_)
  obtain ⟨ro_2, l3_3, l4_4, hc, hf⟩ := pb3 hf
  refine wX3_workplace_10 hg0 a_o a_o_skills a_o_places a_o_stores a_o_lacked a_o_helpers a_o_favours a_o_wheel a_o_works a_x2 a_x2_needs a_x2_yields a_x2_skips a_x2_skills a_x2_places a_x2_wheel o_round o_fell o_ills o_places o_wheel x2_trades x2_people x2_tradesEnded x2_skips i1 N N (o_places i1.toNatClampNeg) (0 : Int32) ro_2 l3_3 l4_4 hc _ _ _ hP hD hS (lv_sub hl [2, 3, 4, 1, 0] rfl) (fun hro H locs ls hP hD hS hl => ?_) (fun r9 hro H locs ls hP hD hS => ?_)
  · subst hro
    have hf := rjn hf
    refine lv_bipush (v := (-9 : Int32)) hx hb dX3_workplace_51 (by decide) ?_
    have q0 := Option.some.inj hf
    subst q0
    exact gRi hx hb hr hlocks hP hS dX3_workplace_53
  · subst hro
    have hf := rjs hf
    have q0 := Option.some.inj hf
    subst q0
    exact gRi hx hb hr hlocks hP hS dX3_workplace_38
abbrev rmX3_tradeOf : Room := { frames := 2, cells := 0, slots := 0, locals := 45 }
set_option maxRecDepth 20000 in
theorem uX3_tradeOf_X3 : ∀ w ∈ wsX30, w ∈ wsX3_tradeOf := by decide +kernel
set_option maxRecDepth 20000 in
theorem mX3_tradeOf_0 : (Cond.fieldLink RX3 40 "TradeWheel$World" "wheel" "[I" : Cond) ∈ wsX3_tradeOf := by decide +kernel
set_option maxHeartbeats 4000000 in
set_option maxRecDepth 100000 in
theorem kX3_tradeOf (l : Launch) (dC : Nat → ClassId) (dI : Nat → Nat → Nat) (Z : gZ) (cC cI cZ cW : ClassId) (a_o a_o_skills a_o_places a_o_stores a_o_lacked a_o_helpers a_o_favours a_o_wheel a_o_works a_x2 a_x2_needs a_x2_yields a_x2_skips a_x2_skills a_x2_places a_x2_wheel : Nat) (sz : Nat) (o_round : Int32) (o_fell : Int32) (o_ills : Int32) (o_places : Nat → Int32) (o_wheel : Nat → Int32) (x2_trades : Int32) (x2_people : Int32) (x2_tradesEnded : Int32) (x2_skips : Nat → Int32) (i1 : Int32) (N : Nat) (r' : Int32) (hf : fX3_tradeOf N o_places o_wheel x2_trades x2_skips  i1 = some r') : Met l yX3_tradeOf wsX3_tradeOf rmX3_tradeOf (va_Pc [.ref a_o, .int i1, .ref a_x2] (gB (dC, dI) Z [(cC, .char), (cI, .int), (cZ, .boolean), (cW, .object RX3)] [(a_o, .inr (3, [.int o_round, .int o_fell, .int o_ills, .ref a_o_skills, .ref a_o_places, .ref a_o_stores, .ref a_o_lacked, .ref a_o_helpers, .ref a_o_favours, .ref a_o_wheel, .ref a_o_works])), (a_o_places, .inl (cI, 6, .inl o_places)), (a_o_wheel, .inl (cI, 6, .inl o_wheel)), (a_x2, .inr (1, [.int x2_trades, .int x2_people, .ref a_x2_needs, .ref a_x2_yields, .ref a_x2_skips, .ref a_x2_skills, .ref a_x2_places, .ref a_x2_wheel, .int x2_tradesEnded])), (a_x2_skips, .inl (cI, 6, .inl x2_skips))] sz)) (va_Qi (fun (r : Int32) (_ : Unit) => r = r') (gE (dC, dI) [(a_o, .inr (3, [.int o_round, .int o_fell, .int o_ills, .ref a_o_skills, .ref a_o_places, .ref a_o_stores, .ref a_o_lacked, .ref a_o_helpers, .ref a_o_favours, .ref a_o_wheel, .ref a_o_works])), (a_o_places, .inl (cI, 6, .inl o_places)), (a_o_wheel, .inl (cI, 6, .inl o_wheel)), (a_x2, .inr (1, [.int x2_trades, .int x2_people, .ref a_x2_needs, .ref a_x2_yields, .ref a_x2_skips, .ref a_x2_skills, .ref a_x2_places, .ref a_x2_wheel, .int x2_tradesEnded])), (a_x2_skips, .inl (cI, 6, .inl x2_skips))]) (va_A [(a_o, .inr (3, [.int o_round, .int o_fell, .int o_ills, .ref a_o_skills, .ref a_o_places, .ref a_o_stores, .ref a_o_lacked, .ref a_o_helpers, .ref a_o_favours, .ref a_o_wheel, .ref a_o_works])), (a_o_places, .inl (cI, 6, .inl o_places)), (a_o_wheel, .inl (cI, 6, .inl o_wheel)), (a_x2, .inr (1, [.int x2_trades, .int x2_people, .ref a_x2_needs, .ref a_x2_yields, .ref a_x2_skips, .ref a_x2_skills, .ref a_x2_places, .ref a_x2_wheel, .int x2_tradesEnded])), (a_x2_skips, .inl (cI, 6, .inl x2_skips))] sz)) 0 0 (va_A [(a_o, .inr (3, [.int o_round, .int o_fell, .int o_ills, .ref a_o_skills, .ref a_o_places, .ref a_o_stores, .ref a_o_lacked, .ref a_o_helpers, .ref a_o_favours, .ref a_o_wheel, .ref a_o_works])), (a_o_places, .inl (cI, 6, .inl o_places)), (a_o_wheel, .inl (cI, 6, .inl o_wheel)), (a_x2, .inr (1, [.int x2_trades, .int x2_people, .ref a_x2_needs, .ref a_x2_yields, .ref a_x2_skips, .ref a_x2_skills, .ref a_x2_places, .ref a_x2_wheel, .int x2_tradesEnded])), (a_x2_skips, .inl (cI, 6, .inl x2_skips))] sz) := by
  refine gMet (cc := cX3_tradeOf) (maxL := 4) (ret := (some .int)) (Qc := fun A => va_Qi (fun (r : Int32) (_ : Unit) => r = r') (gE (dC, dI) [(a_o, .inr (3, [.int o_round, .int o_fell, .int o_ills, .ref a_o_skills, .ref a_o_places, .ref a_o_stores, .ref a_o_lacked, .ref a_o_helpers, .ref a_o_favours, .ref a_o_wheel, .ref a_o_works])), (a_o_places, .inl (cI, 6, .inl o_places)), (a_o_wheel, .inl (cI, 6, .inl o_wheel)), (a_x2, .inr (1, [.int x2_trades, .int x2_people, .ref a_x2_needs, .ref a_x2_yields, .ref a_x2_skips, .ref a_x2_skills, .ref a_x2_places, .ref a_x2_wheel, .int x2_tradesEnded])), (a_x2_skips, .inl (cI, 6, .inl x2_skips))]) A) (by decide) rfl (Nat.le_of_ble_eq_true rfl) ?_
  intro p e s m below meth c A ls hg0 _ hsz hP hD hS hl
  have hg0 : gX p s m _ meth c cX3_tradeOf 4 (some .int) wsX3_tradeOf RX3 (dC, dI) Z [(cC, .char), (cI, .int), (cZ, .boolean), (cW, .object RX3)] A := hg0
  obtain ⟨hx, hb, hr, hml, hown, hts, hlocks, hA, hK, hN⟩ := id hg0
  subst hsz
  have hF : CallFix p m c cX3_tradeOf 4 s _ wsX3_tradeOf RX3 := ⟨hx, hb, hml, hown, hts⟩
  have hl : lv_has ls 4 [(0, .ref a_o), (1, .int i1), (2, .ref a_x2)] := hl
  unfold fX3_tradeOf at hf
  refine lv_aload_n hx hb dX3_tradeOf_0 rfl (lv_at hl 0 rfl) ?_
  refine lv_iload_n hx hb dX3_tradeOf_1 rfl (lv_at hl 1 rfl) ?_
  refine lv_aload_n hx hb dX3_tradeOf_2 rfl (lv_at hl 2 rfl) ?_
  obtain ⟨r_1, hc, hf⟩ := pb1 hf
  refine gCi (va_runV (As := [.int i1, .ref a_x2]) (rest := []) hF (kX3_workplace l dC dI Z cC cI cZ cW a_o a_o_skills a_o_places a_o_stores a_o_lacked a_o_helpers a_o_favours a_o_wheel a_o_works a_x2 a_x2_needs a_x2_yields a_x2_skips a_x2_skills a_x2_places a_x2_wheel _ o_round o_fell o_ills o_places o_wheel x2_trades x2_people x2_tradesEnded x2_skips i1 N r_1 hc) (cwV 2 hts gX3_tradeOf_X3_workplace rfl rfl rfl (by decide +kernel) ⟨Nat.le_of_ble_eq_true rfl, Nat.le_of_ble_eq_true rfl⟩) (gPV (wc := [(a_o, .inr (3, [.int o_round, .int o_fell, .int o_ills, .ref a_o_skills, .ref a_o_places, .ref a_o_stores, .ref a_o_lacked, .ref a_o_helpers, .ref a_o_favours, .ref a_o_wheel, .ref a_o_works])), (a_o_places, .inl (cI, 6, .inl o_places)), (a_o_wheel, .inl (cI, 6, .inl o_wheel)), (a_x2, .inr (1, [.int x2_trades, .int x2_people, .ref a_x2_needs, .ref a_x2_yields, .ref a_x2_skips, .ref a_x2_skills, .ref a_x2_places, .ref a_x2_wheel, .int x2_tradesEnded])), (a_x2_skips, .inl (cI, 6, .inl x2_skips))]) hK hN hA hS hP hD [0, 1, 2, 3, 4] rfl rfl (q0 := 0) (ci := 3) rfl rfl rfl) rfl rfl hl.1 rfl (lv_room (Nat.le_of_ble_eq_true rfl)) dX3_tradeOf_3 ⟨Nat.zero_le _, Nat.zero_le _⟩) hP hD hS hA [0, 1, 2, 3, 4] rfl rfl rfl (fun H locs hP hD hS => ?_)
  have hP : va_P (dC, dI) vwCl [(a_o, .inr (3, [.int o_round, .int o_fell, .int o_ills, .ref a_o_skills, .ref a_o_places, .ref a_o_stores, .ref a_o_lacked, .ref a_o_helpers, .ref a_o_favours, .ref a_o_wheel, .ref a_o_works])), (a_o_places, .inl (cI, 6, .inl o_places)), (a_o_wheel, .inl (cI, 6, .inl o_wheel)), (a_x2, .inr (1, [.int x2_trades, .int x2_people, .ref a_x2_needs, .ref a_x2_yields, .ref a_x2_skips, .ref a_x2_skills, .ref a_x2_places, .ref a_x2_wheel, .int x2_tradesEnded])), (a_x2_skips, .inl (cI, 6, .inl x2_skips))] H := hP
  have hD : va_D A [(a_o, .inr (3, [.int o_round, .int o_fell, .int o_ills, .ref a_o_skills, .ref a_o_places, .ref a_o_stores, .ref a_o_lacked, .ref a_o_helpers, .ref a_o_favours, .ref a_o_wheel, .ref a_o_works])), (a_o_places, .inl (cI, 6, .inl o_places)), (a_o_wheel, .inl (cI, 6, .inl o_wheel)), (a_x2, .inr (1, [.int x2_trades, .int x2_people, .ref a_x2_needs, .ref a_x2_yields, .ref a_x2_skips, .ref a_x2_skills, .ref a_x2_places, .ref a_x2_wheel, .int x2_tradesEnded])), (a_x2_skips, .inl (cI, 6, .inl x2_skips))] := hD
  refine lv_istore_n (lv' := [(3, .int r_1), (0, .ref a_o), (1, .int i1), (2, .ref a_x2)]) hx hb dX3_tradeOf_6 rfl hl (by decide) rfl (fun ls hl => ?_)
  refine lv_iload_n hx hb dX3_tradeOf_7 rfl (lv_at hl 0 rfl) ?_
  refine lv_bipush (v := (-9 : Int32)) hx hb dX3_tradeOf_8 (by decide) ?_
  refine lv_icmp_ne (tgt := 18) hx hb dX3_tradeOf_10 (by decide) (fun c_2 => ?_) (fun c_2 => ?_)
  · have hf := pif hf c_2
    refine lv_aload_n hx hb dX3_tradeOf_18 rfl (lv_at hl 1 rfl) ?_
    refine va_get (D := (dC, dI)) (ci := 3) (v := .ref a_o_wheel) (C := RX3) (T := TX3) (N := 11) hx hb hts uX3_tradeOf_X3 hown hK hP 0 rfl rfl 9 (by decide) (hts _ mX3_tradeOf_0) (fun _ h9 => h9) rfl dX3_tradeOf_19 ?_
    refine lv_iload_n hx hb dX3_tradeOf_22 rfl (lv_at hl 0 rfl) ?_
    obtain ⟨h_3, hf⟩ := pgd hf
    refine va_iald hx hb hK hP 2 1 rfl rfl h_3 dX3_tradeOf_23 ?_
    have q0 := Option.some.inj hf
    subst q0
    exact gRi hx hb hr hlocks hP hS dX3_tradeOf_24
  · have hf := pit hf c_2
    refine lv_bipush (v := (-9 : Int32)) hx hb dX3_tradeOf_13 (by decide) ?_
    refine lv_goto (tgt := 24) hx hb dX3_tradeOf_15 (by decide) ?_
    have q0 := Option.some.inj hf
    subst q0
    exact gRi hx hb hr hlocks hP hS dX3_tradeOf_24
abbrev rmX3_whomHelps : Room := { frames := 0, cells := 0, slots := 0, locals := 0 }
set_option maxRecDepth 20000 in
theorem uX3_whomHelps_X3 : ∀ w ∈ wsX30, w ∈ wsX3_whomHelps := by decide +kernel
set_option maxRecDepth 20000 in
theorem mX3_whomHelps_0 : (Cond.fieldLink RX3 34 "TradeWheel$World" "helpers" "[I" : Cond) ∈ wsX3_whomHelps := by decide +kernel
set_option maxHeartbeats 4000000 in
set_option maxRecDepth 100000 in
theorem wX3_whomHelps_2 {p : Program} {l : Launch} {e : Env} {s : State} {m : MethodId} {args : Array Value} {below : List Frame} {meth : Method} {c : Code} {Q : State → Prop} {A : Nat → Prop} {dC : Nat → ClassId} {dI : Nat → Nat → Nat} {Z : gZ} {cC cI cZ cW : ClassId} (hg0 : gX p s m args meth c cX3_whomHelps 3 (some .int) wsX3_whomHelps RX3 (dC, dI) Z [(cC, .char), (cI, .int), (cZ, .boolean), (cW, .object RX3)] A) (a_o a_o_skills a_o_places a_o_stores a_o_lacked a_o_helpers a_o_favours a_o_wheel a_o_works : Nat) (o_round : Int32) (o_fell : Int32) (o_ills : Int32) (o_helpers : Nat → Int32) (l1 : Int32) (N : Nat) : ∀ (n : Nat) (l2 : Int32) (ro' : Option Int32) (l2' : Int32), fX3_whomHelps_2 N o_helpers l1 n l2 = some (ro', l2') → ∀ (H : Heap) (locs : List Loc) (ls : Array Slot), va_P (dC, dI) vwCl [(a_o, .inr (3, [.int o_round, .int o_fell, .int o_ills, .ref a_o_skills, .ref a_o_places, .ref a_o_stores, .ref a_o_lacked, .ref a_o_helpers, .ref a_o_favours, .ref a_o_wheel, .ref a_o_works])), (a_o_helpers, .inl (cI, 6, .inl o_helpers))] H → va_D A [(a_o, .inr (3, [.int o_round, .int o_fell, .int o_ills, .ref a_o_skills, .ref a_o_places, .ref a_o_stores, .ref a_o_lacked, .ref a_o_helpers, .ref a_o_favours, .ref a_o_wheel, .ref a_o_works])), (a_o_helpers, .inl (cI, 6, .inl o_helpers))] → va_S A s.heap H locs → lv_has ls 3 [(0, .ref a_o), (1, .int l1), (2, .int l2)] → (ro' = none → ∀ (H : Heap) (locs : List Loc) (ls : Array Slot), va_P (dC, dI) vwCl [(a_o, .inr (3, [.int o_round, .int o_fell, .int o_ills, .ref a_o_skills, .ref a_o_places, .ref a_o_stores, .ref a_o_lacked, .ref a_o_helpers, .ref a_o_favours, .ref a_o_wheel, .ref a_o_works])), (a_o_helpers, .inl (cI, 6, .inl o_helpers))] H → va_D A [(a_o, .inr (3, [.int o_round, .int o_fell, .int o_ills, .ref a_o_skills, .ref a_o_places, .ref a_o_stores, .ref a_o_lacked, .ref a_o_helpers, .ref a_o_favours, .ref a_o_wheel, .ref a_o_works])), (a_o_helpers, .inl (cI, 6, .inl o_helpers))] → va_S A s.heap H locs → lv_has ls 3 [] → W p l e (headSpec wsX3_whomHelps rmX3_whomHelps).room s m args below meth c H locs 0 0 Q (F0 m 26 ls [])) → (∀ r9 : Int32, ro' = some r9 → ∀ (H : Heap) (locs : List Loc) (ls : Array Slot), va_P (dC, dI) vwCl [(a_o, .inr (3, [.int o_round, .int o_fell, .int o_ills, .ref a_o_skills, .ref a_o_places, .ref a_o_stores, .ref a_o_lacked, .ref a_o_helpers, .ref a_o_favours, .ref a_o_wheel, .ref a_o_works])), (a_o_helpers, .inl (cI, 6, .inl o_helpers))] H → va_D A [(a_o, .inr (3, [.int o_round, .int o_fell, .int o_ills, .ref a_o_skills, .ref a_o_places, .ref a_o_stores, .ref a_o_lacked, .ref a_o_helpers, .ref a_o_favours, .ref a_o_wheel, .ref a_o_works])), (a_o_helpers, .inl (cI, 6, .inl o_helpers))] → va_S A s.heap H locs → W p l e (headSpec wsX3_whomHelps rmX3_whomHelps).room s m args below meth c H locs 0 0 Q (F0 m 19 ls [.int r9])) → W p l e (headSpec wsX3_whomHelps rmX3_whomHelps).room s m args below meth c H locs 0 0 Q (F0 m 2 ls []) := by
  obtain ⟨hx, hb, hr, hml, hown, hts, hlocks, hA, hK, hN⟩ := id hg0
  have hF : CallFix p m c cX3_whomHelps 3 s args wsX3_whomHelps RX3 := ⟨hx, hb, hml, hown, hts⟩
  intro n
  induction n with
  | zero =>
    intro l2 ro' l2' hf
    have hf := fX3_whomHelps_2_0.symm.trans hf
    cases hf
  | succ n ih =>
    intro l2 ro' l2' hf H locs ls hP hD hS hl kx kr19
    have hf := fX3_whomHelps_2_s.symm.trans hf
    refine lv_iload_n hx hb dX3_whomHelps_2 rfl (lv_at hl 2 rfl) ?_
    refine lv_bipush (v := (6 : Int32)) hx hb dX3_whomHelps_3 (by decide) ?_
    refine lv_icmp_ge (tgt := 26) hx hb dX3_whomHelps_5 (by decide) (fun c_1 => ?_) (fun c_1 => ?_)
    · have hf := pit hf c_1
      have q0 := Option.some.inj hf
      obtain ⟨e0, q1⟩ := Prod.mk.inj q0
      subst e0
      subst q1
      exact kx rfl _ _ _ hP hD hS (lv_sub hl [] rfl)
    · have hf := pif hf c_1
      refine lv_aload_n hx hb dX3_whomHelps_8 rfl (lv_at hl 0 rfl) ?_
      refine va_get (D := (dC, dI)) (ci := 3) (v := .ref a_o_helpers) (C := RX3) (T := TX3) (N := 11) hx hb hts uX3_whomHelps_X3 hown hK hP 0 rfl rfl 7 (by decide) (hts _ mX3_whomHelps_0) (fun _ h9 => h9) rfl dX3_whomHelps_9 ?_
      refine lv_iload_n hx hb dX3_whomHelps_12 rfl (lv_at hl 2 rfl) ?_
      obtain ⟨h_2, hf⟩ := pgd hf
      refine va_iald hx hb hK hP 1 1 rfl rfl h_2 dX3_whomHelps_13 ?_
      refine lv_iload_n hx hb dX3_whomHelps_14 rfl (lv_at hl 1 rfl) ?_
      refine lv_icmp_ne (tgt := 20) hx hb dX3_whomHelps_15 (by decide) (fun c_3 => ?_) (fun c_3 => ?_)
      · have hf := pif hf c_3
        refine lv_iinc (v := (l2 + 1)) (lv' := [(2, .int (l2 + 1)), (0, .ref a_o), (1, .int l1)]) hx hb dX3_whomHelps_20 hl (k := 2) rfl rfl (by decide) rfl (fun ls hl => ?_)
        refine lv_goto (tgt := 2) hx hb dX3_whomHelps_23 (by decide) ?_
        exact ih _ _ _ hf _ _ _ hP hD hS (lv_sub hl [1, 2, 0] rfl) kx kr19
      · have hf := pit hf c_3
        refine lv_iload_n hx hb dX3_whomHelps_18 rfl (lv_at hl 2 rfl) ?_
        have q0 := Option.some.inj hf
        obtain ⟨e0, q1⟩ := Prod.mk.inj q0
        subst e0
        subst q1
        exact kr19 _ rfl _ _ _ hP hD hS
set_option maxHeartbeats 4000000 in
set_option maxRecDepth 100000 in
theorem kX3_whomHelps (l : Launch) (dC : Nat → ClassId) (dI : Nat → Nat → Nat) (Z : gZ) (cC cI cZ cW : ClassId) (a_o a_o_skills a_o_places a_o_stores a_o_lacked a_o_helpers a_o_favours a_o_wheel a_o_works : Nat) (sz : Nat) (o_round : Int32) (o_fell : Int32) (o_ills : Int32) (o_helpers : Nat → Int32) (i1 : Int32) (N : Nat) (r' : Int32) (hf : fX3_whomHelps N o_helpers  i1 = some r') : Met l yX3_whomHelps wsX3_whomHelps rmX3_whomHelps (va_Pc [.ref a_o, .int i1] (gB (dC, dI) Z [(cC, .char), (cI, .int), (cZ, .boolean), (cW, .object RX3)] [(a_o, .inr (3, [.int o_round, .int o_fell, .int o_ills, .ref a_o_skills, .ref a_o_places, .ref a_o_stores, .ref a_o_lacked, .ref a_o_helpers, .ref a_o_favours, .ref a_o_wheel, .ref a_o_works])), (a_o_helpers, .inl (cI, 6, .inl o_helpers))] sz)) (va_Qi (fun (r : Int32) (_ : Unit) => r = r') (gE (dC, dI) [(a_o, .inr (3, [.int o_round, .int o_fell, .int o_ills, .ref a_o_skills, .ref a_o_places, .ref a_o_stores, .ref a_o_lacked, .ref a_o_helpers, .ref a_o_favours, .ref a_o_wheel, .ref a_o_works])), (a_o_helpers, .inl (cI, 6, .inl o_helpers))]) (va_A [(a_o, .inr (3, [.int o_round, .int o_fell, .int o_ills, .ref a_o_skills, .ref a_o_places, .ref a_o_stores, .ref a_o_lacked, .ref a_o_helpers, .ref a_o_favours, .ref a_o_wheel, .ref a_o_works])), (a_o_helpers, .inl (cI, 6, .inl o_helpers))] sz)) 0 0 (va_A [(a_o, .inr (3, [.int o_round, .int o_fell, .int o_ills, .ref a_o_skills, .ref a_o_places, .ref a_o_stores, .ref a_o_lacked, .ref a_o_helpers, .ref a_o_favours, .ref a_o_wheel, .ref a_o_works])), (a_o_helpers, .inl (cI, 6, .inl o_helpers))] sz) := by
  refine gMet (cc := cX3_whomHelps) (maxL := 3) (ret := (some .int)) (Qc := fun A => va_Qi (fun (r : Int32) (_ : Unit) => r = r') (gE (dC, dI) [(a_o, .inr (3, [.int o_round, .int o_fell, .int o_ills, .ref a_o_skills, .ref a_o_places, .ref a_o_stores, .ref a_o_lacked, .ref a_o_helpers, .ref a_o_favours, .ref a_o_wheel, .ref a_o_works])), (a_o_helpers, .inl (cI, 6, .inl o_helpers))]) A) (by decide) rfl (Nat.le_of_ble_eq_true rfl) ?_
  intro p e s m below meth c A ls hg0 _ hsz hP hD hS hl
  have hg0 : gX p s m _ meth c cX3_whomHelps 3 (some .int) wsX3_whomHelps RX3 (dC, dI) Z [(cC, .char), (cI, .int), (cZ, .boolean), (cW, .object RX3)] A := hg0
  obtain ⟨hx, hb, hr, hml, hown, hts, hlocks, hA, hK, hN⟩ := id hg0
  subst hsz
  have hF : CallFix p m c cX3_whomHelps 3 s _ wsX3_whomHelps RX3 := ⟨hx, hb, hml, hown, hts⟩
  have hl : lv_has ls 3 [(0, .ref a_o), (1, .int i1)] := hl
  unfold fX3_whomHelps at hf
  refine lv_iconst (v := (0 : Int32)) hx hb dX3_whomHelps_0 (by decide) ?_
  refine lv_istore_n (lv' := [(2, .int (0 : Int32)), (0, .ref a_o), (1, .int i1)]) hx hb dX3_whomHelps_1 rfl hl (by decide) rfl (fun ls hl => ?_)
  obtain ⟨ro_1, l2_2, hc, hf⟩ := pb2 hf
  refine wX3_whomHelps_2 hg0 a_o a_o_skills a_o_places a_o_stores a_o_lacked a_o_helpers a_o_favours a_o_wheel a_o_works o_round o_fell o_ills o_helpers i1 N N (0 : Int32) ro_1 l2_2 hc _ _ _ hP hD hS (lv_sub hl [1, 2, 0] rfl) (fun hro H locs ls hP hD hS hl => ?_) (fun r9 hro H locs ls hP hD hS => ?_)
  · subst hro
    have hf := rjn hf
    refine lv_bipush (v := (-9 : Int32)) hx hb dX3_whomHelps_26 (by decide) ?_
    have q0 := Option.some.inj hf
    subst q0
    exact gRi hx hb hr hlocks hP hS dX3_whomHelps_28
  · subst hro
    have hf := rjs hf
    have q0 := Option.some.inj hf
    subst q0
    exact gRi hx hb hr hlocks hP hS dX3_whomHelps_19
abbrev rmX3_workedAt : Room := { frames := 1, cells := 0, slots := 0, locals := 21 }
set_option maxRecDepth 20000 in
theorem uX3_workedAt_X3 : ∀ w ∈ wsX30, w ∈ wsX3_workedAt := by decide +kernel
set_option maxRecDepth 20000 in
theorem mX3_workedAt_0 : (Cond.fieldLink RX3 43 "TradeWheel$World" "works" "[I" : Cond) ∈ wsX3_workedAt := by decide +kernel
set_option maxRecDepth 20000 in
theorem mX3_workedAt_1 : (Cond.fieldLink RX3 40 "TradeWheel$World" "wheel" "[I" : Cond) ∈ wsX3_workedAt := by decide +kernel
set_option maxHeartbeats 4000000 in
set_option maxRecDepth 100000 in
theorem kX3_workedAt (l : Launch) (dC : Nat → ClassId) (dI : Nat → Nat → Nat) (Z : gZ) (cC cI cZ cW : ClassId) (a_o a_o_skills a_o_places a_o_stores a_o_lacked a_o_helpers a_o_favours a_o_wheel a_o_works : Nat) (sz : Nat) (o_round : Int32) (o_fell : Int32) (o_ills : Int32) (o_wheel : Nat → Int32) (o_works : Nat → Int32) (i1 : Int32) (N : Nat) (r' : Int32) (hf : fX3_workedAt N o_ills o_wheel o_works  i1 = some r') : Met l yX3_workedAt wsX3_workedAt rmX3_workedAt (va_Pc [.ref a_o, .int i1] (gB (dC, dI) Z [(cC, .char), (cI, .int), (cZ, .boolean), (cW, .object RX3)] [(a_o, .inr (3, [.int o_round, .int o_fell, .int o_ills, .ref a_o_skills, .ref a_o_places, .ref a_o_stores, .ref a_o_lacked, .ref a_o_helpers, .ref a_o_favours, .ref a_o_wheel, .ref a_o_works])), (a_o_wheel, .inl (cI, 6, .inl o_wheel)), (a_o_works, .inl (cI, 6, .inl o_works))] sz)) (va_Qi (fun (r : Int32) (_ : Unit) => r = r') (gE (dC, dI) [(a_o, .inr (3, [.int o_round, .int o_fell, .int o_ills, .ref a_o_skills, .ref a_o_places, .ref a_o_stores, .ref a_o_lacked, .ref a_o_helpers, .ref a_o_favours, .ref a_o_wheel, .ref a_o_works])), (a_o_wheel, .inl (cI, 6, .inl o_wheel)), (a_o_works, .inl (cI, 6, .inl o_works))]) (va_A [(a_o, .inr (3, [.int o_round, .int o_fell, .int o_ills, .ref a_o_skills, .ref a_o_places, .ref a_o_stores, .ref a_o_lacked, .ref a_o_helpers, .ref a_o_favours, .ref a_o_wheel, .ref a_o_works])), (a_o_wheel, .inl (cI, 6, .inl o_wheel)), (a_o_works, .inl (cI, 6, .inl o_works))] sz)) 0 0 (va_A [(a_o, .inr (3, [.int o_round, .int o_fell, .int o_ills, .ref a_o_skills, .ref a_o_places, .ref a_o_stores, .ref a_o_lacked, .ref a_o_helpers, .ref a_o_favours, .ref a_o_wheel, .ref a_o_works])), (a_o_wheel, .inl (cI, 6, .inl o_wheel)), (a_o_works, .inl (cI, 6, .inl o_works))] sz) := by
  refine gMet (cc := cX3_workedAt) (maxL := 2) (ret := (some .int)) (Qc := fun A => va_Qi (fun (r : Int32) (_ : Unit) => r = r') (gE (dC, dI) [(a_o, .inr (3, [.int o_round, .int o_fell, .int o_ills, .ref a_o_skills, .ref a_o_places, .ref a_o_stores, .ref a_o_lacked, .ref a_o_helpers, .ref a_o_favours, .ref a_o_wheel, .ref a_o_works])), (a_o_wheel, .inl (cI, 6, .inl o_wheel)), (a_o_works, .inl (cI, 6, .inl o_works))]) A) (by decide) rfl (Nat.le_of_ble_eq_true rfl) ?_
  intro p e s m below meth c A ls hg0 _ hsz hP hD hS hl
  have hg0 : gX p s m _ meth c cX3_workedAt 2 (some .int) wsX3_workedAt RX3 (dC, dI) Z [(cC, .char), (cI, .int), (cZ, .boolean), (cW, .object RX3)] A := hg0
  obtain ⟨hx, hb, hr, hml, hown, hts, hlocks, hA, hK, hN⟩ := id hg0
  subst hsz
  have hF : CallFix p m c cX3_workedAt 2 s _ wsX3_workedAt RX3 := ⟨hx, hb, hml, hown, hts⟩
  have hl : lv_has ls 2 [(0, .ref a_o), (1, .int i1)] := hl
  unfold fX3_workedAt at hf
  refine lv_aload_n hx hb dX3_workedAt_0 rfl (lv_at hl 0 rfl) ?_
  refine va_get (D := (dC, dI)) (ci := 3) (v := .ref a_o_works) (C := RX3) (T := TX3) (N := 11) hx hb hts uX3_workedAt_X3 hown hK hP 0 rfl rfl 10 (by decide) (hts _ mX3_workedAt_0) (fun _ h9 => h9) rfl dX3_workedAt_1 ?_
  refine lv_iload_n hx hb dX3_workedAt_4 rfl (lv_at hl 1 rfl) ?_
  obtain ⟨h_1, hf⟩ := pgd hf
  refine va_iald hx hb hK hP 2 1 rfl rfl h_1 dX3_workedAt_5 ?_
  refine lv_bipush (v := (-9 : Int32)) hx hb dX3_workedAt_6 (by decide) ?_
  refine lv_icmp_eq (tgt := 19) hx hb dX3_workedAt_8 (by decide) (fun c_2 => ?_) (fun c_2 => ?_)
  · have hf := pit hf c_2
    refine lv_bipush (v := (-9 : Int32)) hx hb dX3_workedAt_19 (by decide) ?_
    refine lv_goto (tgt := 35) hx hb dX3_workedAt_21 (by decide) ?_
    have q0 := Option.some.inj hf
    subst q0
    exact gRi hx hb hr hlocks hP hS dX3_workedAt_35
  · have hf := pif hf c_2
    refine lv_aload_n hx hb dX3_workedAt_11 rfl (lv_at hl 0 rfl) ?_
    refine lv_iload_n hx hb dX3_workedAt_12 rfl (lv_at hl 1 rfl) ?_
    obtain ⟨r_3, hc, hf⟩ := pb1 hf
    refine gCi (va_runV (As := [.int i1]) (rest := []) hF (kX3_isIll l dC dI Z cC cI cZ cW a_o a_o_skills a_o_places a_o_stores a_o_lacked a_o_helpers a_o_favours a_o_wheel a_o_works _ o_round o_fell o_ills i1 N r_3 hc) (cwV 1 hts gX3_workedAt_X3_isIll rfl rfl rfl (by decide +kernel) ⟨Nat.le_of_ble_eq_true rfl, Nat.le_of_ble_eq_true rfl⟩) (gPV (wc := [(a_o, .inr (3, [.int o_round, .int o_fell, .int o_ills, .ref a_o_skills, .ref a_o_places, .ref a_o_stores, .ref a_o_lacked, .ref a_o_helpers, .ref a_o_favours, .ref a_o_wheel, .ref a_o_works]))]) hK hN hA hS hP hD [0] rfl rfl (q0 := 0) (ci := 3) rfl rfl rfl) rfl rfl hl.1 rfl (lv_room (Nat.le_of_ble_eq_true rfl)) dX3_workedAt_13 ⟨Nat.zero_le _, Nat.zero_le _⟩) hP hD hS hA [0] rfl rfl rfl (fun H locs hP hD hS => ?_)
    have hP : va_P (dC, dI) vwCl [(a_o, .inr (3, [.int o_round, .int o_fell, .int o_ills, .ref a_o_skills, .ref a_o_places, .ref a_o_stores, .ref a_o_lacked, .ref a_o_helpers, .ref a_o_favours, .ref a_o_wheel, .ref a_o_works])), (a_o_wheel, .inl (cI, 6, .inl o_wheel)), (a_o_works, .inl (cI, 6, .inl o_works))] H := hP
    have hD : va_D A [(a_o, .inr (3, [.int o_round, .int o_fell, .int o_ills, .ref a_o_skills, .ref a_o_places, .ref a_o_stores, .ref a_o_lacked, .ref a_o_helpers, .ref a_o_favours, .ref a_o_wheel, .ref a_o_works])), (a_o_wheel, .inl (cI, 6, .inl o_wheel)), (a_o_works, .inl (cI, 6, .inl o_works))] := hD
    refine lv_if_eq (tgt := 24) hx hb dX3_workedAt_16 (by decide) (fun c_4 => ?_) (fun c_4 => ?_)
    · have hf := pit hf c_4
      refine lv_aload_n hx hb dX3_workedAt_24 rfl (lv_at hl 0 rfl) ?_
      refine va_get (D := (dC, dI)) (ci := 3) (v := .ref a_o_wheel) (C := RX3) (T := TX3) (N := 11) hx hb hts uX3_workedAt_X3 hown hK hP 0 rfl rfl 9 (by decide) (hts _ mX3_workedAt_1) (fun _ h9 => h9) rfl dX3_workedAt_25 ?_
      refine lv_aload_n hx hb dX3_workedAt_28 rfl (lv_at hl 0 rfl) ?_
      refine va_get (D := (dC, dI)) (ci := 3) (v := .ref a_o_works) (C := RX3) (T := TX3) (N := 11) hx hb hts uX3_workedAt_X3 hown hK hP 0 rfl rfl 10 (by decide) (hts _ mX3_workedAt_0) (fun _ h9 => h9) rfl dX3_workedAt_29 ?_
      refine lv_iload_n hx hb dX3_workedAt_32 rfl (lv_at hl 1 rfl) ?_
      obtain ⟨h_5, hf⟩ := pgd hf
      refine va_iald hx hb hK hP 2 1 rfl rfl h_5 dX3_workedAt_33 ?_
      obtain ⟨h_6, hf⟩ := pgd hf
      refine va_iald hx hb hK hP 1 1 rfl rfl h_6 dX3_workedAt_34 ?_
      have q0 := Option.some.inj hf
      subst q0
      exact gRi hx hb hr hlocks hP hS dX3_workedAt_35
    · have hf := pif hf c_4
      refine lv_bipush (v := (-9 : Int32)) hx hb dX3_workedAt_19 (by decide) ?_
      refine lv_goto (tgt := 35) hx hb dX3_workedAt_21 (by decide) ?_
      have q0 := Option.some.inj hf
      subst q0
      exact gRi hx hb hr hlocks hP hS dX3_workedAt_35
abbrev rmX3_changeSkills : Room := { frames := 2, cells := 0, slots := 0, locals := 42 }
set_option maxRecDepth 20000 in
theorem uX3_changeSkills_X1 : ∀ w ∈ wsX10, w ∈ wsX3_changeSkills := by decide +kernel
set_option maxRecDepth 20000 in
theorem uX3_changeSkills_X3 : ∀ w ∈ wsX30, w ∈ wsX3_changeSkills := by decide +kernel
set_option maxRecDepth 20000 in
theorem mX3_changeSkills_0 : (Cond.fieldLink RX3 113 "TradeWheel$Told" "people" "I" : Cond) ∈ wsX3_changeSkills := by decide +kernel
set_option maxRecDepth 20000 in
theorem mX3_changeSkills_1 : (Cond.fieldLink RX3 57 "TradeWheel$Told" "trades" "I" : Cond) ∈ wsX3_changeSkills := by decide +kernel
set_option maxRecDepth 20000 in
theorem mX3_changeSkills_2 : (Cond.initialized RX4 : Cond) ∈ wsX3_changeSkills := by decide +kernel
set_option maxRecDepth 20000 in
theorem mX3_changeSkills_3 : (Cond.static yX4_cell : Cond) ∈ wsX3_changeSkills := by decide +kernel
set_option maxRecDepth 20000 in
theorem mX3_changeSkills_4 : (Cond.fieldLink RX3 21 "TradeWheel$World" "skills" "[I" : Cond) ∈ wsX3_changeSkills := by decide +kernel
set_option maxRecDepth 20000 in
theorem mX3_changeSkills_5 : (Cond.methodLink RX3 132 Lib.Math.max.name : Cond) ∈ wsX3_changeSkills := by decide +kernel
set_option maxRecDepth 20000 in
theorem mX3_changeSkills_6 : (Cond.static Lib.Math.max.name : Cond) ∈ wsX3_changeSkills := by decide +kernel
set_option maxRecDepth 20000 in
theorem mX3_changeSkills_7 : (Cond.initialized "java/lang/Math" : Cond) ∈ wsX3_changeSkills := by decide +kernel
set_option maxRecDepth 20000 in
theorem mX3_changeSkills_8 : (Cond.code Lib.Math.max.name Lib.Math.max.code 2 (some .int) : Cond) ∈ wsX3_changeSkills := by decide +kernel
set_option maxRecDepth 20000 in
theorem mX3_changeSkills_9 : (Cond.methodLink RX3 71 Lib.Math.min.name : Cond) ∈ wsX3_changeSkills := by decide +kernel
set_option maxRecDepth 20000 in
theorem mX3_changeSkills_10 : (Cond.static Lib.Math.min.name : Cond) ∈ wsX3_changeSkills := by decide +kernel
set_option maxRecDepth 20000 in
theorem mX3_changeSkills_11 : (Cond.code Lib.Math.min.name Lib.Math.min.code 2 (some .int) : Cond) ∈ wsX3_changeSkills := by decide +kernel
set_option maxRecDepth 20000 in
theorem mX3_changeSkills_12 : (Cond.fieldLink RX3 9 "TradeWheel$World" "round" "I" : Cond) ∈ wsX3_changeSkills := by decide +kernel
set_option maxHeartbeats 4000000 in
set_option maxRecDepth 100000 in
theorem wX3_changeSkills_44 {p : Program} {l : Launch} {e : Env} {s : State} {m : MethodId} {args : Array Value} {below : List Frame} {meth : Method} {c : Code} {Q : State → Prop} {A : Nat → Prop} {dC : Nat → ClassId} {dI : Nat → Nat → Nat} {Z : gZ} {cC cI cZ cW : ClassId} (hg0 : gX p s m args meth c cX3_changeSkills 8 none wsX3_changeSkills RX3 (dC, dI) Z [(cC, .char), (cI, .int), (cZ, .boolean), (cW, .object RX3)] A) (a_o a_o_skills a_o_places a_o_stores a_o_lacked a_o_helpers a_o_favours a_o_wheel a_o_works a_x1 a_x1_needs a_x1_yields a_x1_skips a_x1_skills a_x1_places a_x1_wheel : Nat) (o_round : Int32) (o_fell : Int32) (o_ills : Int32) (o_wheel : Nat → Int32) (o_works : Nat → Int32) (x1_trades : Int32) (x1_people : Int32) (x1_tradesEnded : Int32) (l3 : Int32) (l4 : Int32) (l5 : Int32) (N : Nat) : ∀ (n : Nat) (o_skills : Nat → Int32) (l6 : Int32) (o_skills' : Nat → Int32) (l6' : Int32), fX3_changeSkills_44 N x1_trades l3 l4 l5 n o_skills l6 = some (o_skills', l6') → ∀ (H : Heap) (locs : List Loc) (ls : Array Slot), va_P (dC, dI) vwCl [(a_o, .inr (3, [.int o_round, .int o_fell, .int o_ills, .ref a_o_skills, .ref a_o_places, .ref a_o_stores, .ref a_o_lacked, .ref a_o_helpers, .ref a_o_favours, .ref a_o_wheel, .ref a_o_works])), (a_o_skills, .inl (cI, 36, .inl o_skills)), (a_o_wheel, .inl (cI, 6, .inl o_wheel)), (a_o_works, .inl (cI, 6, .inl o_works)), (a_x1, .inr (1, [.int x1_trades, .int x1_people, .ref a_x1_needs, .ref a_x1_yields, .ref a_x1_skips, .ref a_x1_skills, .ref a_x1_places, .ref a_x1_wheel, .int x1_tradesEnded]))] H → va_D A [(a_o, .inr (3, [.int o_round, .int o_fell, .int o_ills, .ref a_o_skills, .ref a_o_places, .ref a_o_stores, .ref a_o_lacked, .ref a_o_helpers, .ref a_o_favours, .ref a_o_wheel, .ref a_o_works])), (a_o_skills, .inl (cI, 36, .inl o_skills)), (a_o_wheel, .inl (cI, 6, .inl o_wheel)), (a_o_works, .inl (cI, 6, .inl o_works)), (a_x1, .inr (1, [.int x1_trades, .int x1_people, .ref a_x1_needs, .ref a_x1_yields, .ref a_x1_skips, .ref a_x1_skills, .ref a_x1_places, .ref a_x1_wheel, .int x1_tradesEnded]))] → va_S A s.heap H locs → lv_has ls 8 [(0, .ref a_o), (1, .ref a_x1), (3, .int l3), (4, .int l4), (5, .int l5), (6, .int l6)] → (∀ (H : Heap) (locs : List Loc) (ls : Array Slot), va_P (dC, dI) vwCl [(a_o, .inr (3, [.int o_round, .int o_fell, .int o_ills, .ref a_o_skills, .ref a_o_places, .ref a_o_stores, .ref a_o_lacked, .ref a_o_helpers, .ref a_o_favours, .ref a_o_wheel, .ref a_o_works])), (a_o_skills, .inl (cI, 36, .inl o_skills')), (a_o_wheel, .inl (cI, 6, .inl o_wheel)), (a_o_works, .inl (cI, 6, .inl o_works)), (a_x1, .inr (1, [.int x1_trades, .int x1_people, .ref a_x1_needs, .ref a_x1_yields, .ref a_x1_skips, .ref a_x1_skills, .ref a_x1_places, .ref a_x1_wheel, .int x1_tradesEnded]))] H → va_D A [(a_o, .inr (3, [.int o_round, .int o_fell, .int o_ills, .ref a_o_skills, .ref a_o_places, .ref a_o_stores, .ref a_o_lacked, .ref a_o_helpers, .ref a_o_favours, .ref a_o_wheel, .ref a_o_works])), (a_o_skills, .inl (cI, 36, .inl o_skills')), (a_o_wheel, .inl (cI, 6, .inl o_wheel)), (a_o_works, .inl (cI, 6, .inl o_works)), (a_x1, .inr (1, [.int x1_trades, .int x1_people, .ref a_x1_needs, .ref a_x1_yields, .ref a_x1_skips, .ref a_x1_skills, .ref a_x1_places, .ref a_x1_wheel, .int x1_tradesEnded]))] → va_S A s.heap H locs → lv_has ls 8 [(0, .ref a_o), (1, .ref a_x1), (3, .int l3), (4, .int l4)] → W p l e (headSpec wsX3_changeSkills rmX3_changeSkills).room s m args below meth c H locs 0 0 Q (F0 m 123 ls [])) → W p l e (headSpec wsX3_changeSkills rmX3_changeSkills).room s m args below meth c H locs 0 0 Q (F0 m 44 ls []) := by
  obtain ⟨hx, hb, hr, hml, hown, hts, hlocks, hA, hK, hN⟩ := id hg0
  have hF : CallFix p m c cX3_changeSkills 8 s args wsX3_changeSkills RX3 := ⟨hx, hb, hml, hown, hts⟩
  intro n
  induction n with
  | zero =>
    intro o_skills l6 o_skills' l6' hf
    have hf := fX3_changeSkills_44_0.symm.trans hf
    cases hf
  | succ n ih =>
    intro o_skills l6 o_skills' l6' hf H locs ls hP hD hS hl kx
    have hf := fX3_changeSkills_44_s.symm.trans hf
    refine lv_iload hx hb dX3_changeSkills_44 (lv_at hl 5 rfl) ?_
    refine lv_aload_n hx hb dX3_changeSkills_46 rfl (lv_at hl 1 rfl) ?_
    refine va_get (D := (dC, dI)) (ci := 1) (v := .int x1_trades) (C := RX1) (T := TX1) (N := 9) hx hb hts uX3_changeSkills_X1 hown hK hP 4 rfl rfl 0 (by decide) (hts _ mX3_changeSkills_1) (fun _ h9 => h9) rfl dX3_changeSkills_47 ?_
    refine lv_icmp_ge (tgt := 123) hx hb dX3_changeSkills_50 (by decide) (fun c_1 => ?_) (fun c_1 => ?_)
    · have hf := pit hf c_1
      have q0 := Option.some.inj hf
      obtain ⟨e0, q1⟩ := Prod.mk.inj q0
      subst e0
      subst q1
      exact kx _ _ _ hP hD hS (lv_sub hl [0, 1, 2, 3] rfl)
    · have hf := pif hf c_1
      refine lv_iload hx hb dX3_changeSkills_53 (lv_at hl 3 rfl) ?_
      refine lv_iload hx hb dX3_changeSkills_55 (lv_at hl 5 rfl) ?_
      obtain ⟨r_2, hc, hf⟩ := pb1 hf
      refine gCi (va_runSN (As := [.int l4, .int l6]) (rest := []) hF (kX4_cell l dC dI Z cC cI cZ cW  _  l4 l6 N r_2 hc) ⟨va_cnB 2 hts gX3_changeSkills_X4_cell_n129 rfl rfl rfl (hN.1 (.methodLinkNest RX3 129 yX4_cell RX4) (by decide +kernel)) (hts _ mX3_changeSkills_2) (by decide +kernel) ⟨Nat.le_of_ble_eq_true rfl, Nat.le_of_ble_eq_true rfl⟩, hts _ mX3_changeSkills_3, trivial⟩ (gPS (wc := []) hK hN hA hS hP hD [] rfl rfl) rfl rfl hl.1 rfl (lv_room (Nat.le_of_ble_eq_true rfl)) dX3_changeSkills_57 ⟨Nat.zero_le _, Nat.zero_le _⟩) hP hD hS hA [] rfl rfl rfl (fun H locs hP hD hS => ?_)
      have hP : va_P (dC, dI) vwCl [(a_o, .inr (3, [.int o_round, .int o_fell, .int o_ills, .ref a_o_skills, .ref a_o_places, .ref a_o_stores, .ref a_o_lacked, .ref a_o_helpers, .ref a_o_favours, .ref a_o_wheel, .ref a_o_works])), (a_o_skills, .inl (cI, 36, .inl o_skills)), (a_o_wheel, .inl (cI, 6, .inl o_wheel)), (a_o_works, .inl (cI, 6, .inl o_works)), (a_x1, .inr (1, [.int x1_trades, .int x1_people, .ref a_x1_needs, .ref a_x1_yields, .ref a_x1_skips, .ref a_x1_skills, .ref a_x1_places, .ref a_x1_wheel, .int x1_tradesEnded]))] H := hP
      have hD : va_D A [(a_o, .inr (3, [.int o_round, .int o_fell, .int o_ills, .ref a_o_skills, .ref a_o_places, .ref a_o_stores, .ref a_o_lacked, .ref a_o_helpers, .ref a_o_favours, .ref a_o_wheel, .ref a_o_works])), (a_o_skills, .inl (cI, 36, .inl o_skills)), (a_o_wheel, .inl (cI, 6, .inl o_wheel)), (a_o_works, .inl (cI, 6, .inl o_works)), (a_x1, .inr (1, [.int x1_trades, .int x1_people, .ref a_x1_needs, .ref a_x1_yields, .ref a_x1_skips, .ref a_x1_skills, .ref a_x1_places, .ref a_x1_wheel, .int x1_tradesEnded]))] := hD
      refine lv_istore (lv' := [(7, .int r_2), (0, .ref a_o), (1, .ref a_x1), (3, .int l3), (4, .int l4), (5, .int l5), (6, .int l6)]) hx hb dX3_changeSkills_60 hl (by decide) rfl (fun ls hl => ?_)
      refine lv_iload hx hb dX3_changeSkills_62 (lv_at hl 6 rfl) ?_
      refine lv_iload hx hb dX3_changeSkills_64 (lv_at hl 5 rfl) ?_
      refine lv_icmp_ne (tgt := 93) hx hb dX3_changeSkills_66 (by decide) (fun c_3 => ?_) (fun c_3 => ?_)
      · have hf := pif hf c_3
        refine lv_iload_n hx hb dX3_changeSkills_93 rfl (lv_at hl 3 rfl) ?_
        refine lv_if_eq (tgt := 117) hx hb dX3_changeSkills_94 (by decide) (fun c_4 => ?_) (fun c_4 => ?_)
        · have hf := pit hf c_4
          refine lv_iinc (v := (l6 + 1)) (lv' := [(6, .int (l6 + 1)), (7, .int r_2), (0, .ref a_o), (1, .ref a_x1), (3, .int l3), (4, .int l4), (5, .int l5)]) hx hb dX3_changeSkills_117 hl (k := 6) rfl rfl (by decide) rfl (fun ls hl => ?_)
          refine lv_goto (tgt := 44) hx hb dX3_changeSkills_120 (by decide) ?_
          exact ih _ _ _ _ hf _ _ _ hP hD hS (lv_sub hl [2, 3, 4, 5, 6, 0] rfl) kx
        · have hf := pif hf c_4
          refine lv_aload_n hx hb dX3_changeSkills_97 rfl (lv_at hl 1 rfl) ?_
          refine va_get (D := (dC, dI)) (ci := 3) (v := .ref a_o_skills) (C := RX3) (T := TX3) (N := 11) hx hb hts uX3_changeSkills_X3 hown hK hP 0 rfl rfl 3 (by decide) (hts _ mX3_changeSkills_4) (fun _ h9 => h9) rfl dX3_changeSkills_98 ?_
          refine lv_iload hx hb dX3_changeSkills_101 (lv_at hl 0 rfl) ?_
          refine lv_aload_n hx hb dX3_changeSkills_103 rfl (lv_at hl 1 rfl) ?_
          refine va_get (D := (dC, dI)) (ci := 3) (v := .ref a_o_skills) (C := RX3) (T := TX3) (N := 11) hx hb hts uX3_changeSkills_X3 hown hK hP 0 rfl rfl 3 (by decide) (hts _ mX3_changeSkills_4) (fun _ h9 => h9) rfl dX3_changeSkills_104 ?_
          refine lv_iload hx hb dX3_changeSkills_107 (lv_at hl 0 rfl) ?_
          obtain ⟨h_5, hf⟩ := pgd hf
          refine va_iald hx hb hK hP 1 1 rfl rfl h_5 dX3_changeSkills_109 ?_
          refine lv_iconst (v := (1 : Int32)) hx hb dX3_changeSkills_110 (by decide) ?_
          refine lv_isub hx hb dX3_changeSkills_111 ?_
          refine lv_iconst (v := (0 : Int32)) hx hb dX3_changeSkills_112 (by decide) ?_
          refine va_mmax hx hb (hml.trans hl.1.symm) hown (hts _ mX3_changeSkills_5) (hts _ mX3_changeSkills_6) (hts _ mX3_changeSkills_7) (hts _ mX3_changeSkills_8) (Nat.le_of_ble_eq_true rfl) (Nat.le_of_ble_eq_true rfl) (Nat.zero_le _) (Nat.zero_le _) dX3_changeSkills_113 ?_
          obtain ⟨h_6, hf⟩ := pgd hf
          refine va_iast hx hb hK hP hD hS 1 1 rfl rfl h_6 dX3_changeSkills_116 (fun H locs hP hD hS => ?_)
          have hP : va_P (dC, dI) vwCl [(a_o, .inr (3, [.int o_round, .int o_fell, .int o_ills, .ref a_o_skills, .ref a_o_places, .ref a_o_stores, .ref a_o_lacked, .ref a_o_helpers, .ref a_o_favours, .ref a_o_wheel, .ref a_o_works])), (a_o_skills, .inl (cI, 36, .inl (upd o_skills r_2.toNatClampNeg (if ((o_skills r_2.toNatClampNeg) - (1 : Int32)) < (0 : Int32) then (0 : Int32) else ((o_skills r_2.toNatClampNeg) - (1 : Int32)))))), (a_o_wheel, .inl (cI, 6, .inl o_wheel)), (a_o_works, .inl (cI, 6, .inl o_works)), (a_x1, .inr (1, [.int x1_trades, .int x1_people, .ref a_x1_needs, .ref a_x1_yields, .ref a_x1_skips, .ref a_x1_skills, .ref a_x1_places, .ref a_x1_wheel, .int x1_tradesEnded]))] H := hP
          have hD : va_D A [(a_o, .inr (3, [.int o_round, .int o_fell, .int o_ills, .ref a_o_skills, .ref a_o_places, .ref a_o_stores, .ref a_o_lacked, .ref a_o_helpers, .ref a_o_favours, .ref a_o_wheel, .ref a_o_works])), (a_o_skills, .inl (cI, 36, .inl (upd o_skills r_2.toNatClampNeg (if ((o_skills r_2.toNatClampNeg) - (1 : Int32)) < (0 : Int32) then (0 : Int32) else ((o_skills r_2.toNatClampNeg) - (1 : Int32)))))), (a_o_wheel, .inl (cI, 6, .inl o_wheel)), (a_o_works, .inl (cI, 6, .inl o_works)), (a_x1, .inr (1, [.int x1_trades, .int x1_people, .ref a_x1_needs, .ref a_x1_yields, .ref a_x1_skips, .ref a_x1_skills, .ref a_x1_places, .ref a_x1_wheel, .int x1_tradesEnded]))] := hD
          refine lv_iinc (v := (l6 + 1)) (lv' := [(6, .int (l6 + 1)), (7, .int r_2), (0, .ref a_o), (1, .ref a_x1), (3, .int l3), (4, .int l4), (5, .int l5)]) hx hb dX3_changeSkills_117 hl (k := 6) rfl rfl (by decide) rfl (fun ls hl => ?_)
          refine lv_goto (tgt := 44) hx hb dX3_changeSkills_120 (by decide) ?_
          exact ih _ _ _ _ hf _ _ _ hP hD hS (lv_sub hl [2, 3, 4, 5, 6, 0] rfl) kx
      · have hf := pit hf c_3
        refine lv_aload_n hx hb dX3_changeSkills_69 rfl (lv_at hl 1 rfl) ?_
        refine va_get (D := (dC, dI)) (ci := 3) (v := .ref a_o_skills) (C := RX3) (T := TX3) (N := 11) hx hb hts uX3_changeSkills_X3 hown hK hP 0 rfl rfl 3 (by decide) (hts _ mX3_changeSkills_4) (fun _ h9 => h9) rfl dX3_changeSkills_70 ?_
        refine lv_iload hx hb dX3_changeSkills_73 (lv_at hl 0 rfl) ?_
        refine lv_aload_n hx hb dX3_changeSkills_75 rfl (lv_at hl 1 rfl) ?_
        refine va_get (D := (dC, dI)) (ci := 3) (v := .ref a_o_skills) (C := RX3) (T := TX3) (N := 11) hx hb hts uX3_changeSkills_X3 hown hK hP 0 rfl rfl 3 (by decide) (hts _ mX3_changeSkills_4) (fun _ h9 => h9) rfl dX3_changeSkills_76 ?_
        refine lv_iload hx hb dX3_changeSkills_79 (lv_at hl 0 rfl) ?_
        obtain ⟨h_7, hf⟩ := pgd hf
        refine va_iald hx hb hK hP 1 1 rfl rfl h_7 dX3_changeSkills_81 ?_
        refine lv_iconst (v := (1 : Int32)) hx hb dX3_changeSkills_82 (by decide) ?_
        refine lv_iadd hx hb dX3_changeSkills_83 ?_
        refine lv_bipush (v := (9 : Int32)) hx hb dX3_changeSkills_84 (by decide) ?_
        refine va_mmin hx hb (hml.trans hl.1.symm) hown (hts _ mX3_changeSkills_9) (hts _ mX3_changeSkills_10) (hts _ mX3_changeSkills_7) (hts _ mX3_changeSkills_11) (Nat.le_of_ble_eq_true rfl) (Nat.le_of_ble_eq_true rfl) (Nat.zero_le _) (Nat.zero_le _) dX3_changeSkills_86 ?_
        obtain ⟨h_8, hf⟩ := pgd hf
        refine va_iast hx hb hK hP hD hS 1 1 rfl rfl h_8 dX3_changeSkills_89 (fun H locs hP hD hS => ?_)
        have hP : va_P (dC, dI) vwCl [(a_o, .inr (3, [.int o_round, .int o_fell, .int o_ills, .ref a_o_skills, .ref a_o_places, .ref a_o_stores, .ref a_o_lacked, .ref a_o_helpers, .ref a_o_favours, .ref a_o_wheel, .ref a_o_works])), (a_o_skills, .inl (cI, 36, .inl (upd o_skills r_2.toNatClampNeg (if (9 : Int32) < ((o_skills r_2.toNatClampNeg) + (1 : Int32)) then (9 : Int32) else ((o_skills r_2.toNatClampNeg) + (1 : Int32)))))), (a_o_wheel, .inl (cI, 6, .inl o_wheel)), (a_o_works, .inl (cI, 6, .inl o_works)), (a_x1, .inr (1, [.int x1_trades, .int x1_people, .ref a_x1_needs, .ref a_x1_yields, .ref a_x1_skips, .ref a_x1_skills, .ref a_x1_places, .ref a_x1_wheel, .int x1_tradesEnded]))] H := hP
        have hD : va_D A [(a_o, .inr (3, [.int o_round, .int o_fell, .int o_ills, .ref a_o_skills, .ref a_o_places, .ref a_o_stores, .ref a_o_lacked, .ref a_o_helpers, .ref a_o_favours, .ref a_o_wheel, .ref a_o_works])), (a_o_skills, .inl (cI, 36, .inl (upd o_skills r_2.toNatClampNeg (if (9 : Int32) < ((o_skills r_2.toNatClampNeg) + (1 : Int32)) then (9 : Int32) else ((o_skills r_2.toNatClampNeg) + (1 : Int32)))))), (a_o_wheel, .inl (cI, 6, .inl o_wheel)), (a_o_works, .inl (cI, 6, .inl o_works)), (a_x1, .inr (1, [.int x1_trades, .int x1_people, .ref a_x1_needs, .ref a_x1_yields, .ref a_x1_skips, .ref a_x1_skills, .ref a_x1_places, .ref a_x1_wheel, .int x1_tradesEnded]))] := hD
        refine lv_goto (tgt := 117) hx hb dX3_changeSkills_90 (by decide) ?_
        refine lv_iinc (v := (l6 + 1)) (lv' := [(6, .int (l6 + 1)), (7, .int r_2), (0, .ref a_o), (1, .ref a_x1), (3, .int l3), (4, .int l4), (5, .int l5)]) hx hb dX3_changeSkills_117 hl (k := 6) rfl rfl (by decide) rfl (fun ls hl => ?_)
        refine lv_goto (tgt := 44) hx hb dX3_changeSkills_120 (by decide) ?_
        exact ih _ _ _ _ hf _ _ _ hP hD hS (lv_sub hl [2, 3, 4, 5, 6, 0] rfl) kx
set_option maxHeartbeats 4000000 in
set_option maxRecDepth 100000 in
theorem wX3_changeSkills_24 {p : Program} {l : Launch} {e : Env} {s : State} {m : MethodId} {args : Array Value} {below : List Frame} {meth : Method} {c : Code} {Q : State → Prop} {A : Nat → Prop} {dC : Nat → ClassId} {dI : Nat → Nat → Nat} {Z : gZ} {cC cI cZ cW : ClassId} (hg0 : gX p s m args meth c cX3_changeSkills 8 none wsX3_changeSkills RX3 (dC, dI) Z [(cC, .char), (cI, .int), (cZ, .boolean), (cW, .object RX3)] A) (a_o a_o_skills a_o_places a_o_stores a_o_lacked a_o_helpers a_o_favours a_o_wheel a_o_works a_x1 a_x1_needs a_x1_yields a_x1_skips a_x1_skills a_x1_places a_x1_wheel : Nat) (o_round : Int32) (o_fell : Int32) (o_ills : Int32) (o_wheel : Nat → Int32) (o_works : Nat → Int32) (x1_trades : Int32) (x1_people : Int32) (x1_tradesEnded : Int32) (l3 : Int32) (N : Nat) : ∀ (n : Nat) (o_skills : Nat → Int32) (l4 : Int32) (o_skills' : Nat → Int32) (l4' : Int32), fX3_changeSkills_24 N o_ills o_wheel o_works x1_trades x1_people l3 n o_skills l4 = some (o_skills', l4') → ∀ (H : Heap) (locs : List Loc) (ls : Array Slot), va_P (dC, dI) vwCl [(a_o, .inr (3, [.int o_round, .int o_fell, .int o_ills, .ref a_o_skills, .ref a_o_places, .ref a_o_stores, .ref a_o_lacked, .ref a_o_helpers, .ref a_o_favours, .ref a_o_wheel, .ref a_o_works])), (a_o_skills, .inl (cI, 36, .inl o_skills)), (a_o_wheel, .inl (cI, 6, .inl o_wheel)), (a_o_works, .inl (cI, 6, .inl o_works)), (a_x1, .inr (1, [.int x1_trades, .int x1_people, .ref a_x1_needs, .ref a_x1_yields, .ref a_x1_skips, .ref a_x1_skills, .ref a_x1_places, .ref a_x1_wheel, .int x1_tradesEnded]))] H → va_D A [(a_o, .inr (3, [.int o_round, .int o_fell, .int o_ills, .ref a_o_skills, .ref a_o_places, .ref a_o_stores, .ref a_o_lacked, .ref a_o_helpers, .ref a_o_favours, .ref a_o_wheel, .ref a_o_works])), (a_o_skills, .inl (cI, 36, .inl o_skills)), (a_o_wheel, .inl (cI, 6, .inl o_wheel)), (a_o_works, .inl (cI, 6, .inl o_works)), (a_x1, .inr (1, [.int x1_trades, .int x1_people, .ref a_x1_needs, .ref a_x1_yields, .ref a_x1_skips, .ref a_x1_skills, .ref a_x1_places, .ref a_x1_wheel, .int x1_tradesEnded]))] → va_S A s.heap H locs → lv_has ls 8 [(0, .ref a_o), (1, .ref a_x1), (3, .int l3), (4, .int l4)] → (∀ (H : Heap) (locs : List Loc) (ls : Array Slot), va_P (dC, dI) vwCl [(a_o, .inr (3, [.int o_round, .int o_fell, .int o_ills, .ref a_o_skills, .ref a_o_places, .ref a_o_stores, .ref a_o_lacked, .ref a_o_helpers, .ref a_o_favours, .ref a_o_wheel, .ref a_o_works])), (a_o_skills, .inl (cI, 36, .inl o_skills')), (a_o_wheel, .inl (cI, 6, .inl o_wheel)), (a_o_works, .inl (cI, 6, .inl o_works)), (a_x1, .inr (1, [.int x1_trades, .int x1_people, .ref a_x1_needs, .ref a_x1_yields, .ref a_x1_skips, .ref a_x1_skills, .ref a_x1_places, .ref a_x1_wheel, .int x1_tradesEnded]))] H → va_D A [(a_o, .inr (3, [.int o_round, .int o_fell, .int o_ills, .ref a_o_skills, .ref a_o_places, .ref a_o_stores, .ref a_o_lacked, .ref a_o_helpers, .ref a_o_favours, .ref a_o_wheel, .ref a_o_works])), (a_o_skills, .inl (cI, 36, .inl o_skills')), (a_o_wheel, .inl (cI, 6, .inl o_wheel)), (a_o_works, .inl (cI, 6, .inl o_works)), (a_x1, .inr (1, [.int x1_trades, .int x1_people, .ref a_x1_needs, .ref a_x1_yields, .ref a_x1_skips, .ref a_x1_skills, .ref a_x1_places, .ref a_x1_wheel, .int x1_tradesEnded]))] → va_S A s.heap H locs → lv_has ls 8 [] → W p l e (headSpec wsX3_changeSkills rmX3_changeSkills).room s m args below meth c H locs 0 0 Q (F0 m 129 ls [])) → W p l e (headSpec wsX3_changeSkills rmX3_changeSkills).room s m args below meth c H locs 0 0 Q (F0 m 24 ls []) := by
  obtain ⟨hx, hb, hr, hml, hown, hts, hlocks, hA, hK, hN⟩ := id hg0
  have hF : CallFix p m c cX3_changeSkills 8 s args wsX3_changeSkills RX3 := ⟨hx, hb, hml, hown, hts⟩
  intro n
  induction n with
  | zero =>
    intro o_skills l4 o_skills' l4' hf
    have hf := fX3_changeSkills_24_0.symm.trans hf
    cases hf
  | succ n ih =>
    intro o_skills l4 o_skills' l4' hf H locs ls hP hD hS hl kx
    have hf := fX3_changeSkills_24_s.symm.trans hf
    refine lv_iload hx hb dX3_changeSkills_24 (lv_at hl 3 rfl) ?_
    refine lv_aload_n hx hb dX3_changeSkills_26 rfl (lv_at hl 1 rfl) ?_
    refine va_get (D := (dC, dI)) (ci := 1) (v := .int x1_people) (C := RX1) (T := TX1) (N := 9) hx hb hts uX3_changeSkills_X1 hown hK hP 4 rfl rfl 1 (by decide) (hts _ mX3_changeSkills_0) (fun _ h9 => h9) rfl dX3_changeSkills_27 ?_
    refine lv_icmp_ge (tgt := 129) hx hb dX3_changeSkills_30 (by decide) (fun c_1 => ?_) (fun c_1 => ?_)
    · have hf := pit hf c_1
      have q0 := Option.some.inj hf
      obtain ⟨e0, q1⟩ := Prod.mk.inj q0
      subst e0
      subst q1
      exact kx _ _ _ hP hD hS (lv_sub hl [] rfl)
    · have hf := pif hf c_1
      refine lv_aload_n hx hb dX3_changeSkills_33 rfl (lv_at hl 0 rfl) ?_
      refine lv_iload hx hb dX3_changeSkills_34 (lv_at hl 3 rfl) ?_
      obtain ⟨r_2, hc, hf⟩ := pb1 hf
      refine gCi (va_runV (As := [.int l4]) (rest := []) hF (kX3_workedAt l dC dI Z cC cI cZ cW a_o a_o_skills a_o_places a_o_stores a_o_lacked a_o_helpers a_o_favours a_o_wheel a_o_works _ o_round o_fell o_ills o_wheel o_works l4 N r_2 hc) (cwV 1 hts gX3_changeSkills_X3_workedAt rfl rfl rfl (by decide +kernel) ⟨Nat.le_of_ble_eq_true rfl, Nat.le_of_ble_eq_true rfl⟩) (gPV (wc := [(a_o, .inr (3, [.int o_round, .int o_fell, .int o_ills, .ref a_o_skills, .ref a_o_places, .ref a_o_stores, .ref a_o_lacked, .ref a_o_helpers, .ref a_o_favours, .ref a_o_wheel, .ref a_o_works])), (a_o_wheel, .inl (cI, 6, .inl o_wheel)), (a_o_works, .inl (cI, 6, .inl o_works))]) hK hN hA hS hP hD [0, 2, 3] rfl rfl (q0 := 0) (ci := 3) rfl rfl rfl) rfl rfl hl.1 rfl (lv_room (Nat.le_of_ble_eq_true rfl)) dX3_changeSkills_36 ⟨Nat.zero_le _, Nat.zero_le _⟩) hP hD hS hA [0, 2, 3] rfl rfl rfl (fun H locs hP hD hS => ?_)
      have hP : va_P (dC, dI) vwCl [(a_o, .inr (3, [.int o_round, .int o_fell, .int o_ills, .ref a_o_skills, .ref a_o_places, .ref a_o_stores, .ref a_o_lacked, .ref a_o_helpers, .ref a_o_favours, .ref a_o_wheel, .ref a_o_works])), (a_o_skills, .inl (cI, 36, .inl o_skills)), (a_o_wheel, .inl (cI, 6, .inl o_wheel)), (a_o_works, .inl (cI, 6, .inl o_works)), (a_x1, .inr (1, [.int x1_trades, .int x1_people, .ref a_x1_needs, .ref a_x1_yields, .ref a_x1_skips, .ref a_x1_skills, .ref a_x1_places, .ref a_x1_wheel, .int x1_tradesEnded]))] H := hP
      have hD : va_D A [(a_o, .inr (3, [.int o_round, .int o_fell, .int o_ills, .ref a_o_skills, .ref a_o_places, .ref a_o_stores, .ref a_o_lacked, .ref a_o_helpers, .ref a_o_favours, .ref a_o_wheel, .ref a_o_works])), (a_o_skills, .inl (cI, 36, .inl o_skills)), (a_o_wheel, .inl (cI, 6, .inl o_wheel)), (a_o_works, .inl (cI, 6, .inl o_works)), (a_x1, .inr (1, [.int x1_trades, .int x1_people, .ref a_x1_needs, .ref a_x1_yields, .ref a_x1_skips, .ref a_x1_skills, .ref a_x1_places, .ref a_x1_wheel, .int x1_tradesEnded]))] := hD
      refine lv_istore (lv' := [(5, .int r_2), (0, .ref a_o), (1, .ref a_x1), (3, .int l3), (4, .int l4)]) hx hb dX3_changeSkills_39 hl (by decide) rfl (fun ls hl => ?_)
      refine lv_iconst (v := (0 : Int32)) hx hb dX3_changeSkills_41 (by decide) ?_
      refine lv_istore (lv' := [(6, .int (0 : Int32)), (5, .int r_2), (0, .ref a_o), (1, .ref a_x1), (3, .int l3), (4, .int l4)]) hx hb dX3_changeSkills_42 hl (by decide) rfl (fun ls hl => ?_)
      obtain ⟨o_skills_3, l6_4, hc, hf⟩ := pb2 hf
      refine wX3_changeSkills_44 hg0 a_o a_o_skills a_o_places a_o_stores a_o_lacked a_o_helpers a_o_favours a_o_wheel a_o_works a_x1 a_x1_needs a_x1_yields a_x1_skips a_x1_skills a_x1_places a_x1_wheel o_round o_fell o_ills o_wheel o_works x1_trades x1_people x1_tradesEnded l3 l4 r_2 N N o_skills (0 : Int32) o_skills_3 l6_4 hc _ _ _ hP hD hS (lv_sub hl [2, 3, 4, 5, 1, 0] rfl) (fun H locs ls hP hD hS hl => ?_)
      refine lv_iinc (v := (l4 + 1)) (lv' := [(4, .int (l4 + 1)), (0, .ref a_o), (1, .ref a_x1), (3, .int l3)]) hx hb dX3_changeSkills_123 hl (k := 3) rfl rfl (by decide) rfl (fun ls hl => ?_)
      refine lv_goto (tgt := 24) hx hb dX3_changeSkills_126 (by decide) ?_
      exact ih _ _ _ _ hf _ _ _ hP hD hS (lv_sub hl [1, 2, 3, 0] rfl) kx
set_option maxHeartbeats 4000000 in
set_option maxRecDepth 100000 in
theorem kX3_changeSkills (l : Launch) (dC : Nat → ClassId) (dI : Nat → Nat → Nat) (Z : gZ) (cC cI cZ cW : ClassId) (a_o a_o_skills a_o_places a_o_stores a_o_lacked a_o_helpers a_o_favours a_o_wheel a_o_works a_x1 a_x1_needs a_x1_yields a_x1_skips a_x1_skills a_x1_places a_x1_wheel : Nat) (sz : Nat) (o_round : Int32) (o_fell : Int32) (o_ills : Int32) (o_skills : Nat → Int32) (o_wheel : Nat → Int32) (o_works : Nat → Int32) (x1_trades : Int32) (x1_people : Int32) (x1_tradesEnded : Int32) (i2 : Int32) (N : Nat) (o_skills' : Nat → Int32) (hf : fX3_changeSkills N o_round o_ills o_skills o_wheel o_works x1_trades x1_people  i2 = some o_skills') : Met l yX3_changeSkills wsX3_changeSkills rmX3_changeSkills (va_Pc [.ref a_o, .ref a_x1, .int i2] (gB (dC, dI) Z [(cC, .char), (cI, .int), (cZ, .boolean), (cW, .object RX3)] [(a_o, .inr (3, [.int o_round, .int o_fell, .int o_ills, .ref a_o_skills, .ref a_o_places, .ref a_o_stores, .ref a_o_lacked, .ref a_o_helpers, .ref a_o_favours, .ref a_o_wheel, .ref a_o_works])), (a_o_skills, .inl (cI, 36, .inl o_skills)), (a_o_wheel, .inl (cI, 6, .inl o_wheel)), (a_o_works, .inl (cI, 6, .inl o_works)), (a_x1, .inr (1, [.int x1_trades, .int x1_people, .ref a_x1_needs, .ref a_x1_yields, .ref a_x1_skips, .ref a_x1_skills, .ref a_x1_places, .ref a_x1_wheel, .int x1_tradesEnded]))] sz)) (va_Qv (fun (_ : Unit) => True) (gE (dC, dI) [(a_o, .inr (3, [.int o_round, .int o_fell, .int o_ills, .ref a_o_skills, .ref a_o_places, .ref a_o_stores, .ref a_o_lacked, .ref a_o_helpers, .ref a_o_favours, .ref a_o_wheel, .ref a_o_works])), (a_o_skills, .inl (cI, 36, .inl o_skills')), (a_o_wheel, .inl (cI, 6, .inl o_wheel)), (a_o_works, .inl (cI, 6, .inl o_works)), (a_x1, .inr (1, [.int x1_trades, .int x1_people, .ref a_x1_needs, .ref a_x1_yields, .ref a_x1_skips, .ref a_x1_skills, .ref a_x1_places, .ref a_x1_wheel, .int x1_tradesEnded]))]) (va_A [(a_o, .inr (3, [.int o_round, .int o_fell, .int o_ills, .ref a_o_skills, .ref a_o_places, .ref a_o_stores, .ref a_o_lacked, .ref a_o_helpers, .ref a_o_favours, .ref a_o_wheel, .ref a_o_works])), (a_o_skills, .inl (cI, 36, .inl o_skills)), (a_o_wheel, .inl (cI, 6, .inl o_wheel)), (a_o_works, .inl (cI, 6, .inl o_works)), (a_x1, .inr (1, [.int x1_trades, .int x1_people, .ref a_x1_needs, .ref a_x1_yields, .ref a_x1_skips, .ref a_x1_skills, .ref a_x1_places, .ref a_x1_wheel, .int x1_tradesEnded]))] sz)) 0 0 (va_A [(a_o, .inr (3, [.int o_round, .int o_fell, .int o_ills, .ref a_o_skills, .ref a_o_places, .ref a_o_stores, .ref a_o_lacked, .ref a_o_helpers, .ref a_o_favours, .ref a_o_wheel, .ref a_o_works])), (a_o_skills, .inl (cI, 36, .inl o_skills)), (a_o_wheel, .inl (cI, 6, .inl o_wheel)), (a_o_works, .inl (cI, 6, .inl o_works)), (a_x1, .inr (1, [.int x1_trades, .int x1_people, .ref a_x1_needs, .ref a_x1_yields, .ref a_x1_skips, .ref a_x1_skills, .ref a_x1_places, .ref a_x1_wheel, .int x1_tradesEnded]))] sz) := by
  refine gMet (cc := cX3_changeSkills) (maxL := 8) (ret := none) (Qc := fun A => va_Qv (fun (_ : Unit) => True) (gE (dC, dI) [(a_o, .inr (3, [.int o_round, .int o_fell, .int o_ills, .ref a_o_skills, .ref a_o_places, .ref a_o_stores, .ref a_o_lacked, .ref a_o_helpers, .ref a_o_favours, .ref a_o_wheel, .ref a_o_works])), (a_o_skills, .inl (cI, 36, .inl o_skills')), (a_o_wheel, .inl (cI, 6, .inl o_wheel)), (a_o_works, .inl (cI, 6, .inl o_works)), (a_x1, .inr (1, [.int x1_trades, .int x1_people, .ref a_x1_needs, .ref a_x1_yields, .ref a_x1_skips, .ref a_x1_skills, .ref a_x1_places, .ref a_x1_wheel, .int x1_tradesEnded]))]) A) (by decide) rfl (Nat.le_of_ble_eq_true rfl) ?_
  intro p e s m below meth c A ls hg0 _ hsz hP hD hS hl
  have hg0 : gX p s m _ meth c cX3_changeSkills 8 none wsX3_changeSkills RX3 (dC, dI) Z [(cC, .char), (cI, .int), (cZ, .boolean), (cW, .object RX3)] A := hg0
  obtain ⟨hx, hb, hr, hml, hown, hts, hlocks, hA, hK, hN⟩ := id hg0
  subst hsz
  have hF : CallFix p m c cX3_changeSkills 8 s _ wsX3_changeSkills RX3 := ⟨hx, hb, hml, hown, hts⟩
  have hl : lv_has ls 8 [(0, .ref a_o), (1, .ref a_x1), (2, .int i2)] := hl
  unfold fX3_changeSkills at hf
  refine lv_iload_n hx hb dX3_changeSkills_0 rfl (lv_at hl 2 rfl) ?_
  refine lv_if_le (tgt := 19) hx hb dX3_changeSkills_1 (by decide) (fun c_1 => ?_) (fun c_1 => ?_)
  · have hf := pit hf c_1
    refine lv_iconst (v := (0 : Int32)) hx hb dX3_changeSkills_19 (by decide) ?_
    refine lv_istore_n (lv' := [(3, .int (0 : Int32)), (0, .ref a_o), (1, .ref a_x1), (2, .int i2)]) hx hb dX3_changeSkills_20 rfl hl (by decide) rfl (fun ls hl => ?_)
    refine lv_iconst (v := (0 : Int32)) hx hb dX3_changeSkills_21 (by decide) ?_
    refine lv_istore (lv' := [(4, .int (0 : Int32)), (3, .int (0 : Int32)), (0, .ref a_o), (1, .ref a_x1), (2, .int i2)]) hx hb dX3_changeSkills_22 hl (by decide) rfl (fun ls hl => ?_)
    obtain ⟨o_skills_2, l4_3, hc, hf⟩ := pb2 hf
    refine wX3_changeSkills_24 hg0 a_o a_o_skills a_o_places a_o_stores a_o_lacked a_o_helpers a_o_favours a_o_wheel a_o_works a_x1 a_x1_needs a_x1_yields a_x1_skips a_x1_skills a_x1_places a_x1_wheel o_round o_fell o_ills o_wheel o_works x1_trades x1_people x1_tradesEnded (0 : Int32) N N o_skills (0 : Int32) o_skills_2 l4_3 hc _ _ _ hP hD hS (lv_sub hl [2, 3, 1, 0] rfl) (fun H locs ls hP hD hS hl => ?_)
    have q0 := Option.some.inj hf
    subst q0
    exact gRv hx hb hr hlocks hP hS dX3_changeSkills_129
  · have hf := pif hf c_1
    refine lv_aload_n hx hb dX3_changeSkills_4 rfl (lv_at hl 0 rfl) ?_
    refine va_get (D := (dC, dI)) (ci := 3) (v := .int o_round) (C := RX3) (T := TX3) (N := 11) hx hb hts uX3_changeSkills_X3 hown hK hP 0 rfl rfl 0 (by decide) (hts _ mX3_changeSkills_12) (fun _ h9 => h9) rfl dX3_changeSkills_5 ?_
    refine lv_iconst (v := (1 : Int32)) hx hb dX3_changeSkills_8 (by decide) ?_
    refine lv_iadd hx hb dX3_changeSkills_9 ?_
    refine lv_iload_n hx hb dX3_changeSkills_10 rfl (lv_at hl 2 rfl) ?_
    obtain ⟨hz_4, hf⟩ := pgz hf
    refine lv_irem hx hb dX3_changeSkills_11 hz_4 ?_
    refine lv_if_ne (tgt := 19) hx hb dX3_changeSkills_12 (by decide) (fun c_5 => ?_) (fun c_5 => ?_)
    · have hf := pif hf c_5
      refine lv_iconst (v := (0 : Int32)) hx hb dX3_changeSkills_19 (by decide) ?_
      refine lv_istore_n (lv' := [(3, .int (0 : Int32)), (0, .ref a_o), (1, .ref a_x1), (2, .int i2)]) hx hb dX3_changeSkills_20 rfl hl (by decide) rfl (fun ls hl => ?_)
      refine lv_iconst (v := (0 : Int32)) hx hb dX3_changeSkills_21 (by decide) ?_
      refine lv_istore (lv' := [(4, .int (0 : Int32)), (3, .int (0 : Int32)), (0, .ref a_o), (1, .ref a_x1), (2, .int i2)]) hx hb dX3_changeSkills_22 hl (by decide) rfl (fun ls hl => ?_)
      obtain ⟨o_skills_6, l4_7, hc, hf⟩ := pb2 hf
      refine wX3_changeSkills_24 hg0 a_o a_o_skills a_o_places a_o_stores a_o_lacked a_o_helpers a_o_favours a_o_wheel a_o_works a_x1 a_x1_needs a_x1_yields a_x1_skips a_x1_skills a_x1_places a_x1_wheel o_round o_fell o_ills o_wheel o_works x1_trades x1_people x1_tradesEnded (0 : Int32) N N o_skills (0 : Int32) o_skills_6 l4_7 hc _ _ _ hP hD hS (lv_sub hl [2, 3, 1, 0] rfl) (fun H locs ls hP hD hS hl => ?_)
      have q0 := Option.some.inj hf
      subst q0
      exact gRv hx hb hr hlocks hP hS dX3_changeSkills_129
    · have hf := pit hf c_5
      refine lv_iconst (v := (1 : Int32)) hx hb dX3_changeSkills_15 (by decide) ?_
      refine lv_goto (tgt := 20) hx hb dX3_changeSkills_16 (by decide) ?_
      refine lv_istore_n (lv' := [(3, .int (1 : Int32)), (0, .ref a_o), (1, .ref a_x1), (2, .int i2)]) hx hb dX3_changeSkills_20 rfl hl (by decide) rfl (fun ls hl => ?_)
      refine lv_iconst (v := (0 : Int32)) hx hb dX3_changeSkills_21 (by decide) ?_
      refine lv_istore (lv' := [(4, .int (0 : Int32)), (3, .int (1 : Int32)), (0, .ref a_o), (1, .ref a_x1), (2, .int i2)]) hx hb dX3_changeSkills_22 hl (by decide) rfl (fun ls hl => ?_)
      obtain ⟨o_skills_8, l4_9, hc, hf⟩ := pb2 hf
      refine wX3_changeSkills_24 hg0 a_o a_o_skills a_o_places a_o_stores a_o_lacked a_o_helpers a_o_favours a_o_wheel a_o_works a_x1 a_x1_needs a_x1_yields a_x1_skips a_x1_skills a_x1_places a_x1_wheel o_round o_fell o_ills o_wheel o_works x1_trades x1_people x1_tradesEnded (1 : Int32) N N o_skills (0 : Int32) o_skills_8 l4_9 hc _ _ _ hP hD hS (lv_sub hl [2, 3, 1, 0] rfl) (fun H locs ls hP hD hS hl => ?_)
      have q0 := Option.some.inj hf
      subst q0
      exact gRv hx hb hr hlocks hP hS dX3_changeSkills_129
abbrev rmX3_endHelps : Room := { frames := 0, cells := 0, slots := 0, locals := 0 }
set_option maxRecDepth 20000 in
theorem uX3_endHelps_X3 : ∀ w ∈ wsX30, w ∈ wsX3_endHelps := by decide +kernel
set_option maxRecDepth 20000 in
theorem mX3_endHelps_0 : (Cond.fieldLink RX3 34 "TradeWheel$World" "helpers" "[I" : Cond) ∈ wsX3_endHelps := by decide +kernel
set_option maxRecDepth 20000 in
theorem mX3_endHelps_1 : (Cond.fieldLink RX3 37 "TradeWheel$World" "favours" "[I" : Cond) ∈ wsX3_endHelps := by decide +kernel
set_option maxHeartbeats 4000000 in
set_option maxRecDepth 100000 in
theorem wX3_endHelps_2 {p : Program} {l : Launch} {e : Env} {s : State} {m : MethodId} {args : Array Value} {below : List Frame} {meth : Method} {c : Code} {Q : State → Prop} {A : Nat → Prop} {dC : Nat → ClassId} {dI : Nat → Nat → Nat} {Z : gZ} {cC cI cZ cW : ClassId} (hg0 : gX p s m args meth c cX3_endHelps 2 none wsX3_endHelps RX3 (dC, dI) Z [(cC, .char), (cI, .int), (cZ, .boolean), (cW, .object RX3)] A) (a_o a_o_skills a_o_places a_o_stores a_o_lacked a_o_helpers a_o_favours a_o_wheel a_o_works : Nat) (o_round : Int32) (o_fell : Int32) (o_ills : Int32)  (N : Nat) : ∀ (n : Nat) (o_helpers : Nat → Int32) (o_favours : Nat → Int32) (l1 : Int32) (o_helpers' : Nat → Int32) (o_favours' : Nat → Int32) (l1' : Int32), fX3_endHelps_2 N  n o_helpers o_favours l1 = some (o_helpers', o_favours', l1') → ∀ (H : Heap) (locs : List Loc) (ls : Array Slot), va_P (dC, dI) vwCl [(a_o, .inr (3, [.int o_round, .int o_fell, .int o_ills, .ref a_o_skills, .ref a_o_places, .ref a_o_stores, .ref a_o_lacked, .ref a_o_helpers, .ref a_o_favours, .ref a_o_wheel, .ref a_o_works])), (a_o_helpers, .inl (cI, 6, .inl o_helpers)), (a_o_favours, .inl (cI, 36, .inl o_favours))] H → va_D A [(a_o, .inr (3, [.int o_round, .int o_fell, .int o_ills, .ref a_o_skills, .ref a_o_places, .ref a_o_stores, .ref a_o_lacked, .ref a_o_helpers, .ref a_o_favours, .ref a_o_wheel, .ref a_o_works])), (a_o_helpers, .inl (cI, 6, .inl o_helpers)), (a_o_favours, .inl (cI, 36, .inl o_favours))] → va_S A s.heap H locs → lv_has ls 2 [(0, .ref a_o), (1, .int l1)] → (∀ (H : Heap) (locs : List Loc) (ls : Array Slot), va_P (dC, dI) vwCl [(a_o, .inr (3, [.int o_round, .int o_fell, .int o_ills, .ref a_o_skills, .ref a_o_places, .ref a_o_stores, .ref a_o_lacked, .ref a_o_helpers, .ref a_o_favours, .ref a_o_wheel, .ref a_o_works])), (a_o_helpers, .inl (cI, 6, .inl o_helpers')), (a_o_favours, .inl (cI, 36, .inl o_favours'))] H → va_D A [(a_o, .inr (3, [.int o_round, .int o_fell, .int o_ills, .ref a_o_skills, .ref a_o_places, .ref a_o_stores, .ref a_o_lacked, .ref a_o_helpers, .ref a_o_favours, .ref a_o_wheel, .ref a_o_works])), (a_o_helpers, .inl (cI, 6, .inl o_helpers')), (a_o_favours, .inl (cI, 36, .inl o_favours'))] → va_S A s.heap H locs → lv_has ls 2 [] → W p l e (headSpec wsX3_endHelps rmX3_endHelps).room s m args below meth c H locs 0 0 Q (F0 m 53 ls [])) → W p l e (headSpec wsX3_endHelps rmX3_endHelps).room s m args below meth c H locs 0 0 Q (F0 m 2 ls []) := by
  obtain ⟨hx, hb, hr, hml, hown, hts, hlocks, hA, hK, hN⟩ := id hg0
  have hF : CallFix p m c cX3_endHelps 2 s args wsX3_endHelps RX3 := ⟨hx, hb, hml, hown, hts⟩
  intro n
  induction n with
  | zero =>
    intro o_helpers o_favours l1 o_helpers' o_favours' l1' hf
    have hf := fX3_endHelps_2_0.symm.trans hf
    cases hf
  | succ n ih =>
    intro o_helpers o_favours l1 o_helpers' o_favours' l1' hf H locs ls hP hD hS hl kx
    have hf := fX3_endHelps_2_s.symm.trans hf
    refine lv_iload_n hx hb dX3_endHelps_2 rfl (lv_at hl 1 rfl) ?_
    refine lv_bipush (v := (6 : Int32)) hx hb dX3_endHelps_3 (by decide) ?_
    refine lv_icmp_ge (tgt := 53) hx hb dX3_endHelps_5 (by decide) (fun c_1 => ?_) (fun c_1 => ?_)
    · have hf := pit hf c_1
      have q0 := Option.some.inj hf
      obtain ⟨e0, q1⟩ := Prod.mk.inj q0
      obtain ⟨e1, q2⟩ := Prod.mk.inj q1
      subst e0
      subst e1
      subst q2
      exact kx _ _ _ hP hD hS (lv_sub hl [] rfl)
    · have hf := pif hf c_1
      refine lv_aload_n hx hb dX3_endHelps_8 rfl (lv_at hl 0 rfl) ?_
      refine va_get (D := (dC, dI)) (ci := 3) (v := .ref a_o_helpers) (C := RX3) (T := TX3) (N := 11) hx hb hts uX3_endHelps_X3 hown hK hP 0 rfl rfl 7 (by decide) (hts _ mX3_endHelps_0) (fun _ h9 => h9) rfl dX3_endHelps_9 ?_
      refine lv_iload_n hx hb dX3_endHelps_12 rfl (lv_at hl 1 rfl) ?_
      obtain ⟨h_2, hf⟩ := pgd hf
      refine va_iald hx hb hK hP 1 1 rfl rfl h_2 dX3_endHelps_13 ?_
      refine lv_bipush (v := (-9 : Int32)) hx hb dX3_endHelps_14 (by decide) ?_
      refine lv_icmp_eq (tgt := 39) hx hb dX3_endHelps_16 (by decide) (fun c_3 => ?_) (fun c_3 => ?_)
      · have hf := pit hf c_3
        refine lv_aload_n hx hb dX3_endHelps_39 rfl (lv_at hl 0 rfl) ?_
        refine va_get (D := (dC, dI)) (ci := 3) (v := .ref a_o_helpers) (C := RX3) (T := TX3) (N := 11) hx hb hts uX3_endHelps_X3 hown hK hP 0 rfl rfl 7 (by decide) (hts _ mX3_endHelps_0) (fun _ h9 => h9) rfl dX3_endHelps_40 ?_
        refine lv_iload_n hx hb dX3_endHelps_43 rfl (lv_at hl 1 rfl) ?_
        refine lv_bipush (v := (-9 : Int32)) hx hb dX3_endHelps_44 (by decide) ?_
        obtain ⟨h_4, hf⟩ := pgd hf
        refine va_iast hx hb hK hP hD hS 1 1 rfl rfl h_4 dX3_endHelps_46 (fun H locs hP hD hS => ?_)
        have hP : va_P (dC, dI) vwCl [(a_o, .inr (3, [.int o_round, .int o_fell, .int o_ills, .ref a_o_skills, .ref a_o_places, .ref a_o_stores, .ref a_o_lacked, .ref a_o_helpers, .ref a_o_favours, .ref a_o_wheel, .ref a_o_works])), (a_o_helpers, .inl (cI, 6, .inl (upd o_helpers l1.toNatClampNeg (-9 : Int32)))), (a_o_favours, .inl (cI, 36, .inl o_favours))] H := hP
        have hD : va_D A [(a_o, .inr (3, [.int o_round, .int o_fell, .int o_ills, .ref a_o_skills, .ref a_o_places, .ref a_o_stores, .ref a_o_lacked, .ref a_o_helpers, .ref a_o_favours, .ref a_o_wheel, .ref a_o_works])), (a_o_helpers, .inl (cI, 6, .inl (upd o_helpers l1.toNatClampNeg (-9 : Int32)))), (a_o_favours, .inl (cI, 36, .inl o_favours))] := hD
        refine lv_iinc (v := (l1 + 1)) (lv' := [(1, .int (l1 + 1)), (0, .ref a_o)]) hx hb dX3_endHelps_47 hl (k := 1) rfl rfl (by decide) rfl (fun ls hl => ?_)
        refine lv_goto (tgt := 2) hx hb dX3_endHelps_50 (by decide) ?_
        exact ih _ _ _ _ _ _ hf _ _ _ hP hD hS (lv_sub hl [1, 0] rfl) kx
      · have hf := pif hf c_3
        refine lv_aload_n hx hb dX3_endHelps_19 rfl (lv_at hl 0 rfl) ?_
        refine va_get (D := (dC, dI)) (ci := 3) (v := .ref a_o_favours) (C := RX3) (T := TX3) (N := 11) hx hb hts uX3_endHelps_X3 hown hK hP 0 rfl rfl 8 (by decide) (hts _ mX3_endHelps_1) (fun _ h9 => h9) rfl dX3_endHelps_20 ?_
        refine lv_iload_n hx hb dX3_endHelps_23 rfl (lv_at hl 1 rfl) ?_
        refine lv_bipush (v := (6 : Int32)) hx hb dX3_endHelps_24 (by decide) ?_
        refine lv_imul hx hb dX3_endHelps_26 ?_
        refine lv_aload_n hx hb dX3_endHelps_27 rfl (lv_at hl 0 rfl) ?_
        refine va_get (D := (dC, dI)) (ci := 3) (v := .ref a_o_helpers) (C := RX3) (T := TX3) (N := 11) hx hb hts uX3_endHelps_X3 hown hK hP 0 rfl rfl 7 (by decide) (hts _ mX3_endHelps_0) (fun _ h9 => h9) rfl dX3_endHelps_28 ?_
        refine lv_iload_n hx hb dX3_endHelps_31 rfl (lv_at hl 1 rfl) ?_
        obtain ⟨h_5, hf⟩ := pgd hf
        refine va_iald hx hb hK hP 1 1 rfl rfl h_5 dX3_endHelps_32 ?_
        refine lv_iadd hx hb dX3_endHelps_33 ?_
        refine lv_dup2_11 hx hb dX3_endHelps_34 rfl rfl ?_
        obtain ⟨h_6, hf⟩ := pgd hf
        refine va_iald hx hb hK hP 2 1 rfl rfl h_6 dX3_endHelps_35 ?_
        refine lv_iconst (v := (1 : Int32)) hx hb dX3_endHelps_36 (by decide) ?_
        refine lv_iadd hx hb dX3_endHelps_37 ?_
        obtain ⟨h_7, hf⟩ := pgd hf
        refine va_iast hx hb hK hP hD hS 2 1 rfl rfl h_7 dX3_endHelps_38 (fun H locs hP hD hS => ?_)
        have hP : va_P (dC, dI) vwCl [(a_o, .inr (3, [.int o_round, .int o_fell, .int o_ills, .ref a_o_skills, .ref a_o_places, .ref a_o_stores, .ref a_o_lacked, .ref a_o_helpers, .ref a_o_favours, .ref a_o_wheel, .ref a_o_works])), (a_o_helpers, .inl (cI, 6, .inl o_helpers)), (a_o_favours, .inl (cI, 36, .inl (upd o_favours ((l1 * (6 : Int32)) + (o_helpers l1.toNatClampNeg)).toNatClampNeg ((o_favours ((l1 * (6 : Int32)) + (o_helpers l1.toNatClampNeg)).toNatClampNeg) + (1 : Int32)))))] H := hP
        have hD : va_D A [(a_o, .inr (3, [.int o_round, .int o_fell, .int o_ills, .ref a_o_skills, .ref a_o_places, .ref a_o_stores, .ref a_o_lacked, .ref a_o_helpers, .ref a_o_favours, .ref a_o_wheel, .ref a_o_works])), (a_o_helpers, .inl (cI, 6, .inl o_helpers)), (a_o_favours, .inl (cI, 36, .inl (upd o_favours ((l1 * (6 : Int32)) + (o_helpers l1.toNatClampNeg)).toNatClampNeg ((o_favours ((l1 * (6 : Int32)) + (o_helpers l1.toNatClampNeg)).toNatClampNeg) + (1 : Int32)))))] := hD
        refine lv_aload_n hx hb dX3_endHelps_39 rfl (lv_at hl 0 rfl) ?_
        refine va_get (D := (dC, dI)) (ci := 3) (v := .ref a_o_helpers) (C := RX3) (T := TX3) (N := 11) hx hb hts uX3_endHelps_X3 hown hK hP 0 rfl rfl 7 (by decide) (hts _ mX3_endHelps_0) (fun _ h9 => h9) rfl dX3_endHelps_40 ?_
        refine lv_iload_n hx hb dX3_endHelps_43 rfl (lv_at hl 1 rfl) ?_
        refine lv_bipush (v := (-9 : Int32)) hx hb dX3_endHelps_44 (by decide) ?_
        obtain ⟨h_8, hf⟩ := pgd hf
        refine va_iast hx hb hK hP hD hS 1 1 rfl rfl h_8 dX3_endHelps_46 (fun H locs hP hD hS => ?_)
        have hP : va_P (dC, dI) vwCl [(a_o, .inr (3, [.int o_round, .int o_fell, .int o_ills, .ref a_o_skills, .ref a_o_places, .ref a_o_stores, .ref a_o_lacked, .ref a_o_helpers, .ref a_o_favours, .ref a_o_wheel, .ref a_o_works])), (a_o_helpers, .inl (cI, 6, .inl (upd o_helpers l1.toNatClampNeg (-9 : Int32)))), (a_o_favours, .inl (cI, 36, .inl (upd o_favours ((l1 * (6 : Int32)) + (o_helpers l1.toNatClampNeg)).toNatClampNeg ((o_favours ((l1 * (6 : Int32)) + (o_helpers l1.toNatClampNeg)).toNatClampNeg) + (1 : Int32)))))] H := hP
        have hD : va_D A [(a_o, .inr (3, [.int o_round, .int o_fell, .int o_ills, .ref a_o_skills, .ref a_o_places, .ref a_o_stores, .ref a_o_lacked, .ref a_o_helpers, .ref a_o_favours, .ref a_o_wheel, .ref a_o_works])), (a_o_helpers, .inl (cI, 6, .inl (upd o_helpers l1.toNatClampNeg (-9 : Int32)))), (a_o_favours, .inl (cI, 36, .inl (upd o_favours ((l1 * (6 : Int32)) + (o_helpers l1.toNatClampNeg)).toNatClampNeg ((o_favours ((l1 * (6 : Int32)) + (o_helpers l1.toNatClampNeg)).toNatClampNeg) + (1 : Int32)))))] := hD
        refine lv_iinc (v := (l1 + 1)) (lv' := [(1, .int (l1 + 1)), (0, .ref a_o)]) hx hb dX3_endHelps_47 hl (k := 1) rfl rfl (by decide) rfl (fun ls hl => ?_)
        refine lv_goto (tgt := 2) hx hb dX3_endHelps_50 (by decide) ?_
        exact ih _ _ _ _ _ _ hf _ _ _ hP hD hS (lv_sub hl [1, 0] rfl) kx
set_option maxHeartbeats 4000000 in
set_option maxRecDepth 100000 in
theorem kX3_endHelps (l : Launch) (dC : Nat → ClassId) (dI : Nat → Nat → Nat) (Z : gZ) (cC cI cZ cW : ClassId) (a_o a_o_skills a_o_places a_o_stores a_o_lacked a_o_helpers a_o_favours a_o_wheel a_o_works : Nat) (sz : Nat) (o_round : Int32) (o_fell : Int32) (o_ills : Int32) (o_helpers : Nat → Int32) (o_favours : Nat → Int32)  (N : Nat) (o_helpers' : Nat → Int32) (o_favours' : Nat → Int32) (hf : fX3_endHelps N o_helpers o_favours   = some (o_helpers', o_favours')) : Met l yX3_endHelps wsX3_endHelps rmX3_endHelps (va_Pc [.ref a_o] (gB (dC, dI) Z [(cC, .char), (cI, .int), (cZ, .boolean), (cW, .object RX3)] [(a_o, .inr (3, [.int o_round, .int o_fell, .int o_ills, .ref a_o_skills, .ref a_o_places, .ref a_o_stores, .ref a_o_lacked, .ref a_o_helpers, .ref a_o_favours, .ref a_o_wheel, .ref a_o_works])), (a_o_helpers, .inl (cI, 6, .inl o_helpers)), (a_o_favours, .inl (cI, 36, .inl o_favours))] sz)) (va_Qv (fun (_ : Unit) => True) (gE (dC, dI) [(a_o, .inr (3, [.int o_round, .int o_fell, .int o_ills, .ref a_o_skills, .ref a_o_places, .ref a_o_stores, .ref a_o_lacked, .ref a_o_helpers, .ref a_o_favours, .ref a_o_wheel, .ref a_o_works])), (a_o_helpers, .inl (cI, 6, .inl o_helpers')), (a_o_favours, .inl (cI, 36, .inl o_favours'))]) (va_A [(a_o, .inr (3, [.int o_round, .int o_fell, .int o_ills, .ref a_o_skills, .ref a_o_places, .ref a_o_stores, .ref a_o_lacked, .ref a_o_helpers, .ref a_o_favours, .ref a_o_wheel, .ref a_o_works])), (a_o_helpers, .inl (cI, 6, .inl o_helpers)), (a_o_favours, .inl (cI, 36, .inl o_favours))] sz)) 0 0 (va_A [(a_o, .inr (3, [.int o_round, .int o_fell, .int o_ills, .ref a_o_skills, .ref a_o_places, .ref a_o_stores, .ref a_o_lacked, .ref a_o_helpers, .ref a_o_favours, .ref a_o_wheel, .ref a_o_works])), (a_o_helpers, .inl (cI, 6, .inl o_helpers)), (a_o_favours, .inl (cI, 36, .inl o_favours))] sz) := by
  refine gMet (cc := cX3_endHelps) (maxL := 2) (ret := none) (Qc := fun A => va_Qv (fun (_ : Unit) => True) (gE (dC, dI) [(a_o, .inr (3, [.int o_round, .int o_fell, .int o_ills, .ref a_o_skills, .ref a_o_places, .ref a_o_stores, .ref a_o_lacked, .ref a_o_helpers, .ref a_o_favours, .ref a_o_wheel, .ref a_o_works])), (a_o_helpers, .inl (cI, 6, .inl o_helpers')), (a_o_favours, .inl (cI, 36, .inl o_favours'))]) A) (by decide) rfl (Nat.le_of_ble_eq_true rfl) ?_
  intro p e s m below meth c A ls hg0 _ hsz hP hD hS hl
  have hg0 : gX p s m _ meth c cX3_endHelps 2 none wsX3_endHelps RX3 (dC, dI) Z [(cC, .char), (cI, .int), (cZ, .boolean), (cW, .object RX3)] A := hg0
  obtain ⟨hx, hb, hr, hml, hown, hts, hlocks, hA, hK, hN⟩ := id hg0
  subst hsz
  have hF : CallFix p m c cX3_endHelps 2 s _ wsX3_endHelps RX3 := ⟨hx, hb, hml, hown, hts⟩
  have hl : lv_has ls 2 [(0, .ref a_o)] := hl
  unfold fX3_endHelps at hf
  refine lv_iconst (v := (0 : Int32)) hx hb dX3_endHelps_0 (by decide) ?_
  refine lv_istore_n (lv' := [(1, .int (0 : Int32)), (0, .ref a_o)]) hx hb dX3_endHelps_1 rfl hl (by decide) rfl (fun ls hl => ?_)
  obtain ⟨o_helpers_1, o_favours_2, l1_3, hc, hf⟩ := pb3 hf
  refine wX3_endHelps_2 hg0 a_o a_o_skills a_o_places a_o_stores a_o_lacked a_o_helpers a_o_favours a_o_wheel a_o_works o_round o_fell o_ills  N N o_helpers o_favours (0 : Int32) o_helpers_1 o_favours_2 l1_3 hc _ _ _ hP hD hS (lv_sub hl [1, 0] rfl) (fun H locs ls hP hD hS hl => ?_)
  have q0 := Option.some.inj hf
  obtain ⟨e0, q1⟩ := Prod.mk.inj q0
  subst e0
  subst q1
  exact gRv hx hb hr hlocks hP hS dX3_endHelps_53
abbrev rmX3_findWork : Room := { frames := 2, cells := 0, slots := 0, locals := 45 }
set_option maxRecDepth 20000 in
theorem uX3_findWork_X1 : ∀ w ∈ wsX10, w ∈ wsX3_findWork := by decide +kernel
set_option maxRecDepth 20000 in
theorem uX3_findWork_X3 : ∀ w ∈ wsX30, w ∈ wsX3_findWork := by decide +kernel
set_option maxRecDepth 20000 in
theorem mX3_findWork_0 : (Cond.fieldLink RX3 113 "TradeWheel$Told" "people" "I" : Cond) ∈ wsX3_findWork := by decide +kernel
set_option maxRecDepth 20000 in
theorem mX3_findWork_1 : (Cond.fieldLink RX3 43 "TradeWheel$World" "works" "[I" : Cond) ∈ wsX3_findWork := by decide +kernel
set_option maxHeartbeats 4000000 in
set_option maxRecDepth 100000 in
theorem wX3_findWork_2 {p : Program} {l : Launch} {e : Env} {s : State} {m : MethodId} {args : Array Value} {below : List Frame} {meth : Method} {c : Code} {Q : State → Prop} {A : Nat → Prop} {dC : Nat → ClassId} {dI : Nat → Nat → Nat} {Z : gZ} {cC cI cZ cW : ClassId} (hg0 : gX p s m args meth c cX3_findWork 3 none wsX3_findWork RX3 (dC, dI) Z [(cC, .char), (cI, .int), (cZ, .boolean), (cW, .object RX3)] A) (a_o a_o_skills a_o_places a_o_stores a_o_lacked a_o_helpers a_o_favours a_o_wheel a_o_works a_x1 a_x1_needs a_x1_yields a_x1_skips a_x1_skills a_x1_places a_x1_wheel : Nat) (o_round : Int32) (o_fell : Int32) (o_ills : Int32) (o_places : Nat → Int32) (o_wheel : Nat → Int32) (x1_trades : Int32) (x1_people : Int32) (x1_tradesEnded : Int32) (x1_skips : Nat → Int32)  (N : Nat) : ∀ (n : Nat) (o_works : Nat → Int32) (l2 : Int32) (o_works' : Nat → Int32) (l2' : Int32), fX3_findWork_2 N o_places o_wheel x1_trades x1_people x1_skips n o_works l2 = some (o_works', l2') → ∀ (H : Heap) (locs : List Loc) (ls : Array Slot), va_P (dC, dI) vwCl [(a_o, .inr (3, [.int o_round, .int o_fell, .int o_ills, .ref a_o_skills, .ref a_o_places, .ref a_o_stores, .ref a_o_lacked, .ref a_o_helpers, .ref a_o_favours, .ref a_o_wheel, .ref a_o_works])), (a_o_places, .inl (cI, 6, .inl o_places)), (a_o_wheel, .inl (cI, 6, .inl o_wheel)), (a_o_works, .inl (cI, 6, .inl o_works)), (a_x1, .inr (1, [.int x1_trades, .int x1_people, .ref a_x1_needs, .ref a_x1_yields, .ref a_x1_skips, .ref a_x1_skills, .ref a_x1_places, .ref a_x1_wheel, .int x1_tradesEnded])), (a_x1_skips, .inl (cI, 6, .inl x1_skips))] H → va_D A [(a_o, .inr (3, [.int o_round, .int o_fell, .int o_ills, .ref a_o_skills, .ref a_o_places, .ref a_o_stores, .ref a_o_lacked, .ref a_o_helpers, .ref a_o_favours, .ref a_o_wheel, .ref a_o_works])), (a_o_places, .inl (cI, 6, .inl o_places)), (a_o_wheel, .inl (cI, 6, .inl o_wheel)), (a_o_works, .inl (cI, 6, .inl o_works)), (a_x1, .inr (1, [.int x1_trades, .int x1_people, .ref a_x1_needs, .ref a_x1_yields, .ref a_x1_skips, .ref a_x1_skills, .ref a_x1_places, .ref a_x1_wheel, .int x1_tradesEnded])), (a_x1_skips, .inl (cI, 6, .inl x1_skips))] → va_S A s.heap H locs → lv_has ls 3 [(0, .ref a_o), (1, .ref a_x1), (2, .int l2)] → (∀ (H : Heap) (locs : List Loc) (ls : Array Slot), va_P (dC, dI) vwCl [(a_o, .inr (3, [.int o_round, .int o_fell, .int o_ills, .ref a_o_skills, .ref a_o_places, .ref a_o_stores, .ref a_o_lacked, .ref a_o_helpers, .ref a_o_favours, .ref a_o_wheel, .ref a_o_works])), (a_o_places, .inl (cI, 6, .inl o_places)), (a_o_wheel, .inl (cI, 6, .inl o_wheel)), (a_o_works, .inl (cI, 6, .inl o_works')), (a_x1, .inr (1, [.int x1_trades, .int x1_people, .ref a_x1_needs, .ref a_x1_yields, .ref a_x1_skips, .ref a_x1_skills, .ref a_x1_places, .ref a_x1_wheel, .int x1_tradesEnded])), (a_x1_skips, .inl (cI, 6, .inl x1_skips))] H → va_D A [(a_o, .inr (3, [.int o_round, .int o_fell, .int o_ills, .ref a_o_skills, .ref a_o_places, .ref a_o_stores, .ref a_o_lacked, .ref a_o_helpers, .ref a_o_favours, .ref a_o_wheel, .ref a_o_works])), (a_o_places, .inl (cI, 6, .inl o_places)), (a_o_wheel, .inl (cI, 6, .inl o_wheel)), (a_o_works, .inl (cI, 6, .inl o_works')), (a_x1, .inr (1, [.int x1_trades, .int x1_people, .ref a_x1_needs, .ref a_x1_yields, .ref a_x1_skips, .ref a_x1_skills, .ref a_x1_places, .ref a_x1_wheel, .int x1_tradesEnded])), (a_x1_skips, .inl (cI, 6, .inl x1_skips))] → va_S A s.heap H locs → lv_has ls 3 [] → W p l e (headSpec wsX3_findWork rmX3_findWork).room s m args below meth c H locs 0 0 Q (F0 m 28 ls [])) → W p l e (headSpec wsX3_findWork rmX3_findWork).room s m args below meth c H locs 0 0 Q (F0 m 2 ls []) := by
  obtain ⟨hx, hb, hr, hml, hown, hts, hlocks, hA, hK, hN⟩ := id hg0
  have hF : CallFix p m c cX3_findWork 3 s args wsX3_findWork RX3 := ⟨hx, hb, hml, hown, hts⟩
  intro n
  induction n with
  | zero =>
    intro o_works l2 o_works' l2' hf
    have hf := fX3_findWork_2_0.symm.trans hf
    cases hf
  | succ n ih =>
    intro o_works l2 o_works' l2' hf H locs ls hP hD hS hl kx
    have hf := fX3_findWork_2_s.symm.trans hf
    refine lv_iload_n hx hb dX3_findWork_2 rfl (lv_at hl 2 rfl) ?_
    refine lv_aload_n hx hb dX3_findWork_3 rfl (lv_at hl 1 rfl) ?_
    refine va_get (D := (dC, dI)) (ci := 1) (v := .int x1_people) (C := RX1) (T := TX1) (N := 9) hx hb hts uX3_findWork_X1 hown hK hP 4 rfl rfl 1 (by decide) (hts _ mX3_findWork_0) (fun _ h9 => h9) rfl dX3_findWork_4 ?_
    refine lv_icmp_ge (tgt := 28) hx hb dX3_findWork_7 (by decide) (fun c_1 => ?_) (fun c_1 => ?_)
    · have hf := pit hf c_1
      have q0 := Option.some.inj hf
      obtain ⟨e0, q1⟩ := Prod.mk.inj q0
      subst e0
      subst q1
      exact kx _ _ _ hP hD hS (lv_sub hl [] rfl)
    · have hf := pif hf c_1
      refine lv_aload_n hx hb dX3_findWork_10 rfl (lv_at hl 0 rfl) ?_
      refine va_get (D := (dC, dI)) (ci := 3) (v := .ref a_o_works) (C := RX3) (T := TX3) (N := 11) hx hb hts uX3_findWork_X3 hown hK hP 0 rfl rfl 10 (by decide) (hts _ mX3_findWork_1) (fun _ h9 => h9) rfl dX3_findWork_11 ?_
      refine lv_iload_n hx hb dX3_findWork_14 rfl (lv_at hl 2 rfl) ?_
      refine lv_aload_n hx hb dX3_findWork_15 rfl (lv_at hl 0 rfl) ?_
      refine lv_iload_n hx hb dX3_findWork_16 rfl (lv_at hl 2 rfl) ?_
      refine lv_aload_n hx hb dX3_findWork_17 rfl (lv_at hl 1 rfl) ?_
      obtain ⟨r_2, hc, hf⟩ := pb1 hf
      refine gCi (va_runV (As := [.int l2, .ref a_x1]) (rest := [.int l2, .ref a_o_works]) hF (kX3_workplace l dC dI Z cC cI cZ cW a_o a_o_skills a_o_places a_o_stores a_o_lacked a_o_helpers a_o_favours a_o_wheel a_o_works a_x1 a_x1_needs a_x1_yields a_x1_skips a_x1_skills a_x1_places a_x1_wheel _ o_round o_fell o_ills o_places o_wheel x1_trades x1_people x1_tradesEnded x1_skips l2 N r_2 hc) (cwV 2 hts gX3_findWork_X3_workplace rfl rfl rfl (by decide +kernel) ⟨Nat.le_of_ble_eq_true rfl, Nat.le_of_ble_eq_true rfl⟩) (gPV (wc := [(a_o, .inr (3, [.int o_round, .int o_fell, .int o_ills, .ref a_o_skills, .ref a_o_places, .ref a_o_stores, .ref a_o_lacked, .ref a_o_helpers, .ref a_o_favours, .ref a_o_wheel, .ref a_o_works])), (a_o_places, .inl (cI, 6, .inl o_places)), (a_o_wheel, .inl (cI, 6, .inl o_wheel)), (a_x1, .inr (1, [.int x1_trades, .int x1_people, .ref a_x1_needs, .ref a_x1_yields, .ref a_x1_skips, .ref a_x1_skills, .ref a_x1_places, .ref a_x1_wheel, .int x1_tradesEnded])), (a_x1_skips, .inl (cI, 6, .inl x1_skips))]) hK hN hA hS hP hD [0, 1, 2, 4, 5] rfl rfl (q0 := 0) (ci := 3) rfl rfl rfl) rfl rfl hl.1 rfl (lv_room (Nat.le_of_ble_eq_true rfl)) dX3_findWork_18 ⟨Nat.zero_le _, Nat.zero_le _⟩) hP hD hS hA [0, 1, 2, 4, 5] rfl rfl rfl (fun H locs hP hD hS => ?_)
      have hP : va_P (dC, dI) vwCl [(a_o, .inr (3, [.int o_round, .int o_fell, .int o_ills, .ref a_o_skills, .ref a_o_places, .ref a_o_stores, .ref a_o_lacked, .ref a_o_helpers, .ref a_o_favours, .ref a_o_wheel, .ref a_o_works])), (a_o_places, .inl (cI, 6, .inl o_places)), (a_o_wheel, .inl (cI, 6, .inl o_wheel)), (a_o_works, .inl (cI, 6, .inl o_works)), (a_x1, .inr (1, [.int x1_trades, .int x1_people, .ref a_x1_needs, .ref a_x1_yields, .ref a_x1_skips, .ref a_x1_skills, .ref a_x1_places, .ref a_x1_wheel, .int x1_tradesEnded])), (a_x1_skips, .inl (cI, 6, .inl x1_skips))] H := hP
      have hD : va_D A [(a_o, .inr (3, [.int o_round, .int o_fell, .int o_ills, .ref a_o_skills, .ref a_o_places, .ref a_o_stores, .ref a_o_lacked, .ref a_o_helpers, .ref a_o_favours, .ref a_o_wheel, .ref a_o_works])), (a_o_places, .inl (cI, 6, .inl o_places)), (a_o_wheel, .inl (cI, 6, .inl o_wheel)), (a_o_works, .inl (cI, 6, .inl o_works)), (a_x1, .inr (1, [.int x1_trades, .int x1_people, .ref a_x1_needs, .ref a_x1_yields, .ref a_x1_skips, .ref a_x1_skills, .ref a_x1_places, .ref a_x1_wheel, .int x1_tradesEnded])), (a_x1_skips, .inl (cI, 6, .inl x1_skips))] := hD
      obtain ⟨h_3, hf⟩ := pgd hf
      refine va_iast hx hb hK hP hD hS 3 1 rfl rfl h_3 dX3_findWork_21 (fun H locs hP hD hS => ?_)
      have hP : va_P (dC, dI) vwCl [(a_o, .inr (3, [.int o_round, .int o_fell, .int o_ills, .ref a_o_skills, .ref a_o_places, .ref a_o_stores, .ref a_o_lacked, .ref a_o_helpers, .ref a_o_favours, .ref a_o_wheel, .ref a_o_works])), (a_o_places, .inl (cI, 6, .inl o_places)), (a_o_wheel, .inl (cI, 6, .inl o_wheel)), (a_o_works, .inl (cI, 6, .inl (upd o_works l2.toNatClampNeg r_2))), (a_x1, .inr (1, [.int x1_trades, .int x1_people, .ref a_x1_needs, .ref a_x1_yields, .ref a_x1_skips, .ref a_x1_skills, .ref a_x1_places, .ref a_x1_wheel, .int x1_tradesEnded])), (a_x1_skips, .inl (cI, 6, .inl x1_skips))] H := hP
      have hD : va_D A [(a_o, .inr (3, [.int o_round, .int o_fell, .int o_ills, .ref a_o_skills, .ref a_o_places, .ref a_o_stores, .ref a_o_lacked, .ref a_o_helpers, .ref a_o_favours, .ref a_o_wheel, .ref a_o_works])), (a_o_places, .inl (cI, 6, .inl o_places)), (a_o_wheel, .inl (cI, 6, .inl o_wheel)), (a_o_works, .inl (cI, 6, .inl (upd o_works l2.toNatClampNeg r_2))), (a_x1, .inr (1, [.int x1_trades, .int x1_people, .ref a_x1_needs, .ref a_x1_yields, .ref a_x1_skips, .ref a_x1_skills, .ref a_x1_places, .ref a_x1_wheel, .int x1_tradesEnded])), (a_x1_skips, .inl (cI, 6, .inl x1_skips))] := hD
      refine lv_iinc (v := (l2 + 1)) (lv' := [(2, .int (l2 + 1)), (0, .ref a_o), (1, .ref a_x1)]) hx hb dX3_findWork_22 hl (k := 2) rfl rfl (by decide) rfl (fun ls hl => ?_)
      refine lv_goto (tgt := 2) hx hb dX3_findWork_25 (by decide) ?_
      exact ih _ _ _ _ hf _ _ _ hP hD hS (lv_sub hl [1, 2, 0] rfl) kx
set_option maxHeartbeats 4000000 in
set_option maxRecDepth 100000 in
theorem kX3_findWork (l : Launch) (dC : Nat → ClassId) (dI : Nat → Nat → Nat) (Z : gZ) (cC cI cZ cW : ClassId) (a_o a_o_skills a_o_places a_o_stores a_o_lacked a_o_helpers a_o_favours a_o_wheel a_o_works a_x1 a_x1_needs a_x1_yields a_x1_skips a_x1_skills a_x1_places a_x1_wheel : Nat) (sz : Nat) (o_round : Int32) (o_fell : Int32) (o_ills : Int32) (o_places : Nat → Int32) (o_wheel : Nat → Int32) (o_works : Nat → Int32) (x1_trades : Int32) (x1_people : Int32) (x1_tradesEnded : Int32) (x1_skips : Nat → Int32)  (N : Nat) (o_works' : Nat → Int32) (hf : fX3_findWork N o_places o_wheel o_works x1_trades x1_people x1_skips   = some o_works') : Met l yX3_findWork wsX3_findWork rmX3_findWork (va_Pc [.ref a_o, .ref a_x1] (gB (dC, dI) Z [(cC, .char), (cI, .int), (cZ, .boolean), (cW, .object RX3)] [(a_o, .inr (3, [.int o_round, .int o_fell, .int o_ills, .ref a_o_skills, .ref a_o_places, .ref a_o_stores, .ref a_o_lacked, .ref a_o_helpers, .ref a_o_favours, .ref a_o_wheel, .ref a_o_works])), (a_o_places, .inl (cI, 6, .inl o_places)), (a_o_wheel, .inl (cI, 6, .inl o_wheel)), (a_o_works, .inl (cI, 6, .inl o_works)), (a_x1, .inr (1, [.int x1_trades, .int x1_people, .ref a_x1_needs, .ref a_x1_yields, .ref a_x1_skips, .ref a_x1_skills, .ref a_x1_places, .ref a_x1_wheel, .int x1_tradesEnded])), (a_x1_skips, .inl (cI, 6, .inl x1_skips))] sz)) (va_Qv (fun (_ : Unit) => True) (gE (dC, dI) [(a_o, .inr (3, [.int o_round, .int o_fell, .int o_ills, .ref a_o_skills, .ref a_o_places, .ref a_o_stores, .ref a_o_lacked, .ref a_o_helpers, .ref a_o_favours, .ref a_o_wheel, .ref a_o_works])), (a_o_places, .inl (cI, 6, .inl o_places)), (a_o_wheel, .inl (cI, 6, .inl o_wheel)), (a_o_works, .inl (cI, 6, .inl o_works')), (a_x1, .inr (1, [.int x1_trades, .int x1_people, .ref a_x1_needs, .ref a_x1_yields, .ref a_x1_skips, .ref a_x1_skills, .ref a_x1_places, .ref a_x1_wheel, .int x1_tradesEnded])), (a_x1_skips, .inl (cI, 6, .inl x1_skips))]) (va_A [(a_o, .inr (3, [.int o_round, .int o_fell, .int o_ills, .ref a_o_skills, .ref a_o_places, .ref a_o_stores, .ref a_o_lacked, .ref a_o_helpers, .ref a_o_favours, .ref a_o_wheel, .ref a_o_works])), (a_o_places, .inl (cI, 6, .inl o_places)), (a_o_wheel, .inl (cI, 6, .inl o_wheel)), (a_o_works, .inl (cI, 6, .inl o_works)), (a_x1, .inr (1, [.int x1_trades, .int x1_people, .ref a_x1_needs, .ref a_x1_yields, .ref a_x1_skips, .ref a_x1_skills, .ref a_x1_places, .ref a_x1_wheel, .int x1_tradesEnded])), (a_x1_skips, .inl (cI, 6, .inl x1_skips))] sz)) 0 0 (va_A [(a_o, .inr (3, [.int o_round, .int o_fell, .int o_ills, .ref a_o_skills, .ref a_o_places, .ref a_o_stores, .ref a_o_lacked, .ref a_o_helpers, .ref a_o_favours, .ref a_o_wheel, .ref a_o_works])), (a_o_places, .inl (cI, 6, .inl o_places)), (a_o_wheel, .inl (cI, 6, .inl o_wheel)), (a_o_works, .inl (cI, 6, .inl o_works)), (a_x1, .inr (1, [.int x1_trades, .int x1_people, .ref a_x1_needs, .ref a_x1_yields, .ref a_x1_skips, .ref a_x1_skills, .ref a_x1_places, .ref a_x1_wheel, .int x1_tradesEnded])), (a_x1_skips, .inl (cI, 6, .inl x1_skips))] sz) := by
  refine gMet (cc := cX3_findWork) (maxL := 3) (ret := none) (Qc := fun A => va_Qv (fun (_ : Unit) => True) (gE (dC, dI) [(a_o, .inr (3, [.int o_round, .int o_fell, .int o_ills, .ref a_o_skills, .ref a_o_places, .ref a_o_stores, .ref a_o_lacked, .ref a_o_helpers, .ref a_o_favours, .ref a_o_wheel, .ref a_o_works])), (a_o_places, .inl (cI, 6, .inl o_places)), (a_o_wheel, .inl (cI, 6, .inl o_wheel)), (a_o_works, .inl (cI, 6, .inl o_works')), (a_x1, .inr (1, [.int x1_trades, .int x1_people, .ref a_x1_needs, .ref a_x1_yields, .ref a_x1_skips, .ref a_x1_skills, .ref a_x1_places, .ref a_x1_wheel, .int x1_tradesEnded])), (a_x1_skips, .inl (cI, 6, .inl x1_skips))]) A) (by decide) rfl (Nat.le_of_ble_eq_true rfl) ?_
  intro p e s m below meth c A ls hg0 _ hsz hP hD hS hl
  have hg0 : gX p s m _ meth c cX3_findWork 3 none wsX3_findWork RX3 (dC, dI) Z [(cC, .char), (cI, .int), (cZ, .boolean), (cW, .object RX3)] A := hg0
  obtain ⟨hx, hb, hr, hml, hown, hts, hlocks, hA, hK, hN⟩ := id hg0
  subst hsz
  have hF : CallFix p m c cX3_findWork 3 s _ wsX3_findWork RX3 := ⟨hx, hb, hml, hown, hts⟩
  have hl : lv_has ls 3 [(0, .ref a_o), (1, .ref a_x1)] := hl
  unfold fX3_findWork at hf
  refine lv_iconst (v := (0 : Int32)) hx hb dX3_findWork_0 (by decide) ?_
  refine lv_istore_n (lv' := [(2, .int (0 : Int32)), (0, .ref a_o), (1, .ref a_x1)]) hx hb dX3_findWork_1 rfl hl (by decide) rfl (fun ls hl => ?_)
  obtain ⟨o_works_1, l2_2, hc, hf⟩ := pb2 hf
  refine wX3_findWork_2 hg0 a_o a_o_skills a_o_places a_o_stores a_o_lacked a_o_helpers a_o_favours a_o_wheel a_o_works a_x1 a_x1_needs a_x1_yields a_x1_skips a_x1_skills a_x1_places a_x1_wheel o_round o_fell o_ills o_places o_wheel x1_trades x1_people x1_tradesEnded x1_skips  N N o_works (0 : Int32) o_works_1 l2_2 hc _ _ _ hP hD hS (lv_sub hl [1, 2, 0] rfl) (fun H locs ls hP hD hS hl => ?_)
  have q0 := Option.some.inj hf
  subst q0
  exact gRv hx hb hr hlocks hP hS dX3_findWork_28
abbrev rmX3_skillAtHand : Room := { frames := 1, cells := 0, slots := 0, locals := 24 }
set_option maxRecDepth 20000 in
theorem uX3_skillAtHand_X3 : ∀ w ∈ wsX30, w ∈ wsX3_skillAtHand := by decide +kernel
set_option maxRecDepth 20000 in
theorem mX3_skillAtHand_0 : (Cond.fieldLink RX3 21 "TradeWheel$World" "skills" "[I" : Cond) ∈ wsX3_skillAtHand := by decide +kernel
set_option maxRecDepth 20000 in
theorem mX3_skillAtHand_1 : (Cond.initialized RX4 : Cond) ∈ wsX3_skillAtHand := by decide +kernel
set_option maxRecDepth 20000 in
theorem mX3_skillAtHand_2 : (Cond.static yX4_cell : Cond) ∈ wsX3_skillAtHand := by decide +kernel
set_option maxRecDepth 20000 in
theorem mX3_skillAtHand_3 : (Cond.fieldLink RX3 34 "TradeWheel$World" "helpers" "[I" : Cond) ∈ wsX3_skillAtHand := by decide +kernel
set_option maxRecDepth 20000 in
theorem mX3_skillAtHand_4 : (Cond.methodLink RX3 132 Lib.Math.max.name : Cond) ∈ wsX3_skillAtHand := by decide +kernel
set_option maxRecDepth 20000 in
theorem mX3_skillAtHand_5 : (Cond.static Lib.Math.max.name : Cond) ∈ wsX3_skillAtHand := by decide +kernel
set_option maxRecDepth 20000 in
theorem mX3_skillAtHand_6 : (Cond.initialized "java/lang/Math" : Cond) ∈ wsX3_skillAtHand := by decide +kernel
set_option maxRecDepth 20000 in
theorem mX3_skillAtHand_7 : (Cond.code Lib.Math.max.name Lib.Math.max.code 2 (some .int) : Cond) ∈ wsX3_skillAtHand := by decide +kernel
set_option maxHeartbeats 4000000 in
set_option maxRecDepth 100000 in
theorem kX3_skillAtHand (l : Launch) (dC : Nat → ClassId) (dI : Nat → Nat → Nat) (Z : gZ) (cC cI cZ cW : ClassId) (a_o a_o_skills a_o_places a_o_stores a_o_lacked a_o_helpers a_o_favours a_o_wheel a_o_works : Nat) (sz : Nat) (o_round : Int32) (o_fell : Int32) (o_ills : Int32) (o_skills : Nat → Int32) (o_helpers : Nat → Int32) (i1 : Int32) (i2 : Int32) (N : Nat) (r' : Int32) (hf : fX3_skillAtHand N o_ills o_skills o_helpers  i1 i2 = some r') : Met l yX3_skillAtHand wsX3_skillAtHand rmX3_skillAtHand (va_Pc [.ref a_o, .int i1, .int i2] (gB (dC, dI) Z [(cC, .char), (cI, .int), (cZ, .boolean), (cW, .object RX3)] [(a_o, .inr (3, [.int o_round, .int o_fell, .int o_ills, .ref a_o_skills, .ref a_o_places, .ref a_o_stores, .ref a_o_lacked, .ref a_o_helpers, .ref a_o_favours, .ref a_o_wheel, .ref a_o_works])), (a_o_skills, .inl (cI, 36, .inl o_skills)), (a_o_helpers, .inl (cI, 6, .inl o_helpers))] sz)) (va_Qi (fun (r : Int32) (_ : Unit) => r = r') (gE (dC, dI) [(a_o, .inr (3, [.int o_round, .int o_fell, .int o_ills, .ref a_o_skills, .ref a_o_places, .ref a_o_stores, .ref a_o_lacked, .ref a_o_helpers, .ref a_o_favours, .ref a_o_wheel, .ref a_o_works])), (a_o_skills, .inl (cI, 36, .inl o_skills)), (a_o_helpers, .inl (cI, 6, .inl o_helpers))]) (va_A [(a_o, .inr (3, [.int o_round, .int o_fell, .int o_ills, .ref a_o_skills, .ref a_o_places, .ref a_o_stores, .ref a_o_lacked, .ref a_o_helpers, .ref a_o_favours, .ref a_o_wheel, .ref a_o_works])), (a_o_skills, .inl (cI, 36, .inl o_skills)), (a_o_helpers, .inl (cI, 6, .inl o_helpers))] sz)) 0 0 (va_A [(a_o, .inr (3, [.int o_round, .int o_fell, .int o_ills, .ref a_o_skills, .ref a_o_places, .ref a_o_stores, .ref a_o_lacked, .ref a_o_helpers, .ref a_o_favours, .ref a_o_wheel, .ref a_o_works])), (a_o_skills, .inl (cI, 36, .inl o_skills)), (a_o_helpers, .inl (cI, 6, .inl o_helpers))] sz) := by
  refine gMet (cc := cX3_skillAtHand) (maxL := 5) (ret := (some .int)) (Qc := fun A => va_Qi (fun (r : Int32) (_ : Unit) => r = r') (gE (dC, dI) [(a_o, .inr (3, [.int o_round, .int o_fell, .int o_ills, .ref a_o_skills, .ref a_o_places, .ref a_o_stores, .ref a_o_lacked, .ref a_o_helpers, .ref a_o_favours, .ref a_o_wheel, .ref a_o_works])), (a_o_skills, .inl (cI, 36, .inl o_skills)), (a_o_helpers, .inl (cI, 6, .inl o_helpers))]) A) (by decide) rfl (Nat.le_of_ble_eq_true rfl) ?_
  intro p e s m below meth c A ls hg0 _ hsz hP hD hS hl
  have hg0 : gX p s m _ meth c cX3_skillAtHand 5 (some .int) wsX3_skillAtHand RX3 (dC, dI) Z [(cC, .char), (cI, .int), (cZ, .boolean), (cW, .object RX3)] A := hg0
  obtain ⟨hx, hb, hr, hml, hown, hts, hlocks, hA, hK, hN⟩ := id hg0
  subst hsz
  have hF : CallFix p m c cX3_skillAtHand 5 s _ wsX3_skillAtHand RX3 := ⟨hx, hb, hml, hown, hts⟩
  have hl : lv_has ls 5 [(0, .ref a_o), (1, .int i1), (2, .int i2)] := hl
  unfold fX3_skillAtHand at hf
  refine lv_aload_n hx hb dX3_skillAtHand_0 rfl (lv_at hl 0 rfl) ?_
  refine va_get (D := (dC, dI)) (ci := 3) (v := .ref a_o_skills) (C := RX3) (T := TX3) (N := 11) hx hb hts uX3_skillAtHand_X3 hown hK hP 0 rfl rfl 3 (by decide) (hts _ mX3_skillAtHand_0) (fun _ h9 => h9) rfl dX3_skillAtHand_1 ?_
  refine lv_iload_n hx hb dX3_skillAtHand_4 rfl (lv_at hl 1 rfl) ?_
  refine lv_iload_n hx hb dX3_skillAtHand_5 rfl (lv_at hl 2 rfl) ?_
  obtain ⟨r_1, hc, hf⟩ := pb1 hf
  refine gCi (va_runSN (As := [.int i1, .int i2]) (rest := [.ref a_o_skills]) hF (kX4_cell l dC dI Z cC cI cZ cW  _  i1 i2 N r_1 hc) ⟨va_cnB 2 hts gX3_skillAtHand_X4_cell_n129 rfl rfl rfl (hN.1 (.methodLinkNest RX3 129 yX4_cell RX4) (by decide +kernel)) (hts _ mX3_skillAtHand_1) (by decide +kernel) ⟨Nat.le_of_ble_eq_true rfl, Nat.le_of_ble_eq_true rfl⟩, hts _ mX3_skillAtHand_2, trivial⟩ (gPS (wc := []) hK hN hA hS hP hD [] rfl rfl) rfl rfl hl.1 rfl (lv_room (Nat.le_of_ble_eq_true rfl)) dX3_skillAtHand_6 ⟨Nat.zero_le _, Nat.zero_le _⟩) hP hD hS hA [] rfl rfl rfl (fun H locs hP hD hS => ?_)
  have hP : va_P (dC, dI) vwCl [(a_o, .inr (3, [.int o_round, .int o_fell, .int o_ills, .ref a_o_skills, .ref a_o_places, .ref a_o_stores, .ref a_o_lacked, .ref a_o_helpers, .ref a_o_favours, .ref a_o_wheel, .ref a_o_works])), (a_o_skills, .inl (cI, 36, .inl o_skills)), (a_o_helpers, .inl (cI, 6, .inl o_helpers))] H := hP
  have hD : va_D A [(a_o, .inr (3, [.int o_round, .int o_fell, .int o_ills, .ref a_o_skills, .ref a_o_places, .ref a_o_stores, .ref a_o_lacked, .ref a_o_helpers, .ref a_o_favours, .ref a_o_wheel, .ref a_o_works])), (a_o_skills, .inl (cI, 36, .inl o_skills)), (a_o_helpers, .inl (cI, 6, .inl o_helpers))] := hD
  obtain ⟨h_2, hf⟩ := pgd hf
  refine va_iald hx hb hK hP 1 1 rfl rfl h_2 dX3_skillAtHand_9 ?_
  refine lv_istore_n (lv' := [(3, .int (o_skills r_1.toNatClampNeg)), (0, .ref a_o), (1, .int i1), (2, .int i2)]) hx hb dX3_skillAtHand_10 rfl hl (by decide) rfl (fun ls hl => ?_)
  refine lv_aload_n hx hb dX3_skillAtHand_11 rfl (lv_at hl 1 rfl) ?_
  refine va_get (D := (dC, dI)) (ci := 3) (v := .ref a_o_helpers) (C := RX3) (T := TX3) (N := 11) hx hb hts uX3_skillAtHand_X3 hown hK hP 0 rfl rfl 7 (by decide) (hts _ mX3_skillAtHand_3) (fun _ h9 => h9) rfl dX3_skillAtHand_12 ?_
  refine lv_iload_n hx hb dX3_skillAtHand_15 rfl (lv_at hl 2 rfl) ?_
  obtain ⟨h_3, hf⟩ := pgd hf
  refine va_iald hx hb hK hP 2 1 rfl rfl h_3 dX3_skillAtHand_16 ?_
  refine lv_istore (lv' := [(4, .int (o_helpers i1.toNatClampNeg)), (3, .int (o_skills r_1.toNatClampNeg)), (0, .ref a_o), (1, .int i1), (2, .int i2)]) hx hb dX3_skillAtHand_17 hl (by decide) rfl (fun ls hl => ?_)
  refine lv_iload hx hb dX3_skillAtHand_19 (lv_at hl 0 rfl) ?_
  refine lv_bipush (v := (-9 : Int32)) hx hb dX3_skillAtHand_21 (by decide) ?_
  refine lv_icmp_eq (tgt := 35) hx hb dX3_skillAtHand_23 (by decide) (fun c_4 => ?_) (fun c_4 => ?_)
  · have hf := pit hf c_4
    refine lv_iload_n hx hb dX3_skillAtHand_35 rfl (lv_at hl 1 rfl) ?_
    have q0 := Option.some.inj hf
    subst q0
    exact gRi hx hb hr hlocks hP hS dX3_skillAtHand_36
  · have hf := pif hf c_4
    refine lv_aload_n hx hb dX3_skillAtHand_26 rfl (lv_at hl 2 rfl) ?_
    refine lv_iload hx hb dX3_skillAtHand_27 (lv_at hl 0 rfl) ?_
    obtain ⟨r_5, hc, hf⟩ := pb1 hf
    refine gCi (va_runV (As := [.int (o_helpers i1.toNatClampNeg)]) (rest := []) hF (kX3_isIll l dC dI Z cC cI cZ cW a_o a_o_skills a_o_places a_o_stores a_o_lacked a_o_helpers a_o_favours a_o_wheel a_o_works _ o_round o_fell o_ills (o_helpers i1.toNatClampNeg) N r_5 hc) (cwV 1 hts gX3_skillAtHand_X3_isIll rfl rfl rfl (by decide +kernel) ⟨Nat.le_of_ble_eq_true rfl, Nat.le_of_ble_eq_true rfl⟩) (gPV (wc := [(a_o, .inr (3, [.int o_round, .int o_fell, .int o_ills, .ref a_o_skills, .ref a_o_places, .ref a_o_stores, .ref a_o_lacked, .ref a_o_helpers, .ref a_o_favours, .ref a_o_wheel, .ref a_o_works]))]) hK hN hA hS hP hD [0] rfl rfl (q0 := 0) (ci := 3) rfl rfl rfl) rfl rfl hl.1 rfl (lv_room (Nat.le_of_ble_eq_true rfl)) dX3_skillAtHand_29 ⟨Nat.zero_le _, Nat.zero_le _⟩) hP hD hS hA [0] rfl rfl rfl (fun H locs hP hD hS => ?_)
    have hP : va_P (dC, dI) vwCl [(a_o, .inr (3, [.int o_round, .int o_fell, .int o_ills, .ref a_o_skills, .ref a_o_places, .ref a_o_stores, .ref a_o_lacked, .ref a_o_helpers, .ref a_o_favours, .ref a_o_wheel, .ref a_o_works])), (a_o_skills, .inl (cI, 36, .inl o_skills)), (a_o_helpers, .inl (cI, 6, .inl o_helpers))] H := hP
    have hD : va_D A [(a_o, .inr (3, [.int o_round, .int o_fell, .int o_ills, .ref a_o_skills, .ref a_o_places, .ref a_o_stores, .ref a_o_lacked, .ref a_o_helpers, .ref a_o_favours, .ref a_o_wheel, .ref a_o_works])), (a_o_skills, .inl (cI, 36, .inl o_skills)), (a_o_helpers, .inl (cI, 6, .inl o_helpers))] := hD
    refine lv_if_eq (tgt := 37) hx hb dX3_skillAtHand_32 (by decide) (fun c_6 => ?_) (fun c_6 => ?_)
    · have hf := pit hf c_6
      refine lv_iload_n hx hb dX3_skillAtHand_37 rfl (lv_at hl 1 rfl) ?_
      refine lv_aload_n hx hb dX3_skillAtHand_38 rfl (lv_at hl 2 rfl) ?_
      refine va_get (D := (dC, dI)) (ci := 3) (v := .ref a_o_skills) (C := RX3) (T := TX3) (N := 11) hx hb hts uX3_skillAtHand_X3 hown hK hP 0 rfl rfl 3 (by decide) (hts _ mX3_skillAtHand_0) (fun _ h9 => h9) rfl dX3_skillAtHand_39 ?_
      refine lv_iload hx hb dX3_skillAtHand_42 (lv_at hl 0 rfl) ?_
      refine lv_iload_n hx hb dX3_skillAtHand_44 rfl (lv_at hl 4 rfl) ?_
      obtain ⟨r_7, hc, hf⟩ := pb1 hf
      refine gCi (va_runSN (As := [.int (o_helpers i1.toNatClampNeg), .int i2]) (rest := [.ref a_o_skills, .int (o_skills r_1.toNatClampNeg)]) hF (kX4_cell l dC dI Z cC cI cZ cW  _  (o_helpers i1.toNatClampNeg) i2 N r_7 hc) ⟨va_cnB 2 hts gX3_skillAtHand_X4_cell_n129 rfl rfl rfl (hN.1 (.methodLinkNest RX3 129 yX4_cell RX4) (by decide +kernel)) (hts _ mX3_skillAtHand_1) (by decide +kernel) ⟨Nat.le_of_ble_eq_true rfl, Nat.le_of_ble_eq_true rfl⟩, hts _ mX3_skillAtHand_2, trivial⟩ (gPS (wc := []) hK hN hA hS hP hD [] rfl rfl) rfl rfl hl.1 rfl (lv_room (Nat.le_of_ble_eq_true rfl)) dX3_skillAtHand_45 ⟨Nat.zero_le _, Nat.zero_le _⟩) hP hD hS hA [] rfl rfl rfl (fun H locs hP hD hS => ?_)
      have hP : va_P (dC, dI) vwCl [(a_o, .inr (3, [.int o_round, .int o_fell, .int o_ills, .ref a_o_skills, .ref a_o_places, .ref a_o_stores, .ref a_o_lacked, .ref a_o_helpers, .ref a_o_favours, .ref a_o_wheel, .ref a_o_works])), (a_o_skills, .inl (cI, 36, .inl o_skills)), (a_o_helpers, .inl (cI, 6, .inl o_helpers))] H := hP
      have hD : va_D A [(a_o, .inr (3, [.int o_round, .int o_fell, .int o_ills, .ref a_o_skills, .ref a_o_places, .ref a_o_stores, .ref a_o_lacked, .ref a_o_helpers, .ref a_o_favours, .ref a_o_wheel, .ref a_o_works])), (a_o_skills, .inl (cI, 36, .inl o_skills)), (a_o_helpers, .inl (cI, 6, .inl o_helpers))] := hD
      obtain ⟨h_8, hf⟩ := pgd hf
      refine va_iald hx hb hK hP 1 1 rfl rfl h_8 dX3_skillAtHand_48 ?_
      refine va_mmax hx hb (hml.trans hl.1.symm) hown (hts _ mX3_skillAtHand_4) (hts _ mX3_skillAtHand_5) (hts _ mX3_skillAtHand_6) (hts _ mX3_skillAtHand_7) (Nat.le_of_ble_eq_true rfl) (Nat.le_of_ble_eq_true rfl) (Nat.zero_le _) (Nat.zero_le _) dX3_skillAtHand_49 ?_
      have q0 := Option.some.inj hf
      subst q0
      exact gRi hx hb hr hlocks hP hS dX3_skillAtHand_52
    · have hf := pif hf c_6
      refine lv_iload_n hx hb dX3_skillAtHand_35 rfl (lv_at hl 1 rfl) ?_
      have q0 := Option.some.inj hf
      subst q0
      exact gRi hx hb hr hlocks hP hS dX3_skillAtHand_36
abbrev rmX3_makeGoods : Room := { frames := 2, cells := 0, slots := 0, locals := 48 }
set_option maxRecDepth 20000 in
theorem uX3_makeGoods_X1 : ∀ w ∈ wsX10, w ∈ wsX3_makeGoods := by decide +kernel
set_option maxRecDepth 20000 in
theorem uX3_makeGoods_X3 : ∀ w ∈ wsX30, w ∈ wsX3_makeGoods := by decide +kernel
set_option maxRecDepth 20000 in
theorem mX3_makeGoods_0 : (Cond.fieldLink RX3 113 "TradeWheel$Told" "people" "I" : Cond) ∈ wsX3_makeGoods := by decide +kernel
set_option maxRecDepth 20000 in
theorem mX3_makeGoods_1 : (Cond.fieldLink RX3 28 "TradeWheel$World" "stores" "[I" : Cond) ∈ wsX3_makeGoods := by decide +kernel
set_option maxRecDepth 20000 in
theorem mX3_makeGoods_2 : (Cond.fieldLink RX3 119 "TradeWheel$Told" "yields" "[I" : Cond) ∈ wsX3_makeGoods := by decide +kernel
set_option maxHeartbeats 4000000 in
set_option maxRecDepth 100000 in
theorem wX3_makeGoods_2 {p : Program} {l : Launch} {e : Env} {s : State} {m : MethodId} {args : Array Value} {below : List Frame} {meth : Method} {c : Code} {Q : State → Prop} {A : Nat → Prop} {dC : Nat → ClassId} {dI : Nat → Nat → Nat} {Z : gZ} {cC cI cZ cW : ClassId} (hg0 : gX p s m args meth c cX3_makeGoods 4 none wsX3_makeGoods RX3 (dC, dI) Z [(cC, .char), (cI, .int), (cZ, .boolean), (cW, .object RX3)] A) (a_o a_o_skills a_o_places a_o_stores a_o_lacked a_o_helpers a_o_favours a_o_wheel a_o_works a_x1 a_x1_needs a_x1_yields a_x1_skips a_x1_skills a_x1_places a_x1_wheel : Nat) (o_round : Int32) (o_fell : Int32) (o_ills : Int32) (o_skills : Nat → Int32) (o_helpers : Nat → Int32) (o_wheel : Nat → Int32) (o_works : Nat → Int32) (x1_trades : Int32) (x1_people : Int32) (x1_tradesEnded : Int32) (x1_yields : Nat → Int32)  (N : Nat) : ∀ (n : Nat) (o_stores : Nat → Int32) (l2 : Int32) (o_stores' : Nat → Int32) (l2' : Int32), fX3_makeGoods_2 N o_ills o_skills o_helpers o_wheel o_works x1_people x1_yields n o_stores l2 = some (o_stores', l2') → ∀ (H : Heap) (locs : List Loc) (ls : Array Slot), va_P (dC, dI) vwCl [(a_o, .inr (3, [.int o_round, .int o_fell, .int o_ills, .ref a_o_skills, .ref a_o_places, .ref a_o_stores, .ref a_o_lacked, .ref a_o_helpers, .ref a_o_favours, .ref a_o_wheel, .ref a_o_works])), (a_o_skills, .inl (cI, 36, .inl o_skills)), (a_o_stores, .inl (cI, 6, .inl o_stores)), (a_o_helpers, .inl (cI, 6, .inl o_helpers)), (a_o_wheel, .inl (cI, 6, .inl o_wheel)), (a_o_works, .inl (cI, 6, .inl o_works)), (a_x1, .inr (1, [.int x1_trades, .int x1_people, .ref a_x1_needs, .ref a_x1_yields, .ref a_x1_skips, .ref a_x1_skills, .ref a_x1_places, .ref a_x1_wheel, .int x1_tradesEnded])), (a_x1_yields, .inl (cI, 6, .inl x1_yields))] H → va_D A [(a_o, .inr (3, [.int o_round, .int o_fell, .int o_ills, .ref a_o_skills, .ref a_o_places, .ref a_o_stores, .ref a_o_lacked, .ref a_o_helpers, .ref a_o_favours, .ref a_o_wheel, .ref a_o_works])), (a_o_skills, .inl (cI, 36, .inl o_skills)), (a_o_stores, .inl (cI, 6, .inl o_stores)), (a_o_helpers, .inl (cI, 6, .inl o_helpers)), (a_o_wheel, .inl (cI, 6, .inl o_wheel)), (a_o_works, .inl (cI, 6, .inl o_works)), (a_x1, .inr (1, [.int x1_trades, .int x1_people, .ref a_x1_needs, .ref a_x1_yields, .ref a_x1_skips, .ref a_x1_skills, .ref a_x1_places, .ref a_x1_wheel, .int x1_tradesEnded])), (a_x1_yields, .inl (cI, 6, .inl x1_yields))] → va_S A s.heap H locs → lv_has ls 4 [(0, .ref a_o), (1, .ref a_x1), (2, .int l2)] → (∀ (H : Heap) (locs : List Loc) (ls : Array Slot), va_P (dC, dI) vwCl [(a_o, .inr (3, [.int o_round, .int o_fell, .int o_ills, .ref a_o_skills, .ref a_o_places, .ref a_o_stores, .ref a_o_lacked, .ref a_o_helpers, .ref a_o_favours, .ref a_o_wheel, .ref a_o_works])), (a_o_skills, .inl (cI, 36, .inl o_skills)), (a_o_stores, .inl (cI, 6, .inl o_stores')), (a_o_helpers, .inl (cI, 6, .inl o_helpers)), (a_o_wheel, .inl (cI, 6, .inl o_wheel)), (a_o_works, .inl (cI, 6, .inl o_works)), (a_x1, .inr (1, [.int x1_trades, .int x1_people, .ref a_x1_needs, .ref a_x1_yields, .ref a_x1_skips, .ref a_x1_skills, .ref a_x1_places, .ref a_x1_wheel, .int x1_tradesEnded])), (a_x1_yields, .inl (cI, 6, .inl x1_yields))] H → va_D A [(a_o, .inr (3, [.int o_round, .int o_fell, .int o_ills, .ref a_o_skills, .ref a_o_places, .ref a_o_stores, .ref a_o_lacked, .ref a_o_helpers, .ref a_o_favours, .ref a_o_wheel, .ref a_o_works])), (a_o_skills, .inl (cI, 36, .inl o_skills)), (a_o_stores, .inl (cI, 6, .inl o_stores')), (a_o_helpers, .inl (cI, 6, .inl o_helpers)), (a_o_wheel, .inl (cI, 6, .inl o_wheel)), (a_o_works, .inl (cI, 6, .inl o_works)), (a_x1, .inr (1, [.int x1_trades, .int x1_people, .ref a_x1_needs, .ref a_x1_yields, .ref a_x1_skips, .ref a_x1_skills, .ref a_x1_places, .ref a_x1_wheel, .int x1_tradesEnded])), (a_x1_yields, .inl (cI, 6, .inl x1_yields))] → va_S A s.heap H locs → lv_has ls 4 [] → W p l e (headSpec wsX3_makeGoods rmX3_makeGoods).room s m args below meth c H locs 0 0 Q (F0 m 50 ls [])) → W p l e (headSpec wsX3_makeGoods rmX3_makeGoods).room s m args below meth c H locs 0 0 Q (F0 m 2 ls []) := by
  obtain ⟨hx, hb, hr, hml, hown, hts, hlocks, hA, hK, hN⟩ := id hg0
  have hF : CallFix p m c cX3_makeGoods 4 s args wsX3_makeGoods RX3 := ⟨hx, hb, hml, hown, hts⟩
  intro n
  induction n with
  | zero =>
    intro o_stores l2 o_stores' l2' hf
    have hf := fX3_makeGoods_2_0.symm.trans hf
    cases hf
  | succ n ih =>
    intro o_stores l2 o_stores' l2' hf H locs ls hP hD hS hl kx
    have hf := fX3_makeGoods_2_s.symm.trans hf
    refine lv_iload_n hx hb dX3_makeGoods_2 rfl (lv_at hl 2 rfl) ?_
    refine lv_aload_n hx hb dX3_makeGoods_3 rfl (lv_at hl 1 rfl) ?_
    refine va_get (D := (dC, dI)) (ci := 1) (v := .int x1_people) (C := RX1) (T := TX1) (N := 9) hx hb hts uX3_makeGoods_X1 hown hK hP 6 rfl rfl 1 (by decide) (hts _ mX3_makeGoods_0) (fun _ h9 => h9) rfl dX3_makeGoods_4 ?_
    refine lv_icmp_ge (tgt := 50) hx hb dX3_makeGoods_7 (by decide) (fun c_1 => ?_) (fun c_1 => ?_)
    · have hf := pit hf c_1
      have q0 := Option.some.inj hf
      obtain ⟨e0, q1⟩ := Prod.mk.inj q0
      subst e0
      subst q1
      exact kx _ _ _ hP hD hS (lv_sub hl [] rfl)
    · have hf := pif hf c_1
      refine lv_aload_n hx hb dX3_makeGoods_10 rfl (lv_at hl 0 rfl) ?_
      refine lv_iload_n hx hb dX3_makeGoods_11 rfl (lv_at hl 2 rfl) ?_
      obtain ⟨r_2, hc, hf⟩ := pb1 hf
      refine gCi (va_runV (As := [.int l2]) (rest := []) hF (kX3_workedAt l dC dI Z cC cI cZ cW a_o a_o_skills a_o_places a_o_stores a_o_lacked a_o_helpers a_o_favours a_o_wheel a_o_works _ o_round o_fell o_ills o_wheel o_works l2 N r_2 hc) (cwV 1 hts gX3_makeGoods_X3_workedAt rfl rfl rfl (by decide +kernel) ⟨Nat.le_of_ble_eq_true rfl, Nat.le_of_ble_eq_true rfl⟩) (gPV (wc := [(a_o, .inr (3, [.int o_round, .int o_fell, .int o_ills, .ref a_o_skills, .ref a_o_places, .ref a_o_stores, .ref a_o_lacked, .ref a_o_helpers, .ref a_o_favours, .ref a_o_wheel, .ref a_o_works])), (a_o_wheel, .inl (cI, 6, .inl o_wheel)), (a_o_works, .inl (cI, 6, .inl o_works))]) hK hN hA hS hP hD [0, 4, 5] rfl rfl (q0 := 0) (ci := 3) rfl rfl rfl) rfl rfl hl.1 rfl (lv_room (Nat.le_of_ble_eq_true rfl)) dX3_makeGoods_12 ⟨Nat.zero_le _, Nat.zero_le _⟩) hP hD hS hA [0, 4, 5] rfl rfl rfl (fun H locs hP hD hS => ?_)
      have hP : va_P (dC, dI) vwCl [(a_o, .inr (3, [.int o_round, .int o_fell, .int o_ills, .ref a_o_skills, .ref a_o_places, .ref a_o_stores, .ref a_o_lacked, .ref a_o_helpers, .ref a_o_favours, .ref a_o_wheel, .ref a_o_works])), (a_o_skills, .inl (cI, 36, .inl o_skills)), (a_o_stores, .inl (cI, 6, .inl o_stores)), (a_o_helpers, .inl (cI, 6, .inl o_helpers)), (a_o_wheel, .inl (cI, 6, .inl o_wheel)), (a_o_works, .inl (cI, 6, .inl o_works)), (a_x1, .inr (1, [.int x1_trades, .int x1_people, .ref a_x1_needs, .ref a_x1_yields, .ref a_x1_skips, .ref a_x1_skills, .ref a_x1_places, .ref a_x1_wheel, .int x1_tradesEnded])), (a_x1_yields, .inl (cI, 6, .inl x1_yields))] H := hP
      have hD : va_D A [(a_o, .inr (3, [.int o_round, .int o_fell, .int o_ills, .ref a_o_skills, .ref a_o_places, .ref a_o_stores, .ref a_o_lacked, .ref a_o_helpers, .ref a_o_favours, .ref a_o_wheel, .ref a_o_works])), (a_o_skills, .inl (cI, 36, .inl o_skills)), (a_o_stores, .inl (cI, 6, .inl o_stores)), (a_o_helpers, .inl (cI, 6, .inl o_helpers)), (a_o_wheel, .inl (cI, 6, .inl o_wheel)), (a_o_works, .inl (cI, 6, .inl o_works)), (a_x1, .inr (1, [.int x1_trades, .int x1_people, .ref a_x1_needs, .ref a_x1_yields, .ref a_x1_skips, .ref a_x1_skills, .ref a_x1_places, .ref a_x1_wheel, .int x1_tradesEnded])), (a_x1_yields, .inl (cI, 6, .inl x1_yields))] := hD
      refine lv_istore_n (lv' := [(3, .int r_2), (0, .ref a_o), (1, .ref a_x1), (2, .int l2)]) hx hb dX3_makeGoods_15 rfl hl (by decide) rfl (fun ls hl => ?_)
      refine lv_iload_n hx hb dX3_makeGoods_16 rfl (lv_at hl 0 rfl) ?_
      refine lv_bipush (v := (-9 : Int32)) hx hb dX3_makeGoods_17 (by decide) ?_
      refine lv_icmp_eq (tgt := 44) hx hb dX3_makeGoods_19 (by decide) (fun c_3 => ?_) (fun c_3 => ?_)
      · have hf := pit hf c_3
        refine lv_iinc (v := (l2 + 1)) (lv' := [(2, .int (l2 + 1)), (3, .int r_2), (0, .ref a_o), (1, .ref a_x1)]) hx hb dX3_makeGoods_44 hl (k := 3) rfl rfl (by decide) rfl (fun ls hl => ?_)
        refine lv_goto (tgt := 2) hx hb dX3_makeGoods_47 (by decide) ?_
        exact ih _ _ _ _ hf _ _ _ hP hD hS (lv_sub hl [2, 3, 0] rfl) kx
      · have hf := pif hf c_3
        refine lv_aload_n hx hb dX3_makeGoods_22 rfl (lv_at hl 1 rfl) ?_
        refine va_get (D := (dC, dI)) (ci := 3) (v := .ref a_o_stores) (C := RX3) (T := TX3) (N := 11) hx hb hts uX3_makeGoods_X3 hown hK hP 0 rfl rfl 5 (by decide) (hts _ mX3_makeGoods_1) (fun _ h9 => h9) rfl dX3_makeGoods_23 ?_
        refine lv_iload_n hx hb dX3_makeGoods_26 rfl (lv_at hl 0 rfl) ?_
        refine lv_dup2_11 hx hb dX3_makeGoods_27 rfl rfl ?_
        obtain ⟨h_4, hf⟩ := pgd hf
        refine va_iald hx hb hK hP 2 1 rfl rfl h_4 dX3_makeGoods_28 ?_
        refine lv_aload_n hx hb dX3_makeGoods_29 rfl (lv_at hl 2 rfl) ?_
        refine va_get (D := (dC, dI)) (ci := 1) (v := .ref a_x1_yields) (C := RX1) (T := TX1) (N := 9) hx hb hts uX3_makeGoods_X1 hown hK hP 6 rfl rfl 3 (by decide) (hts _ mX3_makeGoods_2) (fun _ h9 => h9) rfl dX3_makeGoods_30 ?_
        refine lv_iload_n hx hb dX3_makeGoods_33 rfl (lv_at hl 0 rfl) ?_
        obtain ⟨h_5, hf⟩ := pgd hf
        refine va_iald hx hb hK hP 7 1 rfl rfl h_5 dX3_makeGoods_34 ?_
        refine lv_aload_n hx hb dX3_makeGoods_35 rfl (lv_at hl 1 rfl) ?_
        refine lv_iload_n hx hb dX3_makeGoods_36 rfl (lv_at hl 3 rfl) ?_
        refine lv_iload_n hx hb dX3_makeGoods_37 rfl (lv_at hl 0 rfl) ?_
        obtain ⟨r_6, hc, hf⟩ := pb1 hf
        refine gCi (va_runV (As := [.int l2, .int r_2]) (rest := [.int (x1_yields r_2.toNatClampNeg), .int (o_stores r_2.toNatClampNeg), .int r_2, .ref a_o_stores]) hF (kX3_skillAtHand l dC dI Z cC cI cZ cW a_o a_o_skills a_o_places a_o_stores a_o_lacked a_o_helpers a_o_favours a_o_wheel a_o_works _ o_round o_fell o_ills o_skills o_helpers l2 r_2 N r_6 hc) (cwV 2 hts gX3_makeGoods_X3_skillAtHand rfl rfl rfl (by decide +kernel) ⟨Nat.le_of_ble_eq_true rfl, Nat.le_of_ble_eq_true rfl⟩) (gPV (wc := [(a_o, .inr (3, [.int o_round, .int o_fell, .int o_ills, .ref a_o_skills, .ref a_o_places, .ref a_o_stores, .ref a_o_lacked, .ref a_o_helpers, .ref a_o_favours, .ref a_o_wheel, .ref a_o_works])), (a_o_skills, .inl (cI, 36, .inl o_skills)), (a_o_helpers, .inl (cI, 6, .inl o_helpers))]) hK hN hA hS hP hD [0, 1, 3] rfl rfl (q0 := 0) (ci := 3) rfl rfl rfl) rfl rfl hl.1 rfl (lv_room (Nat.le_of_ble_eq_true rfl)) dX3_makeGoods_38 ⟨Nat.zero_le _, Nat.zero_le _⟩) hP hD hS hA [0, 1, 3] rfl rfl rfl (fun H locs hP hD hS => ?_)
        have hP : va_P (dC, dI) vwCl [(a_o, .inr (3, [.int o_round, .int o_fell, .int o_ills, .ref a_o_skills, .ref a_o_places, .ref a_o_stores, .ref a_o_lacked, .ref a_o_helpers, .ref a_o_favours, .ref a_o_wheel, .ref a_o_works])), (a_o_skills, .inl (cI, 36, .inl o_skills)), (a_o_stores, .inl (cI, 6, .inl o_stores)), (a_o_helpers, .inl (cI, 6, .inl o_helpers)), (a_o_wheel, .inl (cI, 6, .inl o_wheel)), (a_o_works, .inl (cI, 6, .inl o_works)), (a_x1, .inr (1, [.int x1_trades, .int x1_people, .ref a_x1_needs, .ref a_x1_yields, .ref a_x1_skips, .ref a_x1_skills, .ref a_x1_places, .ref a_x1_wheel, .int x1_tradesEnded])), (a_x1_yields, .inl (cI, 6, .inl x1_yields))] H := hP
        have hD : va_D A [(a_o, .inr (3, [.int o_round, .int o_fell, .int o_ills, .ref a_o_skills, .ref a_o_places, .ref a_o_stores, .ref a_o_lacked, .ref a_o_helpers, .ref a_o_favours, .ref a_o_wheel, .ref a_o_works])), (a_o_skills, .inl (cI, 36, .inl o_skills)), (a_o_stores, .inl (cI, 6, .inl o_stores)), (a_o_helpers, .inl (cI, 6, .inl o_helpers)), (a_o_wheel, .inl (cI, 6, .inl o_wheel)), (a_o_works, .inl (cI, 6, .inl o_works)), (a_x1, .inr (1, [.int x1_trades, .int x1_people, .ref a_x1_needs, .ref a_x1_yields, .ref a_x1_skips, .ref a_x1_skills, .ref a_x1_places, .ref a_x1_wheel, .int x1_tradesEnded])), (a_x1_yields, .inl (cI, 6, .inl x1_yields))] := hD
        refine lv_imul hx hb dX3_makeGoods_41 ?_
        refine lv_iadd hx hb dX3_makeGoods_42 ?_
        obtain ⟨h_7, hf⟩ := pgd hf
        refine va_iast hx hb hK hP hD hS 2 1 rfl rfl h_7 dX3_makeGoods_43 (fun H locs hP hD hS => ?_)
        have hP : va_P (dC, dI) vwCl [(a_o, .inr (3, [.int o_round, .int o_fell, .int o_ills, .ref a_o_skills, .ref a_o_places, .ref a_o_stores, .ref a_o_lacked, .ref a_o_helpers, .ref a_o_favours, .ref a_o_wheel, .ref a_o_works])), (a_o_skills, .inl (cI, 36, .inl o_skills)), (a_o_stores, .inl (cI, 6, .inl (upd o_stores r_2.toNatClampNeg ((o_stores r_2.toNatClampNeg) + ((x1_yields r_2.toNatClampNeg) * r_6))))), (a_o_helpers, .inl (cI, 6, .inl o_helpers)), (a_o_wheel, .inl (cI, 6, .inl o_wheel)), (a_o_works, .inl (cI, 6, .inl o_works)), (a_x1, .inr (1, [.int x1_trades, .int x1_people, .ref a_x1_needs, .ref a_x1_yields, .ref a_x1_skips, .ref a_x1_skills, .ref a_x1_places, .ref a_x1_wheel, .int x1_tradesEnded])), (a_x1_yields, .inl (cI, 6, .inl x1_yields))] H := hP
        have hD : va_D A [(a_o, .inr (3, [.int o_round, .int o_fell, .int o_ills, .ref a_o_skills, .ref a_o_places, .ref a_o_stores, .ref a_o_lacked, .ref a_o_helpers, .ref a_o_favours, .ref a_o_wheel, .ref a_o_works])), (a_o_skills, .inl (cI, 36, .inl o_skills)), (a_o_stores, .inl (cI, 6, .inl (upd o_stores r_2.toNatClampNeg ((o_stores r_2.toNatClampNeg) + ((x1_yields r_2.toNatClampNeg) * r_6))))), (a_o_helpers, .inl (cI, 6, .inl o_helpers)), (a_o_wheel, .inl (cI, 6, .inl o_wheel)), (a_o_works, .inl (cI, 6, .inl o_works)), (a_x1, .inr (1, [.int x1_trades, .int x1_people, .ref a_x1_needs, .ref a_x1_yields, .ref a_x1_skips, .ref a_x1_skills, .ref a_x1_places, .ref a_x1_wheel, .int x1_tradesEnded])), (a_x1_yields, .inl (cI, 6, .inl x1_yields))] := hD
        refine lv_iinc (v := (l2 + 1)) (lv' := [(2, .int (l2 + 1)), (3, .int r_2), (0, .ref a_o), (1, .ref a_x1)]) hx hb dX3_makeGoods_44 hl (k := 3) rfl rfl (by decide) rfl (fun ls hl => ?_)
        refine lv_goto (tgt := 2) hx hb dX3_makeGoods_47 (by decide) ?_
        exact ih _ _ _ _ hf _ _ _ hP hD hS (lv_sub hl [2, 3, 0] rfl) kx
set_option maxHeartbeats 4000000 in
set_option maxRecDepth 100000 in
theorem kX3_makeGoods (l : Launch) (dC : Nat → ClassId) (dI : Nat → Nat → Nat) (Z : gZ) (cC cI cZ cW : ClassId) (a_o a_o_skills a_o_places a_o_stores a_o_lacked a_o_helpers a_o_favours a_o_wheel a_o_works a_x1 a_x1_needs a_x1_yields a_x1_skips a_x1_skills a_x1_places a_x1_wheel : Nat) (sz : Nat) (o_round : Int32) (o_fell : Int32) (o_ills : Int32) (o_skills : Nat → Int32) (o_stores : Nat → Int32) (o_helpers : Nat → Int32) (o_wheel : Nat → Int32) (o_works : Nat → Int32) (x1_trades : Int32) (x1_people : Int32) (x1_tradesEnded : Int32) (x1_yields : Nat → Int32)  (N : Nat) (o_stores' : Nat → Int32) (hf : fX3_makeGoods N o_ills o_skills o_stores o_helpers o_wheel o_works x1_people x1_yields   = some o_stores') : Met l yX3_makeGoods wsX3_makeGoods rmX3_makeGoods (va_Pc [.ref a_o, .ref a_x1] (gB (dC, dI) Z [(cC, .char), (cI, .int), (cZ, .boolean), (cW, .object RX3)] [(a_o, .inr (3, [.int o_round, .int o_fell, .int o_ills, .ref a_o_skills, .ref a_o_places, .ref a_o_stores, .ref a_o_lacked, .ref a_o_helpers, .ref a_o_favours, .ref a_o_wheel, .ref a_o_works])), (a_o_skills, .inl (cI, 36, .inl o_skills)), (a_o_stores, .inl (cI, 6, .inl o_stores)), (a_o_helpers, .inl (cI, 6, .inl o_helpers)), (a_o_wheel, .inl (cI, 6, .inl o_wheel)), (a_o_works, .inl (cI, 6, .inl o_works)), (a_x1, .inr (1, [.int x1_trades, .int x1_people, .ref a_x1_needs, .ref a_x1_yields, .ref a_x1_skips, .ref a_x1_skills, .ref a_x1_places, .ref a_x1_wheel, .int x1_tradesEnded])), (a_x1_yields, .inl (cI, 6, .inl x1_yields))] sz)) (va_Qv (fun (_ : Unit) => True) (gE (dC, dI) [(a_o, .inr (3, [.int o_round, .int o_fell, .int o_ills, .ref a_o_skills, .ref a_o_places, .ref a_o_stores, .ref a_o_lacked, .ref a_o_helpers, .ref a_o_favours, .ref a_o_wheel, .ref a_o_works])), (a_o_skills, .inl (cI, 36, .inl o_skills)), (a_o_stores, .inl (cI, 6, .inl o_stores')), (a_o_helpers, .inl (cI, 6, .inl o_helpers)), (a_o_wheel, .inl (cI, 6, .inl o_wheel)), (a_o_works, .inl (cI, 6, .inl o_works)), (a_x1, .inr (1, [.int x1_trades, .int x1_people, .ref a_x1_needs, .ref a_x1_yields, .ref a_x1_skips, .ref a_x1_skills, .ref a_x1_places, .ref a_x1_wheel, .int x1_tradesEnded])), (a_x1_yields, .inl (cI, 6, .inl x1_yields))]) (va_A [(a_o, .inr (3, [.int o_round, .int o_fell, .int o_ills, .ref a_o_skills, .ref a_o_places, .ref a_o_stores, .ref a_o_lacked, .ref a_o_helpers, .ref a_o_favours, .ref a_o_wheel, .ref a_o_works])), (a_o_skills, .inl (cI, 36, .inl o_skills)), (a_o_stores, .inl (cI, 6, .inl o_stores)), (a_o_helpers, .inl (cI, 6, .inl o_helpers)), (a_o_wheel, .inl (cI, 6, .inl o_wheel)), (a_o_works, .inl (cI, 6, .inl o_works)), (a_x1, .inr (1, [.int x1_trades, .int x1_people, .ref a_x1_needs, .ref a_x1_yields, .ref a_x1_skips, .ref a_x1_skills, .ref a_x1_places, .ref a_x1_wheel, .int x1_tradesEnded])), (a_x1_yields, .inl (cI, 6, .inl x1_yields))] sz)) 0 0 (va_A [(a_o, .inr (3, [.int o_round, .int o_fell, .int o_ills, .ref a_o_skills, .ref a_o_places, .ref a_o_stores, .ref a_o_lacked, .ref a_o_helpers, .ref a_o_favours, .ref a_o_wheel, .ref a_o_works])), (a_o_skills, .inl (cI, 36, .inl o_skills)), (a_o_stores, .inl (cI, 6, .inl o_stores)), (a_o_helpers, .inl (cI, 6, .inl o_helpers)), (a_o_wheel, .inl (cI, 6, .inl o_wheel)), (a_o_works, .inl (cI, 6, .inl o_works)), (a_x1, .inr (1, [.int x1_trades, .int x1_people, .ref a_x1_needs, .ref a_x1_yields, .ref a_x1_skips, .ref a_x1_skills, .ref a_x1_places, .ref a_x1_wheel, .int x1_tradesEnded])), (a_x1_yields, .inl (cI, 6, .inl x1_yields))] sz) := by
  refine gMet (cc := cX3_makeGoods) (maxL := 4) (ret := none) (Qc := fun A => va_Qv (fun (_ : Unit) => True) (gE (dC, dI) [(a_o, .inr (3, [.int o_round, .int o_fell, .int o_ills, .ref a_o_skills, .ref a_o_places, .ref a_o_stores, .ref a_o_lacked, .ref a_o_helpers, .ref a_o_favours, .ref a_o_wheel, .ref a_o_works])), (a_o_skills, .inl (cI, 36, .inl o_skills)), (a_o_stores, .inl (cI, 6, .inl o_stores')), (a_o_helpers, .inl (cI, 6, .inl o_helpers)), (a_o_wheel, .inl (cI, 6, .inl o_wheel)), (a_o_works, .inl (cI, 6, .inl o_works)), (a_x1, .inr (1, [.int x1_trades, .int x1_people, .ref a_x1_needs, .ref a_x1_yields, .ref a_x1_skips, .ref a_x1_skills, .ref a_x1_places, .ref a_x1_wheel, .int x1_tradesEnded])), (a_x1_yields, .inl (cI, 6, .inl x1_yields))]) A) (by decide) rfl (Nat.le_of_ble_eq_true rfl) ?_
  intro p e s m below meth c A ls hg0 _ hsz hP hD hS hl
  have hg0 : gX p s m _ meth c cX3_makeGoods 4 none wsX3_makeGoods RX3 (dC, dI) Z [(cC, .char), (cI, .int), (cZ, .boolean), (cW, .object RX3)] A := hg0
  obtain ⟨hx, hb, hr, hml, hown, hts, hlocks, hA, hK, hN⟩ := id hg0
  subst hsz
  have hF : CallFix p m c cX3_makeGoods 4 s _ wsX3_makeGoods RX3 := ⟨hx, hb, hml, hown, hts⟩
  have hl : lv_has ls 4 [(0, .ref a_o), (1, .ref a_x1)] := hl
  unfold fX3_makeGoods at hf
  refine lv_iconst (v := (0 : Int32)) hx hb dX3_makeGoods_0 (by decide) ?_
  refine lv_istore_n (lv' := [(2, .int (0 : Int32)), (0, .ref a_o), (1, .ref a_x1)]) hx hb dX3_makeGoods_1 rfl hl (by decide) rfl (fun ls hl => ?_)
  obtain ⟨o_stores_1, l2_2, hc, hf⟩ := pb2 hf
  refine wX3_makeGoods_2 hg0 a_o a_o_skills a_o_places a_o_stores a_o_lacked a_o_helpers a_o_favours a_o_wheel a_o_works a_x1 a_x1_needs a_x1_yields a_x1_skips a_x1_skills a_x1_places a_x1_wheel o_round o_fell o_ills o_skills o_helpers o_wheel o_works x1_trades x1_people x1_tradesEnded x1_yields  N N o_stores (0 : Int32) o_stores_1 l2_2 hc _ _ _ hP hD hS (lv_sub hl [1, 2, 0] rfl) (fun H locs ls hP hD hS hl => ?_)
  have q0 := Option.some.inj hf
  subst q0
  exact gRv hx hb hr hlocks hP hS dX3_makeGoods_50
abbrev rmX3_moveOn : Room := { frames := 1, cells := 0, slots := 0, locals := 21 }
set_option maxRecDepth 20000 in
theorem uX3_moveOn_X1 : ∀ w ∈ wsX10, w ∈ wsX3_moveOn := by decide +kernel
set_option maxRecDepth 20000 in
theorem uX3_moveOn_X3 : ∀ w ∈ wsX30, w ∈ wsX3_moveOn := by decide +kernel
set_option maxRecDepth 20000 in
theorem mX3_moveOn_0 : (Cond.fieldLink RX3 113 "TradeWheel$Told" "people" "I" : Cond) ∈ wsX3_moveOn := by decide +kernel
set_option maxRecDepth 20000 in
theorem mX3_moveOn_1 : (Cond.fieldLink RX3 25 "TradeWheel$World" "places" "[I" : Cond) ∈ wsX3_moveOn := by decide +kernel
set_option maxRecDepth 20000 in
theorem mX3_moveOn_2 : (Cond.fieldLink RX3 43 "TradeWheel$World" "works" "[I" : Cond) ∈ wsX3_moveOn := by decide +kernel
set_option maxHeartbeats 4000000 in
set_option maxRecDepth 100000 in
theorem wX3_moveOn_2 {p : Program} {l : Launch} {e : Env} {s : State} {m : MethodId} {args : Array Value} {below : List Frame} {meth : Method} {c : Code} {Q : State → Prop} {A : Nat → Prop} {dC : Nat → ClassId} {dI : Nat → Nat → Nat} {Z : gZ} {cC cI cZ cW : ClassId} (hg0 : gX p s m args meth c cX3_moveOn 3 none wsX3_moveOn RX3 (dC, dI) Z [(cC, .char), (cI, .int), (cZ, .boolean), (cW, .object RX3)] A) (a_o a_o_skills a_o_places a_o_stores a_o_lacked a_o_helpers a_o_favours a_o_wheel a_o_works a_x1 a_x1_needs a_x1_yields a_x1_skips a_x1_skills a_x1_places a_x1_wheel : Nat) (o_round : Int32) (o_fell : Int32) (o_ills : Int32) (o_works : Nat → Int32) (x1_trades : Int32) (x1_people : Int32) (x1_tradesEnded : Int32)  (N : Nat) : ∀ (n : Nat) (o_places : Nat → Int32) (l2 : Int32) (o_places' : Nat → Int32) (l2' : Int32), fX3_moveOn_2 N o_works x1_trades x1_people n o_places l2 = some (o_places', l2') → ∀ (H : Heap) (locs : List Loc) (ls : Array Slot), va_P (dC, dI) vwCl [(a_o, .inr (3, [.int o_round, .int o_fell, .int o_ills, .ref a_o_skills, .ref a_o_places, .ref a_o_stores, .ref a_o_lacked, .ref a_o_helpers, .ref a_o_favours, .ref a_o_wheel, .ref a_o_works])), (a_o_places, .inl (cI, 6, .inl o_places)), (a_o_works, .inl (cI, 6, .inl o_works)), (a_x1, .inr (1, [.int x1_trades, .int x1_people, .ref a_x1_needs, .ref a_x1_yields, .ref a_x1_skips, .ref a_x1_skills, .ref a_x1_places, .ref a_x1_wheel, .int x1_tradesEnded]))] H → va_D A [(a_o, .inr (3, [.int o_round, .int o_fell, .int o_ills, .ref a_o_skills, .ref a_o_places, .ref a_o_stores, .ref a_o_lacked, .ref a_o_helpers, .ref a_o_favours, .ref a_o_wheel, .ref a_o_works])), (a_o_places, .inl (cI, 6, .inl o_places)), (a_o_works, .inl (cI, 6, .inl o_works)), (a_x1, .inr (1, [.int x1_trades, .int x1_people, .ref a_x1_needs, .ref a_x1_yields, .ref a_x1_skips, .ref a_x1_skills, .ref a_x1_places, .ref a_x1_wheel, .int x1_tradesEnded]))] → va_S A s.heap H locs → lv_has ls 3 [(0, .ref a_o), (1, .ref a_x1), (2, .int l2)] → (∀ (H : Heap) (locs : List Loc) (ls : Array Slot), va_P (dC, dI) vwCl [(a_o, .inr (3, [.int o_round, .int o_fell, .int o_ills, .ref a_o_skills, .ref a_o_places, .ref a_o_stores, .ref a_o_lacked, .ref a_o_helpers, .ref a_o_favours, .ref a_o_wheel, .ref a_o_works])), (a_o_places, .inl (cI, 6, .inl o_places')), (a_o_works, .inl (cI, 6, .inl o_works)), (a_x1, .inr (1, [.int x1_trades, .int x1_people, .ref a_x1_needs, .ref a_x1_yields, .ref a_x1_skips, .ref a_x1_skills, .ref a_x1_places, .ref a_x1_wheel, .int x1_tradesEnded]))] H → va_D A [(a_o, .inr (3, [.int o_round, .int o_fell, .int o_ills, .ref a_o_skills, .ref a_o_places, .ref a_o_stores, .ref a_o_lacked, .ref a_o_helpers, .ref a_o_favours, .ref a_o_wheel, .ref a_o_works])), (a_o_places, .inl (cI, 6, .inl o_places')), (a_o_works, .inl (cI, 6, .inl o_works)), (a_x1, .inr (1, [.int x1_trades, .int x1_people, .ref a_x1_needs, .ref a_x1_yields, .ref a_x1_skips, .ref a_x1_skills, .ref a_x1_places, .ref a_x1_wheel, .int x1_tradesEnded]))] → va_S A s.heap H locs → lv_has ls 3 [] → W p l e (headSpec wsX3_moveOn rmX3_moveOn).room s m args below meth c H locs 0 0 Q (F0 m 52 ls [])) → W p l e (headSpec wsX3_moveOn rmX3_moveOn).room s m args below meth c H locs 0 0 Q (F0 m 2 ls []) := by
  obtain ⟨hx, hb, hr, hml, hown, hts, hlocks, hA, hK, hN⟩ := id hg0
  have hF : CallFix p m c cX3_moveOn 3 s args wsX3_moveOn RX3 := ⟨hx, hb, hml, hown, hts⟩
  intro n
  induction n with
  | zero =>
    intro o_places l2 o_places' l2' hf
    have hf := fX3_moveOn_2_0.symm.trans hf
    cases hf
  | succ n ih =>
    intro o_places l2 o_places' l2' hf H locs ls hP hD hS hl kx
    have hf := fX3_moveOn_2_s.symm.trans hf
    refine lv_iload_n hx hb dX3_moveOn_2 rfl (lv_at hl 2 rfl) ?_
    refine lv_aload_n hx hb dX3_moveOn_3 rfl (lv_at hl 1 rfl) ?_
    refine va_get (D := (dC, dI)) (ci := 1) (v := .int x1_people) (C := RX1) (T := TX1) (N := 9) hx hb hts uX3_moveOn_X1 hown hK hP 3 rfl rfl 1 (by decide) (hts _ mX3_moveOn_0) (fun _ h9 => h9) rfl dX3_moveOn_4 ?_
    refine lv_icmp_ge (tgt := 52) hx hb dX3_moveOn_7 (by decide) (fun c_1 => ?_) (fun c_1 => ?_)
    · have hf := pit hf c_1
      have q0 := Option.some.inj hf
      obtain ⟨e0, q1⟩ := Prod.mk.inj q0
      subst e0
      subst q1
      exact kx _ _ _ hP hD hS (lv_sub hl [] rfl)
    · have hf := pif hf c_1
      refine lv_aload_n hx hb dX3_moveOn_10 rfl (lv_at hl 0 rfl) ?_
      refine va_get (D := (dC, dI)) (ci := 3) (v := .ref a_o_places) (C := RX3) (T := TX3) (N := 11) hx hb hts uX3_moveOn_X3 hown hK hP 0 rfl rfl 4 (by decide) (hts _ mX3_moveOn_1) (fun _ h9 => h9) rfl dX3_moveOn_11 ?_
      refine lv_iload_n hx hb dX3_moveOn_14 rfl (lv_at hl 2 rfl) ?_
      refine lv_aload_n hx hb dX3_moveOn_15 rfl (lv_at hl 1 rfl) ?_
      refine lv_aload_n hx hb dX3_moveOn_16 rfl (lv_at hl 0 rfl) ?_
      refine va_get (D := (dC, dI)) (ci := 3) (v := .ref a_o_works) (C := RX3) (T := TX3) (N := 11) hx hb hts uX3_moveOn_X3 hown hK hP 0 rfl rfl 10 (by decide) (hts _ mX3_moveOn_2) (fun _ h9 => h9) rfl dX3_moveOn_17 ?_
      refine lv_iload_n hx hb dX3_moveOn_20 rfl (lv_at hl 2 rfl) ?_
      obtain ⟨h_2, hf⟩ := pgd hf
      refine va_iald hx hb hK hP 2 1 rfl rfl h_2 dX3_moveOn_21 ?_
      refine lv_bipush (v := (-9 : Int32)) hx hb dX3_moveOn_22 (by decide) ?_
      refine lv_icmp_ne (tgt := 36) hx hb dX3_moveOn_24 (by decide) (fun c_3 => ?_) (fun c_3 => ?_)
      · have hf := pif hf c_3
        refine lv_aload_n hx hb dX3_moveOn_36 rfl (lv_at hl 0 rfl) ?_
        refine va_get (D := (dC, dI)) (ci := 3) (v := .ref a_o_works) (C := RX3) (T := TX3) (N := 11) hx hb hts uX3_moveOn_X3 hown hK hP 0 rfl rfl 10 (by decide) (hts _ mX3_moveOn_2) (fun _ h9 => h9) rfl dX3_moveOn_37 ?_
        refine lv_iload_n hx hb dX3_moveOn_40 rfl (lv_at hl 2 rfl) ?_
        obtain ⟨h_4, hf⟩ := pgd hf
        refine va_iald hx hb hK hP 2 1 rfl rfl h_4 dX3_moveOn_41 ?_
        obtain ⟨r_5, hc, hf⟩ := pb1 hf
        refine gCi (va_runV (As := [.int (o_works l2.toNatClampNeg)]) (rest := [.int l2, .ref a_o_places]) hF (kX1_behind l dC dI Z cC cI cZ cW a_x1 a_x1_needs a_x1_yields a_x1_skips a_x1_skills a_x1_places a_x1_wheel _ x1_trades x1_people x1_tradesEnded (o_works l2.toNatClampNeg) N r_5 hc) (cwV 1 hts gX3_moveOn_X1_behind rfl rfl rfl (by decide +kernel) ⟨Nat.le_of_ble_eq_true rfl, Nat.le_of_ble_eq_true rfl⟩) (gPV (wc := [(a_x1, .inr (1, [.int x1_trades, .int x1_people, .ref a_x1_needs, .ref a_x1_yields, .ref a_x1_skips, .ref a_x1_skills, .ref a_x1_places, .ref a_x1_wheel, .int x1_tradesEnded]))]) hK hN hA hS hP hD [3] rfl rfl (q0 := 0) (ci := 1) rfl rfl rfl) rfl rfl hl.1 rfl (lv_room (Nat.le_of_ble_eq_true rfl)) dX3_moveOn_42 ⟨Nat.zero_le _, Nat.zero_le _⟩) hP hD hS hA [3] rfl rfl rfl (fun H locs hP hD hS => ?_)
        have hP : va_P (dC, dI) vwCl [(a_o, .inr (3, [.int o_round, .int o_fell, .int o_ills, .ref a_o_skills, .ref a_o_places, .ref a_o_stores, .ref a_o_lacked, .ref a_o_helpers, .ref a_o_favours, .ref a_o_wheel, .ref a_o_works])), (a_o_places, .inl (cI, 6, .inl o_places)), (a_o_works, .inl (cI, 6, .inl o_works)), (a_x1, .inr (1, [.int x1_trades, .int x1_people, .ref a_x1_needs, .ref a_x1_yields, .ref a_x1_skips, .ref a_x1_skills, .ref a_x1_places, .ref a_x1_wheel, .int x1_tradesEnded]))] H := hP
        have hD : va_D A [(a_o, .inr (3, [.int o_round, .int o_fell, .int o_ills, .ref a_o_skills, .ref a_o_places, .ref a_o_stores, .ref a_o_lacked, .ref a_o_helpers, .ref a_o_favours, .ref a_o_wheel, .ref a_o_works])), (a_o_places, .inl (cI, 6, .inl o_places)), (a_o_works, .inl (cI, 6, .inl o_works)), (a_x1, .inr (1, [.int x1_trades, .int x1_people, .ref a_x1_needs, .ref a_x1_yields, .ref a_x1_skips, .ref a_x1_skills, .ref a_x1_places, .ref a_x1_wheel, .int x1_tradesEnded]))] := hD
        obtain ⟨h_6, hf⟩ := pgd hf
        refine va_iast hx hb hK hP hD hS 1 1 rfl rfl h_6 dX3_moveOn_45 (fun H locs hP hD hS => ?_)
        have hP : va_P (dC, dI) vwCl [(a_o, .inr (3, [.int o_round, .int o_fell, .int o_ills, .ref a_o_skills, .ref a_o_places, .ref a_o_stores, .ref a_o_lacked, .ref a_o_helpers, .ref a_o_favours, .ref a_o_wheel, .ref a_o_works])), (a_o_places, .inl (cI, 6, .inl (upd o_places l2.toNatClampNeg r_5))), (a_o_works, .inl (cI, 6, .inl o_works)), (a_x1, .inr (1, [.int x1_trades, .int x1_people, .ref a_x1_needs, .ref a_x1_yields, .ref a_x1_skips, .ref a_x1_skills, .ref a_x1_places, .ref a_x1_wheel, .int x1_tradesEnded]))] H := hP
        have hD : va_D A [(a_o, .inr (3, [.int o_round, .int o_fell, .int o_ills, .ref a_o_skills, .ref a_o_places, .ref a_o_stores, .ref a_o_lacked, .ref a_o_helpers, .ref a_o_favours, .ref a_o_wheel, .ref a_o_works])), (a_o_places, .inl (cI, 6, .inl (upd o_places l2.toNatClampNeg r_5))), (a_o_works, .inl (cI, 6, .inl o_works)), (a_x1, .inr (1, [.int x1_trades, .int x1_people, .ref a_x1_needs, .ref a_x1_yields, .ref a_x1_skips, .ref a_x1_skills, .ref a_x1_places, .ref a_x1_wheel, .int x1_tradesEnded]))] := hD
        refine lv_iinc (v := (l2 + 1)) (lv' := [(2, .int (l2 + 1)), (0, .ref a_o), (1, .ref a_x1)]) hx hb dX3_moveOn_46 hl (k := 2) rfl rfl (by decide) rfl (fun ls hl => ?_)
        refine lv_goto (tgt := 2) hx hb dX3_moveOn_49 (by decide) ?_
        exact ih _ _ _ _ hf _ _ _ hP hD hS (lv_sub hl [1, 2, 0] rfl) kx
      · have hf := pit hf c_3
        refine lv_aload_n hx hb dX3_moveOn_27 rfl (lv_at hl 0 rfl) ?_
        refine va_get (D := (dC, dI)) (ci := 3) (v := .ref a_o_places) (C := RX3) (T := TX3) (N := 11) hx hb hts uX3_moveOn_X3 hown hK hP 0 rfl rfl 4 (by decide) (hts _ mX3_moveOn_1) (fun _ h9 => h9) rfl dX3_moveOn_28 ?_
        refine lv_iload_n hx hb dX3_moveOn_31 rfl (lv_at hl 2 rfl) ?_
        obtain ⟨h_7, hf⟩ := pgd hf
        refine va_iald hx hb hK hP 1 1 rfl rfl h_7 dX3_moveOn_32 ?_
        refine lv_goto (tgt := 42) hx hb dX3_moveOn_33 (by decide) ?_
        obtain ⟨r_8, hc, hf⟩ := pb1 hf
        refine gCi (va_runV (As := [.int (o_places l2.toNatClampNeg)]) (rest := [.int l2, .ref a_o_places]) hF (kX1_behind l dC dI Z cC cI cZ cW a_x1 a_x1_needs a_x1_yields a_x1_skips a_x1_skills a_x1_places a_x1_wheel _ x1_trades x1_people x1_tradesEnded (o_places l2.toNatClampNeg) N r_8 hc) (cwV 1 hts gX3_moveOn_X1_behind rfl rfl rfl (by decide +kernel) ⟨Nat.le_of_ble_eq_true rfl, Nat.le_of_ble_eq_true rfl⟩) (gPV (wc := [(a_x1, .inr (1, [.int x1_trades, .int x1_people, .ref a_x1_needs, .ref a_x1_yields, .ref a_x1_skips, .ref a_x1_skills, .ref a_x1_places, .ref a_x1_wheel, .int x1_tradesEnded]))]) hK hN hA hS hP hD [3] rfl rfl (q0 := 0) (ci := 1) rfl rfl rfl) rfl rfl hl.1 rfl (lv_room (Nat.le_of_ble_eq_true rfl)) dX3_moveOn_42 ⟨Nat.zero_le _, Nat.zero_le _⟩) hP hD hS hA [3] rfl rfl rfl (fun H locs hP hD hS => ?_)
        have hP : va_P (dC, dI) vwCl [(a_o, .inr (3, [.int o_round, .int o_fell, .int o_ills, .ref a_o_skills, .ref a_o_places, .ref a_o_stores, .ref a_o_lacked, .ref a_o_helpers, .ref a_o_favours, .ref a_o_wheel, .ref a_o_works])), (a_o_places, .inl (cI, 6, .inl o_places)), (a_o_works, .inl (cI, 6, .inl o_works)), (a_x1, .inr (1, [.int x1_trades, .int x1_people, .ref a_x1_needs, .ref a_x1_yields, .ref a_x1_skips, .ref a_x1_skills, .ref a_x1_places, .ref a_x1_wheel, .int x1_tradesEnded]))] H := hP
        have hD : va_D A [(a_o, .inr (3, [.int o_round, .int o_fell, .int o_ills, .ref a_o_skills, .ref a_o_places, .ref a_o_stores, .ref a_o_lacked, .ref a_o_helpers, .ref a_o_favours, .ref a_o_wheel, .ref a_o_works])), (a_o_places, .inl (cI, 6, .inl o_places)), (a_o_works, .inl (cI, 6, .inl o_works)), (a_x1, .inr (1, [.int x1_trades, .int x1_people, .ref a_x1_needs, .ref a_x1_yields, .ref a_x1_skips, .ref a_x1_skills, .ref a_x1_places, .ref a_x1_wheel, .int x1_tradesEnded]))] := hD
        obtain ⟨h_9, hf⟩ := pgd hf
        refine va_iast hx hb hK hP hD hS 1 1 rfl rfl h_9 dX3_moveOn_45 (fun H locs hP hD hS => ?_)
        have hP : va_P (dC, dI) vwCl [(a_o, .inr (3, [.int o_round, .int o_fell, .int o_ills, .ref a_o_skills, .ref a_o_places, .ref a_o_stores, .ref a_o_lacked, .ref a_o_helpers, .ref a_o_favours, .ref a_o_wheel, .ref a_o_works])), (a_o_places, .inl (cI, 6, .inl (upd o_places l2.toNatClampNeg r_8))), (a_o_works, .inl (cI, 6, .inl o_works)), (a_x1, .inr (1, [.int x1_trades, .int x1_people, .ref a_x1_needs, .ref a_x1_yields, .ref a_x1_skips, .ref a_x1_skills, .ref a_x1_places, .ref a_x1_wheel, .int x1_tradesEnded]))] H := hP
        have hD : va_D A [(a_o, .inr (3, [.int o_round, .int o_fell, .int o_ills, .ref a_o_skills, .ref a_o_places, .ref a_o_stores, .ref a_o_lacked, .ref a_o_helpers, .ref a_o_favours, .ref a_o_wheel, .ref a_o_works])), (a_o_places, .inl (cI, 6, .inl (upd o_places l2.toNatClampNeg r_8))), (a_o_works, .inl (cI, 6, .inl o_works)), (a_x1, .inr (1, [.int x1_trades, .int x1_people, .ref a_x1_needs, .ref a_x1_yields, .ref a_x1_skips, .ref a_x1_skills, .ref a_x1_places, .ref a_x1_wheel, .int x1_tradesEnded]))] := hD
        refine lv_iinc (v := (l2 + 1)) (lv' := [(2, .int (l2 + 1)), (0, .ref a_o), (1, .ref a_x1)]) hx hb dX3_moveOn_46 hl (k := 2) rfl rfl (by decide) rfl (fun ls hl => ?_)
        refine lv_goto (tgt := 2) hx hb dX3_moveOn_49 (by decide) ?_
        exact ih _ _ _ _ hf _ _ _ hP hD hS (lv_sub hl [1, 2, 0] rfl) kx
set_option maxHeartbeats 4000000 in
set_option maxRecDepth 100000 in
theorem kX3_moveOn (l : Launch) (dC : Nat → ClassId) (dI : Nat → Nat → Nat) (Z : gZ) (cC cI cZ cW : ClassId) (a_o a_o_skills a_o_places a_o_stores a_o_lacked a_o_helpers a_o_favours a_o_wheel a_o_works a_x1 a_x1_needs a_x1_yields a_x1_skips a_x1_skills a_x1_places a_x1_wheel : Nat) (sz : Nat) (o_round : Int32) (o_fell : Int32) (o_ills : Int32) (o_places : Nat → Int32) (o_works : Nat → Int32) (x1_trades : Int32) (x1_people : Int32) (x1_tradesEnded : Int32)  (N : Nat) (o_places' : Nat → Int32) (hf : fX3_moveOn N o_places o_works x1_trades x1_people   = some o_places') : Met l yX3_moveOn wsX3_moveOn rmX3_moveOn (va_Pc [.ref a_o, .ref a_x1] (gB (dC, dI) Z [(cC, .char), (cI, .int), (cZ, .boolean), (cW, .object RX3)] [(a_o, .inr (3, [.int o_round, .int o_fell, .int o_ills, .ref a_o_skills, .ref a_o_places, .ref a_o_stores, .ref a_o_lacked, .ref a_o_helpers, .ref a_o_favours, .ref a_o_wheel, .ref a_o_works])), (a_o_places, .inl (cI, 6, .inl o_places)), (a_o_works, .inl (cI, 6, .inl o_works)), (a_x1, .inr (1, [.int x1_trades, .int x1_people, .ref a_x1_needs, .ref a_x1_yields, .ref a_x1_skips, .ref a_x1_skills, .ref a_x1_places, .ref a_x1_wheel, .int x1_tradesEnded]))] sz)) (va_Qv (fun (_ : Unit) => True) (gE (dC, dI) [(a_o, .inr (3, [.int o_round, .int o_fell, .int o_ills, .ref a_o_skills, .ref a_o_places, .ref a_o_stores, .ref a_o_lacked, .ref a_o_helpers, .ref a_o_favours, .ref a_o_wheel, .ref a_o_works])), (a_o_places, .inl (cI, 6, .inl o_places')), (a_o_works, .inl (cI, 6, .inl o_works)), (a_x1, .inr (1, [.int x1_trades, .int x1_people, .ref a_x1_needs, .ref a_x1_yields, .ref a_x1_skips, .ref a_x1_skills, .ref a_x1_places, .ref a_x1_wheel, .int x1_tradesEnded]))]) (va_A [(a_o, .inr (3, [.int o_round, .int o_fell, .int o_ills, .ref a_o_skills, .ref a_o_places, .ref a_o_stores, .ref a_o_lacked, .ref a_o_helpers, .ref a_o_favours, .ref a_o_wheel, .ref a_o_works])), (a_o_places, .inl (cI, 6, .inl o_places)), (a_o_works, .inl (cI, 6, .inl o_works)), (a_x1, .inr (1, [.int x1_trades, .int x1_people, .ref a_x1_needs, .ref a_x1_yields, .ref a_x1_skips, .ref a_x1_skills, .ref a_x1_places, .ref a_x1_wheel, .int x1_tradesEnded]))] sz)) 0 0 (va_A [(a_o, .inr (3, [.int o_round, .int o_fell, .int o_ills, .ref a_o_skills, .ref a_o_places, .ref a_o_stores, .ref a_o_lacked, .ref a_o_helpers, .ref a_o_favours, .ref a_o_wheel, .ref a_o_works])), (a_o_places, .inl (cI, 6, .inl o_places)), (a_o_works, .inl (cI, 6, .inl o_works)), (a_x1, .inr (1, [.int x1_trades, .int x1_people, .ref a_x1_needs, .ref a_x1_yields, .ref a_x1_skips, .ref a_x1_skills, .ref a_x1_places, .ref a_x1_wheel, .int x1_tradesEnded]))] sz) := by
  refine gMet (cc := cX3_moveOn) (maxL := 3) (ret := none) (Qc := fun A => va_Qv (fun (_ : Unit) => True) (gE (dC, dI) [(a_o, .inr (3, [.int o_round, .int o_fell, .int o_ills, .ref a_o_skills, .ref a_o_places, .ref a_o_stores, .ref a_o_lacked, .ref a_o_helpers, .ref a_o_favours, .ref a_o_wheel, .ref a_o_works])), (a_o_places, .inl (cI, 6, .inl o_places')), (a_o_works, .inl (cI, 6, .inl o_works)), (a_x1, .inr (1, [.int x1_trades, .int x1_people, .ref a_x1_needs, .ref a_x1_yields, .ref a_x1_skips, .ref a_x1_skills, .ref a_x1_places, .ref a_x1_wheel, .int x1_tradesEnded]))]) A) (by decide) rfl (Nat.le_of_ble_eq_true rfl) ?_
  intro p e s m below meth c A ls hg0 _ hsz hP hD hS hl
  have hg0 : gX p s m _ meth c cX3_moveOn 3 none wsX3_moveOn RX3 (dC, dI) Z [(cC, .char), (cI, .int), (cZ, .boolean), (cW, .object RX3)] A := hg0
  obtain ⟨hx, hb, hr, hml, hown, hts, hlocks, hA, hK, hN⟩ := id hg0
  subst hsz
  have hF : CallFix p m c cX3_moveOn 3 s _ wsX3_moveOn RX3 := ⟨hx, hb, hml, hown, hts⟩
  have hl : lv_has ls 3 [(0, .ref a_o), (1, .ref a_x1)] := hl
  unfold fX3_moveOn at hf
  refine lv_iconst (v := (0 : Int32)) hx hb dX3_moveOn_0 (by decide) ?_
  refine lv_istore_n (lv' := [(2, .int (0 : Int32)), (0, .ref a_o), (1, .ref a_x1)]) hx hb dX3_moveOn_1 rfl hl (by decide) rfl (fun ls hl => ?_)
  obtain ⟨o_places_1, l2_2, hc, hf⟩ := pb2 hf
  refine wX3_moveOn_2 hg0 a_o a_o_skills a_o_places a_o_stores a_o_lacked a_o_helpers a_o_favours a_o_wheel a_o_works a_x1 a_x1_needs a_x1_yields a_x1_skips a_x1_skills a_x1_places a_x1_wheel o_round o_fell o_ills o_works x1_trades x1_people x1_tradesEnded  N N o_places (0 : Int32) o_places_1 l2_2 hc _ _ _ hP hD hS (lv_sub hl [1, 2, 0] rfl) (fun H locs ls hP hD hS hl => ?_)
  have q0 := Option.some.inj hf
  subst q0
  exact gRv hx hb hr hlocks hP hS dX3_moveOn_52
abbrev rmX3_takeNeeds : Room := { frames := 1, cells := 0, slots := 0, locals := 24 }
set_option maxRecDepth 20000 in
theorem uX3_takeNeeds_X1 : ∀ w ∈ wsX10, w ∈ wsX3_takeNeeds := by decide +kernel
set_option maxRecDepth 20000 in
theorem uX3_takeNeeds_X3 : ∀ w ∈ wsX30, w ∈ wsX3_takeNeeds := by decide +kernel
set_option maxRecDepth 20000 in
theorem mX3_takeNeeds_0 : (Cond.fieldLink RX3 9 "TradeWheel$World" "round" "I" : Cond) ∈ wsX3_takeNeeds := by decide +kernel
set_option maxRecDepth 20000 in
theorem mX3_takeNeeds_1 : (Cond.fieldLink RX3 57 "TradeWheel$Told" "trades" "I" : Cond) ∈ wsX3_takeNeeds := by decide +kernel
set_option maxRecDepth 20000 in
theorem mX3_takeNeeds_2 : (Cond.fieldLink RX3 28 "TradeWheel$World" "stores" "[I" : Cond) ∈ wsX3_takeNeeds := by decide +kernel
set_option maxRecDepth 20000 in
theorem mX3_takeNeeds_3 : (Cond.fieldLink RX3 135 "TradeWheel$Told" "needs" "[I" : Cond) ∈ wsX3_takeNeeds := by decide +kernel
set_option maxRecDepth 20000 in
theorem mX3_takeNeeds_4 : (Cond.methodLink RX3 132 Lib.Math.max.name : Cond) ∈ wsX3_takeNeeds := by decide +kernel
set_option maxRecDepth 20000 in
theorem mX3_takeNeeds_5 : (Cond.static Lib.Math.max.name : Cond) ∈ wsX3_takeNeeds := by decide +kernel
set_option maxRecDepth 20000 in
theorem mX3_takeNeeds_6 : (Cond.initialized "java/lang/Math" : Cond) ∈ wsX3_takeNeeds := by decide +kernel
set_option maxRecDepth 20000 in
theorem mX3_takeNeeds_7 : (Cond.code Lib.Math.max.name Lib.Math.max.code 2 (some .int) : Cond) ∈ wsX3_takeNeeds := by decide +kernel
set_option maxRecDepth 20000 in
theorem mX3_takeNeeds_8 : (Cond.fieldLink RX3 31 "TradeWheel$World" "lacked" "[I" : Cond) ∈ wsX3_takeNeeds := by decide +kernel
set_option maxHeartbeats 4000000 in
set_option maxRecDepth 100000 in
theorem wX3_takeNeeds_26 {p : Program} {l : Launch} {e : Env} {s : State} {m : MethodId} {args : Array Value} {below : List Frame} {meth : Method} {c : Code} {Q : State → Prop} {A : Nat → Prop} {dC : Nat → ClassId} {dI : Nat → Nat → Nat} {Z : gZ} {cC cI cZ cW : ClassId} (hg0 : gX p s m args meth c cX3_takeNeeds 7 (some .int) wsX3_takeNeeds RX3 (dC, dI) Z [(cC, .char), (cI, .int), (cZ, .boolean), (cW, .object RX3)] A) (a_o a_o_skills a_o_places a_o_stores a_o_lacked a_o_helpers a_o_favours a_o_wheel a_o_works a_x1 a_x1_needs a_x1_yields a_x1_skips a_x1_skills a_x1_places a_x1_wheel : Nat) (o_round : Int32) (o_fell : Int32) (o_ills : Int32) (x1_trades : Int32) (x1_people : Int32) (x1_tradesEnded : Int32) (x1_needs : Nat → Int32) (l3 : Int32) (N : Nat) : ∀ (n : Nat) (o_stores : Nat → Int32) (o_lacked : Nat → Int32) (l4 : Int32) (l5 : Int32) (o_stores' : Nat → Int32) (o_lacked' : Nat → Int32) (l4' : Int32) (l5' : Int32), fX3_takeNeeds_26 N x1_trades x1_needs l3 n o_stores o_lacked l4 l5 = some (o_stores', o_lacked', l4', l5') → ∀ (H : Heap) (locs : List Loc) (ls : Array Slot), va_P (dC, dI) vwCl [(a_o, .inr (3, [.int o_round, .int o_fell, .int o_ills, .ref a_o_skills, .ref a_o_places, .ref a_o_stores, .ref a_o_lacked, .ref a_o_helpers, .ref a_o_favours, .ref a_o_wheel, .ref a_o_works])), (a_o_stores, .inl (cI, 6, .inl o_stores)), (a_o_lacked, .inl (cI, 6, .inl o_lacked)), (a_x1, .inr (1, [.int x1_trades, .int x1_people, .ref a_x1_needs, .ref a_x1_yields, .ref a_x1_skips, .ref a_x1_skills, .ref a_x1_places, .ref a_x1_wheel, .int x1_tradesEnded])), (a_x1_needs, .inl (cI, 6, .inl x1_needs))] H → va_D A [(a_o, .inr (3, [.int o_round, .int o_fell, .int o_ills, .ref a_o_skills, .ref a_o_places, .ref a_o_stores, .ref a_o_lacked, .ref a_o_helpers, .ref a_o_favours, .ref a_o_wheel, .ref a_o_works])), (a_o_stores, .inl (cI, 6, .inl o_stores)), (a_o_lacked, .inl (cI, 6, .inl o_lacked)), (a_x1, .inr (1, [.int x1_trades, .int x1_people, .ref a_x1_needs, .ref a_x1_yields, .ref a_x1_skips, .ref a_x1_skills, .ref a_x1_places, .ref a_x1_wheel, .int x1_tradesEnded])), (a_x1_needs, .inl (cI, 6, .inl x1_needs))] → va_S A s.heap H locs → lv_has ls 7 [(0, .ref a_o), (1, .ref a_x1), (3, .int l3), (4, .int l4), (5, .int l5)] → (∀ (H : Heap) (locs : List Loc) (ls : Array Slot), va_P (dC, dI) vwCl [(a_o, .inr (3, [.int o_round, .int o_fell, .int o_ills, .ref a_o_skills, .ref a_o_places, .ref a_o_stores, .ref a_o_lacked, .ref a_o_helpers, .ref a_o_favours, .ref a_o_wheel, .ref a_o_works])), (a_o_stores, .inl (cI, 6, .inl o_stores')), (a_o_lacked, .inl (cI, 6, .inl o_lacked')), (a_x1, .inr (1, [.int x1_trades, .int x1_people, .ref a_x1_needs, .ref a_x1_yields, .ref a_x1_skips, .ref a_x1_skills, .ref a_x1_places, .ref a_x1_wheel, .int x1_tradesEnded])), (a_x1_needs, .inl (cI, 6, .inl x1_needs))] H → va_D A [(a_o, .inr (3, [.int o_round, .int o_fell, .int o_ills, .ref a_o_skills, .ref a_o_places, .ref a_o_stores, .ref a_o_lacked, .ref a_o_helpers, .ref a_o_favours, .ref a_o_wheel, .ref a_o_works])), (a_o_stores, .inl (cI, 6, .inl o_stores')), (a_o_lacked, .inl (cI, 6, .inl o_lacked')), (a_x1, .inr (1, [.int x1_trades, .int x1_people, .ref a_x1_needs, .ref a_x1_yields, .ref a_x1_skips, .ref a_x1_skills, .ref a_x1_places, .ref a_x1_wheel, .int x1_tradesEnded])), (a_x1_needs, .inl (cI, 6, .inl x1_needs))] → va_S A s.heap H locs → lv_has ls 7 [(4, .int l4')] → W p l e (headSpec wsX3_takeNeeds rmX3_takeNeeds).room s m args below meth c H locs 0 0 Q (F0 m 100 ls [])) → W p l e (headSpec wsX3_takeNeeds rmX3_takeNeeds).room s m args below meth c H locs 0 0 Q (F0 m 26 ls []) := by
  obtain ⟨hx, hb, hr, hml, hown, hts, hlocks, hA, hK, hN⟩ := id hg0
  have hF : CallFix p m c cX3_takeNeeds 7 s args wsX3_takeNeeds RX3 := ⟨hx, hb, hml, hown, hts⟩
  intro n
  induction n with
  | zero =>
    intro o_stores o_lacked l4 l5 o_stores' o_lacked' l4' l5' hf
    have hf := fX3_takeNeeds_26_0.symm.trans hf
    cases hf
  | succ n ih =>
    intro o_stores o_lacked l4 l5 o_stores' o_lacked' l4' l5' hf H locs ls hP hD hS hl kx
    have hf := fX3_takeNeeds_26_s.symm.trans hf
    refine lv_iload hx hb dX3_takeNeeds_26 (lv_at hl 4 rfl) ?_
    refine lv_aload_n hx hb dX3_takeNeeds_28 rfl (lv_at hl 1 rfl) ?_
    refine va_get (D := (dC, dI)) (ci := 1) (v := .int x1_trades) (C := RX1) (T := TX1) (N := 9) hx hb hts uX3_takeNeeds_X1 hown hK hP 3 rfl rfl 0 (by decide) (hts _ mX3_takeNeeds_1) (fun _ h9 => h9) rfl dX3_takeNeeds_29 ?_
    refine lv_icmp_ge (tgt := 100) hx hb dX3_takeNeeds_32 (by decide) (fun c_1 => ?_) (fun c_1 => ?_)
    · have hf := pit hf c_1
      have q0 := Option.some.inj hf
      obtain ⟨e0, q1⟩ := Prod.mk.inj q0
      obtain ⟨e1, q2⟩ := Prod.mk.inj q1
      obtain ⟨e2, q3⟩ := Prod.mk.inj q2
      subst e0
      subst e1
      subst e2
      subst q3
      exact kx _ _ _ hP hD hS (lv_sub hl [3] rfl)
    · have hf := pif hf c_1
      refine lv_aload_n hx hb dX3_takeNeeds_35 rfl (lv_at hl 0 rfl) ?_
      refine va_get (D := (dC, dI)) (ci := 3) (v := .ref a_o_stores) (C := RX3) (T := TX3) (N := 11) hx hb hts uX3_takeNeeds_X3 hown hK hP 0 rfl rfl 5 (by decide) (hts _ mX3_takeNeeds_2) (fun _ h9 => h9) rfl dX3_takeNeeds_36 ?_
      refine lv_iload hx hb dX3_takeNeeds_39 (lv_at hl 4 rfl) ?_
      obtain ⟨h_2, hf⟩ := pgd hf
      refine va_iald hx hb hK hP 1 1 rfl rfl h_2 dX3_takeNeeds_41 ?_
      refine lv_aload_n hx hb dX3_takeNeeds_42 rfl (lv_at hl 1 rfl) ?_
      refine va_get (D := (dC, dI)) (ci := 1) (v := .ref a_x1_needs) (C := RX1) (T := TX1) (N := 9) hx hb hts uX3_takeNeeds_X1 hown hK hP 3 rfl rfl 2 (by decide) (hts _ mX3_takeNeeds_3) (fun _ h9 => h9) rfl dX3_takeNeeds_43 ?_
      refine lv_iload hx hb dX3_takeNeeds_46 (lv_at hl 4 rfl) ?_
      obtain ⟨h_3, hf⟩ := pgd hf
      refine va_iald hx hb hK hP 4 1 rfl rfl h_3 dX3_takeNeeds_48 ?_
      refine lv_iload_n hx hb dX3_takeNeeds_49 rfl (lv_at hl 2 rfl) ?_
      refine lv_imul hx hb dX3_takeNeeds_50 ?_
      refine lv_bipush (v := (10 : Int32)) hx hb dX3_takeNeeds_51 (by decide) ?_
      refine lv_idiv hx hb dX3_takeNeeds_53 (by decide) ?_
      refine lv_isub hx hb dX3_takeNeeds_54 ?_
      refine lv_istore (lv' := [(6, .int ((o_stores l5.toNatClampNeg) - (((x1_needs l5.toNatClampNeg) * l3) / (10 : Int32)))), (0, .ref a_o), (1, .ref a_x1), (3, .int l3), (4, .int l4), (5, .int l5)]) hx hb dX3_takeNeeds_55 hl (by decide) rfl (fun ls hl => ?_)
      refine lv_iload hx hb dX3_takeNeeds_57 (lv_at hl 0 rfl) ?_
      refine lv_if_ge (tgt := 81) hx hb dX3_takeNeeds_59 (by decide) (fun c_4 => ?_) (fun c_4 => ?_)
      · have hf := pit hf c_4
        refine lv_aload_n hx hb dX3_takeNeeds_81 rfl (lv_at hl 1 rfl) ?_
        refine va_get (D := (dC, dI)) (ci := 3) (v := .ref a_o_stores) (C := RX3) (T := TX3) (N := 11) hx hb hts uX3_takeNeeds_X3 hown hK hP 0 rfl rfl 5 (by decide) (hts _ mX3_takeNeeds_2) (fun _ h9 => h9) rfl dX3_takeNeeds_82 ?_
        refine lv_iload hx hb dX3_takeNeeds_85 (lv_at hl 5 rfl) ?_
        refine lv_iload hx hb dX3_takeNeeds_87 (lv_at hl 0 rfl) ?_
        refine lv_iconst (v := (0 : Int32)) hx hb dX3_takeNeeds_89 (by decide) ?_
        refine va_mmax hx hb (hml.trans hl.1.symm) hown (hts _ mX3_takeNeeds_4) (hts _ mX3_takeNeeds_5) (hts _ mX3_takeNeeds_6) (hts _ mX3_takeNeeds_7) (Nat.le_of_ble_eq_true rfl) (Nat.le_of_ble_eq_true rfl) (Nat.zero_le _) (Nat.zero_le _) dX3_takeNeeds_90 ?_
        obtain ⟨h_5, hf⟩ := pgd hf
        refine va_iast hx hb hK hP hD hS 1 1 rfl rfl h_5 dX3_takeNeeds_93 (fun H locs hP hD hS => ?_)
        have hP : va_P (dC, dI) vwCl [(a_o, .inr (3, [.int o_round, .int o_fell, .int o_ills, .ref a_o_skills, .ref a_o_places, .ref a_o_stores, .ref a_o_lacked, .ref a_o_helpers, .ref a_o_favours, .ref a_o_wheel, .ref a_o_works])), (a_o_stores, .inl (cI, 6, .inl (upd o_stores l5.toNatClampNeg (if ((o_stores l5.toNatClampNeg) - (((x1_needs l5.toNatClampNeg) * l3) / (10 : Int32))) < (0 : Int32) then (0 : Int32) else ((o_stores l5.toNatClampNeg) - (((x1_needs l5.toNatClampNeg) * l3) / (10 : Int32))))))), (a_o_lacked, .inl (cI, 6, .inl o_lacked)), (a_x1, .inr (1, [.int x1_trades, .int x1_people, .ref a_x1_needs, .ref a_x1_yields, .ref a_x1_skips, .ref a_x1_skills, .ref a_x1_places, .ref a_x1_wheel, .int x1_tradesEnded])), (a_x1_needs, .inl (cI, 6, .inl x1_needs))] H := hP
        have hD : va_D A [(a_o, .inr (3, [.int o_round, .int o_fell, .int o_ills, .ref a_o_skills, .ref a_o_places, .ref a_o_stores, .ref a_o_lacked, .ref a_o_helpers, .ref a_o_favours, .ref a_o_wheel, .ref a_o_works])), (a_o_stores, .inl (cI, 6, .inl (upd o_stores l5.toNatClampNeg (if ((o_stores l5.toNatClampNeg) - (((x1_needs l5.toNatClampNeg) * l3) / (10 : Int32))) < (0 : Int32) then (0 : Int32) else ((o_stores l5.toNatClampNeg) - (((x1_needs l5.toNatClampNeg) * l3) / (10 : Int32))))))), (a_o_lacked, .inl (cI, 6, .inl o_lacked)), (a_x1, .inr (1, [.int x1_trades, .int x1_people, .ref a_x1_needs, .ref a_x1_yields, .ref a_x1_skips, .ref a_x1_skills, .ref a_x1_places, .ref a_x1_wheel, .int x1_tradesEnded])), (a_x1_needs, .inl (cI, 6, .inl x1_needs))] := hD
        refine lv_iinc (v := (l5 + 1)) (lv' := [(5, .int (l5 + 1)), (6, .int ((o_stores l5.toNatClampNeg) - (((x1_needs l5.toNatClampNeg) * l3) / (10 : Int32)))), (0, .ref a_o), (1, .ref a_x1), (3, .int l3), (4, .int l4)]) hx hb dX3_takeNeeds_94 hl (k := 5) rfl rfl (by decide) rfl (fun ls hl => ?_)
        refine lv_goto (tgt := 26) hx hb dX3_takeNeeds_97 (by decide) ?_
        exact ih _ _ _ _ _ _ _ _ hf _ _ _ hP hD hS (lv_sub hl [2, 3, 4, 5, 0] rfl) kx
      · have hf := pif hf c_4
        refine lv_aload_n hx hb dX3_takeNeeds_62 rfl (lv_at hl 1 rfl) ?_
        refine va_get (D := (dC, dI)) (ci := 3) (v := .ref a_o_lacked) (C := RX3) (T := TX3) (N := 11) hx hb hts uX3_takeNeeds_X3 hown hK hP 0 rfl rfl 6 (by decide) (hts _ mX3_takeNeeds_8) (fun _ h9 => h9) rfl dX3_takeNeeds_63 ?_
        refine lv_iload hx hb dX3_takeNeeds_66 (lv_at hl 5 rfl) ?_
        refine lv_dup2_11 hx hb dX3_takeNeeds_68 rfl rfl ?_
        obtain ⟨h_6, hf⟩ := pgd hf
        refine va_iald hx hb hK hP 2 1 rfl rfl h_6 dX3_takeNeeds_69 ?_
        refine lv_iload hx hb dX3_takeNeeds_70 (lv_at hl 0 rfl) ?_
        refine lv_isub hx hb dX3_takeNeeds_72 ?_
        obtain ⟨h_7, hf⟩ := pgd hf
        refine va_iast hx hb hK hP hD hS 2 1 rfl rfl h_7 dX3_takeNeeds_73 (fun H locs hP hD hS => ?_)
        have hP : va_P (dC, dI) vwCl [(a_o, .inr (3, [.int o_round, .int o_fell, .int o_ills, .ref a_o_skills, .ref a_o_places, .ref a_o_stores, .ref a_o_lacked, .ref a_o_helpers, .ref a_o_favours, .ref a_o_wheel, .ref a_o_works])), (a_o_stores, .inl (cI, 6, .inl o_stores)), (a_o_lacked, .inl (cI, 6, .inl (upd o_lacked l5.toNatClampNeg ((o_lacked l5.toNatClampNeg) - ((o_stores l5.toNatClampNeg) - (((x1_needs l5.toNatClampNeg) * l3) / (10 : Int32))))))), (a_x1, .inr (1, [.int x1_trades, .int x1_people, .ref a_x1_needs, .ref a_x1_yields, .ref a_x1_skips, .ref a_x1_skills, .ref a_x1_places, .ref a_x1_wheel, .int x1_tradesEnded])), (a_x1_needs, .inl (cI, 6, .inl x1_needs))] H := hP
        have hD : va_D A [(a_o, .inr (3, [.int o_round, .int o_fell, .int o_ills, .ref a_o_skills, .ref a_o_places, .ref a_o_stores, .ref a_o_lacked, .ref a_o_helpers, .ref a_o_favours, .ref a_o_wheel, .ref a_o_works])), (a_o_stores, .inl (cI, 6, .inl o_stores)), (a_o_lacked, .inl (cI, 6, .inl (upd o_lacked l5.toNatClampNeg ((o_lacked l5.toNatClampNeg) - ((o_stores l5.toNatClampNeg) - (((x1_needs l5.toNatClampNeg) * l3) / (10 : Int32))))))), (a_x1, .inr (1, [.int x1_trades, .int x1_people, .ref a_x1_needs, .ref a_x1_yields, .ref a_x1_skips, .ref a_x1_skills, .ref a_x1_places, .ref a_x1_wheel, .int x1_tradesEnded])), (a_x1_needs, .inl (cI, 6, .inl x1_needs))] := hD
        refine lv_iload hx hb dX3_takeNeeds_74 (lv_at hl 4 rfl) ?_
        refine lv_iload hx hb dX3_takeNeeds_76 (lv_at hl 0 rfl) ?_
        refine lv_isub hx hb dX3_takeNeeds_78 ?_
        refine lv_istore (lv' := [(4, .int (l4 - ((o_stores l5.toNatClampNeg) - (((x1_needs l5.toNatClampNeg) * l3) / (10 : Int32))))), (6, .int ((o_stores l5.toNatClampNeg) - (((x1_needs l5.toNatClampNeg) * l3) / (10 : Int32)))), (0, .ref a_o), (1, .ref a_x1), (3, .int l3), (5, .int l5)]) hx hb dX3_takeNeeds_79 hl (by decide) rfl (fun ls hl => ?_)
        refine lv_aload_n hx hb dX3_takeNeeds_81 rfl (lv_at hl 2 rfl) ?_
        refine va_get (D := (dC, dI)) (ci := 3) (v := .ref a_o_stores) (C := RX3) (T := TX3) (N := 11) hx hb hts uX3_takeNeeds_X3 hown hK hP 0 rfl rfl 5 (by decide) (hts _ mX3_takeNeeds_2) (fun _ h9 => h9) rfl dX3_takeNeeds_82 ?_
        refine lv_iload hx hb dX3_takeNeeds_85 (lv_at hl 5 rfl) ?_
        refine lv_iload hx hb dX3_takeNeeds_87 (lv_at hl 1 rfl) ?_
        refine lv_iconst (v := (0 : Int32)) hx hb dX3_takeNeeds_89 (by decide) ?_
        refine va_mmax hx hb (hml.trans hl.1.symm) hown (hts _ mX3_takeNeeds_4) (hts _ mX3_takeNeeds_5) (hts _ mX3_takeNeeds_6) (hts _ mX3_takeNeeds_7) (Nat.le_of_ble_eq_true rfl) (Nat.le_of_ble_eq_true rfl) (Nat.zero_le _) (Nat.zero_le _) dX3_takeNeeds_90 ?_
        obtain ⟨h_8, hf⟩ := pgd hf
        refine va_iast hx hb hK hP hD hS 1 1 rfl rfl h_8 dX3_takeNeeds_93 (fun H locs hP hD hS => ?_)
        have hP : va_P (dC, dI) vwCl [(a_o, .inr (3, [.int o_round, .int o_fell, .int o_ills, .ref a_o_skills, .ref a_o_places, .ref a_o_stores, .ref a_o_lacked, .ref a_o_helpers, .ref a_o_favours, .ref a_o_wheel, .ref a_o_works])), (a_o_stores, .inl (cI, 6, .inl (upd o_stores l5.toNatClampNeg (if ((o_stores l5.toNatClampNeg) - (((x1_needs l5.toNatClampNeg) * l3) / (10 : Int32))) < (0 : Int32) then (0 : Int32) else ((o_stores l5.toNatClampNeg) - (((x1_needs l5.toNatClampNeg) * l3) / (10 : Int32))))))), (a_o_lacked, .inl (cI, 6, .inl (upd o_lacked l5.toNatClampNeg ((o_lacked l5.toNatClampNeg) - ((o_stores l5.toNatClampNeg) - (((x1_needs l5.toNatClampNeg) * l3) / (10 : Int32))))))), (a_x1, .inr (1, [.int x1_trades, .int x1_people, .ref a_x1_needs, .ref a_x1_yields, .ref a_x1_skips, .ref a_x1_skills, .ref a_x1_places, .ref a_x1_wheel, .int x1_tradesEnded])), (a_x1_needs, .inl (cI, 6, .inl x1_needs))] H := hP
        have hD : va_D A [(a_o, .inr (3, [.int o_round, .int o_fell, .int o_ills, .ref a_o_skills, .ref a_o_places, .ref a_o_stores, .ref a_o_lacked, .ref a_o_helpers, .ref a_o_favours, .ref a_o_wheel, .ref a_o_works])), (a_o_stores, .inl (cI, 6, .inl (upd o_stores l5.toNatClampNeg (if ((o_stores l5.toNatClampNeg) - (((x1_needs l5.toNatClampNeg) * l3) / (10 : Int32))) < (0 : Int32) then (0 : Int32) else ((o_stores l5.toNatClampNeg) - (((x1_needs l5.toNatClampNeg) * l3) / (10 : Int32))))))), (a_o_lacked, .inl (cI, 6, .inl (upd o_lacked l5.toNatClampNeg ((o_lacked l5.toNatClampNeg) - ((o_stores l5.toNatClampNeg) - (((x1_needs l5.toNatClampNeg) * l3) / (10 : Int32))))))), (a_x1, .inr (1, [.int x1_trades, .int x1_people, .ref a_x1_needs, .ref a_x1_yields, .ref a_x1_skips, .ref a_x1_skills, .ref a_x1_places, .ref a_x1_wheel, .int x1_tradesEnded])), (a_x1_needs, .inl (cI, 6, .inl x1_needs))] := hD
        refine lv_iinc (v := (l5 + 1)) (lv' := [(5, .int (l5 + 1)), (4, .int (l4 - ((o_stores l5.toNatClampNeg) - (((x1_needs l5.toNatClampNeg) * l3) / (10 : Int32))))), (6, .int ((o_stores l5.toNatClampNeg) - (((x1_needs l5.toNatClampNeg) * l3) / (10 : Int32)))), (0, .ref a_o), (1, .ref a_x1), (3, .int l3)]) hx hb dX3_takeNeeds_94 hl (k := 5) rfl rfl (by decide) rfl (fun ls hl => ?_)
        refine lv_goto (tgt := 26) hx hb dX3_takeNeeds_97 (by decide) ?_
        exact ih _ _ _ _ _ _ _ _ hf _ _ _ hP hD hS (lv_sub hl [3, 4, 5, 1, 0] rfl) kx
set_option maxHeartbeats 4000000 in
set_option maxRecDepth 100000 in
theorem kX3_takeNeeds (l : Launch) (dC : Nat → ClassId) (dI : Nat → Nat → Nat) (Z : gZ) (cC cI cZ cW : ClassId) (a_o a_o_skills a_o_places a_o_stores a_o_lacked a_o_helpers a_o_favours a_o_wheel a_o_works a_x1 a_x1_needs a_x1_yields a_x1_skips a_x1_skills a_x1_places a_x1_wheel : Nat) (sz : Nat) (o_round : Int32) (o_fell : Int32) (o_ills : Int32) (o_stores : Nat → Int32) (o_lacked : Nat → Int32) (x1_trades : Int32) (x1_people : Int32) (x1_tradesEnded : Int32) (x1_needs : Nat → Int32) (i2 : Int32) (N : Nat) (r' : Int32) (o_stores' : Nat → Int32) (o_lacked' : Nat → Int32) (hf : fX3_takeNeeds N o_round o_stores o_lacked x1_trades x1_needs  i2 = some (r', o_stores', o_lacked')) : Met l yX3_takeNeeds wsX3_takeNeeds rmX3_takeNeeds (va_Pc [.ref a_o, .ref a_x1, .int i2] (gB (dC, dI) Z [(cC, .char), (cI, .int), (cZ, .boolean), (cW, .object RX3)] [(a_o, .inr (3, [.int o_round, .int o_fell, .int o_ills, .ref a_o_skills, .ref a_o_places, .ref a_o_stores, .ref a_o_lacked, .ref a_o_helpers, .ref a_o_favours, .ref a_o_wheel, .ref a_o_works])), (a_o_stores, .inl (cI, 6, .inl o_stores)), (a_o_lacked, .inl (cI, 6, .inl o_lacked)), (a_x1, .inr (1, [.int x1_trades, .int x1_people, .ref a_x1_needs, .ref a_x1_yields, .ref a_x1_skips, .ref a_x1_skills, .ref a_x1_places, .ref a_x1_wheel, .int x1_tradesEnded])), (a_x1_needs, .inl (cI, 6, .inl x1_needs))] sz)) (va_Qi (fun (r : Int32) (_ : Unit) => r = r') (gE (dC, dI) [(a_o, .inr (3, [.int o_round, .int o_fell, .int o_ills, .ref a_o_skills, .ref a_o_places, .ref a_o_stores, .ref a_o_lacked, .ref a_o_helpers, .ref a_o_favours, .ref a_o_wheel, .ref a_o_works])), (a_o_stores, .inl (cI, 6, .inl o_stores')), (a_o_lacked, .inl (cI, 6, .inl o_lacked')), (a_x1, .inr (1, [.int x1_trades, .int x1_people, .ref a_x1_needs, .ref a_x1_yields, .ref a_x1_skips, .ref a_x1_skills, .ref a_x1_places, .ref a_x1_wheel, .int x1_tradesEnded])), (a_x1_needs, .inl (cI, 6, .inl x1_needs))]) (va_A [(a_o, .inr (3, [.int o_round, .int o_fell, .int o_ills, .ref a_o_skills, .ref a_o_places, .ref a_o_stores, .ref a_o_lacked, .ref a_o_helpers, .ref a_o_favours, .ref a_o_wheel, .ref a_o_works])), (a_o_stores, .inl (cI, 6, .inl o_stores)), (a_o_lacked, .inl (cI, 6, .inl o_lacked)), (a_x1, .inr (1, [.int x1_trades, .int x1_people, .ref a_x1_needs, .ref a_x1_yields, .ref a_x1_skips, .ref a_x1_skills, .ref a_x1_places, .ref a_x1_wheel, .int x1_tradesEnded])), (a_x1_needs, .inl (cI, 6, .inl x1_needs))] sz)) 0 0 (va_A [(a_o, .inr (3, [.int o_round, .int o_fell, .int o_ills, .ref a_o_skills, .ref a_o_places, .ref a_o_stores, .ref a_o_lacked, .ref a_o_helpers, .ref a_o_favours, .ref a_o_wheel, .ref a_o_works])), (a_o_stores, .inl (cI, 6, .inl o_stores)), (a_o_lacked, .inl (cI, 6, .inl o_lacked)), (a_x1, .inr (1, [.int x1_trades, .int x1_people, .ref a_x1_needs, .ref a_x1_yields, .ref a_x1_skips, .ref a_x1_skills, .ref a_x1_places, .ref a_x1_wheel, .int x1_tradesEnded])), (a_x1_needs, .inl (cI, 6, .inl x1_needs))] sz) := by
  refine gMet (cc := cX3_takeNeeds) (maxL := 7) (ret := (some .int)) (Qc := fun A => va_Qi (fun (r : Int32) (_ : Unit) => r = r') (gE (dC, dI) [(a_o, .inr (3, [.int o_round, .int o_fell, .int o_ills, .ref a_o_skills, .ref a_o_places, .ref a_o_stores, .ref a_o_lacked, .ref a_o_helpers, .ref a_o_favours, .ref a_o_wheel, .ref a_o_works])), (a_o_stores, .inl (cI, 6, .inl o_stores')), (a_o_lacked, .inl (cI, 6, .inl o_lacked')), (a_x1, .inr (1, [.int x1_trades, .int x1_people, .ref a_x1_needs, .ref a_x1_yields, .ref a_x1_skips, .ref a_x1_skills, .ref a_x1_places, .ref a_x1_wheel, .int x1_tradesEnded])), (a_x1_needs, .inl (cI, 6, .inl x1_needs))]) A) (by decide) rfl (Nat.le_of_ble_eq_true rfl) ?_
  intro p e s m below meth c A ls hg0 _ hsz hP hD hS hl
  have hg0 : gX p s m _ meth c cX3_takeNeeds 7 (some .int) wsX3_takeNeeds RX3 (dC, dI) Z [(cC, .char), (cI, .int), (cZ, .boolean), (cW, .object RX3)] A := hg0
  obtain ⟨hx, hb, hr, hml, hown, hts, hlocks, hA, hK, hN⟩ := id hg0
  subst hsz
  have hF : CallFix p m c cX3_takeNeeds 7 s _ wsX3_takeNeeds RX3 := ⟨hx, hb, hml, hown, hts⟩
  have hl : lv_has ls 7 [(0, .ref a_o), (1, .ref a_x1), (2, .int i2)] := hl
  unfold fX3_takeNeeds at hf
  refine lv_aload_n hx hb dX3_takeNeeds_0 rfl (lv_at hl 0 rfl) ?_
  refine va_get (D := (dC, dI)) (ci := 3) (v := .int o_round) (C := RX3) (T := TX3) (N := 11) hx hb hts uX3_takeNeeds_X3 hown hK hP 0 rfl rfl 0 (by decide) (hts _ mX3_takeNeeds_0) (fun _ h9 => h9) rfl dX3_takeNeeds_1 ?_
  refine lv_iconst (v := (4 : Int32)) hx hb dX3_takeNeeds_4 (by decide) ?_
  refine lv_irem hx hb dX3_takeNeeds_5 (by decide) ?_
  refine lv_iconst (v := (3 : Int32)) hx hb dX3_takeNeeds_6 (by decide) ?_
  refine lv_icmp_ne (tgt := 17) hx hb dX3_takeNeeds_7 (by decide) (fun c_1 => ?_) (fun c_1 => ?_)
  · have hf := pif hf c_1
    refine lv_bipush (v := (10 : Int32)) hx hb dX3_takeNeeds_17 (by decide) ?_
    refine lv_istore_n (lv' := [(3, .int (10 : Int32)), (0, .ref a_o), (1, .ref a_x1), (2, .int i2)]) hx hb dX3_takeNeeds_19 rfl hl (by decide) rfl (fun ls hl => ?_)
    refine lv_iconst (v := (0 : Int32)) hx hb dX3_takeNeeds_20 (by decide) ?_
    refine lv_istore (lv' := [(4, .int (0 : Int32)), (3, .int (10 : Int32)), (0, .ref a_o), (1, .ref a_x1), (2, .int i2)]) hx hb dX3_takeNeeds_21 hl (by decide) rfl (fun ls hl => ?_)
    refine lv_iconst (v := (0 : Int32)) hx hb dX3_takeNeeds_23 (by decide) ?_
    refine lv_istore (lv' := [(5, .int (0 : Int32)), (4, .int (0 : Int32)), (3, .int (10 : Int32)), (0, .ref a_o), (1, .ref a_x1), (2, .int i2)]) hx hb dX3_takeNeeds_24 hl (by decide) rfl (fun ls hl => ?_)
    obtain ⟨o_stores_2, o_lacked_3, l4_4, l5_5, hc, hf⟩ := pb4 hf
    refine wX3_takeNeeds_26 hg0 a_o a_o_skills a_o_places a_o_stores a_o_lacked a_o_helpers a_o_favours a_o_wheel a_o_works a_x1 a_x1_needs a_x1_yields a_x1_skips a_x1_skills a_x1_places a_x1_wheel o_round o_fell o_ills x1_trades x1_people x1_tradesEnded x1_needs (10 : Int32) N N o_stores o_lacked (0 : Int32) (0 : Int32) o_stores_2 o_lacked_3 l4_4 l5_5 hc _ _ _ hP hD hS (lv_sub hl [3, 4, 2, 1, 0] rfl) (fun H locs ls hP hD hS hl => ?_)
    refine lv_iload hx hb dX3_takeNeeds_100 (lv_at hl 0 rfl) ?_
    have q0 := Option.some.inj hf
    obtain ⟨e0, q1⟩ := Prod.mk.inj q0
    obtain ⟨e1, q2⟩ := Prod.mk.inj q1
    subst e0
    subst e1
    subst q2
    exact gRi hx hb hr hlocks hP hS dX3_takeNeeds_102
  · have hf := pit hf c_1
    refine lv_bipush (v := (10 : Int32)) hx hb dX3_takeNeeds_10 (by decide) ?_
    refine lv_iload_n hx hb dX3_takeNeeds_12 rfl (lv_at hl 2 rfl) ?_
    refine lv_iadd hx hb dX3_takeNeeds_13 ?_
    refine lv_goto (tgt := 19) hx hb dX3_takeNeeds_14 (by decide) ?_
    refine lv_istore_n (lv' := [(3, .int ((10 : Int32) + i2)), (0, .ref a_o), (1, .ref a_x1), (2, .int i2)]) hx hb dX3_takeNeeds_19 rfl hl (by decide) rfl (fun ls hl => ?_)
    refine lv_iconst (v := (0 : Int32)) hx hb dX3_takeNeeds_20 (by decide) ?_
    refine lv_istore (lv' := [(4, .int (0 : Int32)), (3, .int ((10 : Int32) + i2)), (0, .ref a_o), (1, .ref a_x1), (2, .int i2)]) hx hb dX3_takeNeeds_21 hl (by decide) rfl (fun ls hl => ?_)
    refine lv_iconst (v := (0 : Int32)) hx hb dX3_takeNeeds_23 (by decide) ?_
    refine lv_istore (lv' := [(5, .int (0 : Int32)), (4, .int (0 : Int32)), (3, .int ((10 : Int32) + i2)), (0, .ref a_o), (1, .ref a_x1), (2, .int i2)]) hx hb dX3_takeNeeds_24 hl (by decide) rfl (fun ls hl => ?_)
    obtain ⟨o_stores_6, o_lacked_7, l4_8, l5_9, hc, hf⟩ := pb4 hf
    refine wX3_takeNeeds_26 hg0 a_o a_o_skills a_o_places a_o_stores a_o_lacked a_o_helpers a_o_favours a_o_wheel a_o_works a_x1 a_x1_needs a_x1_yields a_x1_skips a_x1_skills a_x1_places a_x1_wheel o_round o_fell o_ills x1_trades x1_people x1_tradesEnded x1_needs ((10 : Int32) + i2) N N o_stores o_lacked (0 : Int32) (0 : Int32) o_stores_6 o_lacked_7 l4_8 l5_9 hc _ _ _ hP hD hS (lv_sub hl [3, 4, 2, 1, 0] rfl) (fun H locs ls hP hD hS hl => ?_)
    refine lv_iload hx hb dX3_takeNeeds_100 (lv_at hl 0 rfl) ?_
    have q0 := Option.some.inj hf
    obtain ⟨e0, q1⟩ := Prod.mk.inj q0
    obtain ⟨e1, q2⟩ := Prod.mk.inj q1
    subst e0
    subst e1
    subst q2
    exact gRi hx hb hr hlocks hP hS dX3_takeNeeds_102
abbrev rmX3_goRound : Room := { frames := 3, cells := 0, slots := 0, locals := 71 }
set_option maxRecDepth 20000 in
theorem uX3_goRound_X2 : ∀ w ∈ wsX20, w ∈ wsX3_goRound := by decide +kernel
set_option maxRecDepth 20000 in
theorem uX3_goRound_X3 : ∀ w ∈ wsX30, w ∈ wsX3_goRound := by decide +kernel
set_option maxRecDepth 20000 in
theorem mX3_goRound_0 : (Cond.fieldLink RX3 88 "TradeWheel$Tunes" "winter" "I" : Cond) ∈ wsX3_goRound := by decide +kernel
set_option maxRecDepth 20000 in
theorem mX3_goRound_1 : (Cond.fieldLink RX3 97 "TradeWheel$Tunes" "fall" "I" : Cond) ∈ wsX3_goRound := by decide +kernel
set_option maxRecDepth 20000 in
theorem mX3_goRound_2 : (Cond.fieldLink RX3 100 "TradeWheel$Tunes" "fade" "I" : Cond) ∈ wsX3_goRound := by decide +kernel
set_option maxRecDepth 20000 in
theorem mX3_goRound_3 : (Cond.fieldLink RX3 18 "TradeWheel$World" "ills" "I" : Cond) ∈ wsX3_goRound := by decide +kernel
set_option maxRecDepth 20000 in
theorem mX3_goRound_4 : (Cond.fieldLink RX3 9 "TradeWheel$World" "round" "I" : Cond) ∈ wsX3_goRound := by decide +kernel
set_option maxRecDepth 20000 in
theorem mX3_goRound_5 : (Cond.fieldLink RX3 15 "TradeWheel$World" "fell" "I" : Cond) ∈ wsX3_goRound := by decide +kernel
set_option maxHeartbeats 4000000 in
set_option maxRecDepth 100000 in
theorem kX3_goRound (l : Launch) (dC : Nat → ClassId) (dI : Nat → Nat → Nat) (Z : gZ) (cC cI cZ cW : ClassId) (a_o a_o_skills a_o_places a_o_stores a_o_lacked a_o_helpers a_o_favours a_o_wheel a_o_works a_x1 a_x1_needs a_x1_yields a_x1_skips a_x1_skills a_x1_places a_x1_wheel a_x2 : Nat) (sz : Nat) (o_round : Int32) (o_fell : Int32) (o_ills : Int32) (o_skills : Nat → Int32) (o_places : Nat → Int32) (o_stores : Nat → Int32) (o_lacked : Nat → Int32) (o_helpers : Nat → Int32) (o_favours : Nat → Int32) (o_wheel : Nat → Int32) (o_works : Nat → Int32) (x1_trades : Int32) (x1_people : Int32) (x1_tradesEnded : Int32) (x1_needs : Nat → Int32) (x1_yields : Nat → Int32) (x1_skips : Nat → Int32) (x2_fade : Int32) (x2_winter : Int32) (x2_fall : Int32)  (N : Nat) (r' : Int32) (o_round' : Int32) (o_fell' : Int32) (o_ills' : Int32) (o_skills' : Nat → Int32) (o_places' : Nat → Int32) (o_stores' : Nat → Int32) (o_lacked' : Nat → Int32) (o_helpers' : Nat → Int32) (o_favours' : Nat → Int32) (o_works' : Nat → Int32) (hf : fX3_goRound N o_round o_fell o_ills o_skills o_places o_stores o_lacked o_helpers o_favours o_wheel o_works x1_trades x1_people x1_needs x1_yields x1_skips x2_fade x2_winter x2_fall   = some (r', o_round', o_fell', o_ills', o_skills', o_places', o_stores', o_lacked', o_helpers', o_favours', o_works')) : Met l yX3_goRound wsX3_goRound rmX3_goRound (va_Pc [.ref a_o, .ref a_x1, .ref a_x2] (gB (dC, dI) Z [(cC, .char), (cI, .int), (cZ, .boolean), (cW, .object RX3)] [(a_o, .inr (3, [.int o_round, .int o_fell, .int o_ills, .ref a_o_skills, .ref a_o_places, .ref a_o_stores, .ref a_o_lacked, .ref a_o_helpers, .ref a_o_favours, .ref a_o_wheel, .ref a_o_works])), (a_o_skills, .inl (cI, 36, .inl o_skills)), (a_o_places, .inl (cI, 6, .inl o_places)), (a_o_stores, .inl (cI, 6, .inl o_stores)), (a_o_lacked, .inl (cI, 6, .inl o_lacked)), (a_o_helpers, .inl (cI, 6, .inl o_helpers)), (a_o_favours, .inl (cI, 36, .inl o_favours)), (a_o_wheel, .inl (cI, 6, .inl o_wheel)), (a_o_works, .inl (cI, 6, .inl o_works)), (a_x1, .inr (1, [.int x1_trades, .int x1_people, .ref a_x1_needs, .ref a_x1_yields, .ref a_x1_skips, .ref a_x1_skills, .ref a_x1_places, .ref a_x1_wheel, .int x1_tradesEnded])), (a_x1_needs, .inl (cI, 6, .inl x1_needs)), (a_x1_yields, .inl (cI, 6, .inl x1_yields)), (a_x1_skips, .inl (cI, 6, .inl x1_skips)), (a_x2, .inr (2, [.int x2_fade, .int x2_winter, .int x2_fall]))] sz)) (va_Qi (fun (r : Int32) (_ : Unit) => r = r') (gE (dC, dI) [(a_o, .inr (3, [.int o_round', .int o_fell', .int o_ills', .ref a_o_skills, .ref a_o_places, .ref a_o_stores, .ref a_o_lacked, .ref a_o_helpers, .ref a_o_favours, .ref a_o_wheel, .ref a_o_works])), (a_o_skills, .inl (cI, 36, .inl o_skills')), (a_o_places, .inl (cI, 6, .inl o_places')), (a_o_stores, .inl (cI, 6, .inl o_stores')), (a_o_lacked, .inl (cI, 6, .inl o_lacked')), (a_o_helpers, .inl (cI, 6, .inl o_helpers')), (a_o_favours, .inl (cI, 36, .inl o_favours')), (a_o_wheel, .inl (cI, 6, .inl o_wheel)), (a_o_works, .inl (cI, 6, .inl o_works')), (a_x1, .inr (1, [.int x1_trades, .int x1_people, .ref a_x1_needs, .ref a_x1_yields, .ref a_x1_skips, .ref a_x1_skills, .ref a_x1_places, .ref a_x1_wheel, .int x1_tradesEnded])), (a_x1_needs, .inl (cI, 6, .inl x1_needs)), (a_x1_yields, .inl (cI, 6, .inl x1_yields)), (a_x1_skips, .inl (cI, 6, .inl x1_skips)), (a_x2, .inr (2, [.int x2_fade, .int x2_winter, .int x2_fall]))]) (va_A [(a_o, .inr (3, [.int o_round, .int o_fell, .int o_ills, .ref a_o_skills, .ref a_o_places, .ref a_o_stores, .ref a_o_lacked, .ref a_o_helpers, .ref a_o_favours, .ref a_o_wheel, .ref a_o_works])), (a_o_skills, .inl (cI, 36, .inl o_skills)), (a_o_places, .inl (cI, 6, .inl o_places)), (a_o_stores, .inl (cI, 6, .inl o_stores)), (a_o_lacked, .inl (cI, 6, .inl o_lacked)), (a_o_helpers, .inl (cI, 6, .inl o_helpers)), (a_o_favours, .inl (cI, 36, .inl o_favours)), (a_o_wheel, .inl (cI, 6, .inl o_wheel)), (a_o_works, .inl (cI, 6, .inl o_works)), (a_x1, .inr (1, [.int x1_trades, .int x1_people, .ref a_x1_needs, .ref a_x1_yields, .ref a_x1_skips, .ref a_x1_skills, .ref a_x1_places, .ref a_x1_wheel, .int x1_tradesEnded])), (a_x1_needs, .inl (cI, 6, .inl x1_needs)), (a_x1_yields, .inl (cI, 6, .inl x1_yields)), (a_x1_skips, .inl (cI, 6, .inl x1_skips)), (a_x2, .inr (2, [.int x2_fade, .int x2_winter, .int x2_fall]))] sz)) 0 0 (va_A [(a_o, .inr (3, [.int o_round, .int o_fell, .int o_ills, .ref a_o_skills, .ref a_o_places, .ref a_o_stores, .ref a_o_lacked, .ref a_o_helpers, .ref a_o_favours, .ref a_o_wheel, .ref a_o_works])), (a_o_skills, .inl (cI, 36, .inl o_skills)), (a_o_places, .inl (cI, 6, .inl o_places)), (a_o_stores, .inl (cI, 6, .inl o_stores)), (a_o_lacked, .inl (cI, 6, .inl o_lacked)), (a_o_helpers, .inl (cI, 6, .inl o_helpers)), (a_o_favours, .inl (cI, 36, .inl o_favours)), (a_o_wheel, .inl (cI, 6, .inl o_wheel)), (a_o_works, .inl (cI, 6, .inl o_works)), (a_x1, .inr (1, [.int x1_trades, .int x1_people, .ref a_x1_needs, .ref a_x1_yields, .ref a_x1_skips, .ref a_x1_skills, .ref a_x1_places, .ref a_x1_wheel, .int x1_tradesEnded])), (a_x1_needs, .inl (cI, 6, .inl x1_needs)), (a_x1_yields, .inl (cI, 6, .inl x1_yields)), (a_x1_skips, .inl (cI, 6, .inl x1_skips)), (a_x2, .inr (2, [.int x2_fade, .int x2_winter, .int x2_fall]))] sz) := by
  refine gMet (cc := cX3_goRound) (maxL := 4) (ret := (some .int)) (Qc := fun A => va_Qi (fun (r : Int32) (_ : Unit) => r = r') (gE (dC, dI) [(a_o, .inr (3, [.int o_round', .int o_fell', .int o_ills', .ref a_o_skills, .ref a_o_places, .ref a_o_stores, .ref a_o_lacked, .ref a_o_helpers, .ref a_o_favours, .ref a_o_wheel, .ref a_o_works])), (a_o_skills, .inl (cI, 36, .inl o_skills')), (a_o_places, .inl (cI, 6, .inl o_places')), (a_o_stores, .inl (cI, 6, .inl o_stores')), (a_o_lacked, .inl (cI, 6, .inl o_lacked')), (a_o_helpers, .inl (cI, 6, .inl o_helpers')), (a_o_favours, .inl (cI, 36, .inl o_favours')), (a_o_wheel, .inl (cI, 6, .inl o_wheel)), (a_o_works, .inl (cI, 6, .inl o_works')), (a_x1, .inr (1, [.int x1_trades, .int x1_people, .ref a_x1_needs, .ref a_x1_yields, .ref a_x1_skips, .ref a_x1_skills, .ref a_x1_places, .ref a_x1_wheel, .int x1_tradesEnded])), (a_x1_needs, .inl (cI, 6, .inl x1_needs)), (a_x1_yields, .inl (cI, 6, .inl x1_yields)), (a_x1_skips, .inl (cI, 6, .inl x1_skips)), (a_x2, .inr (2, [.int x2_fade, .int x2_winter, .int x2_fall]))]) A) (by decide) rfl (Nat.le_of_ble_eq_true rfl) ?_
  intro p e s m below meth c A ls hg0 _ hsz hP hD hS hl
  have hg0 : gX p s m _ meth c cX3_goRound 4 (some .int) wsX3_goRound RX3 (dC, dI) Z [(cC, .char), (cI, .int), (cZ, .boolean), (cW, .object RX3)] A := hg0
  obtain ⟨hx, hb, hr, hml, hown, hts, hlocks, hA, hK, hN⟩ := id hg0
  subst hsz
  have hF : CallFix p m c cX3_goRound 4 s _ wsX3_goRound RX3 := ⟨hx, hb, hml, hown, hts⟩
  have hl : lv_has ls 4 [(0, .ref a_o), (1, .ref a_x1), (2, .ref a_x2)] := hl
  unfold fX3_goRound at hf
  refine lv_aload_n hx hb dX3_goRound_0 rfl (lv_at hl 0 rfl) ?_
  refine lv_aload_n hx hb dX3_goRound_1 rfl (lv_at hl 1 rfl) ?_
  obtain ⟨o_works_1, hc, hf⟩ := pb1 hf
  refine gCv (va_runV (As := [.ref a_x1]) (rest := []) hF (kX3_findWork l dC dI Z cC cI cZ cW a_o a_o_skills a_o_places a_o_stores a_o_lacked a_o_helpers a_o_favours a_o_wheel a_o_works a_x1 a_x1_needs a_x1_yields a_x1_skips a_x1_skills a_x1_places a_x1_wheel _ o_round o_fell o_ills o_places o_wheel o_works x1_trades x1_people x1_tradesEnded x1_skips  N o_works_1 hc) (cwV 1 hts gX3_goRound_X3_findWork rfl rfl rfl (by decide +kernel) ⟨Nat.le_of_ble_eq_true rfl, Nat.le_of_ble_eq_true rfl⟩) (gPV (wc := [(a_o, .inr (3, [.int o_round, .int o_fell, .int o_ills, .ref a_o_skills, .ref a_o_places, .ref a_o_stores, .ref a_o_lacked, .ref a_o_helpers, .ref a_o_favours, .ref a_o_wheel, .ref a_o_works])), (a_o_places, .inl (cI, 6, .inl o_places)), (a_o_wheel, .inl (cI, 6, .inl o_wheel)), (a_o_works, .inl (cI, 6, .inl o_works)), (a_x1, .inr (1, [.int x1_trades, .int x1_people, .ref a_x1_needs, .ref a_x1_yields, .ref a_x1_skips, .ref a_x1_skills, .ref a_x1_places, .ref a_x1_wheel, .int x1_tradesEnded])), (a_x1_skips, .inl (cI, 6, .inl x1_skips))]) hK hN hA hS hP hD [0, 2, 7, 8, 9, 12] rfl rfl (q0 := 0) (ci := 3) rfl rfl rfl) rfl rfl hl.1 rfl (lv_room (Nat.le_of_ble_eq_true rfl)) dX3_goRound_2 ⟨Nat.zero_le _, Nat.zero_le _⟩) hP hD hS hA [0, 2, 7, 8, 9, 12] rfl rfl rfl (fun H locs hP hD hS => ?_)
  have hP : va_P (dC, dI) vwCl [(a_o, .inr (3, [.int o_round, .int o_fell, .int o_ills, .ref a_o_skills, .ref a_o_places, .ref a_o_stores, .ref a_o_lacked, .ref a_o_helpers, .ref a_o_favours, .ref a_o_wheel, .ref a_o_works])), (a_o_skills, .inl (cI, 36, .inl o_skills)), (a_o_places, .inl (cI, 6, .inl o_places)), (a_o_stores, .inl (cI, 6, .inl o_stores)), (a_o_lacked, .inl (cI, 6, .inl o_lacked)), (a_o_helpers, .inl (cI, 6, .inl o_helpers)), (a_o_favours, .inl (cI, 36, .inl o_favours)), (a_o_wheel, .inl (cI, 6, .inl o_wheel)), (a_o_works, .inl (cI, 6, .inl o_works_1)), (a_x1, .inr (1, [.int x1_trades, .int x1_people, .ref a_x1_needs, .ref a_x1_yields, .ref a_x1_skips, .ref a_x1_skills, .ref a_x1_places, .ref a_x1_wheel, .int x1_tradesEnded])), (a_x1_needs, .inl (cI, 6, .inl x1_needs)), (a_x1_yields, .inl (cI, 6, .inl x1_yields)), (a_x1_skips, .inl (cI, 6, .inl x1_skips)), (a_x2, .inr (2, [.int x2_fade, .int x2_winter, .int x2_fall]))] H := hP
  have hD : va_D A [(a_o, .inr (3, [.int o_round, .int o_fell, .int o_ills, .ref a_o_skills, .ref a_o_places, .ref a_o_stores, .ref a_o_lacked, .ref a_o_helpers, .ref a_o_favours, .ref a_o_wheel, .ref a_o_works])), (a_o_skills, .inl (cI, 36, .inl o_skills)), (a_o_places, .inl (cI, 6, .inl o_places)), (a_o_stores, .inl (cI, 6, .inl o_stores)), (a_o_lacked, .inl (cI, 6, .inl o_lacked)), (a_o_helpers, .inl (cI, 6, .inl o_helpers)), (a_o_favours, .inl (cI, 36, .inl o_favours)), (a_o_wheel, .inl (cI, 6, .inl o_wheel)), (a_o_works, .inl (cI, 6, .inl o_works_1)), (a_x1, .inr (1, [.int x1_trades, .int x1_people, .ref a_x1_needs, .ref a_x1_yields, .ref a_x1_skips, .ref a_x1_skills, .ref a_x1_places, .ref a_x1_wheel, .int x1_tradesEnded])), (a_x1_needs, .inl (cI, 6, .inl x1_needs)), (a_x1_yields, .inl (cI, 6, .inl x1_yields)), (a_x1_skips, .inl (cI, 6, .inl x1_skips)), (a_x2, .inr (2, [.int x2_fade, .int x2_winter, .int x2_fall]))] := hD
  refine lv_aload_n hx hb dX3_goRound_5 rfl (lv_at hl 0 rfl) ?_
  refine lv_aload_n hx hb dX3_goRound_6 rfl (lv_at hl 1 rfl) ?_
  obtain ⟨o_stores_2, hc, hf⟩ := pb1 hf
  refine gCv (va_runV (As := [.ref a_x1]) (rest := []) hF (kX3_makeGoods l dC dI Z cC cI cZ cW a_o a_o_skills a_o_places a_o_stores a_o_lacked a_o_helpers a_o_favours a_o_wheel a_o_works a_x1 a_x1_needs a_x1_yields a_x1_skips a_x1_skills a_x1_places a_x1_wheel _ o_round o_fell o_ills o_skills o_stores o_helpers o_wheel o_works_1 x1_trades x1_people x1_tradesEnded x1_yields  N o_stores_2 hc) (cwV 1 hts gX3_goRound_X3_makeGoods rfl rfl rfl (by decide +kernel) ⟨Nat.le_of_ble_eq_true rfl, Nat.le_of_ble_eq_true rfl⟩) (gPV (wc := [(a_o, .inr (3, [.int o_round, .int o_fell, .int o_ills, .ref a_o_skills, .ref a_o_places, .ref a_o_stores, .ref a_o_lacked, .ref a_o_helpers, .ref a_o_favours, .ref a_o_wheel, .ref a_o_works])), (a_o_skills, .inl (cI, 36, .inl o_skills)), (a_o_stores, .inl (cI, 6, .inl o_stores)), (a_o_helpers, .inl (cI, 6, .inl o_helpers)), (a_o_wheel, .inl (cI, 6, .inl o_wheel)), (a_o_works, .inl (cI, 6, .inl o_works_1)), (a_x1, .inr (1, [.int x1_trades, .int x1_people, .ref a_x1_needs, .ref a_x1_yields, .ref a_x1_skips, .ref a_x1_skills, .ref a_x1_places, .ref a_x1_wheel, .int x1_tradesEnded])), (a_x1_yields, .inl (cI, 6, .inl x1_yields))]) hK hN hA hS hP hD [0, 1, 3, 5, 7, 8, 9, 11] rfl rfl (q0 := 0) (ci := 3) rfl rfl rfl) rfl rfl hl.1 rfl (lv_room (Nat.le_of_ble_eq_true rfl)) dX3_goRound_7 ⟨Nat.zero_le _, Nat.zero_le _⟩) hP hD hS hA [0, 1, 3, 5, 7, 8, 9, 11] rfl rfl rfl (fun H locs hP hD hS => ?_)
  have hP : va_P (dC, dI) vwCl [(a_o, .inr (3, [.int o_round, .int o_fell, .int o_ills, .ref a_o_skills, .ref a_o_places, .ref a_o_stores, .ref a_o_lacked, .ref a_o_helpers, .ref a_o_favours, .ref a_o_wheel, .ref a_o_works])), (a_o_skills, .inl (cI, 36, .inl o_skills)), (a_o_places, .inl (cI, 6, .inl o_places)), (a_o_stores, .inl (cI, 6, .inl o_stores_2)), (a_o_lacked, .inl (cI, 6, .inl o_lacked)), (a_o_helpers, .inl (cI, 6, .inl o_helpers)), (a_o_favours, .inl (cI, 36, .inl o_favours)), (a_o_wheel, .inl (cI, 6, .inl o_wheel)), (a_o_works, .inl (cI, 6, .inl o_works_1)), (a_x1, .inr (1, [.int x1_trades, .int x1_people, .ref a_x1_needs, .ref a_x1_yields, .ref a_x1_skips, .ref a_x1_skills, .ref a_x1_places, .ref a_x1_wheel, .int x1_tradesEnded])), (a_x1_needs, .inl (cI, 6, .inl x1_needs)), (a_x1_yields, .inl (cI, 6, .inl x1_yields)), (a_x1_skips, .inl (cI, 6, .inl x1_skips)), (a_x2, .inr (2, [.int x2_fade, .int x2_winter, .int x2_fall]))] H := hP
  have hD : va_D A [(a_o, .inr (3, [.int o_round, .int o_fell, .int o_ills, .ref a_o_skills, .ref a_o_places, .ref a_o_stores, .ref a_o_lacked, .ref a_o_helpers, .ref a_o_favours, .ref a_o_wheel, .ref a_o_works])), (a_o_skills, .inl (cI, 36, .inl o_skills)), (a_o_places, .inl (cI, 6, .inl o_places)), (a_o_stores, .inl (cI, 6, .inl o_stores_2)), (a_o_lacked, .inl (cI, 6, .inl o_lacked)), (a_o_helpers, .inl (cI, 6, .inl o_helpers)), (a_o_favours, .inl (cI, 36, .inl o_favours)), (a_o_wheel, .inl (cI, 6, .inl o_wheel)), (a_o_works, .inl (cI, 6, .inl o_works_1)), (a_x1, .inr (1, [.int x1_trades, .int x1_people, .ref a_x1_needs, .ref a_x1_yields, .ref a_x1_skips, .ref a_x1_skills, .ref a_x1_places, .ref a_x1_wheel, .int x1_tradesEnded])), (a_x1_needs, .inl (cI, 6, .inl x1_needs)), (a_x1_yields, .inl (cI, 6, .inl x1_yields)), (a_x1_skips, .inl (cI, 6, .inl x1_skips)), (a_x2, .inr (2, [.int x2_fade, .int x2_winter, .int x2_fall]))] := hD
  refine lv_aload_n hx hb dX3_goRound_10 rfl (lv_at hl 0 rfl) ?_
  refine lv_aload_n hx hb dX3_goRound_11 rfl (lv_at hl 1 rfl) ?_
  refine lv_aload_n hx hb dX3_goRound_12 rfl (lv_at hl 2 rfl) ?_
  refine va_get (D := (dC, dI)) (ci := 2) (v := .int x2_winter) (C := RX2) (T := TX2) (N := 3) hx hb hts uX3_goRound_X2 hown hK hP 13 rfl rfl 1 (by decide) (hts _ mX3_goRound_0) (fun _ h9 => h9) rfl dX3_goRound_13 ?_
  obtain ⟨r_3, o_stores_4, o_lacked_5, hc, hf⟩ := pb3 hf
  refine gCi (va_runV (As := [.ref a_x1, .int x2_winter]) (rest := []) hF (kX3_takeNeeds l dC dI Z cC cI cZ cW a_o a_o_skills a_o_places a_o_stores a_o_lacked a_o_helpers a_o_favours a_o_wheel a_o_works a_x1 a_x1_needs a_x1_yields a_x1_skips a_x1_skills a_x1_places a_x1_wheel _ o_round o_fell o_ills o_stores_2 o_lacked x1_trades x1_people x1_tradesEnded x1_needs x2_winter N r_3 o_stores_4 o_lacked_5 hc) (cwV 2 hts gX3_goRound_X3_takeNeeds rfl rfl rfl (by decide +kernel) ⟨Nat.le_of_ble_eq_true rfl, Nat.le_of_ble_eq_true rfl⟩) (gPV (wc := [(a_o, .inr (3, [.int o_round, .int o_fell, .int o_ills, .ref a_o_skills, .ref a_o_places, .ref a_o_stores, .ref a_o_lacked, .ref a_o_helpers, .ref a_o_favours, .ref a_o_wheel, .ref a_o_works])), (a_o_stores, .inl (cI, 6, .inl o_stores_2)), (a_o_lacked, .inl (cI, 6, .inl o_lacked)), (a_x1, .inr (1, [.int x1_trades, .int x1_people, .ref a_x1_needs, .ref a_x1_yields, .ref a_x1_skips, .ref a_x1_skills, .ref a_x1_places, .ref a_x1_wheel, .int x1_tradesEnded])), (a_x1_needs, .inl (cI, 6, .inl x1_needs))]) hK hN hA hS hP hD [0, 3, 4, 9, 10] rfl rfl (q0 := 0) (ci := 3) rfl rfl rfl) rfl rfl hl.1 rfl (lv_room (Nat.le_of_ble_eq_true rfl)) dX3_goRound_16 ⟨Nat.zero_le _, Nat.zero_le _⟩) hP hD hS hA [0, 3, 4, 9, 10] rfl rfl rfl (fun H locs hP hD hS => ?_)
  have hP : va_P (dC, dI) vwCl [(a_o, .inr (3, [.int o_round, .int o_fell, .int o_ills, .ref a_o_skills, .ref a_o_places, .ref a_o_stores, .ref a_o_lacked, .ref a_o_helpers, .ref a_o_favours, .ref a_o_wheel, .ref a_o_works])), (a_o_skills, .inl (cI, 36, .inl o_skills)), (a_o_places, .inl (cI, 6, .inl o_places)), (a_o_stores, .inl (cI, 6, .inl o_stores_4)), (a_o_lacked, .inl (cI, 6, .inl o_lacked_5)), (a_o_helpers, .inl (cI, 6, .inl o_helpers)), (a_o_favours, .inl (cI, 36, .inl o_favours)), (a_o_wheel, .inl (cI, 6, .inl o_wheel)), (a_o_works, .inl (cI, 6, .inl o_works_1)), (a_x1, .inr (1, [.int x1_trades, .int x1_people, .ref a_x1_needs, .ref a_x1_yields, .ref a_x1_skips, .ref a_x1_skills, .ref a_x1_places, .ref a_x1_wheel, .int x1_tradesEnded])), (a_x1_needs, .inl (cI, 6, .inl x1_needs)), (a_x1_yields, .inl (cI, 6, .inl x1_yields)), (a_x1_skips, .inl (cI, 6, .inl x1_skips)), (a_x2, .inr (2, [.int x2_fade, .int x2_winter, .int x2_fall]))] H := hP
  have hD : va_D A [(a_o, .inr (3, [.int o_round, .int o_fell, .int o_ills, .ref a_o_skills, .ref a_o_places, .ref a_o_stores, .ref a_o_lacked, .ref a_o_helpers, .ref a_o_favours, .ref a_o_wheel, .ref a_o_works])), (a_o_skills, .inl (cI, 36, .inl o_skills)), (a_o_places, .inl (cI, 6, .inl o_places)), (a_o_stores, .inl (cI, 6, .inl o_stores_4)), (a_o_lacked, .inl (cI, 6, .inl o_lacked_5)), (a_o_helpers, .inl (cI, 6, .inl o_helpers)), (a_o_favours, .inl (cI, 36, .inl o_favours)), (a_o_wheel, .inl (cI, 6, .inl o_wheel)), (a_o_works, .inl (cI, 6, .inl o_works_1)), (a_x1, .inr (1, [.int x1_trades, .int x1_people, .ref a_x1_needs, .ref a_x1_yields, .ref a_x1_skips, .ref a_x1_skills, .ref a_x1_places, .ref a_x1_wheel, .int x1_tradesEnded])), (a_x1_needs, .inl (cI, 6, .inl x1_needs)), (a_x1_yields, .inl (cI, 6, .inl x1_yields)), (a_x1_skips, .inl (cI, 6, .inl x1_skips)), (a_x2, .inr (2, [.int x2_fade, .int x2_winter, .int x2_fall]))] := hD
  refine lv_istore_n (lv' := [(3, .int r_3), (0, .ref a_o), (1, .ref a_x1), (2, .ref a_x2)]) hx hb dX3_goRound_19 rfl hl (by decide) rfl (fun ls hl => ?_)
  refine lv_iload_n hx hb dX3_goRound_20 rfl (lv_at hl 0 rfl) ?_
  refine lv_aload_n hx hb dX3_goRound_21 rfl (lv_at hl 3 rfl) ?_
  refine va_get (D := (dC, dI)) (ci := 2) (v := .int x2_fall) (C := RX2) (T := TX2) (N := 3) hx hb hts uX3_goRound_X2 hown hK hP 13 rfl rfl 2 (by decide) (hts _ mX3_goRound_1) (fun _ h9 => h9) rfl dX3_goRound_22 ?_
  refine lv_icmp_lt (tgt := 38) hx hb dX3_goRound_25 (by decide) (fun c_6 => ?_) (fun c_6 => ?_)
  · have hf := pit hf c_6
    refine lv_aload_n hx hb dX3_goRound_38 rfl (lv_at hl 1 rfl) ?_
    refine lv_aload_n hx hb dX3_goRound_39 rfl (lv_at hl 2 rfl) ?_
    refine lv_aload_n hx hb dX3_goRound_40 rfl (lv_at hl 3 rfl) ?_
    refine va_get (D := (dC, dI)) (ci := 2) (v := .int x2_fade) (C := RX2) (T := TX2) (N := 3) hx hb hts uX3_goRound_X2 hown hK hP 13 rfl rfl 0 (by decide) (hts _ mX3_goRound_2) (fun _ h9 => h9) rfl dX3_goRound_41 ?_
    obtain ⟨o_skills_7, hc, hf⟩ := pb1 hf
    refine gCv (va_runV (As := [.ref a_x1, .int x2_fade]) (rest := []) hF (kX3_changeSkills l dC dI Z cC cI cZ cW a_o a_o_skills a_o_places a_o_stores a_o_lacked a_o_helpers a_o_favours a_o_wheel a_o_works a_x1 a_x1_needs a_x1_yields a_x1_skips a_x1_skills a_x1_places a_x1_wheel _ o_round o_fell o_ills o_skills o_wheel o_works_1 x1_trades x1_people x1_tradesEnded x2_fade N o_skills_7 hc) (cwV 2 hts gX3_goRound_X3_changeSkills rfl rfl rfl (by decide +kernel) ⟨Nat.le_of_ble_eq_true rfl, Nat.le_of_ble_eq_true rfl⟩) (gPV (wc := [(a_o, .inr (3, [.int o_round, .int o_fell, .int o_ills, .ref a_o_skills, .ref a_o_places, .ref a_o_stores, .ref a_o_lacked, .ref a_o_helpers, .ref a_o_favours, .ref a_o_wheel, .ref a_o_works])), (a_o_skills, .inl (cI, 36, .inl o_skills)), (a_o_wheel, .inl (cI, 6, .inl o_wheel)), (a_o_works, .inl (cI, 6, .inl o_works_1)), (a_x1, .inr (1, [.int x1_trades, .int x1_people, .ref a_x1_needs, .ref a_x1_yields, .ref a_x1_skips, .ref a_x1_skills, .ref a_x1_places, .ref a_x1_wheel, .int x1_tradesEnded]))]) hK hN hA hS hP hD [0, 1, 7, 8, 9] rfl rfl (q0 := 0) (ci := 3) rfl rfl rfl) rfl rfl hl.1 rfl (lv_room (Nat.le_of_ble_eq_true rfl)) dX3_goRound_44 ⟨Nat.zero_le _, Nat.zero_le _⟩) hP hD hS hA [0, 1, 7, 8, 9] rfl rfl rfl (fun H locs hP hD hS => ?_)
    have hP : va_P (dC, dI) vwCl [(a_o, .inr (3, [.int o_round, .int o_fell, .int o_ills, .ref a_o_skills, .ref a_o_places, .ref a_o_stores, .ref a_o_lacked, .ref a_o_helpers, .ref a_o_favours, .ref a_o_wheel, .ref a_o_works])), (a_o_skills, .inl (cI, 36, .inl o_skills_7)), (a_o_places, .inl (cI, 6, .inl o_places)), (a_o_stores, .inl (cI, 6, .inl o_stores_4)), (a_o_lacked, .inl (cI, 6, .inl o_lacked_5)), (a_o_helpers, .inl (cI, 6, .inl o_helpers)), (a_o_favours, .inl (cI, 36, .inl o_favours)), (a_o_wheel, .inl (cI, 6, .inl o_wheel)), (a_o_works, .inl (cI, 6, .inl o_works_1)), (a_x1, .inr (1, [.int x1_trades, .int x1_people, .ref a_x1_needs, .ref a_x1_yields, .ref a_x1_skips, .ref a_x1_skills, .ref a_x1_places, .ref a_x1_wheel, .int x1_tradesEnded])), (a_x1_needs, .inl (cI, 6, .inl x1_needs)), (a_x1_yields, .inl (cI, 6, .inl x1_yields)), (a_x1_skips, .inl (cI, 6, .inl x1_skips)), (a_x2, .inr (2, [.int x2_fade, .int x2_winter, .int x2_fall]))] H := hP
    have hD : va_D A [(a_o, .inr (3, [.int o_round, .int o_fell, .int o_ills, .ref a_o_skills, .ref a_o_places, .ref a_o_stores, .ref a_o_lacked, .ref a_o_helpers, .ref a_o_favours, .ref a_o_wheel, .ref a_o_works])), (a_o_skills, .inl (cI, 36, .inl o_skills_7)), (a_o_places, .inl (cI, 6, .inl o_places)), (a_o_stores, .inl (cI, 6, .inl o_stores_4)), (a_o_lacked, .inl (cI, 6, .inl o_lacked_5)), (a_o_helpers, .inl (cI, 6, .inl o_helpers)), (a_o_favours, .inl (cI, 36, .inl o_favours)), (a_o_wheel, .inl (cI, 6, .inl o_wheel)), (a_o_works, .inl (cI, 6, .inl o_works_1)), (a_x1, .inr (1, [.int x1_trades, .int x1_people, .ref a_x1_needs, .ref a_x1_yields, .ref a_x1_skips, .ref a_x1_skills, .ref a_x1_places, .ref a_x1_wheel, .int x1_tradesEnded])), (a_x1_needs, .inl (cI, 6, .inl x1_needs)), (a_x1_yields, .inl (cI, 6, .inl x1_yields)), (a_x1_skips, .inl (cI, 6, .inl x1_skips)), (a_x2, .inr (2, [.int x2_fade, .int x2_winter, .int x2_fall]))] := hD
    refine lv_aload_n hx hb dX3_goRound_47 rfl (lv_at hl 1 rfl) ?_
    refine lv_aload_n hx hb dX3_goRound_48 rfl (lv_at hl 2 rfl) ?_
    obtain ⟨o_places_8, hc, hf⟩ := pb1 hf
    refine gCv (va_runV (As := [.ref a_x1]) (rest := []) hF (kX3_moveOn l dC dI Z cC cI cZ cW a_o a_o_skills a_o_places a_o_stores a_o_lacked a_o_helpers a_o_favours a_o_wheel a_o_works a_x1 a_x1_needs a_x1_yields a_x1_skips a_x1_skills a_x1_places a_x1_wheel _ o_round o_fell o_ills o_places o_works_1 x1_trades x1_people x1_tradesEnded  N o_places_8 hc) (cwV 1 hts gX3_goRound_X3_moveOn rfl rfl rfl (by decide +kernel) ⟨Nat.le_of_ble_eq_true rfl, Nat.le_of_ble_eq_true rfl⟩) (gPV (wc := [(a_o, .inr (3, [.int o_round, .int o_fell, .int o_ills, .ref a_o_skills, .ref a_o_places, .ref a_o_stores, .ref a_o_lacked, .ref a_o_helpers, .ref a_o_favours, .ref a_o_wheel, .ref a_o_works])), (a_o_places, .inl (cI, 6, .inl o_places)), (a_o_works, .inl (cI, 6, .inl o_works_1)), (a_x1, .inr (1, [.int x1_trades, .int x1_people, .ref a_x1_needs, .ref a_x1_yields, .ref a_x1_skips, .ref a_x1_skills, .ref a_x1_places, .ref a_x1_wheel, .int x1_tradesEnded]))]) hK hN hA hS hP hD [0, 2, 8, 9] rfl rfl (q0 := 0) (ci := 3) rfl rfl rfl) rfl rfl hl.1 rfl (lv_room (Nat.le_of_ble_eq_true rfl)) dX3_goRound_49 ⟨Nat.zero_le _, Nat.zero_le _⟩) hP hD hS hA [0, 2, 8, 9] rfl rfl rfl (fun H locs hP hD hS => ?_)
    have hP : va_P (dC, dI) vwCl [(a_o, .inr (3, [.int o_round, .int o_fell, .int o_ills, .ref a_o_skills, .ref a_o_places, .ref a_o_stores, .ref a_o_lacked, .ref a_o_helpers, .ref a_o_favours, .ref a_o_wheel, .ref a_o_works])), (a_o_skills, .inl (cI, 36, .inl o_skills_7)), (a_o_places, .inl (cI, 6, .inl o_places_8)), (a_o_stores, .inl (cI, 6, .inl o_stores_4)), (a_o_lacked, .inl (cI, 6, .inl o_lacked_5)), (a_o_helpers, .inl (cI, 6, .inl o_helpers)), (a_o_favours, .inl (cI, 36, .inl o_favours)), (a_o_wheel, .inl (cI, 6, .inl o_wheel)), (a_o_works, .inl (cI, 6, .inl o_works_1)), (a_x1, .inr (1, [.int x1_trades, .int x1_people, .ref a_x1_needs, .ref a_x1_yields, .ref a_x1_skips, .ref a_x1_skills, .ref a_x1_places, .ref a_x1_wheel, .int x1_tradesEnded])), (a_x1_needs, .inl (cI, 6, .inl x1_needs)), (a_x1_yields, .inl (cI, 6, .inl x1_yields)), (a_x1_skips, .inl (cI, 6, .inl x1_skips)), (a_x2, .inr (2, [.int x2_fade, .int x2_winter, .int x2_fall]))] H := hP
    have hD : va_D A [(a_o, .inr (3, [.int o_round, .int o_fell, .int o_ills, .ref a_o_skills, .ref a_o_places, .ref a_o_stores, .ref a_o_lacked, .ref a_o_helpers, .ref a_o_favours, .ref a_o_wheel, .ref a_o_works])), (a_o_skills, .inl (cI, 36, .inl o_skills_7)), (a_o_places, .inl (cI, 6, .inl o_places_8)), (a_o_stores, .inl (cI, 6, .inl o_stores_4)), (a_o_lacked, .inl (cI, 6, .inl o_lacked_5)), (a_o_helpers, .inl (cI, 6, .inl o_helpers)), (a_o_favours, .inl (cI, 36, .inl o_favours)), (a_o_wheel, .inl (cI, 6, .inl o_wheel)), (a_o_works, .inl (cI, 6, .inl o_works_1)), (a_x1, .inr (1, [.int x1_trades, .int x1_people, .ref a_x1_needs, .ref a_x1_yields, .ref a_x1_skips, .ref a_x1_skills, .ref a_x1_places, .ref a_x1_wheel, .int x1_tradesEnded])), (a_x1_needs, .inl (cI, 6, .inl x1_needs)), (a_x1_yields, .inl (cI, 6, .inl x1_yields)), (a_x1_skips, .inl (cI, 6, .inl x1_skips)), (a_x2, .inr (2, [.int x2_fade, .int x2_winter, .int x2_fall]))] := hD
    refine lv_aload_n hx hb dX3_goRound_52 rfl (lv_at hl 1 rfl) ?_
    obtain ⟨o_helpers_9, o_favours_10, hc, hf⟩ := pb2 hf
    refine gCv (va_runV (As := []) (rest := []) hF (kX3_endHelps l dC dI Z cC cI cZ cW a_o a_o_skills a_o_places a_o_stores a_o_lacked a_o_helpers a_o_favours a_o_wheel a_o_works _ o_round o_fell o_ills o_helpers o_favours  N o_helpers_9 o_favours_10 hc) (cwV 0 hts gX3_goRound_X3_endHelps rfl rfl rfl (by decide +kernel) ⟨Nat.le_of_ble_eq_true rfl, Nat.le_of_ble_eq_true rfl⟩) (gPV (wc := [(a_o, .inr (3, [.int o_round, .int o_fell, .int o_ills, .ref a_o_skills, .ref a_o_places, .ref a_o_stores, .ref a_o_lacked, .ref a_o_helpers, .ref a_o_favours, .ref a_o_wheel, .ref a_o_works])), (a_o_helpers, .inl (cI, 6, .inl o_helpers)), (a_o_favours, .inl (cI, 36, .inl o_favours))]) hK hN hA hS hP hD [0, 5, 6] rfl rfl (q0 := 0) (ci := 3) rfl rfl rfl) rfl rfl hl.1 rfl (lv_room (Nat.le_of_ble_eq_true rfl)) dX3_goRound_53 ⟨Nat.zero_le _, Nat.zero_le _⟩) hP hD hS hA [0, 5, 6] rfl rfl rfl (fun H locs hP hD hS => ?_)
    have hP : va_P (dC, dI) vwCl [(a_o, .inr (3, [.int o_round, .int o_fell, .int o_ills, .ref a_o_skills, .ref a_o_places, .ref a_o_stores, .ref a_o_lacked, .ref a_o_helpers, .ref a_o_favours, .ref a_o_wheel, .ref a_o_works])), (a_o_skills, .inl (cI, 36, .inl o_skills_7)), (a_o_places, .inl (cI, 6, .inl o_places_8)), (a_o_stores, .inl (cI, 6, .inl o_stores_4)), (a_o_lacked, .inl (cI, 6, .inl o_lacked_5)), (a_o_helpers, .inl (cI, 6, .inl o_helpers_9)), (a_o_favours, .inl (cI, 36, .inl o_favours_10)), (a_o_wheel, .inl (cI, 6, .inl o_wheel)), (a_o_works, .inl (cI, 6, .inl o_works_1)), (a_x1, .inr (1, [.int x1_trades, .int x1_people, .ref a_x1_needs, .ref a_x1_yields, .ref a_x1_skips, .ref a_x1_skills, .ref a_x1_places, .ref a_x1_wheel, .int x1_tradesEnded])), (a_x1_needs, .inl (cI, 6, .inl x1_needs)), (a_x1_yields, .inl (cI, 6, .inl x1_yields)), (a_x1_skips, .inl (cI, 6, .inl x1_skips)), (a_x2, .inr (2, [.int x2_fade, .int x2_winter, .int x2_fall]))] H := hP
    have hD : va_D A [(a_o, .inr (3, [.int o_round, .int o_fell, .int o_ills, .ref a_o_skills, .ref a_o_places, .ref a_o_stores, .ref a_o_lacked, .ref a_o_helpers, .ref a_o_favours, .ref a_o_wheel, .ref a_o_works])), (a_o_skills, .inl (cI, 36, .inl o_skills_7)), (a_o_places, .inl (cI, 6, .inl o_places_8)), (a_o_stores, .inl (cI, 6, .inl o_stores_4)), (a_o_lacked, .inl (cI, 6, .inl o_lacked_5)), (a_o_helpers, .inl (cI, 6, .inl o_helpers_9)), (a_o_favours, .inl (cI, 36, .inl o_favours_10)), (a_o_wheel, .inl (cI, 6, .inl o_wheel)), (a_o_works, .inl (cI, 6, .inl o_works_1)), (a_x1, .inr (1, [.int x1_trades, .int x1_people, .ref a_x1_needs, .ref a_x1_yields, .ref a_x1_skips, .ref a_x1_skills, .ref a_x1_places, .ref a_x1_wheel, .int x1_tradesEnded])), (a_x1_needs, .inl (cI, 6, .inl x1_needs)), (a_x1_yields, .inl (cI, 6, .inl x1_yields)), (a_x1_skips, .inl (cI, 6, .inl x1_skips)), (a_x2, .inr (2, [.int x2_fade, .int x2_winter, .int x2_fall]))] := hD
    refine lv_aload_n hx hb dX3_goRound_56 rfl (lv_at hl 1 rfl) ?_
    refine lv_iconst (v := (0 : Int32)) hx hb dX3_goRound_57 (by decide) ?_
    refine va_put (D := (dC, dI)) (ci := 3) (v := .int (0 : Int32)) (ty := .int) (C := RX3) (T := TX3) (N := 11) hx hb hts uX3_goRound_X3 tyX3 tyX3_ok nmX3 hown hK hP hD hS 0 rfl rfl 2 (by decide) (hts _ mX3_goRound_3) (fun _ h9 => h9) rfl (by decide +kernel) rfl rfl (Nat.le_of_ble_eq_true rfl) dX3_goRound_58 (fun H locs hP hD hS => ?_)
    have hP : va_P (dC, dI) vwCl [(a_o, .inr (3, [.int o_round, .int o_fell, .int (0 : Int32), .ref a_o_skills, .ref a_o_places, .ref a_o_stores, .ref a_o_lacked, .ref a_o_helpers, .ref a_o_favours, .ref a_o_wheel, .ref a_o_works])), (a_o_skills, .inl (cI, 36, .inl o_skills_7)), (a_o_places, .inl (cI, 6, .inl o_places_8)), (a_o_stores, .inl (cI, 6, .inl o_stores_4)), (a_o_lacked, .inl (cI, 6, .inl o_lacked_5)), (a_o_helpers, .inl (cI, 6, .inl o_helpers_9)), (a_o_favours, .inl (cI, 36, .inl o_favours_10)), (a_o_wheel, .inl (cI, 6, .inl o_wheel)), (a_o_works, .inl (cI, 6, .inl o_works_1)), (a_x1, .inr (1, [.int x1_trades, .int x1_people, .ref a_x1_needs, .ref a_x1_yields, .ref a_x1_skips, .ref a_x1_skills, .ref a_x1_places, .ref a_x1_wheel, .int x1_tradesEnded])), (a_x1_needs, .inl (cI, 6, .inl x1_needs)), (a_x1_yields, .inl (cI, 6, .inl x1_yields)), (a_x1_skips, .inl (cI, 6, .inl x1_skips)), (a_x2, .inr (2, [.int x2_fade, .int x2_winter, .int x2_fall]))] H := hP
    have hD : va_D A [(a_o, .inr (3, [.int o_round, .int o_fell, .int (0 : Int32), .ref a_o_skills, .ref a_o_places, .ref a_o_stores, .ref a_o_lacked, .ref a_o_helpers, .ref a_o_favours, .ref a_o_wheel, .ref a_o_works])), (a_o_skills, .inl (cI, 36, .inl o_skills_7)), (a_o_places, .inl (cI, 6, .inl o_places_8)), (a_o_stores, .inl (cI, 6, .inl o_stores_4)), (a_o_lacked, .inl (cI, 6, .inl o_lacked_5)), (a_o_helpers, .inl (cI, 6, .inl o_helpers_9)), (a_o_favours, .inl (cI, 36, .inl o_favours_10)), (a_o_wheel, .inl (cI, 6, .inl o_wheel)), (a_o_works, .inl (cI, 6, .inl o_works_1)), (a_x1, .inr (1, [.int x1_trades, .int x1_people, .ref a_x1_needs, .ref a_x1_yields, .ref a_x1_skips, .ref a_x1_skills, .ref a_x1_places, .ref a_x1_wheel, .int x1_tradesEnded])), (a_x1_needs, .inl (cI, 6, .inl x1_needs)), (a_x1_yields, .inl (cI, 6, .inl x1_yields)), (a_x1_skips, .inl (cI, 6, .inl x1_skips)), (a_x2, .inr (2, [.int x2_fade, .int x2_winter, .int x2_fall]))] := hD
    refine lv_aload_n hx hb dX3_goRound_61 rfl (lv_at hl 1 rfl) ?_
    refine lv_dup hx hb dX3_goRound_62 rfl ?_
    refine va_get (D := (dC, dI)) (ci := 3) (v := .int o_round) (C := RX3) (T := TX3) (N := 11) hx hb hts uX3_goRound_X3 hown hK hP 0 rfl rfl 0 (by decide) (hts _ mX3_goRound_4) (fun _ h9 => h9) rfl dX3_goRound_63 ?_
    refine lv_iconst (v := (1 : Int32)) hx hb dX3_goRound_66 (by decide) ?_
    refine lv_iadd hx hb dX3_goRound_67 ?_
    refine va_put (D := (dC, dI)) (ci := 3) (v := .int (o_round + (1 : Int32))) (ty := .int) (C := RX3) (T := TX3) (N := 11) hx hb hts uX3_goRound_X3 tyX3 tyX3_ok nmX3 hown hK hP hD hS 0 rfl rfl 0 (by decide) (hts _ mX3_goRound_4) (fun _ h9 => h9) rfl (by decide +kernel) rfl rfl (Nat.le_of_ble_eq_true rfl) dX3_goRound_68 (fun H locs hP hD hS => ?_)
    have hP : va_P (dC, dI) vwCl [(a_o, .inr (3, [.int (o_round + (1 : Int32)), .int o_fell, .int (0 : Int32), .ref a_o_skills, .ref a_o_places, .ref a_o_stores, .ref a_o_lacked, .ref a_o_helpers, .ref a_o_favours, .ref a_o_wheel, .ref a_o_works])), (a_o_skills, .inl (cI, 36, .inl o_skills_7)), (a_o_places, .inl (cI, 6, .inl o_places_8)), (a_o_stores, .inl (cI, 6, .inl o_stores_4)), (a_o_lacked, .inl (cI, 6, .inl o_lacked_5)), (a_o_helpers, .inl (cI, 6, .inl o_helpers_9)), (a_o_favours, .inl (cI, 36, .inl o_favours_10)), (a_o_wheel, .inl (cI, 6, .inl o_wheel)), (a_o_works, .inl (cI, 6, .inl o_works_1)), (a_x1, .inr (1, [.int x1_trades, .int x1_people, .ref a_x1_needs, .ref a_x1_yields, .ref a_x1_skips, .ref a_x1_skills, .ref a_x1_places, .ref a_x1_wheel, .int x1_tradesEnded])), (a_x1_needs, .inl (cI, 6, .inl x1_needs)), (a_x1_yields, .inl (cI, 6, .inl x1_yields)), (a_x1_skips, .inl (cI, 6, .inl x1_skips)), (a_x2, .inr (2, [.int x2_fade, .int x2_winter, .int x2_fall]))] H := hP
    have hD : va_D A [(a_o, .inr (3, [.int (o_round + (1 : Int32)), .int o_fell, .int (0 : Int32), .ref a_o_skills, .ref a_o_places, .ref a_o_stores, .ref a_o_lacked, .ref a_o_helpers, .ref a_o_favours, .ref a_o_wheel, .ref a_o_works])), (a_o_skills, .inl (cI, 36, .inl o_skills_7)), (a_o_places, .inl (cI, 6, .inl o_places_8)), (a_o_stores, .inl (cI, 6, .inl o_stores_4)), (a_o_lacked, .inl (cI, 6, .inl o_lacked_5)), (a_o_helpers, .inl (cI, 6, .inl o_helpers_9)), (a_o_favours, .inl (cI, 36, .inl o_favours_10)), (a_o_wheel, .inl (cI, 6, .inl o_wheel)), (a_o_works, .inl (cI, 6, .inl o_works_1)), (a_x1, .inr (1, [.int x1_trades, .int x1_people, .ref a_x1_needs, .ref a_x1_yields, .ref a_x1_skips, .ref a_x1_skills, .ref a_x1_places, .ref a_x1_wheel, .int x1_tradesEnded])), (a_x1_needs, .inl (cI, 6, .inl x1_needs)), (a_x1_yields, .inl (cI, 6, .inl x1_yields)), (a_x1_skips, .inl (cI, 6, .inl x1_skips)), (a_x2, .inr (2, [.int x2_fade, .int x2_winter, .int x2_fall]))] := hD
    refine lv_iload_n hx hb dX3_goRound_71 rfl (lv_at hl 0 rfl) ?_
    have q0 := Option.some.inj hf
    obtain ⟨e0, q1⟩ := Prod.mk.inj q0
    obtain ⟨e1, q2⟩ := Prod.mk.inj q1
    obtain ⟨e2, q3⟩ := Prod.mk.inj q2
    obtain ⟨e3, q4⟩ := Prod.mk.inj q3
    obtain ⟨e4, q5⟩ := Prod.mk.inj q4
    obtain ⟨e5, q6⟩ := Prod.mk.inj q5
    obtain ⟨e6, q7⟩ := Prod.mk.inj q6
    obtain ⟨e7, q8⟩ := Prod.mk.inj q7
    obtain ⟨e8, q9⟩ := Prod.mk.inj q8
    obtain ⟨e9, q10⟩ := Prod.mk.inj q9
    subst e0
    subst e1
    subst e2
    subst e3
    subst e4
    subst e5
    subst e6
    subst e7
    subst e8
    subst e9
    subst q10
    exact gRi hx hb hr hlocks hP hS dX3_goRound_72
  · have hf := pif hf c_6
    refine lv_aload_n hx hb dX3_goRound_28 rfl (lv_at hl 1 rfl) ?_
    refine lv_dup hx hb dX3_goRound_29 rfl ?_
    refine va_get (D := (dC, dI)) (ci := 3) (v := .int o_fell) (C := RX3) (T := TX3) (N := 11) hx hb hts uX3_goRound_X3 hown hK hP 0 rfl rfl 1 (by decide) (hts _ mX3_goRound_5) (fun _ h9 => h9) rfl dX3_goRound_30 ?_
    refine lv_iconst (v := (1 : Int32)) hx hb dX3_goRound_33 (by decide) ?_
    refine lv_iadd hx hb dX3_goRound_34 ?_
    refine va_put (D := (dC, dI)) (ci := 3) (v := .int (o_fell + (1 : Int32))) (ty := .int) (C := RX3) (T := TX3) (N := 11) hx hb hts uX3_goRound_X3 tyX3 tyX3_ok nmX3 hown hK hP hD hS 0 rfl rfl 1 (by decide) (hts _ mX3_goRound_5) (fun _ h9 => h9) rfl (by decide +kernel) rfl rfl (Nat.le_of_ble_eq_true rfl) dX3_goRound_35 (fun H locs hP hD hS => ?_)
    have hP : va_P (dC, dI) vwCl [(a_o, .inr (3, [.int o_round, .int (o_fell + (1 : Int32)), .int o_ills, .ref a_o_skills, .ref a_o_places, .ref a_o_stores, .ref a_o_lacked, .ref a_o_helpers, .ref a_o_favours, .ref a_o_wheel, .ref a_o_works])), (a_o_skills, .inl (cI, 36, .inl o_skills)), (a_o_places, .inl (cI, 6, .inl o_places)), (a_o_stores, .inl (cI, 6, .inl o_stores_4)), (a_o_lacked, .inl (cI, 6, .inl o_lacked_5)), (a_o_helpers, .inl (cI, 6, .inl o_helpers)), (a_o_favours, .inl (cI, 36, .inl o_favours)), (a_o_wheel, .inl (cI, 6, .inl o_wheel)), (a_o_works, .inl (cI, 6, .inl o_works_1)), (a_x1, .inr (1, [.int x1_trades, .int x1_people, .ref a_x1_needs, .ref a_x1_yields, .ref a_x1_skips, .ref a_x1_skills, .ref a_x1_places, .ref a_x1_wheel, .int x1_tradesEnded])), (a_x1_needs, .inl (cI, 6, .inl x1_needs)), (a_x1_yields, .inl (cI, 6, .inl x1_yields)), (a_x1_skips, .inl (cI, 6, .inl x1_skips)), (a_x2, .inr (2, [.int x2_fade, .int x2_winter, .int x2_fall]))] H := hP
    have hD : va_D A [(a_o, .inr (3, [.int o_round, .int (o_fell + (1 : Int32)), .int o_ills, .ref a_o_skills, .ref a_o_places, .ref a_o_stores, .ref a_o_lacked, .ref a_o_helpers, .ref a_o_favours, .ref a_o_wheel, .ref a_o_works])), (a_o_skills, .inl (cI, 36, .inl o_skills)), (a_o_places, .inl (cI, 6, .inl o_places)), (a_o_stores, .inl (cI, 6, .inl o_stores_4)), (a_o_lacked, .inl (cI, 6, .inl o_lacked_5)), (a_o_helpers, .inl (cI, 6, .inl o_helpers)), (a_o_favours, .inl (cI, 36, .inl o_favours)), (a_o_wheel, .inl (cI, 6, .inl o_wheel)), (a_o_works, .inl (cI, 6, .inl o_works_1)), (a_x1, .inr (1, [.int x1_trades, .int x1_people, .ref a_x1_needs, .ref a_x1_yields, .ref a_x1_skips, .ref a_x1_skills, .ref a_x1_places, .ref a_x1_wheel, .int x1_tradesEnded])), (a_x1_needs, .inl (cI, 6, .inl x1_needs)), (a_x1_yields, .inl (cI, 6, .inl x1_yields)), (a_x1_skips, .inl (cI, 6, .inl x1_skips)), (a_x2, .inr (2, [.int x2_fade, .int x2_winter, .int x2_fall]))] := hD
    refine lv_aload_n hx hb dX3_goRound_38 rfl (lv_at hl 1 rfl) ?_
    refine lv_aload_n hx hb dX3_goRound_39 rfl (lv_at hl 2 rfl) ?_
    refine lv_aload_n hx hb dX3_goRound_40 rfl (lv_at hl 3 rfl) ?_
    refine va_get (D := (dC, dI)) (ci := 2) (v := .int x2_fade) (C := RX2) (T := TX2) (N := 3) hx hb hts uX3_goRound_X2 hown hK hP 13 rfl rfl 0 (by decide) (hts _ mX3_goRound_2) (fun _ h9 => h9) rfl dX3_goRound_41 ?_
    obtain ⟨o_skills_11, hc, hf⟩ := pb1 hf
    refine gCv (va_runV (As := [.ref a_x1, .int x2_fade]) (rest := []) hF (kX3_changeSkills l dC dI Z cC cI cZ cW a_o a_o_skills a_o_places a_o_stores a_o_lacked a_o_helpers a_o_favours a_o_wheel a_o_works a_x1 a_x1_needs a_x1_yields a_x1_skips a_x1_skills a_x1_places a_x1_wheel _ o_round (o_fell + (1 : Int32)) o_ills o_skills o_wheel o_works_1 x1_trades x1_people x1_tradesEnded x2_fade N o_skills_11 hc) (cwV 2 hts gX3_goRound_X3_changeSkills rfl rfl rfl (by decide +kernel) ⟨Nat.le_of_ble_eq_true rfl, Nat.le_of_ble_eq_true rfl⟩) (gPV (wc := [(a_o, .inr (3, [.int o_round, .int (o_fell + (1 : Int32)), .int o_ills, .ref a_o_skills, .ref a_o_places, .ref a_o_stores, .ref a_o_lacked, .ref a_o_helpers, .ref a_o_favours, .ref a_o_wheel, .ref a_o_works])), (a_o_skills, .inl (cI, 36, .inl o_skills)), (a_o_wheel, .inl (cI, 6, .inl o_wheel)), (a_o_works, .inl (cI, 6, .inl o_works_1)), (a_x1, .inr (1, [.int x1_trades, .int x1_people, .ref a_x1_needs, .ref a_x1_yields, .ref a_x1_skips, .ref a_x1_skills, .ref a_x1_places, .ref a_x1_wheel, .int x1_tradesEnded]))]) hK hN hA hS hP hD [0, 1, 7, 8, 9] rfl rfl (q0 := 0) (ci := 3) rfl rfl rfl) rfl rfl hl.1 rfl (lv_room (Nat.le_of_ble_eq_true rfl)) dX3_goRound_44 ⟨Nat.zero_le _, Nat.zero_le _⟩) hP hD hS hA [0, 1, 7, 8, 9] rfl rfl rfl (fun H locs hP hD hS => ?_)
    have hP : va_P (dC, dI) vwCl [(a_o, .inr (3, [.int o_round, .int (o_fell + (1 : Int32)), .int o_ills, .ref a_o_skills, .ref a_o_places, .ref a_o_stores, .ref a_o_lacked, .ref a_o_helpers, .ref a_o_favours, .ref a_o_wheel, .ref a_o_works])), (a_o_skills, .inl (cI, 36, .inl o_skills_11)), (a_o_places, .inl (cI, 6, .inl o_places)), (a_o_stores, .inl (cI, 6, .inl o_stores_4)), (a_o_lacked, .inl (cI, 6, .inl o_lacked_5)), (a_o_helpers, .inl (cI, 6, .inl o_helpers)), (a_o_favours, .inl (cI, 36, .inl o_favours)), (a_o_wheel, .inl (cI, 6, .inl o_wheel)), (a_o_works, .inl (cI, 6, .inl o_works_1)), (a_x1, .inr (1, [.int x1_trades, .int x1_people, .ref a_x1_needs, .ref a_x1_yields, .ref a_x1_skips, .ref a_x1_skills, .ref a_x1_places, .ref a_x1_wheel, .int x1_tradesEnded])), (a_x1_needs, .inl (cI, 6, .inl x1_needs)), (a_x1_yields, .inl (cI, 6, .inl x1_yields)), (a_x1_skips, .inl (cI, 6, .inl x1_skips)), (a_x2, .inr (2, [.int x2_fade, .int x2_winter, .int x2_fall]))] H := hP
    have hD : va_D A [(a_o, .inr (3, [.int o_round, .int (o_fell + (1 : Int32)), .int o_ills, .ref a_o_skills, .ref a_o_places, .ref a_o_stores, .ref a_o_lacked, .ref a_o_helpers, .ref a_o_favours, .ref a_o_wheel, .ref a_o_works])), (a_o_skills, .inl (cI, 36, .inl o_skills_11)), (a_o_places, .inl (cI, 6, .inl o_places)), (a_o_stores, .inl (cI, 6, .inl o_stores_4)), (a_o_lacked, .inl (cI, 6, .inl o_lacked_5)), (a_o_helpers, .inl (cI, 6, .inl o_helpers)), (a_o_favours, .inl (cI, 36, .inl o_favours)), (a_o_wheel, .inl (cI, 6, .inl o_wheel)), (a_o_works, .inl (cI, 6, .inl o_works_1)), (a_x1, .inr (1, [.int x1_trades, .int x1_people, .ref a_x1_needs, .ref a_x1_yields, .ref a_x1_skips, .ref a_x1_skills, .ref a_x1_places, .ref a_x1_wheel, .int x1_tradesEnded])), (a_x1_needs, .inl (cI, 6, .inl x1_needs)), (a_x1_yields, .inl (cI, 6, .inl x1_yields)), (a_x1_skips, .inl (cI, 6, .inl x1_skips)), (a_x2, .inr (2, [.int x2_fade, .int x2_winter, .int x2_fall]))] := hD
    refine lv_aload_n hx hb dX3_goRound_47 rfl (lv_at hl 1 rfl) ?_
    refine lv_aload_n hx hb dX3_goRound_48 rfl (lv_at hl 2 rfl) ?_
    obtain ⟨o_places_12, hc, hf⟩ := pb1 hf
    refine gCv (va_runV (As := [.ref a_x1]) (rest := []) hF (kX3_moveOn l dC dI Z cC cI cZ cW a_o a_o_skills a_o_places a_o_stores a_o_lacked a_o_helpers a_o_favours a_o_wheel a_o_works a_x1 a_x1_needs a_x1_yields a_x1_skips a_x1_skills a_x1_places a_x1_wheel _ o_round (o_fell + (1 : Int32)) o_ills o_places o_works_1 x1_trades x1_people x1_tradesEnded  N o_places_12 hc) (cwV 1 hts gX3_goRound_X3_moveOn rfl rfl rfl (by decide +kernel) ⟨Nat.le_of_ble_eq_true rfl, Nat.le_of_ble_eq_true rfl⟩) (gPV (wc := [(a_o, .inr (3, [.int o_round, .int (o_fell + (1 : Int32)), .int o_ills, .ref a_o_skills, .ref a_o_places, .ref a_o_stores, .ref a_o_lacked, .ref a_o_helpers, .ref a_o_favours, .ref a_o_wheel, .ref a_o_works])), (a_o_places, .inl (cI, 6, .inl o_places)), (a_o_works, .inl (cI, 6, .inl o_works_1)), (a_x1, .inr (1, [.int x1_trades, .int x1_people, .ref a_x1_needs, .ref a_x1_yields, .ref a_x1_skips, .ref a_x1_skills, .ref a_x1_places, .ref a_x1_wheel, .int x1_tradesEnded]))]) hK hN hA hS hP hD [0, 2, 8, 9] rfl rfl (q0 := 0) (ci := 3) rfl rfl rfl) rfl rfl hl.1 rfl (lv_room (Nat.le_of_ble_eq_true rfl)) dX3_goRound_49 ⟨Nat.zero_le _, Nat.zero_le _⟩) hP hD hS hA [0, 2, 8, 9] rfl rfl rfl (fun H locs hP hD hS => ?_)
    have hP : va_P (dC, dI) vwCl [(a_o, .inr (3, [.int o_round, .int (o_fell + (1 : Int32)), .int o_ills, .ref a_o_skills, .ref a_o_places, .ref a_o_stores, .ref a_o_lacked, .ref a_o_helpers, .ref a_o_favours, .ref a_o_wheel, .ref a_o_works])), (a_o_skills, .inl (cI, 36, .inl o_skills_11)), (a_o_places, .inl (cI, 6, .inl o_places_12)), (a_o_stores, .inl (cI, 6, .inl o_stores_4)), (a_o_lacked, .inl (cI, 6, .inl o_lacked_5)), (a_o_helpers, .inl (cI, 6, .inl o_helpers)), (a_o_favours, .inl (cI, 36, .inl o_favours)), (a_o_wheel, .inl (cI, 6, .inl o_wheel)), (a_o_works, .inl (cI, 6, .inl o_works_1)), (a_x1, .inr (1, [.int x1_trades, .int x1_people, .ref a_x1_needs, .ref a_x1_yields, .ref a_x1_skips, .ref a_x1_skills, .ref a_x1_places, .ref a_x1_wheel, .int x1_tradesEnded])), (a_x1_needs, .inl (cI, 6, .inl x1_needs)), (a_x1_yields, .inl (cI, 6, .inl x1_yields)), (a_x1_skips, .inl (cI, 6, .inl x1_skips)), (a_x2, .inr (2, [.int x2_fade, .int x2_winter, .int x2_fall]))] H := hP
    have hD : va_D A [(a_o, .inr (3, [.int o_round, .int (o_fell + (1 : Int32)), .int o_ills, .ref a_o_skills, .ref a_o_places, .ref a_o_stores, .ref a_o_lacked, .ref a_o_helpers, .ref a_o_favours, .ref a_o_wheel, .ref a_o_works])), (a_o_skills, .inl (cI, 36, .inl o_skills_11)), (a_o_places, .inl (cI, 6, .inl o_places_12)), (a_o_stores, .inl (cI, 6, .inl o_stores_4)), (a_o_lacked, .inl (cI, 6, .inl o_lacked_5)), (a_o_helpers, .inl (cI, 6, .inl o_helpers)), (a_o_favours, .inl (cI, 36, .inl o_favours)), (a_o_wheel, .inl (cI, 6, .inl o_wheel)), (a_o_works, .inl (cI, 6, .inl o_works_1)), (a_x1, .inr (1, [.int x1_trades, .int x1_people, .ref a_x1_needs, .ref a_x1_yields, .ref a_x1_skips, .ref a_x1_skills, .ref a_x1_places, .ref a_x1_wheel, .int x1_tradesEnded])), (a_x1_needs, .inl (cI, 6, .inl x1_needs)), (a_x1_yields, .inl (cI, 6, .inl x1_yields)), (a_x1_skips, .inl (cI, 6, .inl x1_skips)), (a_x2, .inr (2, [.int x2_fade, .int x2_winter, .int x2_fall]))] := hD
    refine lv_aload_n hx hb dX3_goRound_52 rfl (lv_at hl 1 rfl) ?_
    obtain ⟨o_helpers_13, o_favours_14, hc, hf⟩ := pb2 hf
    refine gCv (va_runV (As := []) (rest := []) hF (kX3_endHelps l dC dI Z cC cI cZ cW a_o a_o_skills a_o_places a_o_stores a_o_lacked a_o_helpers a_o_favours a_o_wheel a_o_works _ o_round (o_fell + (1 : Int32)) o_ills o_helpers o_favours  N o_helpers_13 o_favours_14 hc) (cwV 0 hts gX3_goRound_X3_endHelps rfl rfl rfl (by decide +kernel) ⟨Nat.le_of_ble_eq_true rfl, Nat.le_of_ble_eq_true rfl⟩) (gPV (wc := [(a_o, .inr (3, [.int o_round, .int (o_fell + (1 : Int32)), .int o_ills, .ref a_o_skills, .ref a_o_places, .ref a_o_stores, .ref a_o_lacked, .ref a_o_helpers, .ref a_o_favours, .ref a_o_wheel, .ref a_o_works])), (a_o_helpers, .inl (cI, 6, .inl o_helpers)), (a_o_favours, .inl (cI, 36, .inl o_favours))]) hK hN hA hS hP hD [0, 5, 6] rfl rfl (q0 := 0) (ci := 3) rfl rfl rfl) rfl rfl hl.1 rfl (lv_room (Nat.le_of_ble_eq_true rfl)) dX3_goRound_53 ⟨Nat.zero_le _, Nat.zero_le _⟩) hP hD hS hA [0, 5, 6] rfl rfl rfl (fun H locs hP hD hS => ?_)
    have hP : va_P (dC, dI) vwCl [(a_o, .inr (3, [.int o_round, .int (o_fell + (1 : Int32)), .int o_ills, .ref a_o_skills, .ref a_o_places, .ref a_o_stores, .ref a_o_lacked, .ref a_o_helpers, .ref a_o_favours, .ref a_o_wheel, .ref a_o_works])), (a_o_skills, .inl (cI, 36, .inl o_skills_11)), (a_o_places, .inl (cI, 6, .inl o_places_12)), (a_o_stores, .inl (cI, 6, .inl o_stores_4)), (a_o_lacked, .inl (cI, 6, .inl o_lacked_5)), (a_o_helpers, .inl (cI, 6, .inl o_helpers_13)), (a_o_favours, .inl (cI, 36, .inl o_favours_14)), (a_o_wheel, .inl (cI, 6, .inl o_wheel)), (a_o_works, .inl (cI, 6, .inl o_works_1)), (a_x1, .inr (1, [.int x1_trades, .int x1_people, .ref a_x1_needs, .ref a_x1_yields, .ref a_x1_skips, .ref a_x1_skills, .ref a_x1_places, .ref a_x1_wheel, .int x1_tradesEnded])), (a_x1_needs, .inl (cI, 6, .inl x1_needs)), (a_x1_yields, .inl (cI, 6, .inl x1_yields)), (a_x1_skips, .inl (cI, 6, .inl x1_skips)), (a_x2, .inr (2, [.int x2_fade, .int x2_winter, .int x2_fall]))] H := hP
    have hD : va_D A [(a_o, .inr (3, [.int o_round, .int (o_fell + (1 : Int32)), .int o_ills, .ref a_o_skills, .ref a_o_places, .ref a_o_stores, .ref a_o_lacked, .ref a_o_helpers, .ref a_o_favours, .ref a_o_wheel, .ref a_o_works])), (a_o_skills, .inl (cI, 36, .inl o_skills_11)), (a_o_places, .inl (cI, 6, .inl o_places_12)), (a_o_stores, .inl (cI, 6, .inl o_stores_4)), (a_o_lacked, .inl (cI, 6, .inl o_lacked_5)), (a_o_helpers, .inl (cI, 6, .inl o_helpers_13)), (a_o_favours, .inl (cI, 36, .inl o_favours_14)), (a_o_wheel, .inl (cI, 6, .inl o_wheel)), (a_o_works, .inl (cI, 6, .inl o_works_1)), (a_x1, .inr (1, [.int x1_trades, .int x1_people, .ref a_x1_needs, .ref a_x1_yields, .ref a_x1_skips, .ref a_x1_skills, .ref a_x1_places, .ref a_x1_wheel, .int x1_tradesEnded])), (a_x1_needs, .inl (cI, 6, .inl x1_needs)), (a_x1_yields, .inl (cI, 6, .inl x1_yields)), (a_x1_skips, .inl (cI, 6, .inl x1_skips)), (a_x2, .inr (2, [.int x2_fade, .int x2_winter, .int x2_fall]))] := hD
    refine lv_aload_n hx hb dX3_goRound_56 rfl (lv_at hl 1 rfl) ?_
    refine lv_iconst (v := (0 : Int32)) hx hb dX3_goRound_57 (by decide) ?_
    refine va_put (D := (dC, dI)) (ci := 3) (v := .int (0 : Int32)) (ty := .int) (C := RX3) (T := TX3) (N := 11) hx hb hts uX3_goRound_X3 tyX3 tyX3_ok nmX3 hown hK hP hD hS 0 rfl rfl 2 (by decide) (hts _ mX3_goRound_3) (fun _ h9 => h9) rfl (by decide +kernel) rfl rfl (Nat.le_of_ble_eq_true rfl) dX3_goRound_58 (fun H locs hP hD hS => ?_)
    have hP : va_P (dC, dI) vwCl [(a_o, .inr (3, [.int o_round, .int (o_fell + (1 : Int32)), .int (0 : Int32), .ref a_o_skills, .ref a_o_places, .ref a_o_stores, .ref a_o_lacked, .ref a_o_helpers, .ref a_o_favours, .ref a_o_wheel, .ref a_o_works])), (a_o_skills, .inl (cI, 36, .inl o_skills_11)), (a_o_places, .inl (cI, 6, .inl o_places_12)), (a_o_stores, .inl (cI, 6, .inl o_stores_4)), (a_o_lacked, .inl (cI, 6, .inl o_lacked_5)), (a_o_helpers, .inl (cI, 6, .inl o_helpers_13)), (a_o_favours, .inl (cI, 36, .inl o_favours_14)), (a_o_wheel, .inl (cI, 6, .inl o_wheel)), (a_o_works, .inl (cI, 6, .inl o_works_1)), (a_x1, .inr (1, [.int x1_trades, .int x1_people, .ref a_x1_needs, .ref a_x1_yields, .ref a_x1_skips, .ref a_x1_skills, .ref a_x1_places, .ref a_x1_wheel, .int x1_tradesEnded])), (a_x1_needs, .inl (cI, 6, .inl x1_needs)), (a_x1_yields, .inl (cI, 6, .inl x1_yields)), (a_x1_skips, .inl (cI, 6, .inl x1_skips)), (a_x2, .inr (2, [.int x2_fade, .int x2_winter, .int x2_fall]))] H := hP
    have hD : va_D A [(a_o, .inr (3, [.int o_round, .int (o_fell + (1 : Int32)), .int (0 : Int32), .ref a_o_skills, .ref a_o_places, .ref a_o_stores, .ref a_o_lacked, .ref a_o_helpers, .ref a_o_favours, .ref a_o_wheel, .ref a_o_works])), (a_o_skills, .inl (cI, 36, .inl o_skills_11)), (a_o_places, .inl (cI, 6, .inl o_places_12)), (a_o_stores, .inl (cI, 6, .inl o_stores_4)), (a_o_lacked, .inl (cI, 6, .inl o_lacked_5)), (a_o_helpers, .inl (cI, 6, .inl o_helpers_13)), (a_o_favours, .inl (cI, 36, .inl o_favours_14)), (a_o_wheel, .inl (cI, 6, .inl o_wheel)), (a_o_works, .inl (cI, 6, .inl o_works_1)), (a_x1, .inr (1, [.int x1_trades, .int x1_people, .ref a_x1_needs, .ref a_x1_yields, .ref a_x1_skips, .ref a_x1_skills, .ref a_x1_places, .ref a_x1_wheel, .int x1_tradesEnded])), (a_x1_needs, .inl (cI, 6, .inl x1_needs)), (a_x1_yields, .inl (cI, 6, .inl x1_yields)), (a_x1_skips, .inl (cI, 6, .inl x1_skips)), (a_x2, .inr (2, [.int x2_fade, .int x2_winter, .int x2_fall]))] := hD
    refine lv_aload_n hx hb dX3_goRound_61 rfl (lv_at hl 1 rfl) ?_
    refine lv_dup hx hb dX3_goRound_62 rfl ?_
    refine va_get (D := (dC, dI)) (ci := 3) (v := .int o_round) (C := RX3) (T := TX3) (N := 11) hx hb hts uX3_goRound_X3 hown hK hP 0 rfl rfl 0 (by decide) (hts _ mX3_goRound_4) (fun _ h9 => h9) rfl dX3_goRound_63 ?_
    refine lv_iconst (v := (1 : Int32)) hx hb dX3_goRound_66 (by decide) ?_
    refine lv_iadd hx hb dX3_goRound_67 ?_
    refine va_put (D := (dC, dI)) (ci := 3) (v := .int (o_round + (1 : Int32))) (ty := .int) (C := RX3) (T := TX3) (N := 11) hx hb hts uX3_goRound_X3 tyX3 tyX3_ok nmX3 hown hK hP hD hS 0 rfl rfl 0 (by decide) (hts _ mX3_goRound_4) (fun _ h9 => h9) rfl (by decide +kernel) rfl rfl (Nat.le_of_ble_eq_true rfl) dX3_goRound_68 (fun H locs hP hD hS => ?_)
    have hP : va_P (dC, dI) vwCl [(a_o, .inr (3, [.int (o_round + (1 : Int32)), .int (o_fell + (1 : Int32)), .int (0 : Int32), .ref a_o_skills, .ref a_o_places, .ref a_o_stores, .ref a_o_lacked, .ref a_o_helpers, .ref a_o_favours, .ref a_o_wheel, .ref a_o_works])), (a_o_skills, .inl (cI, 36, .inl o_skills_11)), (a_o_places, .inl (cI, 6, .inl o_places_12)), (a_o_stores, .inl (cI, 6, .inl o_stores_4)), (a_o_lacked, .inl (cI, 6, .inl o_lacked_5)), (a_o_helpers, .inl (cI, 6, .inl o_helpers_13)), (a_o_favours, .inl (cI, 36, .inl o_favours_14)), (a_o_wheel, .inl (cI, 6, .inl o_wheel)), (a_o_works, .inl (cI, 6, .inl o_works_1)), (a_x1, .inr (1, [.int x1_trades, .int x1_people, .ref a_x1_needs, .ref a_x1_yields, .ref a_x1_skips, .ref a_x1_skills, .ref a_x1_places, .ref a_x1_wheel, .int x1_tradesEnded])), (a_x1_needs, .inl (cI, 6, .inl x1_needs)), (a_x1_yields, .inl (cI, 6, .inl x1_yields)), (a_x1_skips, .inl (cI, 6, .inl x1_skips)), (a_x2, .inr (2, [.int x2_fade, .int x2_winter, .int x2_fall]))] H := hP
    have hD : va_D A [(a_o, .inr (3, [.int (o_round + (1 : Int32)), .int (o_fell + (1 : Int32)), .int (0 : Int32), .ref a_o_skills, .ref a_o_places, .ref a_o_stores, .ref a_o_lacked, .ref a_o_helpers, .ref a_o_favours, .ref a_o_wheel, .ref a_o_works])), (a_o_skills, .inl (cI, 36, .inl o_skills_11)), (a_o_places, .inl (cI, 6, .inl o_places_12)), (a_o_stores, .inl (cI, 6, .inl o_stores_4)), (a_o_lacked, .inl (cI, 6, .inl o_lacked_5)), (a_o_helpers, .inl (cI, 6, .inl o_helpers_13)), (a_o_favours, .inl (cI, 36, .inl o_favours_14)), (a_o_wheel, .inl (cI, 6, .inl o_wheel)), (a_o_works, .inl (cI, 6, .inl o_works_1)), (a_x1, .inr (1, [.int x1_trades, .int x1_people, .ref a_x1_needs, .ref a_x1_yields, .ref a_x1_skips, .ref a_x1_skills, .ref a_x1_places, .ref a_x1_wheel, .int x1_tradesEnded])), (a_x1_needs, .inl (cI, 6, .inl x1_needs)), (a_x1_yields, .inl (cI, 6, .inl x1_yields)), (a_x1_skips, .inl (cI, 6, .inl x1_skips)), (a_x2, .inr (2, [.int x2_fade, .int x2_winter, .int x2_fall]))] := hD
    refine lv_iload_n hx hb dX3_goRound_71 rfl (lv_at hl 0 rfl) ?_
    have q0 := Option.some.inj hf
    obtain ⟨e0, q1⟩ := Prod.mk.inj q0
    obtain ⟨e1, q2⟩ := Prod.mk.inj q1
    obtain ⟨e2, q3⟩ := Prod.mk.inj q2
    obtain ⟨e3, q4⟩ := Prod.mk.inj q3
    obtain ⟨e4, q5⟩ := Prod.mk.inj q4
    obtain ⟨e5, q6⟩ := Prod.mk.inj q5
    obtain ⟨e6, q7⟩ := Prod.mk.inj q6
    obtain ⟨e7, q8⟩ := Prod.mk.inj q7
    obtain ⟨e8, q9⟩ := Prod.mk.inj q8
    obtain ⟨e9, q10⟩ := Prod.mk.inj q9
    subst e0
    subst e1
    subst e2
    subst e3
    subst e4
    subst e5
    subst e6
    subst e7
    subst e8
    subst e9
    subst q10
    exact gRi hx hb hr hlocks hP hS dX3_goRound_72
abbrev rmX3_goRounds : Room := { frames := 4, cells := 0, slots := 0, locals := 94 }
set_option maxRecDepth 20000 in
theorem uX3_goRounds_X3 : ∀ w ∈ wsX30, w ∈ wsX3_goRounds := by decide +kernel
set_option maxRecDepth 20000 in
theorem mX3_goRounds_0 : (Cond.fieldLink RX3 9 "TradeWheel$World" "round" "I" : Cond) ∈ wsX3_goRounds := by decide +kernel
set_option maxRecDepth 20000 in
theorem mX3_goRounds_1 : (Cond.methodLink RX3 71 Lib.Math.min.name : Cond) ∈ wsX3_goRounds := by decide +kernel
set_option maxRecDepth 20000 in
theorem mX3_goRounds_2 : (Cond.static Lib.Math.min.name : Cond) ∈ wsX3_goRounds := by decide +kernel
set_option maxRecDepth 20000 in
theorem mX3_goRounds_3 : (Cond.initialized "java/lang/Math" : Cond) ∈ wsX3_goRounds := by decide +kernel
set_option maxRecDepth 20000 in
theorem mX3_goRounds_4 : (Cond.code Lib.Math.min.name Lib.Math.min.code 2 (some .int) : Cond) ∈ wsX3_goRounds := by decide +kernel
set_option maxHeartbeats 4000000 in
set_option maxRecDepth 100000 in
theorem wX3_goRounds_19 {p : Program} {l : Launch} {e : Env} {s : State} {m : MethodId} {args : Array Value} {below : List Frame} {meth : Method} {c : Code} {Q : State → Prop} {A : Nat → Prop} {dC : Nat → ClassId} {dI : Nat → Nat → Nat} {Z : gZ} {cC cI cZ cW : ClassId} (hg0 : gX p s m args meth c cX3_goRounds 8 (some .int) wsX3_goRounds RX3 (dC, dI) Z [(cC, .char), (cI, .int), (cZ, .boolean), (cW, .object RX3)] A) (a_o a_o_skills a_o_places a_o_stores a_o_lacked a_o_helpers a_o_favours a_o_wheel a_o_works a_x3 a_x3_needs a_x3_yields a_x3_skips a_x3_skills a_x3_places a_x3_wheel a_x4 : Nat) (o_wheel : Nat → Int32) (x3_trades : Int32) (x3_people : Int32) (x3_tradesEnded : Int32) (x3_needs : Nat → Int32) (x3_yields : Nat → Int32) (x3_skips : Nat → Int32) (x4_fade : Int32) (x4_winter : Int32) (x4_fall : Int32) (l2 : Int32) (l5 : Int32) (N : Nat) : ∀ (n : Nat) (o_round : Int32) (o_fell : Int32) (o_ills : Int32) (o_skills : Nat → Int32) (o_places : Nat → Int32) (o_stores : Nat → Int32) (o_lacked : Nat → Int32) (o_helpers : Nat → Int32) (o_favours : Nat → Int32) (o_works : Nat → Int32) (l6 : Int32) (l7 : Int32) (o_round' : Int32) (o_fell' : Int32) (o_ills' : Int32) (o_skills' : Nat → Int32) (o_places' : Nat → Int32) (o_stores' : Nat → Int32) (o_lacked' : Nat → Int32) (o_helpers' : Nat → Int32) (o_favours' : Nat → Int32) (o_works' : Nat → Int32) (l6' : Int32) (l7' : Int32), fX3_goRounds_19 N o_wheel x3_trades x3_people x3_needs x3_yields x3_skips x4_fade x4_winter x4_fall l2 l5 n o_round o_fell o_ills o_skills o_places o_stores o_lacked o_helpers o_favours o_works l6 l7 = some (o_round', o_fell', o_ills', o_skills', o_places', o_stores', o_lacked', o_helpers', o_favours', o_works', l6', l7') → ∀ (H : Heap) (locs : List Loc) (ls : Array Slot), va_P (dC, dI) vwCl [(a_o, .inr (3, [.int o_round, .int o_fell, .int o_ills, .ref a_o_skills, .ref a_o_places, .ref a_o_stores, .ref a_o_lacked, .ref a_o_helpers, .ref a_o_favours, .ref a_o_wheel, .ref a_o_works])), (a_o_skills, .inl (cI, 36, .inl o_skills)), (a_o_places, .inl (cI, 6, .inl o_places)), (a_o_stores, .inl (cI, 6, .inl o_stores)), (a_o_lacked, .inl (cI, 6, .inl o_lacked)), (a_o_helpers, .inl (cI, 6, .inl o_helpers)), (a_o_favours, .inl (cI, 36, .inl o_favours)), (a_o_wheel, .inl (cI, 6, .inl o_wheel)), (a_o_works, .inl (cI, 6, .inl o_works)), (a_x3, .inr (1, [.int x3_trades, .int x3_people, .ref a_x3_needs, .ref a_x3_yields, .ref a_x3_skips, .ref a_x3_skills, .ref a_x3_places, .ref a_x3_wheel, .int x3_tradesEnded])), (a_x3_needs, .inl (cI, 6, .inl x3_needs)), (a_x3_yields, .inl (cI, 6, .inl x3_yields)), (a_x3_skips, .inl (cI, 6, .inl x3_skips)), (a_x4, .inr (2, [.int x4_fade, .int x4_winter, .int x4_fall]))] H → va_D A [(a_o, .inr (3, [.int o_round, .int o_fell, .int o_ills, .ref a_o_skills, .ref a_o_places, .ref a_o_stores, .ref a_o_lacked, .ref a_o_helpers, .ref a_o_favours, .ref a_o_wheel, .ref a_o_works])), (a_o_skills, .inl (cI, 36, .inl o_skills)), (a_o_places, .inl (cI, 6, .inl o_places)), (a_o_stores, .inl (cI, 6, .inl o_stores)), (a_o_lacked, .inl (cI, 6, .inl o_lacked)), (a_o_helpers, .inl (cI, 6, .inl o_helpers)), (a_o_favours, .inl (cI, 36, .inl o_favours)), (a_o_wheel, .inl (cI, 6, .inl o_wheel)), (a_o_works, .inl (cI, 6, .inl o_works)), (a_x3, .inr (1, [.int x3_trades, .int x3_people, .ref a_x3_needs, .ref a_x3_yields, .ref a_x3_skips, .ref a_x3_skills, .ref a_x3_places, .ref a_x3_wheel, .int x3_tradesEnded])), (a_x3_needs, .inl (cI, 6, .inl x3_needs)), (a_x3_yields, .inl (cI, 6, .inl x3_yields)), (a_x3_skips, .inl (cI, 6, .inl x3_skips)), (a_x4, .inr (2, [.int x4_fade, .int x4_winter, .int x4_fall]))] → va_S A s.heap H locs → lv_has ls 8 [(0, .ref a_o), (2, .int l2), (3, .ref a_x3), (4, .ref a_x4), (5, .int l5), (6, .int l6), (7, .int l7)] → (∀ (H : Heap) (locs : List Loc) (ls : Array Slot), va_P (dC, dI) vwCl [(a_o, .inr (3, [.int o_round', .int o_fell', .int o_ills', .ref a_o_skills, .ref a_o_places, .ref a_o_stores, .ref a_o_lacked, .ref a_o_helpers, .ref a_o_favours, .ref a_o_wheel, .ref a_o_works])), (a_o_skills, .inl (cI, 36, .inl o_skills')), (a_o_places, .inl (cI, 6, .inl o_places')), (a_o_stores, .inl (cI, 6, .inl o_stores')), (a_o_lacked, .inl (cI, 6, .inl o_lacked')), (a_o_helpers, .inl (cI, 6, .inl o_helpers')), (a_o_favours, .inl (cI, 36, .inl o_favours')), (a_o_wheel, .inl (cI, 6, .inl o_wheel)), (a_o_works, .inl (cI, 6, .inl o_works')), (a_x3, .inr (1, [.int x3_trades, .int x3_people, .ref a_x3_needs, .ref a_x3_yields, .ref a_x3_skips, .ref a_x3_skills, .ref a_x3_places, .ref a_x3_wheel, .int x3_tradesEnded])), (a_x3_needs, .inl (cI, 6, .inl x3_needs)), (a_x3_yields, .inl (cI, 6, .inl x3_yields)), (a_x3_skips, .inl (cI, 6, .inl x3_skips)), (a_x4, .inr (2, [.int x4_fade, .int x4_winter, .int x4_fall]))] H → va_D A [(a_o, .inr (3, [.int o_round', .int o_fell', .int o_ills', .ref a_o_skills, .ref a_o_places, .ref a_o_stores, .ref a_o_lacked, .ref a_o_helpers, .ref a_o_favours, .ref a_o_wheel, .ref a_o_works])), (a_o_skills, .inl (cI, 36, .inl o_skills')), (a_o_places, .inl (cI, 6, .inl o_places')), (a_o_stores, .inl (cI, 6, .inl o_stores')), (a_o_lacked, .inl (cI, 6, .inl o_lacked')), (a_o_helpers, .inl (cI, 6, .inl o_helpers')), (a_o_favours, .inl (cI, 36, .inl o_favours')), (a_o_wheel, .inl (cI, 6, .inl o_wheel)), (a_o_works, .inl (cI, 6, .inl o_works')), (a_x3, .inr (1, [.int x3_trades, .int x3_people, .ref a_x3_needs, .ref a_x3_yields, .ref a_x3_skips, .ref a_x3_skills, .ref a_x3_places, .ref a_x3_wheel, .int x3_tradesEnded])), (a_x3_needs, .inl (cI, 6, .inl x3_needs)), (a_x3_yields, .inl (cI, 6, .inl x3_yields)), (a_x3_skips, .inl (cI, 6, .inl x3_skips)), (a_x4, .inr (2, [.int x4_fade, .int x4_winter, .int x4_fall]))] → va_S A s.heap H locs → lv_has ls 8 [(6, .int l6')] → W p l e (headSpec wsX3_goRounds rmX3_goRounds).room s m args below meth c H locs 0 0 Q (F0 m 50 ls [])) → W p l e (headSpec wsX3_goRounds rmX3_goRounds).room s m args below meth c H locs 0 0 Q (F0 m 19 ls []) := by
  obtain ⟨hx, hb, hr, hml, hown, hts, hlocks, hA, hK, hN⟩ := id hg0
  have hF : CallFix p m c cX3_goRounds 8 s args wsX3_goRounds RX3 := ⟨hx, hb, hml, hown, hts⟩
  intro n
  induction n with
  | zero =>
    intro o_round o_fell o_ills o_skills o_places o_stores o_lacked o_helpers o_favours o_works l6 l7 o_round' o_fell' o_ills' o_skills' o_places' o_stores' o_lacked' o_helpers' o_favours' o_works' l6' l7' hf
    have hf := fX3_goRounds_19_0.symm.trans hf
    cases hf
  | succ n ih =>
    intro o_round o_fell o_ills o_skills o_places o_stores o_lacked o_helpers o_favours o_works l6 l7 o_round' o_fell' o_ills' o_skills' o_places' o_stores' o_lacked' o_helpers' o_favours' o_works' l6' l7' hf H locs ls hP hD hS hl kx
    have hf := fX3_goRounds_19_s.symm.trans hf
    refine lv_iload hx hb dX3_goRounds_19 (lv_at hl 6 rfl) ?_
    refine lv_iload hx hb dX3_goRounds_21 (lv_at hl 4 rfl) ?_
    refine lv_icmp_ge (tgt := 50) hx hb dX3_goRounds_23 (by decide) (fun c_1 => ?_) (fun c_1 => ?_)
    · have hf := pit hf c_1
      have q0 := Option.some.inj hf
      obtain ⟨e0, q1⟩ := Prod.mk.inj q0
      obtain ⟨e1, q2⟩ := Prod.mk.inj q1
      obtain ⟨e2, q3⟩ := Prod.mk.inj q2
      obtain ⟨e3, q4⟩ := Prod.mk.inj q3
      obtain ⟨e4, q5⟩ := Prod.mk.inj q4
      obtain ⟨e5, q6⟩ := Prod.mk.inj q5
      obtain ⟨e6, q7⟩ := Prod.mk.inj q6
      obtain ⟨e7, q8⟩ := Prod.mk.inj q7
      obtain ⟨e8, q9⟩ := Prod.mk.inj q8
      obtain ⟨e9, q10⟩ := Prod.mk.inj q9
      obtain ⟨e10, q11⟩ := Prod.mk.inj q10
      subst e0
      subst e1
      subst e2
      subst e3
      subst e4
      subst e5
      subst e6
      subst e7
      subst e8
      subst e9
      subst e10
      subst q11
      exact kx _ _ _ hP hD hS (lv_sub hl [5] rfl)
    · have hf := pif hf c_1
      refine lv_iload hx hb dX3_goRounds_26 (lv_at hl 5 rfl) ?_
      refine lv_iload_n hx hb dX3_goRounds_28 rfl (lv_at hl 1 rfl) ?_
      refine lv_icmp_ge (tgt := 50) hx hb dX3_goRounds_29 (by decide) (fun c_2 => ?_) (fun c_2 => ?_)
      · have hf := pit hf c_2
        have q0 := Option.some.inj hf
        obtain ⟨e0, q1⟩ := Prod.mk.inj q0
        obtain ⟨e1, q2⟩ := Prod.mk.inj q1
        obtain ⟨e2, q3⟩ := Prod.mk.inj q2
        obtain ⟨e3, q4⟩ := Prod.mk.inj q3
        obtain ⟨e4, q5⟩ := Prod.mk.inj q4
        obtain ⟨e5, q6⟩ := Prod.mk.inj q5
        obtain ⟨e6, q7⟩ := Prod.mk.inj q6
        obtain ⟨e7, q8⟩ := Prod.mk.inj q7
        obtain ⟨e8, q9⟩ := Prod.mk.inj q8
        obtain ⟨e9, q10⟩ := Prod.mk.inj q9
        obtain ⟨e10, q11⟩ := Prod.mk.inj q10
        subst e0
        subst e1
        subst e2
        subst e3
        subst e4
        subst e5
        subst e6
        subst e7
        subst e8
        subst e9
        subst e10
        subst q11
        exact kx _ _ _ hP hD hS (lv_sub hl [5] rfl)
      · have hf := pif hf c_2
        refine lv_iload hx hb dX3_goRounds_32 (lv_at hl 5 rfl) ?_
        refine lv_aload_n hx hb dX3_goRounds_34 rfl (lv_at hl 0 rfl) ?_
        refine lv_aload_n hx hb dX3_goRounds_35 rfl (lv_at hl 2 rfl) ?_
        refine lv_aload hx hb dX3_goRounds_36 (lv_at hl 3 rfl) ?_
        obtain ⟨r_3, o_round_4, o_fell_5, o_ills_6, o_skills_7, o_places_8, o_stores_9, o_lacked_10, o_helpers_11, o_favours_12, o_works_13, hc, hf⟩ := pb11 hf
        refine gCi (va_runV (As := [.ref a_x3, .ref a_x4]) (rest := [.int l6]) hF (kX3_goRound l dC dI Z cC cI cZ cW a_o a_o_skills a_o_places a_o_stores a_o_lacked a_o_helpers a_o_favours a_o_wheel a_o_works a_x3 a_x3_needs a_x3_yields a_x3_skips a_x3_skills a_x3_places a_x3_wheel a_x4 _ o_round o_fell o_ills o_skills o_places o_stores o_lacked o_helpers o_favours o_wheel o_works x3_trades x3_people x3_tradesEnded x3_needs x3_yields x3_skips x4_fade x4_winter x4_fall  N r_3 o_round_4 o_fell_5 o_ills_6 o_skills_7 o_places_8 o_stores_9 o_lacked_10 o_helpers_11 o_favours_12 o_works_13 hc) (cwV 2 hts gX3_goRounds_X3_goRound rfl rfl rfl (by decide +kernel) ⟨Nat.le_of_ble_eq_true rfl, Nat.le_of_ble_eq_true rfl⟩) (gPV (wc := [(a_o, .inr (3, [.int o_round, .int o_fell, .int o_ills, .ref a_o_skills, .ref a_o_places, .ref a_o_stores, .ref a_o_lacked, .ref a_o_helpers, .ref a_o_favours, .ref a_o_wheel, .ref a_o_works])), (a_o_skills, .inl (cI, 36, .inl o_skills)), (a_o_places, .inl (cI, 6, .inl o_places)), (a_o_stores, .inl (cI, 6, .inl o_stores)), (a_o_lacked, .inl (cI, 6, .inl o_lacked)), (a_o_helpers, .inl (cI, 6, .inl o_helpers)), (a_o_favours, .inl (cI, 36, .inl o_favours)), (a_o_wheel, .inl (cI, 6, .inl o_wheel)), (a_o_works, .inl (cI, 6, .inl o_works)), (a_x3, .inr (1, [.int x3_trades, .int x3_people, .ref a_x3_needs, .ref a_x3_yields, .ref a_x3_skips, .ref a_x3_skills, .ref a_x3_places, .ref a_x3_wheel, .int x3_tradesEnded])), (a_x3_needs, .inl (cI, 6, .inl x3_needs)), (a_x3_yields, .inl (cI, 6, .inl x3_yields)), (a_x3_skips, .inl (cI, 6, .inl x3_skips)), (a_x4, .inr (2, [.int x4_fade, .int x4_winter, .int x4_fall]))]) hK hN hA hS hP hD [0, 1, 2, 3, 4, 5, 6, 7, 8, 9, 10, 11, 12, 13] rfl rfl (q0 := 0) (ci := 3) rfl rfl rfl) rfl rfl hl.1 rfl (lv_room (Nat.le_of_ble_eq_true rfl)) dX3_goRounds_38 ⟨Nat.zero_le _, Nat.zero_le _⟩) hP hD hS hA [0, 1, 2, 3, 4, 5, 6, 7, 8, 9, 10, 11, 12, 13] rfl rfl rfl (fun H locs hP hD hS => ?_)
        have hP : va_P (dC, dI) vwCl [(a_o, .inr (3, [.int o_round_4, .int o_fell_5, .int o_ills_6, .ref a_o_skills, .ref a_o_places, .ref a_o_stores, .ref a_o_lacked, .ref a_o_helpers, .ref a_o_favours, .ref a_o_wheel, .ref a_o_works])), (a_o_skills, .inl (cI, 36, .inl o_skills_7)), (a_o_places, .inl (cI, 6, .inl o_places_8)), (a_o_stores, .inl (cI, 6, .inl o_stores_9)), (a_o_lacked, .inl (cI, 6, .inl o_lacked_10)), (a_o_helpers, .inl (cI, 6, .inl o_helpers_11)), (a_o_favours, .inl (cI, 36, .inl o_favours_12)), (a_o_wheel, .inl (cI, 6, .inl o_wheel)), (a_o_works, .inl (cI, 6, .inl o_works_13)), (a_x3, .inr (1, [.int x3_trades, .int x3_people, .ref a_x3_needs, .ref a_x3_yields, .ref a_x3_skips, .ref a_x3_skills, .ref a_x3_places, .ref a_x3_wheel, .int x3_tradesEnded])), (a_x3_needs, .inl (cI, 6, .inl x3_needs)), (a_x3_yields, .inl (cI, 6, .inl x3_yields)), (a_x3_skips, .inl (cI, 6, .inl x3_skips)), (a_x4, .inr (2, [.int x4_fade, .int x4_winter, .int x4_fall]))] H := hP
        have hD : va_D A [(a_o, .inr (3, [.int o_round_4, .int o_fell_5, .int o_ills_6, .ref a_o_skills, .ref a_o_places, .ref a_o_stores, .ref a_o_lacked, .ref a_o_helpers, .ref a_o_favours, .ref a_o_wheel, .ref a_o_works])), (a_o_skills, .inl (cI, 36, .inl o_skills_7)), (a_o_places, .inl (cI, 6, .inl o_places_8)), (a_o_stores, .inl (cI, 6, .inl o_stores_9)), (a_o_lacked, .inl (cI, 6, .inl o_lacked_10)), (a_o_helpers, .inl (cI, 6, .inl o_helpers_11)), (a_o_favours, .inl (cI, 36, .inl o_favours_12)), (a_o_wheel, .inl (cI, 6, .inl o_wheel)), (a_o_works, .inl (cI, 6, .inl o_works_13)), (a_x3, .inr (1, [.int x3_trades, .int x3_people, .ref a_x3_needs, .ref a_x3_yields, .ref a_x3_skips, .ref a_x3_skills, .ref a_x3_places, .ref a_x3_wheel, .int x3_tradesEnded])), (a_x3_needs, .inl (cI, 6, .inl x3_needs)), (a_x3_yields, .inl (cI, 6, .inl x3_yields)), (a_x3_skips, .inl (cI, 6, .inl x3_skips)), (a_x4, .inr (2, [.int x4_fade, .int x4_winter, .int x4_fall]))] := hD
        refine lv_iadd hx hb dX3_goRounds_41 ?_
        refine lv_istore (lv' := [(6, .int (l6 + r_3)), (0, .ref a_o), (2, .int l2), (3, .ref a_x3), (4, .ref a_x4), (5, .int l5), (7, .int l7)]) hx hb dX3_goRounds_42 hl (by decide) rfl (fun ls hl => ?_)
        refine lv_iinc (v := (l7 + 1)) (lv' := [(7, .int (l7 + 1)), (6, .int (l6 + r_3)), (0, .ref a_o), (2, .int l2), (3, .ref a_x3), (4, .ref a_x4), (5, .int l5)]) hx hb dX3_goRounds_44 hl (k := 6) rfl rfl (by decide) rfl (fun ls hl => ?_)
        refine lv_goto (tgt := 19) hx hb dX3_goRounds_47 (by decide) ?_
        exact ih _ _ _ _ _ _ _ _ _ _ _ _ _ _ _ _ _ _ _ _ _ _ _ _ hf _ _ _ hP hD hS (lv_sub hl [2, 3, 4, 5, 6, 1, 0] rfl) kx
set_option maxHeartbeats 4000000 in
set_option maxRecDepth 100000 in
theorem kX3_goRounds (l : Launch) (dC : Nat → ClassId) (dI : Nat → Nat → Nat) (Z : gZ) (cC cI cZ cW : ClassId) (a_o a_o_skills a_o_places a_o_stores a_o_lacked a_o_helpers a_o_favours a_o_wheel a_o_works a_x3 a_x3_needs a_x3_yields a_x3_skips a_x3_skills a_x3_places a_x3_wheel a_x4 : Nat) (sz : Nat) (o_round : Int32) (o_fell : Int32) (o_ills : Int32) (o_skills : Nat → Int32) (o_places : Nat → Int32) (o_stores : Nat → Int32) (o_lacked : Nat → Int32) (o_helpers : Nat → Int32) (o_favours : Nat → Int32) (o_wheel : Nat → Int32) (o_works : Nat → Int32) (x3_trades : Int32) (x3_people : Int32) (x3_tradesEnded : Int32) (x3_needs : Nat → Int32) (x3_yields : Nat → Int32) (x3_skips : Nat → Int32) (x4_fade : Int32) (x4_winter : Int32) (x4_fall : Int32) (i1 : Int32) (i2 : Int32) (N : Nat) (r' : Int32) (o_round' : Int32) (o_fell' : Int32) (o_ills' : Int32) (o_skills' : Nat → Int32) (o_places' : Nat → Int32) (o_stores' : Nat → Int32) (o_lacked' : Nat → Int32) (o_helpers' : Nat → Int32) (o_favours' : Nat → Int32) (o_works' : Nat → Int32) (hf : fX3_goRounds N o_round o_fell o_ills o_skills o_places o_stores o_lacked o_helpers o_favours o_wheel o_works x3_trades x3_people x3_needs x3_yields x3_skips x4_fade x4_winter x4_fall  i1 i2 = some (r', o_round', o_fell', o_ills', o_skills', o_places', o_stores', o_lacked', o_helpers', o_favours', o_works')) : Met l yX3_goRounds wsX3_goRounds rmX3_goRounds (va_Pc [.ref a_o, .int i1, .int i2, .ref a_x3, .ref a_x4] (gB (dC, dI) Z [(cC, .char), (cI, .int), (cZ, .boolean), (cW, .object RX3)] [(a_o, .inr (3, [.int o_round, .int o_fell, .int o_ills, .ref a_o_skills, .ref a_o_places, .ref a_o_stores, .ref a_o_lacked, .ref a_o_helpers, .ref a_o_favours, .ref a_o_wheel, .ref a_o_works])), (a_o_skills, .inl (cI, 36, .inl o_skills)), (a_o_places, .inl (cI, 6, .inl o_places)), (a_o_stores, .inl (cI, 6, .inl o_stores)), (a_o_lacked, .inl (cI, 6, .inl o_lacked)), (a_o_helpers, .inl (cI, 6, .inl o_helpers)), (a_o_favours, .inl (cI, 36, .inl o_favours)), (a_o_wheel, .inl (cI, 6, .inl o_wheel)), (a_o_works, .inl (cI, 6, .inl o_works)), (a_x3, .inr (1, [.int x3_trades, .int x3_people, .ref a_x3_needs, .ref a_x3_yields, .ref a_x3_skips, .ref a_x3_skills, .ref a_x3_places, .ref a_x3_wheel, .int x3_tradesEnded])), (a_x3_needs, .inl (cI, 6, .inl x3_needs)), (a_x3_yields, .inl (cI, 6, .inl x3_yields)), (a_x3_skips, .inl (cI, 6, .inl x3_skips)), (a_x4, .inr (2, [.int x4_fade, .int x4_winter, .int x4_fall]))] sz)) (va_Qi (fun (r : Int32) (_ : Unit) => r = r') (gE (dC, dI) [(a_o, .inr (3, [.int o_round', .int o_fell', .int o_ills', .ref a_o_skills, .ref a_o_places, .ref a_o_stores, .ref a_o_lacked, .ref a_o_helpers, .ref a_o_favours, .ref a_o_wheel, .ref a_o_works])), (a_o_skills, .inl (cI, 36, .inl o_skills')), (a_o_places, .inl (cI, 6, .inl o_places')), (a_o_stores, .inl (cI, 6, .inl o_stores')), (a_o_lacked, .inl (cI, 6, .inl o_lacked')), (a_o_helpers, .inl (cI, 6, .inl o_helpers')), (a_o_favours, .inl (cI, 36, .inl o_favours')), (a_o_wheel, .inl (cI, 6, .inl o_wheel)), (a_o_works, .inl (cI, 6, .inl o_works')), (a_x3, .inr (1, [.int x3_trades, .int x3_people, .ref a_x3_needs, .ref a_x3_yields, .ref a_x3_skips, .ref a_x3_skills, .ref a_x3_places, .ref a_x3_wheel, .int x3_tradesEnded])), (a_x3_needs, .inl (cI, 6, .inl x3_needs)), (a_x3_yields, .inl (cI, 6, .inl x3_yields)), (a_x3_skips, .inl (cI, 6, .inl x3_skips)), (a_x4, .inr (2, [.int x4_fade, .int x4_winter, .int x4_fall]))]) (va_A [(a_o, .inr (3, [.int o_round, .int o_fell, .int o_ills, .ref a_o_skills, .ref a_o_places, .ref a_o_stores, .ref a_o_lacked, .ref a_o_helpers, .ref a_o_favours, .ref a_o_wheel, .ref a_o_works])), (a_o_skills, .inl (cI, 36, .inl o_skills)), (a_o_places, .inl (cI, 6, .inl o_places)), (a_o_stores, .inl (cI, 6, .inl o_stores)), (a_o_lacked, .inl (cI, 6, .inl o_lacked)), (a_o_helpers, .inl (cI, 6, .inl o_helpers)), (a_o_favours, .inl (cI, 36, .inl o_favours)), (a_o_wheel, .inl (cI, 6, .inl o_wheel)), (a_o_works, .inl (cI, 6, .inl o_works)), (a_x3, .inr (1, [.int x3_trades, .int x3_people, .ref a_x3_needs, .ref a_x3_yields, .ref a_x3_skips, .ref a_x3_skills, .ref a_x3_places, .ref a_x3_wheel, .int x3_tradesEnded])), (a_x3_needs, .inl (cI, 6, .inl x3_needs)), (a_x3_yields, .inl (cI, 6, .inl x3_yields)), (a_x3_skips, .inl (cI, 6, .inl x3_skips)), (a_x4, .inr (2, [.int x4_fade, .int x4_winter, .int x4_fall]))] sz)) 0 0 (va_A [(a_o, .inr (3, [.int o_round, .int o_fell, .int o_ills, .ref a_o_skills, .ref a_o_places, .ref a_o_stores, .ref a_o_lacked, .ref a_o_helpers, .ref a_o_favours, .ref a_o_wheel, .ref a_o_works])), (a_o_skills, .inl (cI, 36, .inl o_skills)), (a_o_places, .inl (cI, 6, .inl o_places)), (a_o_stores, .inl (cI, 6, .inl o_stores)), (a_o_lacked, .inl (cI, 6, .inl o_lacked)), (a_o_helpers, .inl (cI, 6, .inl o_helpers)), (a_o_favours, .inl (cI, 36, .inl o_favours)), (a_o_wheel, .inl (cI, 6, .inl o_wheel)), (a_o_works, .inl (cI, 6, .inl o_works)), (a_x3, .inr (1, [.int x3_trades, .int x3_people, .ref a_x3_needs, .ref a_x3_yields, .ref a_x3_skips, .ref a_x3_skills, .ref a_x3_places, .ref a_x3_wheel, .int x3_tradesEnded])), (a_x3_needs, .inl (cI, 6, .inl x3_needs)), (a_x3_yields, .inl (cI, 6, .inl x3_yields)), (a_x3_skips, .inl (cI, 6, .inl x3_skips)), (a_x4, .inr (2, [.int x4_fade, .int x4_winter, .int x4_fall]))] sz) := by
  refine gMet (cc := cX3_goRounds) (maxL := 8) (ret := (some .int)) (Qc := fun A => va_Qi (fun (r : Int32) (_ : Unit) => r = r') (gE (dC, dI) [(a_o, .inr (3, [.int o_round', .int o_fell', .int o_ills', .ref a_o_skills, .ref a_o_places, .ref a_o_stores, .ref a_o_lacked, .ref a_o_helpers, .ref a_o_favours, .ref a_o_wheel, .ref a_o_works])), (a_o_skills, .inl (cI, 36, .inl o_skills')), (a_o_places, .inl (cI, 6, .inl o_places')), (a_o_stores, .inl (cI, 6, .inl o_stores')), (a_o_lacked, .inl (cI, 6, .inl o_lacked')), (a_o_helpers, .inl (cI, 6, .inl o_helpers')), (a_o_favours, .inl (cI, 36, .inl o_favours')), (a_o_wheel, .inl (cI, 6, .inl o_wheel)), (a_o_works, .inl (cI, 6, .inl o_works')), (a_x3, .inr (1, [.int x3_trades, .int x3_people, .ref a_x3_needs, .ref a_x3_yields, .ref a_x3_skips, .ref a_x3_skills, .ref a_x3_places, .ref a_x3_wheel, .int x3_tradesEnded])), (a_x3_needs, .inl (cI, 6, .inl x3_needs)), (a_x3_yields, .inl (cI, 6, .inl x3_yields)), (a_x3_skips, .inl (cI, 6, .inl x3_skips)), (a_x4, .inr (2, [.int x4_fade, .int x4_winter, .int x4_fall]))]) A) (by decide) rfl (Nat.le_of_ble_eq_true rfl) ?_
  intro p e s m below meth c A ls hg0 _ hsz hP hD hS hl
  have hg0 : gX p s m _ meth c cX3_goRounds 8 (some .int) wsX3_goRounds RX3 (dC, dI) Z [(cC, .char), (cI, .int), (cZ, .boolean), (cW, .object RX3)] A := hg0
  obtain ⟨hx, hb, hr, hml, hown, hts, hlocks, hA, hK, hN⟩ := id hg0
  subst hsz
  have hF : CallFix p m c cX3_goRounds 8 s _ wsX3_goRounds RX3 := ⟨hx, hb, hml, hown, hts⟩
  have hl : lv_has ls 8 [(0, .ref a_o), (1, .int i1), (2, .int i2), (3, .ref a_x3), (4, .ref a_x4)] := hl
  unfold fX3_goRounds at hf
  refine lv_iload_n hx hb dX3_goRounds_0 rfl (lv_at hl 1 rfl) ?_
  refine lv_bipush (v := (99 : Int32)) hx hb dX3_goRounds_1 (by decide) ?_
  refine lv_aload_n hx hb dX3_goRounds_3 rfl (lv_at hl 0 rfl) ?_
  refine va_get (D := (dC, dI)) (ci := 3) (v := .int o_round) (C := RX3) (T := TX3) (N := 11) hx hb hts uX3_goRounds_X3 hown hK hP 0 rfl rfl 0 (by decide) (hts _ mX3_goRounds_0) (fun _ h9 => h9) rfl dX3_goRounds_4 ?_
  refine lv_isub hx hb dX3_goRounds_7 ?_
  refine va_mmin hx hb (hml.trans hl.1.symm) hown (hts _ mX3_goRounds_1) (hts _ mX3_goRounds_2) (hts _ mX3_goRounds_3) (hts _ mX3_goRounds_4) (Nat.le_of_ble_eq_true rfl) (Nat.le_of_ble_eq_true rfl) (Nat.zero_le _) (Nat.zero_le _) dX3_goRounds_8 ?_
  refine lv_istore (lv' := [(5, .int (if ((99 : Int32) - o_round) < i1 then ((99 : Int32) - o_round) else i1)), (0, .ref a_o), (1, .int i1), (2, .int i2), (3, .ref a_x3), (4, .ref a_x4)]) hx hb dX3_goRounds_11 hl (by decide) rfl (fun ls hl => ?_)
  refine lv_iconst (v := (0 : Int32)) hx hb dX3_goRounds_13 (by decide) ?_
  refine lv_istore (lv' := [(6, .int (0 : Int32)), (5, .int (if ((99 : Int32) - o_round) < i1 then ((99 : Int32) - o_round) else i1)), (0, .ref a_o), (1, .int i1), (2, .int i2), (3, .ref a_x3), (4, .ref a_x4)]) hx hb dX3_goRounds_14 hl (by decide) rfl (fun ls hl => ?_)
  refine lv_iconst (v := (0 : Int32)) hx hb dX3_goRounds_16 (by decide) ?_
  refine lv_istore (lv' := [(7, .int (0 : Int32)), (6, .int (0 : Int32)), (5, .int (if ((99 : Int32) - o_round) < i1 then ((99 : Int32) - o_round) else i1)), (0, .ref a_o), (1, .int i1), (2, .int i2), (3, .ref a_x3), (4, .ref a_x4)]) hx hb dX3_goRounds_17 hl (by decide) rfl (fun ls hl => ?_)
  obtain ⟨o_round_1, o_fell_2, o_ills_3, o_skills_4, o_places_5, o_stores_6, o_lacked_7, o_helpers_8, o_favours_9, o_works_10, l6_11, l7_12, hc, hf⟩ := pb12 hf
  refine wX3_goRounds_19 hg0 a_o a_o_skills a_o_places a_o_stores a_o_lacked a_o_helpers a_o_favours a_o_wheel a_o_works a_x3 a_x3_needs a_x3_yields a_x3_skips a_x3_skills a_x3_places a_x3_wheel a_x4 o_wheel x3_trades x3_people x3_tradesEnded x3_needs x3_yields x3_skips x4_fade x4_winter x4_fall i2 (if ((99 : Int32) - o_round) < i1 then ((99 : Int32) - o_round) else i1) N N o_round o_fell o_ills o_skills o_places o_stores o_lacked o_helpers o_favours o_works (0 : Int32) (0 : Int32) o_round_1 o_fell_2 o_ills_3 o_skills_4 o_places_5 o_stores_6 o_lacked_7 o_helpers_8 o_favours_9 o_works_10 l6_11 l7_12 hc _ _ _ hP hD hS (lv_sub hl [3, 5, 6, 7, 2, 1, 0] rfl) (fun H locs ls hP hD hS hl => ?_)
  refine lv_iload hx hb dX3_goRounds_50 (lv_at hl 0 rfl) ?_
  have q0 := Option.some.inj hf
  obtain ⟨e0, q1⟩ := Prod.mk.inj q0
  obtain ⟨e1, q2⟩ := Prod.mk.inj q1
  obtain ⟨e2, q3⟩ := Prod.mk.inj q2
  obtain ⟨e3, q4⟩ := Prod.mk.inj q3
  obtain ⟨e4, q5⟩ := Prod.mk.inj q4
  obtain ⟨e5, q6⟩ := Prod.mk.inj q5
  obtain ⟨e6, q7⟩ := Prod.mk.inj q6
  obtain ⟨e7, q8⟩ := Prod.mk.inj q7
  obtain ⟨e8, q9⟩ := Prod.mk.inj q8
  obtain ⟨e9, q10⟩ := Prod.mk.inj q9
  subst e0
  subst e1
  subst e2
  subst e3
  subst e4
  subst e5
  subst e6
  subst e7
  subst e8
  subst e9
  subst q10
  exact gRi hx hb hr hlocks hP hS dX3_goRounds_52
abbrev rmX3_fallIll : Room := { frames := 0, cells := 0, slots := 0, locals := 0 }
set_option maxRecDepth 20000 in
theorem uX3_fallIll_X3 : ∀ w ∈ wsX30, w ∈ wsX3_fallIll := by decide +kernel
set_option maxRecDepth 20000 in
theorem mX3_fallIll_0 : (Cond.fieldLink RX3 18 "TradeWheel$World" "ills" "I" : Cond) ∈ wsX3_fallIll := by decide +kernel
set_option maxHeartbeats 4000000 in
set_option maxRecDepth 100000 in
theorem kX3_fallIll (l : Launch) (dC : Nat → ClassId) (dI : Nat → Nat → Nat) (Z : gZ) (cC cI cZ cW : ClassId) (a_o a_o_skills a_o_places a_o_stores a_o_lacked a_o_helpers a_o_favours a_o_wheel a_o_works : Nat) (sz : Nat) (o_round : Int32) (o_fell : Int32) (o_ills : Int32) (i1 : Int32) (N : Nat) (o_ills' : Int32) (hf : fX3_fallIll N o_ills  i1 = some o_ills') : Met l yX3_fallIll wsX3_fallIll rmX3_fallIll (va_Pc [.ref a_o, .int i1] (gB (dC, dI) Z [(cC, .char), (cI, .int), (cZ, .boolean), (cW, .object RX3)] [(a_o, .inr (3, [.int o_round, .int o_fell, .int o_ills, .ref a_o_skills, .ref a_o_places, .ref a_o_stores, .ref a_o_lacked, .ref a_o_helpers, .ref a_o_favours, .ref a_o_wheel, .ref a_o_works]))] sz)) (va_Qv (fun (_ : Unit) => True) (gE (dC, dI) [(a_o, .inr (3, [.int o_round, .int o_fell, .int o_ills', .ref a_o_skills, .ref a_o_places, .ref a_o_stores, .ref a_o_lacked, .ref a_o_helpers, .ref a_o_favours, .ref a_o_wheel, .ref a_o_works]))]) (va_A [(a_o, .inr (3, [.int o_round, .int o_fell, .int o_ills, .ref a_o_skills, .ref a_o_places, .ref a_o_stores, .ref a_o_lacked, .ref a_o_helpers, .ref a_o_favours, .ref a_o_wheel, .ref a_o_works]))] sz)) 0 0 (va_A [(a_o, .inr (3, [.int o_round, .int o_fell, .int o_ills, .ref a_o_skills, .ref a_o_places, .ref a_o_stores, .ref a_o_lacked, .ref a_o_helpers, .ref a_o_favours, .ref a_o_wheel, .ref a_o_works]))] sz) := by
  refine gMet (cc := cX3_fallIll) (maxL := 2) (ret := none) (Qc := fun A => va_Qv (fun (_ : Unit) => True) (gE (dC, dI) [(a_o, .inr (3, [.int o_round, .int o_fell, .int o_ills', .ref a_o_skills, .ref a_o_places, .ref a_o_stores, .ref a_o_lacked, .ref a_o_helpers, .ref a_o_favours, .ref a_o_wheel, .ref a_o_works]))]) A) (by decide) rfl (Nat.le_of_ble_eq_true rfl) ?_
  intro p e s m below meth c A ls hg0 _ hsz hP hD hS hl
  have hg0 : gX p s m _ meth c cX3_fallIll 2 none wsX3_fallIll RX3 (dC, dI) Z [(cC, .char), (cI, .int), (cZ, .boolean), (cW, .object RX3)] A := hg0
  obtain ⟨hx, hb, hr, hml, hown, hts, hlocks, hA, hK, hN⟩ := id hg0
  subst hsz
  have hF : CallFix p m c cX3_fallIll 2 s _ wsX3_fallIll RX3 := ⟨hx, hb, hml, hown, hts⟩
  have hl : lv_has ls 2 [(0, .ref a_o), (1, .int i1)] := hl
  unfold fX3_fallIll at hf
  refine lv_aload_n hx hb dX3_fallIll_0 rfl (lv_at hl 0 rfl) ?_
  refine lv_dup hx hb dX3_fallIll_1 rfl ?_
  refine va_get (D := (dC, dI)) (ci := 3) (v := .int o_ills) (C := RX3) (T := TX3) (N := 11) hx hb hts uX3_fallIll_X3 hown hK hP 0 rfl rfl 2 (by decide) (hts _ mX3_fallIll_0) (fun _ h9 => h9) rfl dX3_fallIll_2 ?_
  refine lv_iconst (v := (1 : Int32)) hx hb dX3_fallIll_5 (by decide) ?_
  refine lv_iload_n hx hb dX3_fallIll_6 rfl (lv_at hl 1 rfl) ?_
  refine lv_ishl hx hb dX3_fallIll_7 ?_
  refine lv_ior hx hb dX3_fallIll_8 ?_
  refine va_put (D := (dC, dI)) (ci := 3) (v := .int (o_ills ||| ((1 : Int32) <<< (i1 &&& 31)))) (ty := .int) (C := RX3) (T := TX3) (N := 11) hx hb hts uX3_fallIll_X3 tyX3 tyX3_ok nmX3 hown hK hP hD hS 0 rfl rfl 2 (by decide) (hts _ mX3_fallIll_0) (fun _ h9 => h9) rfl (by decide +kernel) rfl rfl (Nat.le_of_ble_eq_true rfl) dX3_fallIll_9 (fun H locs hP hD hS => ?_)
  have hP : va_P (dC, dI) vwCl [(a_o, .inr (3, [.int o_round, .int o_fell, .int (o_ills ||| ((1 : Int32) <<< (i1 &&& 31))), .ref a_o_skills, .ref a_o_places, .ref a_o_stores, .ref a_o_lacked, .ref a_o_helpers, .ref a_o_favours, .ref a_o_wheel, .ref a_o_works]))] H := hP
  have hD : va_D A [(a_o, .inr (3, [.int o_round, .int o_fell, .int (o_ills ||| ((1 : Int32) <<< (i1 &&& 31))), .ref a_o_skills, .ref a_o_places, .ref a_o_stores, .ref a_o_lacked, .ref a_o_helpers, .ref a_o_favours, .ref a_o_wheel, .ref a_o_works]))] := hD
  have q0 := Option.some.inj hf
  subst q0
  exact gRv hx hb hr hlocks hP hS dX3_fallIll_12
abbrev rmX3_becomes : Room := { frames := 1, cells := 0, slots := 0, locals := 60 }
set_option maxRecDepth 20000 in
theorem uX3_becomes_X3 : ∀ w ∈ wsX30, w ∈ wsX3_becomes := by decide +kernel
set_option maxRecDepth 20000 in
theorem mX3_becomes_0 : (Cond.fieldLink RX3 9 "TradeWheel$World" "round" "I" : Cond) ∈ wsX3_becomes := by decide +kernel
set_option maxRecDepth 20000 in
theorem mX3_becomes_1 : (Cond.fieldLink RX3 15 "TradeWheel$World" "fell" "I" : Cond) ∈ wsX3_becomes := by decide +kernel
set_option maxRecDepth 20000 in
theorem mX3_becomes_2 : (Cond.fieldLink RX3 18 "TradeWheel$World" "ills" "I" : Cond) ∈ wsX3_becomes := by decide +kernel
set_option maxRecDepth 20000 in
theorem mX3_becomes_3 : (Cond.fieldLink RX3 21 "TradeWheel$World" "skills" "[I" : Cond) ∈ wsX3_becomes := by decide +kernel
set_option maxRecDepth 20000 in
theorem mX3_becomes_4 : (Cond.methodLink RX3 49 arraycopyName : Cond) ∈ wsX3_becomes := by decide +kernel
set_option maxRecDepth 20000 in
theorem mX3_becomes_5 : (Cond.native arraycopyName : Cond) ∈ wsX3_becomes := by decide +kernel
set_option maxRecDepth 20000 in
theorem mX3_becomes_6 : (Cond.static arraycopyName : Cond) ∈ wsX3_becomes := by decide +kernel
set_option maxRecDepth 20000 in
theorem mX3_becomes_7 : (Cond.initialized "java/lang/System" : Cond) ∈ wsX3_becomes := by decide +kernel
set_option maxRecDepth 20000 in
theorem mX3_becomes_8 : (Cond.fieldLink RX3 25 "TradeWheel$World" "places" "[I" : Cond) ∈ wsX3_becomes := by decide +kernel
set_option maxRecDepth 20000 in
theorem mX3_becomes_9 : (Cond.fieldLink RX3 28 "TradeWheel$World" "stores" "[I" : Cond) ∈ wsX3_becomes := by decide +kernel
set_option maxRecDepth 20000 in
theorem mX3_becomes_10 : (Cond.fieldLink RX3 31 "TradeWheel$World" "lacked" "[I" : Cond) ∈ wsX3_becomes := by decide +kernel
set_option maxRecDepth 20000 in
theorem mX3_becomes_11 : (Cond.fieldLink RX3 34 "TradeWheel$World" "helpers" "[I" : Cond) ∈ wsX3_becomes := by decide +kernel
set_option maxRecDepth 20000 in
theorem mX3_becomes_12 : (Cond.fieldLink RX3 37 "TradeWheel$World" "favours" "[I" : Cond) ∈ wsX3_becomes := by decide +kernel
set_option maxRecDepth 20000 in
theorem mX3_becomes_13 : (Cond.fieldLink RX3 40 "TradeWheel$World" "wheel" "[I" : Cond) ∈ wsX3_becomes := by decide +kernel
set_option maxHeartbeats 4000000 in
set_option maxRecDepth 100000 in
theorem kX3_becomes (l : Launch) (dC : Nat → ClassId) (dI : Nat → Nat → Nat) (Z : gZ) (cC cI cZ cW : ClassId) (a_o a_o_skills a_o_places a_o_stores a_o_lacked a_o_helpers a_o_favours a_o_wheel a_o_works a_x1 a_x1_skills a_x1_places a_x1_stores a_x1_lacked a_x1_helpers a_x1_favours a_x1_wheel a_x1_works : Nat) (sz : Nat) (o_round : Int32) (o_fell : Int32) (o_ills : Int32) (o_skills : Nat → Int32) (o_places : Nat → Int32) (o_stores : Nat → Int32) (o_lacked : Nat → Int32) (o_helpers : Nat → Int32) (o_favours : Nat → Int32) (o_wheel : Nat → Int32) (x1_round : Int32) (x1_fell : Int32) (x1_ills : Int32) (x1_skills : Nat → Int32) (x1_places : Nat → Int32) (x1_stores : Nat → Int32) (x1_lacked : Nat → Int32) (x1_helpers : Nat → Int32) (x1_favours : Nat → Int32) (x1_wheel : Nat → Int32)  (N : Nat) (o_round' : Int32) (o_fell' : Int32) (o_ills' : Int32) (o_skills' : Nat → Int32) (o_places' : Nat → Int32) (o_stores' : Nat → Int32) (o_lacked' : Nat → Int32) (o_helpers' : Nat → Int32) (o_favours' : Nat → Int32) (o_wheel' : Nat → Int32) (hf : fX3_becomes N o_round o_fell o_ills o_skills o_places o_stores o_lacked o_helpers o_favours o_wheel x1_round x1_fell x1_ills x1_skills x1_places x1_stores x1_lacked x1_helpers x1_favours x1_wheel   = some (o_round', o_fell', o_ills', o_skills', o_places', o_stores', o_lacked', o_helpers', o_favours', o_wheel')) : Met l yX3_becomes wsX3_becomes rmX3_becomes (va_Pc [.ref a_o, .ref a_x1] (gB (dC, dI) Z [(cC, .char), (cI, .int), (cZ, .boolean), (cW, .object RX3)] [(a_o, .inr (3, [.int o_round, .int o_fell, .int o_ills, .ref a_o_skills, .ref a_o_places, .ref a_o_stores, .ref a_o_lacked, .ref a_o_helpers, .ref a_o_favours, .ref a_o_wheel, .ref a_o_works])), (a_o_skills, .inl (cI, 36, .inl o_skills)), (a_o_places, .inl (cI, 6, .inl o_places)), (a_o_stores, .inl (cI, 6, .inl o_stores)), (a_o_lacked, .inl (cI, 6, .inl o_lacked)), (a_o_helpers, .inl (cI, 6, .inl o_helpers)), (a_o_favours, .inl (cI, 36, .inl o_favours)), (a_o_wheel, .inl (cI, 6, .inl o_wheel)), (a_x1, .inr (3, [.int x1_round, .int x1_fell, .int x1_ills, .ref a_x1_skills, .ref a_x1_places, .ref a_x1_stores, .ref a_x1_lacked, .ref a_x1_helpers, .ref a_x1_favours, .ref a_x1_wheel, .ref a_x1_works])), (a_x1_skills, .inl (cI, 36, .inl x1_skills)), (a_x1_places, .inl (cI, 6, .inl x1_places)), (a_x1_stores, .inl (cI, 6, .inl x1_stores)), (a_x1_lacked, .inl (cI, 6, .inl x1_lacked)), (a_x1_helpers, .inl (cI, 6, .inl x1_helpers)), (a_x1_favours, .inl (cI, 36, .inl x1_favours)), (a_x1_wheel, .inl (cI, 6, .inl x1_wheel))] sz)) (va_Qv (fun (_ : Unit) => True) (gE (dC, dI) [(a_o, .inr (3, [.int o_round', .int o_fell', .int o_ills', .ref a_o_skills, .ref a_o_places, .ref a_o_stores, .ref a_o_lacked, .ref a_o_helpers, .ref a_o_favours, .ref a_o_wheel, .ref a_o_works])), (a_o_skills, .inl (cI, 36, .inl o_skills')), (a_o_places, .inl (cI, 6, .inl o_places')), (a_o_stores, .inl (cI, 6, .inl o_stores')), (a_o_lacked, .inl (cI, 6, .inl o_lacked')), (a_o_helpers, .inl (cI, 6, .inl o_helpers')), (a_o_favours, .inl (cI, 36, .inl o_favours')), (a_o_wheel, .inl (cI, 6, .inl o_wheel')), (a_x1, .inr (3, [.int x1_round, .int x1_fell, .int x1_ills, .ref a_x1_skills, .ref a_x1_places, .ref a_x1_stores, .ref a_x1_lacked, .ref a_x1_helpers, .ref a_x1_favours, .ref a_x1_wheel, .ref a_x1_works])), (a_x1_skills, .inl (cI, 36, .inl x1_skills)), (a_x1_places, .inl (cI, 6, .inl x1_places)), (a_x1_stores, .inl (cI, 6, .inl x1_stores)), (a_x1_lacked, .inl (cI, 6, .inl x1_lacked)), (a_x1_helpers, .inl (cI, 6, .inl x1_helpers)), (a_x1_favours, .inl (cI, 36, .inl x1_favours)), (a_x1_wheel, .inl (cI, 6, .inl x1_wheel))]) (va_A [(a_o, .inr (3, [.int o_round, .int o_fell, .int o_ills, .ref a_o_skills, .ref a_o_places, .ref a_o_stores, .ref a_o_lacked, .ref a_o_helpers, .ref a_o_favours, .ref a_o_wheel, .ref a_o_works])), (a_o_skills, .inl (cI, 36, .inl o_skills)), (a_o_places, .inl (cI, 6, .inl o_places)), (a_o_stores, .inl (cI, 6, .inl o_stores)), (a_o_lacked, .inl (cI, 6, .inl o_lacked)), (a_o_helpers, .inl (cI, 6, .inl o_helpers)), (a_o_favours, .inl (cI, 36, .inl o_favours)), (a_o_wheel, .inl (cI, 6, .inl o_wheel)), (a_x1, .inr (3, [.int x1_round, .int x1_fell, .int x1_ills, .ref a_x1_skills, .ref a_x1_places, .ref a_x1_stores, .ref a_x1_lacked, .ref a_x1_helpers, .ref a_x1_favours, .ref a_x1_wheel, .ref a_x1_works])), (a_x1_skills, .inl (cI, 36, .inl x1_skills)), (a_x1_places, .inl (cI, 6, .inl x1_places)), (a_x1_stores, .inl (cI, 6, .inl x1_stores)), (a_x1_lacked, .inl (cI, 6, .inl x1_lacked)), (a_x1_helpers, .inl (cI, 6, .inl x1_helpers)), (a_x1_favours, .inl (cI, 36, .inl x1_favours)), (a_x1_wheel, .inl (cI, 6, .inl x1_wheel))] sz)) 0 0 (va_A [(a_o, .inr (3, [.int o_round, .int o_fell, .int o_ills, .ref a_o_skills, .ref a_o_places, .ref a_o_stores, .ref a_o_lacked, .ref a_o_helpers, .ref a_o_favours, .ref a_o_wheel, .ref a_o_works])), (a_o_skills, .inl (cI, 36, .inl o_skills)), (a_o_places, .inl (cI, 6, .inl o_places)), (a_o_stores, .inl (cI, 6, .inl o_stores)), (a_o_lacked, .inl (cI, 6, .inl o_lacked)), (a_o_helpers, .inl (cI, 6, .inl o_helpers)), (a_o_favours, .inl (cI, 36, .inl o_favours)), (a_o_wheel, .inl (cI, 6, .inl o_wheel)), (a_x1, .inr (3, [.int x1_round, .int x1_fell, .int x1_ills, .ref a_x1_skills, .ref a_x1_places, .ref a_x1_stores, .ref a_x1_lacked, .ref a_x1_helpers, .ref a_x1_favours, .ref a_x1_wheel, .ref a_x1_works])), (a_x1_skills, .inl (cI, 36, .inl x1_skills)), (a_x1_places, .inl (cI, 6, .inl x1_places)), (a_x1_stores, .inl (cI, 6, .inl x1_stores)), (a_x1_lacked, .inl (cI, 6, .inl x1_lacked)), (a_x1_helpers, .inl (cI, 6, .inl x1_helpers)), (a_x1_favours, .inl (cI, 36, .inl x1_favours)), (a_x1_wheel, .inl (cI, 6, .inl x1_wheel))] sz) := by
  refine gMet (cc := cX3_becomes) (maxL := 2) (ret := none) (Qc := fun A => va_Qv (fun (_ : Unit) => True) (gE (dC, dI) [(a_o, .inr (3, [.int o_round', .int o_fell', .int o_ills', .ref a_o_skills, .ref a_o_places, .ref a_o_stores, .ref a_o_lacked, .ref a_o_helpers, .ref a_o_favours, .ref a_o_wheel, .ref a_o_works])), (a_o_skills, .inl (cI, 36, .inl o_skills')), (a_o_places, .inl (cI, 6, .inl o_places')), (a_o_stores, .inl (cI, 6, .inl o_stores')), (a_o_lacked, .inl (cI, 6, .inl o_lacked')), (a_o_helpers, .inl (cI, 6, .inl o_helpers')), (a_o_favours, .inl (cI, 36, .inl o_favours')), (a_o_wheel, .inl (cI, 6, .inl o_wheel')), (a_x1, .inr (3, [.int x1_round, .int x1_fell, .int x1_ills, .ref a_x1_skills, .ref a_x1_places, .ref a_x1_stores, .ref a_x1_lacked, .ref a_x1_helpers, .ref a_x1_favours, .ref a_x1_wheel, .ref a_x1_works])), (a_x1_skills, .inl (cI, 36, .inl x1_skills)), (a_x1_places, .inl (cI, 6, .inl x1_places)), (a_x1_stores, .inl (cI, 6, .inl x1_stores)), (a_x1_lacked, .inl (cI, 6, .inl x1_lacked)), (a_x1_helpers, .inl (cI, 6, .inl x1_helpers)), (a_x1_favours, .inl (cI, 36, .inl x1_favours)), (a_x1_wheel, .inl (cI, 6, .inl x1_wheel))]) A) (by decide) rfl (Nat.le_of_ble_eq_true rfl) ?_
  intro p e s m below meth c A ls hg0 _ hsz hP hD hS hl
  have hg0 : gX p s m _ meth c cX3_becomes 2 none wsX3_becomes RX3 (dC, dI) Z [(cC, .char), (cI, .int), (cZ, .boolean), (cW, .object RX3)] A := hg0
  obtain ⟨hx, hb, hr, hml, hown, hts, hlocks, hA, hK, hN⟩ := id hg0
  subst hsz
  have hF : CallFix p m c cX3_becomes 2 s _ wsX3_becomes RX3 := ⟨hx, hb, hml, hown, hts⟩
  have hl : lv_has ls 2 [(0, .ref a_o), (1, .ref a_x1)] := hl
  unfold fX3_becomes at hf
  refine lv_aload_n hx hb dX3_becomes_0 rfl (lv_at hl 0 rfl) ?_
  refine lv_aload_n hx hb dX3_becomes_1 rfl (lv_at hl 1 rfl) ?_
  refine va_get (D := (dC, dI)) (ci := 3) (v := .int x1_round) (C := RX3) (T := TX3) (N := 11) hx hb hts uX3_becomes_X3 hown hK hP 8 rfl rfl 0 (by decide) (hts _ mX3_becomes_0) (fun _ h9 => h9) rfl dX3_becomes_2 ?_
  refine va_put (D := (dC, dI)) (ci := 3) (v := .int x1_round) (ty := .int) (C := RX3) (T := TX3) (N := 11) hx hb hts uX3_becomes_X3 tyX3 tyX3_ok nmX3 hown hK hP hD hS 0 rfl rfl 0 (by decide) (hts _ mX3_becomes_0) (fun _ h9 => h9) rfl (by decide +kernel) rfl rfl (Nat.le_of_ble_eq_true rfl) dX3_becomes_5 (fun H locs hP hD hS => ?_)
  have hP : va_P (dC, dI) vwCl [(a_o, .inr (3, [.int x1_round, .int o_fell, .int o_ills, .ref a_o_skills, .ref a_o_places, .ref a_o_stores, .ref a_o_lacked, .ref a_o_helpers, .ref a_o_favours, .ref a_o_wheel, .ref a_o_works])), (a_o_skills, .inl (cI, 36, .inl o_skills)), (a_o_places, .inl (cI, 6, .inl o_places)), (a_o_stores, .inl (cI, 6, .inl o_stores)), (a_o_lacked, .inl (cI, 6, .inl o_lacked)), (a_o_helpers, .inl (cI, 6, .inl o_helpers)), (a_o_favours, .inl (cI, 36, .inl o_favours)), (a_o_wheel, .inl (cI, 6, .inl o_wheel)), (a_x1, .inr (3, [.int x1_round, .int x1_fell, .int x1_ills, .ref a_x1_skills, .ref a_x1_places, .ref a_x1_stores, .ref a_x1_lacked, .ref a_x1_helpers, .ref a_x1_favours, .ref a_x1_wheel, .ref a_x1_works])), (a_x1_skills, .inl (cI, 36, .inl x1_skills)), (a_x1_places, .inl (cI, 6, .inl x1_places)), (a_x1_stores, .inl (cI, 6, .inl x1_stores)), (a_x1_lacked, .inl (cI, 6, .inl x1_lacked)), (a_x1_helpers, .inl (cI, 6, .inl x1_helpers)), (a_x1_favours, .inl (cI, 36, .inl x1_favours)), (a_x1_wheel, .inl (cI, 6, .inl x1_wheel))] H := hP
  have hD : va_D A [(a_o, .inr (3, [.int x1_round, .int o_fell, .int o_ills, .ref a_o_skills, .ref a_o_places, .ref a_o_stores, .ref a_o_lacked, .ref a_o_helpers, .ref a_o_favours, .ref a_o_wheel, .ref a_o_works])), (a_o_skills, .inl (cI, 36, .inl o_skills)), (a_o_places, .inl (cI, 6, .inl o_places)), (a_o_stores, .inl (cI, 6, .inl o_stores)), (a_o_lacked, .inl (cI, 6, .inl o_lacked)), (a_o_helpers, .inl (cI, 6, .inl o_helpers)), (a_o_favours, .inl (cI, 36, .inl o_favours)), (a_o_wheel, .inl (cI, 6, .inl o_wheel)), (a_x1, .inr (3, [.int x1_round, .int x1_fell, .int x1_ills, .ref a_x1_skills, .ref a_x1_places, .ref a_x1_stores, .ref a_x1_lacked, .ref a_x1_helpers, .ref a_x1_favours, .ref a_x1_wheel, .ref a_x1_works])), (a_x1_skills, .inl (cI, 36, .inl x1_skills)), (a_x1_places, .inl (cI, 6, .inl x1_places)), (a_x1_stores, .inl (cI, 6, .inl x1_stores)), (a_x1_lacked, .inl (cI, 6, .inl x1_lacked)), (a_x1_helpers, .inl (cI, 6, .inl x1_helpers)), (a_x1_favours, .inl (cI, 36, .inl x1_favours)), (a_x1_wheel, .inl (cI, 6, .inl x1_wheel))] := hD
  refine lv_aload_n hx hb dX3_becomes_8 rfl (lv_at hl 0 rfl) ?_
  refine lv_aload_n hx hb dX3_becomes_9 rfl (lv_at hl 1 rfl) ?_
  refine va_get (D := (dC, dI)) (ci := 3) (v := .int x1_fell) (C := RX3) (T := TX3) (N := 11) hx hb hts uX3_becomes_X3 hown hK hP 8 rfl rfl 1 (by decide) (hts _ mX3_becomes_1) (fun _ h9 => h9) rfl dX3_becomes_10 ?_
  refine va_put (D := (dC, dI)) (ci := 3) (v := .int x1_fell) (ty := .int) (C := RX3) (T := TX3) (N := 11) hx hb hts uX3_becomes_X3 tyX3 tyX3_ok nmX3 hown hK hP hD hS 0 rfl rfl 1 (by decide) (hts _ mX3_becomes_1) (fun _ h9 => h9) rfl (by decide +kernel) rfl rfl (Nat.le_of_ble_eq_true rfl) dX3_becomes_13 (fun H locs hP hD hS => ?_)
  have hP : va_P (dC, dI) vwCl [(a_o, .inr (3, [.int x1_round, .int x1_fell, .int o_ills, .ref a_o_skills, .ref a_o_places, .ref a_o_stores, .ref a_o_lacked, .ref a_o_helpers, .ref a_o_favours, .ref a_o_wheel, .ref a_o_works])), (a_o_skills, .inl (cI, 36, .inl o_skills)), (a_o_places, .inl (cI, 6, .inl o_places)), (a_o_stores, .inl (cI, 6, .inl o_stores)), (a_o_lacked, .inl (cI, 6, .inl o_lacked)), (a_o_helpers, .inl (cI, 6, .inl o_helpers)), (a_o_favours, .inl (cI, 36, .inl o_favours)), (a_o_wheel, .inl (cI, 6, .inl o_wheel)), (a_x1, .inr (3, [.int x1_round, .int x1_fell, .int x1_ills, .ref a_x1_skills, .ref a_x1_places, .ref a_x1_stores, .ref a_x1_lacked, .ref a_x1_helpers, .ref a_x1_favours, .ref a_x1_wheel, .ref a_x1_works])), (a_x1_skills, .inl (cI, 36, .inl x1_skills)), (a_x1_places, .inl (cI, 6, .inl x1_places)), (a_x1_stores, .inl (cI, 6, .inl x1_stores)), (a_x1_lacked, .inl (cI, 6, .inl x1_lacked)), (a_x1_helpers, .inl (cI, 6, .inl x1_helpers)), (a_x1_favours, .inl (cI, 36, .inl x1_favours)), (a_x1_wheel, .inl (cI, 6, .inl x1_wheel))] H := hP
  have hD : va_D A [(a_o, .inr (3, [.int x1_round, .int x1_fell, .int o_ills, .ref a_o_skills, .ref a_o_places, .ref a_o_stores, .ref a_o_lacked, .ref a_o_helpers, .ref a_o_favours, .ref a_o_wheel, .ref a_o_works])), (a_o_skills, .inl (cI, 36, .inl o_skills)), (a_o_places, .inl (cI, 6, .inl o_places)), (a_o_stores, .inl (cI, 6, .inl o_stores)), (a_o_lacked, .inl (cI, 6, .inl o_lacked)), (a_o_helpers, .inl (cI, 6, .inl o_helpers)), (a_o_favours, .inl (cI, 36, .inl o_favours)), (a_o_wheel, .inl (cI, 6, .inl o_wheel)), (a_x1, .inr (3, [.int x1_round, .int x1_fell, .int x1_ills, .ref a_x1_skills, .ref a_x1_places, .ref a_x1_stores, .ref a_x1_lacked, .ref a_x1_helpers, .ref a_x1_favours, .ref a_x1_wheel, .ref a_x1_works])), (a_x1_skills, .inl (cI, 36, .inl x1_skills)), (a_x1_places, .inl (cI, 6, .inl x1_places)), (a_x1_stores, .inl (cI, 6, .inl x1_stores)), (a_x1_lacked, .inl (cI, 6, .inl x1_lacked)), (a_x1_helpers, .inl (cI, 6, .inl x1_helpers)), (a_x1_favours, .inl (cI, 36, .inl x1_favours)), (a_x1_wheel, .inl (cI, 6, .inl x1_wheel))] := hD
  refine lv_aload_n hx hb dX3_becomes_16 rfl (lv_at hl 0 rfl) ?_
  refine lv_aload_n hx hb dX3_becomes_17 rfl (lv_at hl 1 rfl) ?_
  refine va_get (D := (dC, dI)) (ci := 3) (v := .int x1_ills) (C := RX3) (T := TX3) (N := 11) hx hb hts uX3_becomes_X3 hown hK hP 8 rfl rfl 2 (by decide) (hts _ mX3_becomes_2) (fun _ h9 => h9) rfl dX3_becomes_18 ?_
  refine va_put (D := (dC, dI)) (ci := 3) (v := .int x1_ills) (ty := .int) (C := RX3) (T := TX3) (N := 11) hx hb hts uX3_becomes_X3 tyX3 tyX3_ok nmX3 hown hK hP hD hS 0 rfl rfl 2 (by decide) (hts _ mX3_becomes_2) (fun _ h9 => h9) rfl (by decide +kernel) rfl rfl (Nat.le_of_ble_eq_true rfl) dX3_becomes_21 (fun H locs hP hD hS => ?_)
  have hP : va_P (dC, dI) vwCl [(a_o, .inr (3, [.int x1_round, .int x1_fell, .int x1_ills, .ref a_o_skills, .ref a_o_places, .ref a_o_stores, .ref a_o_lacked, .ref a_o_helpers, .ref a_o_favours, .ref a_o_wheel, .ref a_o_works])), (a_o_skills, .inl (cI, 36, .inl o_skills)), (a_o_places, .inl (cI, 6, .inl o_places)), (a_o_stores, .inl (cI, 6, .inl o_stores)), (a_o_lacked, .inl (cI, 6, .inl o_lacked)), (a_o_helpers, .inl (cI, 6, .inl o_helpers)), (a_o_favours, .inl (cI, 36, .inl o_favours)), (a_o_wheel, .inl (cI, 6, .inl o_wheel)), (a_x1, .inr (3, [.int x1_round, .int x1_fell, .int x1_ills, .ref a_x1_skills, .ref a_x1_places, .ref a_x1_stores, .ref a_x1_lacked, .ref a_x1_helpers, .ref a_x1_favours, .ref a_x1_wheel, .ref a_x1_works])), (a_x1_skills, .inl (cI, 36, .inl x1_skills)), (a_x1_places, .inl (cI, 6, .inl x1_places)), (a_x1_stores, .inl (cI, 6, .inl x1_stores)), (a_x1_lacked, .inl (cI, 6, .inl x1_lacked)), (a_x1_helpers, .inl (cI, 6, .inl x1_helpers)), (a_x1_favours, .inl (cI, 36, .inl x1_favours)), (a_x1_wheel, .inl (cI, 6, .inl x1_wheel))] H := hP
  have hD : va_D A [(a_o, .inr (3, [.int x1_round, .int x1_fell, .int x1_ills, .ref a_o_skills, .ref a_o_places, .ref a_o_stores, .ref a_o_lacked, .ref a_o_helpers, .ref a_o_favours, .ref a_o_wheel, .ref a_o_works])), (a_o_skills, .inl (cI, 36, .inl o_skills)), (a_o_places, .inl (cI, 6, .inl o_places)), (a_o_stores, .inl (cI, 6, .inl o_stores)), (a_o_lacked, .inl (cI, 6, .inl o_lacked)), (a_o_helpers, .inl (cI, 6, .inl o_helpers)), (a_o_favours, .inl (cI, 36, .inl o_favours)), (a_o_wheel, .inl (cI, 6, .inl o_wheel)), (a_x1, .inr (3, [.int x1_round, .int x1_fell, .int x1_ills, .ref a_x1_skills, .ref a_x1_places, .ref a_x1_stores, .ref a_x1_lacked, .ref a_x1_helpers, .ref a_x1_favours, .ref a_x1_wheel, .ref a_x1_works])), (a_x1_skills, .inl (cI, 36, .inl x1_skills)), (a_x1_places, .inl (cI, 6, .inl x1_places)), (a_x1_stores, .inl (cI, 6, .inl x1_stores)), (a_x1_lacked, .inl (cI, 6, .inl x1_lacked)), (a_x1_helpers, .inl (cI, 6, .inl x1_helpers)), (a_x1_favours, .inl (cI, 36, .inl x1_favours)), (a_x1_wheel, .inl (cI, 6, .inl x1_wheel))] := hD
  refine lv_aload_n hx hb dX3_becomes_24 rfl (lv_at hl 1 rfl) ?_
  refine va_get (D := (dC, dI)) (ci := 3) (v := .ref a_x1_skills) (C := RX3) (T := TX3) (N := 11) hx hb hts uX3_becomes_X3 hown hK hP 8 rfl rfl 3 (by decide) (hts _ mX3_becomes_3) (fun _ h9 => h9) rfl dX3_becomes_25 ?_
  refine lv_iconst (v := (0 : Int32)) hx hb dX3_becomes_28 (by decide) ?_
  refine lv_aload_n hx hb dX3_becomes_29 rfl (lv_at hl 0 rfl) ?_
  refine va_get (D := (dC, dI)) (ci := 3) (v := .ref a_o_skills) (C := RX3) (T := TX3) (N := 11) hx hb hts uX3_becomes_X3 hown hK hP 0 rfl rfl 3 (by decide) (hts _ mX3_becomes_3) (fun _ h9 => h9) rfl dX3_becomes_30 ?_
  refine lv_iconst (v := (0 : Int32)) hx hb dX3_becomes_33 (by decide) ?_
  refine lv_aload_n hx hb dX3_becomes_34 rfl (lv_at hl 0 rfl) ?_
  refine va_get (D := (dC, dI)) (ci := 3) (v := .ref a_o_skills) (C := RX3) (T := TX3) (N := 11) hx hb hts uX3_becomes_X3 hown hK hP 0 rfl rfl 3 (by decide) (hts _ mX3_becomes_3) (fun _ h9 => h9) rfl dX3_becomes_35 ?_
  refine va_alen (v := (36 : Int32)) hx hb hK hP 1 1 rfl rfl rfl dX3_becomes_38 ?_
  refine va_copyi hx hb (hml.trans hl.1.symm) hown (hts _ mX3_becomes_4) (hts _ mX3_becomes_5) (hts _ mX3_becomes_6) (hts _ mX3_becomes_7) hK hP hD hS 9 1 1 1 rfl rfl rfl rfl rfl (by decide) (by decide) (by decide) (by decide) (by decide) (fun _ _ => rfl) (Nat.le_of_ble_eq_true rfl) (Nat.le_of_ble_eq_true rfl) dX3_becomes_39 (fun H locs hP hD hS => ?_)
  have hP : va_P (dC, dI) vwCl [(a_o, .inr (3, [.int x1_round, .int x1_fell, .int x1_ills, .ref a_o_skills, .ref a_o_places, .ref a_o_stores, .ref a_o_lacked, .ref a_o_helpers, .ref a_o_favours, .ref a_o_wheel, .ref a_o_works])), (a_o_skills, .inl (cI, 36, .inl (va_cpy x1_skills o_skills 0 0 36))), (a_o_places, .inl (cI, 6, .inl o_places)), (a_o_stores, .inl (cI, 6, .inl o_stores)), (a_o_lacked, .inl (cI, 6, .inl o_lacked)), (a_o_helpers, .inl (cI, 6, .inl o_helpers)), (a_o_favours, .inl (cI, 36, .inl o_favours)), (a_o_wheel, .inl (cI, 6, .inl o_wheel)), (a_x1, .inr (3, [.int x1_round, .int x1_fell, .int x1_ills, .ref a_x1_skills, .ref a_x1_places, .ref a_x1_stores, .ref a_x1_lacked, .ref a_x1_helpers, .ref a_x1_favours, .ref a_x1_wheel, .ref a_x1_works])), (a_x1_skills, .inl (cI, 36, .inl x1_skills)), (a_x1_places, .inl (cI, 6, .inl x1_places)), (a_x1_stores, .inl (cI, 6, .inl x1_stores)), (a_x1_lacked, .inl (cI, 6, .inl x1_lacked)), (a_x1_helpers, .inl (cI, 6, .inl x1_helpers)), (a_x1_favours, .inl (cI, 36, .inl x1_favours)), (a_x1_wheel, .inl (cI, 6, .inl x1_wheel))] H := hP
  have hD : va_D A [(a_o, .inr (3, [.int x1_round, .int x1_fell, .int x1_ills, .ref a_o_skills, .ref a_o_places, .ref a_o_stores, .ref a_o_lacked, .ref a_o_helpers, .ref a_o_favours, .ref a_o_wheel, .ref a_o_works])), (a_o_skills, .inl (cI, 36, .inl (va_cpy x1_skills o_skills 0 0 36))), (a_o_places, .inl (cI, 6, .inl o_places)), (a_o_stores, .inl (cI, 6, .inl o_stores)), (a_o_lacked, .inl (cI, 6, .inl o_lacked)), (a_o_helpers, .inl (cI, 6, .inl o_helpers)), (a_o_favours, .inl (cI, 36, .inl o_favours)), (a_o_wheel, .inl (cI, 6, .inl o_wheel)), (a_x1, .inr (3, [.int x1_round, .int x1_fell, .int x1_ills, .ref a_x1_skills, .ref a_x1_places, .ref a_x1_stores, .ref a_x1_lacked, .ref a_x1_helpers, .ref a_x1_favours, .ref a_x1_wheel, .ref a_x1_works])), (a_x1_skills, .inl (cI, 36, .inl x1_skills)), (a_x1_places, .inl (cI, 6, .inl x1_places)), (a_x1_stores, .inl (cI, 6, .inl x1_stores)), (a_x1_lacked, .inl (cI, 6, .inl x1_lacked)), (a_x1_helpers, .inl (cI, 6, .inl x1_helpers)), (a_x1_favours, .inl (cI, 36, .inl x1_favours)), (a_x1_wheel, .inl (cI, 6, .inl x1_wheel))] := hD
  refine lv_aload_n hx hb dX3_becomes_42 rfl (lv_at hl 1 rfl) ?_
  refine va_get (D := (dC, dI)) (ci := 3) (v := .ref a_x1_places) (C := RX3) (T := TX3) (N := 11) hx hb hts uX3_becomes_X3 hown hK hP 8 rfl rfl 4 (by decide) (hts _ mX3_becomes_8) (fun _ h9 => h9) rfl dX3_becomes_43 ?_
  refine lv_iconst (v := (0 : Int32)) hx hb dX3_becomes_46 (by decide) ?_
  refine lv_aload_n hx hb dX3_becomes_47 rfl (lv_at hl 0 rfl) ?_
  refine va_get (D := (dC, dI)) (ci := 3) (v := .ref a_o_places) (C := RX3) (T := TX3) (N := 11) hx hb hts uX3_becomes_X3 hown hK hP 0 rfl rfl 4 (by decide) (hts _ mX3_becomes_8) (fun _ h9 => h9) rfl dX3_becomes_48 ?_
  refine lv_iconst (v := (0 : Int32)) hx hb dX3_becomes_51 (by decide) ?_
  refine lv_bipush (v := (6 : Int32)) hx hb dX3_becomes_52 (by decide) ?_
  refine va_copyi hx hb (hml.trans hl.1.symm) hown (hts _ mX3_becomes_4) (hts _ mX3_becomes_5) (hts _ mX3_becomes_6) (hts _ mX3_becomes_7) hK hP hD hS 10 2 1 1 rfl rfl rfl rfl rfl (by decide) (by decide) (by decide) (by decide) (by decide) (fun _ _ => rfl) (Nat.le_of_ble_eq_true rfl) (Nat.le_of_ble_eq_true rfl) dX3_becomes_54 (fun H locs hP hD hS => ?_)
  have hP : va_P (dC, dI) vwCl [(a_o, .inr (3, [.int x1_round, .int x1_fell, .int x1_ills, .ref a_o_skills, .ref a_o_places, .ref a_o_stores, .ref a_o_lacked, .ref a_o_helpers, .ref a_o_favours, .ref a_o_wheel, .ref a_o_works])), (a_o_skills, .inl (cI, 36, .inl (va_cpy x1_skills o_skills 0 0 36))), (a_o_places, .inl (cI, 6, .inl (va_cpy x1_places o_places 0 0 6))), (a_o_stores, .inl (cI, 6, .inl o_stores)), (a_o_lacked, .inl (cI, 6, .inl o_lacked)), (a_o_helpers, .inl (cI, 6, .inl o_helpers)), (a_o_favours, .inl (cI, 36, .inl o_favours)), (a_o_wheel, .inl (cI, 6, .inl o_wheel)), (a_x1, .inr (3, [.int x1_round, .int x1_fell, .int x1_ills, .ref a_x1_skills, .ref a_x1_places, .ref a_x1_stores, .ref a_x1_lacked, .ref a_x1_helpers, .ref a_x1_favours, .ref a_x1_wheel, .ref a_x1_works])), (a_x1_skills, .inl (cI, 36, .inl x1_skills)), (a_x1_places, .inl (cI, 6, .inl x1_places)), (a_x1_stores, .inl (cI, 6, .inl x1_stores)), (a_x1_lacked, .inl (cI, 6, .inl x1_lacked)), (a_x1_helpers, .inl (cI, 6, .inl x1_helpers)), (a_x1_favours, .inl (cI, 36, .inl x1_favours)), (a_x1_wheel, .inl (cI, 6, .inl x1_wheel))] H := hP
  have hD : va_D A [(a_o, .inr (3, [.int x1_round, .int x1_fell, .int x1_ills, .ref a_o_skills, .ref a_o_places, .ref a_o_stores, .ref a_o_lacked, .ref a_o_helpers, .ref a_o_favours, .ref a_o_wheel, .ref a_o_works])), (a_o_skills, .inl (cI, 36, .inl (va_cpy x1_skills o_skills 0 0 36))), (a_o_places, .inl (cI, 6, .inl (va_cpy x1_places o_places 0 0 6))), (a_o_stores, .inl (cI, 6, .inl o_stores)), (a_o_lacked, .inl (cI, 6, .inl o_lacked)), (a_o_helpers, .inl (cI, 6, .inl o_helpers)), (a_o_favours, .inl (cI, 36, .inl o_favours)), (a_o_wheel, .inl (cI, 6, .inl o_wheel)), (a_x1, .inr (3, [.int x1_round, .int x1_fell, .int x1_ills, .ref a_x1_skills, .ref a_x1_places, .ref a_x1_stores, .ref a_x1_lacked, .ref a_x1_helpers, .ref a_x1_favours, .ref a_x1_wheel, .ref a_x1_works])), (a_x1_skills, .inl (cI, 36, .inl x1_skills)), (a_x1_places, .inl (cI, 6, .inl x1_places)), (a_x1_stores, .inl (cI, 6, .inl x1_stores)), (a_x1_lacked, .inl (cI, 6, .inl x1_lacked)), (a_x1_helpers, .inl (cI, 6, .inl x1_helpers)), (a_x1_favours, .inl (cI, 36, .inl x1_favours)), (a_x1_wheel, .inl (cI, 6, .inl x1_wheel))] := hD
  refine lv_aload_n hx hb dX3_becomes_57 rfl (lv_at hl 1 rfl) ?_
  refine va_get (D := (dC, dI)) (ci := 3) (v := .ref a_x1_stores) (C := RX3) (T := TX3) (N := 11) hx hb hts uX3_becomes_X3 hown hK hP 8 rfl rfl 5 (by decide) (hts _ mX3_becomes_9) (fun _ h9 => h9) rfl dX3_becomes_58 ?_
  refine lv_iconst (v := (0 : Int32)) hx hb dX3_becomes_61 (by decide) ?_
  refine lv_aload_n hx hb dX3_becomes_62 rfl (lv_at hl 0 rfl) ?_
  refine va_get (D := (dC, dI)) (ci := 3) (v := .ref a_o_stores) (C := RX3) (T := TX3) (N := 11) hx hb hts uX3_becomes_X3 hown hK hP 0 rfl rfl 5 (by decide) (hts _ mX3_becomes_9) (fun _ h9 => h9) rfl dX3_becomes_63 ?_
  refine lv_iconst (v := (0 : Int32)) hx hb dX3_becomes_66 (by decide) ?_
  refine lv_bipush (v := (6 : Int32)) hx hb dX3_becomes_67 (by decide) ?_
  refine va_copyi hx hb (hml.trans hl.1.symm) hown (hts _ mX3_becomes_4) (hts _ mX3_becomes_5) (hts _ mX3_becomes_6) (hts _ mX3_becomes_7) hK hP hD hS 11 3 1 1 rfl rfl rfl rfl rfl (by decide) (by decide) (by decide) (by decide) (by decide) (fun _ _ => rfl) (Nat.le_of_ble_eq_true rfl) (Nat.le_of_ble_eq_true rfl) dX3_becomes_69 (fun H locs hP hD hS => ?_)
  have hP : va_P (dC, dI) vwCl [(a_o, .inr (3, [.int x1_round, .int x1_fell, .int x1_ills, .ref a_o_skills, .ref a_o_places, .ref a_o_stores, .ref a_o_lacked, .ref a_o_helpers, .ref a_o_favours, .ref a_o_wheel, .ref a_o_works])), (a_o_skills, .inl (cI, 36, .inl (va_cpy x1_skills o_skills 0 0 36))), (a_o_places, .inl (cI, 6, .inl (va_cpy x1_places o_places 0 0 6))), (a_o_stores, .inl (cI, 6, .inl (va_cpy x1_stores o_stores 0 0 6))), (a_o_lacked, .inl (cI, 6, .inl o_lacked)), (a_o_helpers, .inl (cI, 6, .inl o_helpers)), (a_o_favours, .inl (cI, 36, .inl o_favours)), (a_o_wheel, .inl (cI, 6, .inl o_wheel)), (a_x1, .inr (3, [.int x1_round, .int x1_fell, .int x1_ills, .ref a_x1_skills, .ref a_x1_places, .ref a_x1_stores, .ref a_x1_lacked, .ref a_x1_helpers, .ref a_x1_favours, .ref a_x1_wheel, .ref a_x1_works])), (a_x1_skills, .inl (cI, 36, .inl x1_skills)), (a_x1_places, .inl (cI, 6, .inl x1_places)), (a_x1_stores, .inl (cI, 6, .inl x1_stores)), (a_x1_lacked, .inl (cI, 6, .inl x1_lacked)), (a_x1_helpers, .inl (cI, 6, .inl x1_helpers)), (a_x1_favours, .inl (cI, 36, .inl x1_favours)), (a_x1_wheel, .inl (cI, 6, .inl x1_wheel))] H := hP
  have hD : va_D A [(a_o, .inr (3, [.int x1_round, .int x1_fell, .int x1_ills, .ref a_o_skills, .ref a_o_places, .ref a_o_stores, .ref a_o_lacked, .ref a_o_helpers, .ref a_o_favours, .ref a_o_wheel, .ref a_o_works])), (a_o_skills, .inl (cI, 36, .inl (va_cpy x1_skills o_skills 0 0 36))), (a_o_places, .inl (cI, 6, .inl (va_cpy x1_places o_places 0 0 6))), (a_o_stores, .inl (cI, 6, .inl (va_cpy x1_stores o_stores 0 0 6))), (a_o_lacked, .inl (cI, 6, .inl o_lacked)), (a_o_helpers, .inl (cI, 6, .inl o_helpers)), (a_o_favours, .inl (cI, 36, .inl o_favours)), (a_o_wheel, .inl (cI, 6, .inl o_wheel)), (a_x1, .inr (3, [.int x1_round, .int x1_fell, .int x1_ills, .ref a_x1_skills, .ref a_x1_places, .ref a_x1_stores, .ref a_x1_lacked, .ref a_x1_helpers, .ref a_x1_favours, .ref a_x1_wheel, .ref a_x1_works])), (a_x1_skills, .inl (cI, 36, .inl x1_skills)), (a_x1_places, .inl (cI, 6, .inl x1_places)), (a_x1_stores, .inl (cI, 6, .inl x1_stores)), (a_x1_lacked, .inl (cI, 6, .inl x1_lacked)), (a_x1_helpers, .inl (cI, 6, .inl x1_helpers)), (a_x1_favours, .inl (cI, 36, .inl x1_favours)), (a_x1_wheel, .inl (cI, 6, .inl x1_wheel))] := hD
  refine lv_aload_n hx hb dX3_becomes_72 rfl (lv_at hl 1 rfl) ?_
  refine va_get (D := (dC, dI)) (ci := 3) (v := .ref a_x1_lacked) (C := RX3) (T := TX3) (N := 11) hx hb hts uX3_becomes_X3 hown hK hP 8 rfl rfl 6 (by decide) (hts _ mX3_becomes_10) (fun _ h9 => h9) rfl dX3_becomes_73 ?_
  refine lv_iconst (v := (0 : Int32)) hx hb dX3_becomes_76 (by decide) ?_
  refine lv_aload_n hx hb dX3_becomes_77 rfl (lv_at hl 0 rfl) ?_
  refine va_get (D := (dC, dI)) (ci := 3) (v := .ref a_o_lacked) (C := RX3) (T := TX3) (N := 11) hx hb hts uX3_becomes_X3 hown hK hP 0 rfl rfl 6 (by decide) (hts _ mX3_becomes_10) (fun _ h9 => h9) rfl dX3_becomes_78 ?_
  refine lv_iconst (v := (0 : Int32)) hx hb dX3_becomes_81 (by decide) ?_
  refine lv_bipush (v := (6 : Int32)) hx hb dX3_becomes_82 (by decide) ?_
  refine va_copyi hx hb (hml.trans hl.1.symm) hown (hts _ mX3_becomes_4) (hts _ mX3_becomes_5) (hts _ mX3_becomes_6) (hts _ mX3_becomes_7) hK hP hD hS 12 4 1 1 rfl rfl rfl rfl rfl (by decide) (by decide) (by decide) (by decide) (by decide) (fun _ _ => rfl) (Nat.le_of_ble_eq_true rfl) (Nat.le_of_ble_eq_true rfl) dX3_becomes_84 (fun H locs hP hD hS => ?_)
  have hP : va_P (dC, dI) vwCl [(a_o, .inr (3, [.int x1_round, .int x1_fell, .int x1_ills, .ref a_o_skills, .ref a_o_places, .ref a_o_stores, .ref a_o_lacked, .ref a_o_helpers, .ref a_o_favours, .ref a_o_wheel, .ref a_o_works])), (a_o_skills, .inl (cI, 36, .inl (va_cpy x1_skills o_skills 0 0 36))), (a_o_places, .inl (cI, 6, .inl (va_cpy x1_places o_places 0 0 6))), (a_o_stores, .inl (cI, 6, .inl (va_cpy x1_stores o_stores 0 0 6))), (a_o_lacked, .inl (cI, 6, .inl (va_cpy x1_lacked o_lacked 0 0 6))), (a_o_helpers, .inl (cI, 6, .inl o_helpers)), (a_o_favours, .inl (cI, 36, .inl o_favours)), (a_o_wheel, .inl (cI, 6, .inl o_wheel)), (a_x1, .inr (3, [.int x1_round, .int x1_fell, .int x1_ills, .ref a_x1_skills, .ref a_x1_places, .ref a_x1_stores, .ref a_x1_lacked, .ref a_x1_helpers, .ref a_x1_favours, .ref a_x1_wheel, .ref a_x1_works])), (a_x1_skills, .inl (cI, 36, .inl x1_skills)), (a_x1_places, .inl (cI, 6, .inl x1_places)), (a_x1_stores, .inl (cI, 6, .inl x1_stores)), (a_x1_lacked, .inl (cI, 6, .inl x1_lacked)), (a_x1_helpers, .inl (cI, 6, .inl x1_helpers)), (a_x1_favours, .inl (cI, 36, .inl x1_favours)), (a_x1_wheel, .inl (cI, 6, .inl x1_wheel))] H := hP
  have hD : va_D A [(a_o, .inr (3, [.int x1_round, .int x1_fell, .int x1_ills, .ref a_o_skills, .ref a_o_places, .ref a_o_stores, .ref a_o_lacked, .ref a_o_helpers, .ref a_o_favours, .ref a_o_wheel, .ref a_o_works])), (a_o_skills, .inl (cI, 36, .inl (va_cpy x1_skills o_skills 0 0 36))), (a_o_places, .inl (cI, 6, .inl (va_cpy x1_places o_places 0 0 6))), (a_o_stores, .inl (cI, 6, .inl (va_cpy x1_stores o_stores 0 0 6))), (a_o_lacked, .inl (cI, 6, .inl (va_cpy x1_lacked o_lacked 0 0 6))), (a_o_helpers, .inl (cI, 6, .inl o_helpers)), (a_o_favours, .inl (cI, 36, .inl o_favours)), (a_o_wheel, .inl (cI, 6, .inl o_wheel)), (a_x1, .inr (3, [.int x1_round, .int x1_fell, .int x1_ills, .ref a_x1_skills, .ref a_x1_places, .ref a_x1_stores, .ref a_x1_lacked, .ref a_x1_helpers, .ref a_x1_favours, .ref a_x1_wheel, .ref a_x1_works])), (a_x1_skills, .inl (cI, 36, .inl x1_skills)), (a_x1_places, .inl (cI, 6, .inl x1_places)), (a_x1_stores, .inl (cI, 6, .inl x1_stores)), (a_x1_lacked, .inl (cI, 6, .inl x1_lacked)), (a_x1_helpers, .inl (cI, 6, .inl x1_helpers)), (a_x1_favours, .inl (cI, 36, .inl x1_favours)), (a_x1_wheel, .inl (cI, 6, .inl x1_wheel))] := hD
  refine lv_aload_n hx hb dX3_becomes_87 rfl (lv_at hl 1 rfl) ?_
  refine va_get (D := (dC, dI)) (ci := 3) (v := .ref a_x1_helpers) (C := RX3) (T := TX3) (N := 11) hx hb hts uX3_becomes_X3 hown hK hP 8 rfl rfl 7 (by decide) (hts _ mX3_becomes_11) (fun _ h9 => h9) rfl dX3_becomes_88 ?_
  refine lv_iconst (v := (0 : Int32)) hx hb dX3_becomes_91 (by decide) ?_
  refine lv_aload_n hx hb dX3_becomes_92 rfl (lv_at hl 0 rfl) ?_
  refine va_get (D := (dC, dI)) (ci := 3) (v := .ref a_o_helpers) (C := RX3) (T := TX3) (N := 11) hx hb hts uX3_becomes_X3 hown hK hP 0 rfl rfl 7 (by decide) (hts _ mX3_becomes_11) (fun _ h9 => h9) rfl dX3_becomes_93 ?_
  refine lv_iconst (v := (0 : Int32)) hx hb dX3_becomes_96 (by decide) ?_
  refine lv_bipush (v := (6 : Int32)) hx hb dX3_becomes_97 (by decide) ?_
  refine va_copyi hx hb (hml.trans hl.1.symm) hown (hts _ mX3_becomes_4) (hts _ mX3_becomes_5) (hts _ mX3_becomes_6) (hts _ mX3_becomes_7) hK hP hD hS 13 5 1 1 rfl rfl rfl rfl rfl (by decide) (by decide) (by decide) (by decide) (by decide) (fun _ _ => rfl) (Nat.le_of_ble_eq_true rfl) (Nat.le_of_ble_eq_true rfl) dX3_becomes_99 (fun H locs hP hD hS => ?_)
  have hP : va_P (dC, dI) vwCl [(a_o, .inr (3, [.int x1_round, .int x1_fell, .int x1_ills, .ref a_o_skills, .ref a_o_places, .ref a_o_stores, .ref a_o_lacked, .ref a_o_helpers, .ref a_o_favours, .ref a_o_wheel, .ref a_o_works])), (a_o_skills, .inl (cI, 36, .inl (va_cpy x1_skills o_skills 0 0 36))), (a_o_places, .inl (cI, 6, .inl (va_cpy x1_places o_places 0 0 6))), (a_o_stores, .inl (cI, 6, .inl (va_cpy x1_stores o_stores 0 0 6))), (a_o_lacked, .inl (cI, 6, .inl (va_cpy x1_lacked o_lacked 0 0 6))), (a_o_helpers, .inl (cI, 6, .inl (va_cpy x1_helpers o_helpers 0 0 6))), (a_o_favours, .inl (cI, 36, .inl o_favours)), (a_o_wheel, .inl (cI, 6, .inl o_wheel)), (a_x1, .inr (3, [.int x1_round, .int x1_fell, .int x1_ills, .ref a_x1_skills, .ref a_x1_places, .ref a_x1_stores, .ref a_x1_lacked, .ref a_x1_helpers, .ref a_x1_favours, .ref a_x1_wheel, .ref a_x1_works])), (a_x1_skills, .inl (cI, 36, .inl x1_skills)), (a_x1_places, .inl (cI, 6, .inl x1_places)), (a_x1_stores, .inl (cI, 6, .inl x1_stores)), (a_x1_lacked, .inl (cI, 6, .inl x1_lacked)), (a_x1_helpers, .inl (cI, 6, .inl x1_helpers)), (a_x1_favours, .inl (cI, 36, .inl x1_favours)), (a_x1_wheel, .inl (cI, 6, .inl x1_wheel))] H := hP
  have hD : va_D A [(a_o, .inr (3, [.int x1_round, .int x1_fell, .int x1_ills, .ref a_o_skills, .ref a_o_places, .ref a_o_stores, .ref a_o_lacked, .ref a_o_helpers, .ref a_o_favours, .ref a_o_wheel, .ref a_o_works])), (a_o_skills, .inl (cI, 36, .inl (va_cpy x1_skills o_skills 0 0 36))), (a_o_places, .inl (cI, 6, .inl (va_cpy x1_places o_places 0 0 6))), (a_o_stores, .inl (cI, 6, .inl (va_cpy x1_stores o_stores 0 0 6))), (a_o_lacked, .inl (cI, 6, .inl (va_cpy x1_lacked o_lacked 0 0 6))), (a_o_helpers, .inl (cI, 6, .inl (va_cpy x1_helpers o_helpers 0 0 6))), (a_o_favours, .inl (cI, 36, .inl o_favours)), (a_o_wheel, .inl (cI, 6, .inl o_wheel)), (a_x1, .inr (3, [.int x1_round, .int x1_fell, .int x1_ills, .ref a_x1_skills, .ref a_x1_places, .ref a_x1_stores, .ref a_x1_lacked, .ref a_x1_helpers, .ref a_x1_favours, .ref a_x1_wheel, .ref a_x1_works])), (a_x1_skills, .inl (cI, 36, .inl x1_skills)), (a_x1_places, .inl (cI, 6, .inl x1_places)), (a_x1_stores, .inl (cI, 6, .inl x1_stores)), (a_x1_lacked, .inl (cI, 6, .inl x1_lacked)), (a_x1_helpers, .inl (cI, 6, .inl x1_helpers)), (a_x1_favours, .inl (cI, 36, .inl x1_favours)), (a_x1_wheel, .inl (cI, 6, .inl x1_wheel))] := hD
  refine lv_aload_n hx hb dX3_becomes_102 rfl (lv_at hl 1 rfl) ?_
  refine va_get (D := (dC, dI)) (ci := 3) (v := .ref a_x1_favours) (C := RX3) (T := TX3) (N := 11) hx hb hts uX3_becomes_X3 hown hK hP 8 rfl rfl 8 (by decide) (hts _ mX3_becomes_12) (fun _ h9 => h9) rfl dX3_becomes_103 ?_
  refine lv_iconst (v := (0 : Int32)) hx hb dX3_becomes_106 (by decide) ?_
  refine lv_aload_n hx hb dX3_becomes_107 rfl (lv_at hl 0 rfl) ?_
  refine va_get (D := (dC, dI)) (ci := 3) (v := .ref a_o_favours) (C := RX3) (T := TX3) (N := 11) hx hb hts uX3_becomes_X3 hown hK hP 0 rfl rfl 8 (by decide) (hts _ mX3_becomes_12) (fun _ h9 => h9) rfl dX3_becomes_108 ?_
  refine lv_iconst (v := (0 : Int32)) hx hb dX3_becomes_111 (by decide) ?_
  refine lv_aload_n hx hb dX3_becomes_112 rfl (lv_at hl 0 rfl) ?_
  refine va_get (D := (dC, dI)) (ci := 3) (v := .ref a_o_favours) (C := RX3) (T := TX3) (N := 11) hx hb hts uX3_becomes_X3 hown hK hP 0 rfl rfl 8 (by decide) (hts _ mX3_becomes_12) (fun _ h9 => h9) rfl dX3_becomes_113 ?_
  refine va_alen (v := (36 : Int32)) hx hb hK hP 6 1 rfl rfl rfl dX3_becomes_116 ?_
  refine va_copyi hx hb (hml.trans hl.1.symm) hown (hts _ mX3_becomes_4) (hts _ mX3_becomes_5) (hts _ mX3_becomes_6) (hts _ mX3_becomes_7) hK hP hD hS 14 6 1 1 rfl rfl rfl rfl rfl (by decide) (by decide) (by decide) (by decide) (by decide) (fun _ _ => rfl) (Nat.le_of_ble_eq_true rfl) (Nat.le_of_ble_eq_true rfl) dX3_becomes_117 (fun H locs hP hD hS => ?_)
  have hP : va_P (dC, dI) vwCl [(a_o, .inr (3, [.int x1_round, .int x1_fell, .int x1_ills, .ref a_o_skills, .ref a_o_places, .ref a_o_stores, .ref a_o_lacked, .ref a_o_helpers, .ref a_o_favours, .ref a_o_wheel, .ref a_o_works])), (a_o_skills, .inl (cI, 36, .inl (va_cpy x1_skills o_skills 0 0 36))), (a_o_places, .inl (cI, 6, .inl (va_cpy x1_places o_places 0 0 6))), (a_o_stores, .inl (cI, 6, .inl (va_cpy x1_stores o_stores 0 0 6))), (a_o_lacked, .inl (cI, 6, .inl (va_cpy x1_lacked o_lacked 0 0 6))), (a_o_helpers, .inl (cI, 6, .inl (va_cpy x1_helpers o_helpers 0 0 6))), (a_o_favours, .inl (cI, 36, .inl (va_cpy x1_favours o_favours 0 0 36))), (a_o_wheel, .inl (cI, 6, .inl o_wheel)), (a_x1, .inr (3, [.int x1_round, .int x1_fell, .int x1_ills, .ref a_x1_skills, .ref a_x1_places, .ref a_x1_stores, .ref a_x1_lacked, .ref a_x1_helpers, .ref a_x1_favours, .ref a_x1_wheel, .ref a_x1_works])), (a_x1_skills, .inl (cI, 36, .inl x1_skills)), (a_x1_places, .inl (cI, 6, .inl x1_places)), (a_x1_stores, .inl (cI, 6, .inl x1_stores)), (a_x1_lacked, .inl (cI, 6, .inl x1_lacked)), (a_x1_helpers, .inl (cI, 6, .inl x1_helpers)), (a_x1_favours, .inl (cI, 36, .inl x1_favours)), (a_x1_wheel, .inl (cI, 6, .inl x1_wheel))] H := hP
  have hD : va_D A [(a_o, .inr (3, [.int x1_round, .int x1_fell, .int x1_ills, .ref a_o_skills, .ref a_o_places, .ref a_o_stores, .ref a_o_lacked, .ref a_o_helpers, .ref a_o_favours, .ref a_o_wheel, .ref a_o_works])), (a_o_skills, .inl (cI, 36, .inl (va_cpy x1_skills o_skills 0 0 36))), (a_o_places, .inl (cI, 6, .inl (va_cpy x1_places o_places 0 0 6))), (a_o_stores, .inl (cI, 6, .inl (va_cpy x1_stores o_stores 0 0 6))), (a_o_lacked, .inl (cI, 6, .inl (va_cpy x1_lacked o_lacked 0 0 6))), (a_o_helpers, .inl (cI, 6, .inl (va_cpy x1_helpers o_helpers 0 0 6))), (a_o_favours, .inl (cI, 36, .inl (va_cpy x1_favours o_favours 0 0 36))), (a_o_wheel, .inl (cI, 6, .inl o_wheel)), (a_x1, .inr (3, [.int x1_round, .int x1_fell, .int x1_ills, .ref a_x1_skills, .ref a_x1_places, .ref a_x1_stores, .ref a_x1_lacked, .ref a_x1_helpers, .ref a_x1_favours, .ref a_x1_wheel, .ref a_x1_works])), (a_x1_skills, .inl (cI, 36, .inl x1_skills)), (a_x1_places, .inl (cI, 6, .inl x1_places)), (a_x1_stores, .inl (cI, 6, .inl x1_stores)), (a_x1_lacked, .inl (cI, 6, .inl x1_lacked)), (a_x1_helpers, .inl (cI, 6, .inl x1_helpers)), (a_x1_favours, .inl (cI, 36, .inl x1_favours)), (a_x1_wheel, .inl (cI, 6, .inl x1_wheel))] := hD
  refine lv_aload_n hx hb dX3_becomes_120 rfl (lv_at hl 1 rfl) ?_
  refine va_get (D := (dC, dI)) (ci := 3) (v := .ref a_x1_wheel) (C := RX3) (T := TX3) (N := 11) hx hb hts uX3_becomes_X3 hown hK hP 8 rfl rfl 9 (by decide) (hts _ mX3_becomes_13) (fun _ h9 => h9) rfl dX3_becomes_121 ?_
  refine lv_iconst (v := (0 : Int32)) hx hb dX3_becomes_124 (by decide) ?_
  refine lv_aload_n hx hb dX3_becomes_125 rfl (lv_at hl 0 rfl) ?_
  refine va_get (D := (dC, dI)) (ci := 3) (v := .ref a_o_wheel) (C := RX3) (T := TX3) (N := 11) hx hb hts uX3_becomes_X3 hown hK hP 0 rfl rfl 9 (by decide) (hts _ mX3_becomes_13) (fun _ h9 => h9) rfl dX3_becomes_126 ?_
  refine lv_iconst (v := (0 : Int32)) hx hb dX3_becomes_129 (by decide) ?_
  refine lv_bipush (v := (6 : Int32)) hx hb dX3_becomes_130 (by decide) ?_
  refine va_copyi hx hb (hml.trans hl.1.symm) hown (hts _ mX3_becomes_4) (hts _ mX3_becomes_5) (hts _ mX3_becomes_6) (hts _ mX3_becomes_7) hK hP hD hS 15 7 1 1 rfl rfl rfl rfl rfl (by decide) (by decide) (by decide) (by decide) (by decide) (fun _ _ => rfl) (Nat.le_of_ble_eq_true rfl) (Nat.le_of_ble_eq_true rfl) dX3_becomes_132 (fun H locs hP hD hS => ?_)
  have hP : va_P (dC, dI) vwCl [(a_o, .inr (3, [.int x1_round, .int x1_fell, .int x1_ills, .ref a_o_skills, .ref a_o_places, .ref a_o_stores, .ref a_o_lacked, .ref a_o_helpers, .ref a_o_favours, .ref a_o_wheel, .ref a_o_works])), (a_o_skills, .inl (cI, 36, .inl (va_cpy x1_skills o_skills 0 0 36))), (a_o_places, .inl (cI, 6, .inl (va_cpy x1_places o_places 0 0 6))), (a_o_stores, .inl (cI, 6, .inl (va_cpy x1_stores o_stores 0 0 6))), (a_o_lacked, .inl (cI, 6, .inl (va_cpy x1_lacked o_lacked 0 0 6))), (a_o_helpers, .inl (cI, 6, .inl (va_cpy x1_helpers o_helpers 0 0 6))), (a_o_favours, .inl (cI, 36, .inl (va_cpy x1_favours o_favours 0 0 36))), (a_o_wheel, .inl (cI, 6, .inl (va_cpy x1_wheel o_wheel 0 0 6))), (a_x1, .inr (3, [.int x1_round, .int x1_fell, .int x1_ills, .ref a_x1_skills, .ref a_x1_places, .ref a_x1_stores, .ref a_x1_lacked, .ref a_x1_helpers, .ref a_x1_favours, .ref a_x1_wheel, .ref a_x1_works])), (a_x1_skills, .inl (cI, 36, .inl x1_skills)), (a_x1_places, .inl (cI, 6, .inl x1_places)), (a_x1_stores, .inl (cI, 6, .inl x1_stores)), (a_x1_lacked, .inl (cI, 6, .inl x1_lacked)), (a_x1_helpers, .inl (cI, 6, .inl x1_helpers)), (a_x1_favours, .inl (cI, 36, .inl x1_favours)), (a_x1_wheel, .inl (cI, 6, .inl x1_wheel))] H := hP
  have hD : va_D A [(a_o, .inr (3, [.int x1_round, .int x1_fell, .int x1_ills, .ref a_o_skills, .ref a_o_places, .ref a_o_stores, .ref a_o_lacked, .ref a_o_helpers, .ref a_o_favours, .ref a_o_wheel, .ref a_o_works])), (a_o_skills, .inl (cI, 36, .inl (va_cpy x1_skills o_skills 0 0 36))), (a_o_places, .inl (cI, 6, .inl (va_cpy x1_places o_places 0 0 6))), (a_o_stores, .inl (cI, 6, .inl (va_cpy x1_stores o_stores 0 0 6))), (a_o_lacked, .inl (cI, 6, .inl (va_cpy x1_lacked o_lacked 0 0 6))), (a_o_helpers, .inl (cI, 6, .inl (va_cpy x1_helpers o_helpers 0 0 6))), (a_o_favours, .inl (cI, 36, .inl (va_cpy x1_favours o_favours 0 0 36))), (a_o_wheel, .inl (cI, 6, .inl (va_cpy x1_wheel o_wheel 0 0 6))), (a_x1, .inr (3, [.int x1_round, .int x1_fell, .int x1_ills, .ref a_x1_skills, .ref a_x1_places, .ref a_x1_stores, .ref a_x1_lacked, .ref a_x1_helpers, .ref a_x1_favours, .ref a_x1_wheel, .ref a_x1_works])), (a_x1_skills, .inl (cI, 36, .inl x1_skills)), (a_x1_places, .inl (cI, 6, .inl x1_places)), (a_x1_stores, .inl (cI, 6, .inl x1_stores)), (a_x1_lacked, .inl (cI, 6, .inl x1_lacked)), (a_x1_helpers, .inl (cI, 6, .inl x1_helpers)), (a_x1_favours, .inl (cI, 36, .inl x1_favours)), (a_x1_wheel, .inl (cI, 6, .inl x1_wheel))] := hD
  have q0 := Option.some.inj hf
  obtain ⟨e0, q1⟩ := Prod.mk.inj q0
  obtain ⟨e1, q2⟩ := Prod.mk.inj q1
  obtain ⟨e2, q3⟩ := Prod.mk.inj q2
  obtain ⟨e3, q4⟩ := Prod.mk.inj q3
  obtain ⟨e4, q5⟩ := Prod.mk.inj q4
  obtain ⟨e5, q6⟩ := Prod.mk.inj q5
  obtain ⟨e6, q7⟩ := Prod.mk.inj q6
  obtain ⟨e7, q8⟩ := Prod.mk.inj q7
  obtain ⟨e8, q9⟩ := Prod.mk.inj q8
  subst e0
  subst e1
  subst e2
  subst e3
  subst e4
  subst e5
  subst e6
  subst e7
  subst e8
  subst q9
  exact gRv hx hb hr hlocks hP hS dX3_becomes_135
abbrev rmX3_helpsTold : Room := { frames := 0, cells := 0, slots := 0, locals := 0 }
set_option maxRecDepth 20000 in
theorem uX3_helpsTold_X3 : ∀ w ∈ wsX30, w ∈ wsX3_helpsTold := by decide +kernel
set_option maxRecDepth 20000 in
theorem mX3_helpsTold_0 : (Cond.fieldLink RX3 34 "TradeWheel$World" "helpers" "[I" : Cond) ∈ wsX3_helpsTold := by decide +kernel
set_option maxHeartbeats 4000000 in
set_option maxRecDepth 100000 in
theorem wX3_helpsTold_4 {p : Program} {l : Launch} {e : Env} {s : State} {m : MethodId} {args : Array Value} {below : List Frame} {meth : Method} {c : Code} {Q : State → Prop} {A : Nat → Prop} {dC : Nat → ClassId} {dI : Nat → Nat → Nat} {Z : gZ} {cC cI cZ cW : ClassId} (hg0 : gX p s m args meth c cX3_helpsTold 3 (some .int) wsX3_helpsTold RX3 (dC, dI) Z [(cC, .char), (cI, .int), (cZ, .boolean), (cW, .object RX3)] A) (a_o a_o_skills a_o_places a_o_stores a_o_lacked a_o_helpers a_o_favours a_o_wheel a_o_works : Nat) (o_round : Int32) (o_fell : Int32) (o_ills : Int32) (o_helpers : Nat → Int32)  (N : Nat) : ∀ (n : Nat) (l1 : Int32) (l2 : Int32) (l1' : Int32) (l2' : Int32), fX3_helpsTold_4 N o_helpers n l1 l2 = some (l1', l2') → ∀ (H : Heap) (locs : List Loc) (ls : Array Slot), va_P (dC, dI) vwCl [(a_o, .inr (3, [.int o_round, .int o_fell, .int o_ills, .ref a_o_skills, .ref a_o_places, .ref a_o_stores, .ref a_o_lacked, .ref a_o_helpers, .ref a_o_favours, .ref a_o_wheel, .ref a_o_works])), (a_o_helpers, .inl (cI, 6, .inl o_helpers))] H → va_D A [(a_o, .inr (3, [.int o_round, .int o_fell, .int o_ills, .ref a_o_skills, .ref a_o_places, .ref a_o_stores, .ref a_o_lacked, .ref a_o_helpers, .ref a_o_favours, .ref a_o_wheel, .ref a_o_works])), (a_o_helpers, .inl (cI, 6, .inl o_helpers))] → va_S A s.heap H locs → lv_has ls 3 [(0, .ref a_o), (1, .int l1), (2, .int l2)] → (∀ (H : Heap) (locs : List Loc) (ls : Array Slot), va_P (dC, dI) vwCl [(a_o, .inr (3, [.int o_round, .int o_fell, .int o_ills, .ref a_o_skills, .ref a_o_places, .ref a_o_stores, .ref a_o_lacked, .ref a_o_helpers, .ref a_o_favours, .ref a_o_wheel, .ref a_o_works])), (a_o_helpers, .inl (cI, 6, .inl o_helpers))] H → va_D A [(a_o, .inr (3, [.int o_round, .int o_fell, .int o_ills, .ref a_o_skills, .ref a_o_places, .ref a_o_stores, .ref a_o_lacked, .ref a_o_helpers, .ref a_o_favours, .ref a_o_wheel, .ref a_o_works])), (a_o_helpers, .inl (cI, 6, .inl o_helpers))] → va_S A s.heap H locs → lv_has ls 3 [(1, .int l1')] → W p l e (headSpec wsX3_helpsTold rmX3_helpsTold).room s m args below meth c H locs 0 0 Q (F0 m 30 ls [])) → W p l e (headSpec wsX3_helpsTold rmX3_helpsTold).room s m args below meth c H locs 0 0 Q (F0 m 4 ls []) := by
  obtain ⟨hx, hb, hr, hml, hown, hts, hlocks, hA, hK, hN⟩ := id hg0
  have hF : CallFix p m c cX3_helpsTold 3 s args wsX3_helpsTold RX3 := ⟨hx, hb, hml, hown, hts⟩
  intro n
  induction n with
  | zero =>
    intro l1 l2 l1' l2' hf
    have hf := fX3_helpsTold_4_0.symm.trans hf
    cases hf
  | succ n ih =>
    intro l1 l2 l1' l2' hf H locs ls hP hD hS hl kx
    have hf := fX3_helpsTold_4_s.symm.trans hf
    refine lv_iload_n hx hb dX3_helpsTold_4 rfl (lv_at hl 2 rfl) ?_
    refine lv_bipush (v := (6 : Int32)) hx hb dX3_helpsTold_5 (by decide) ?_
    refine lv_icmp_ge (tgt := 30) hx hb dX3_helpsTold_7 (by decide) (fun c_1 => ?_) (fun c_1 => ?_)
    · have hf := pit hf c_1
      have q0 := Option.some.inj hf
      obtain ⟨e0, q1⟩ := Prod.mk.inj q0
      subst e0
      subst q1
      exact kx _ _ _ hP hD hS (lv_sub hl [1] rfl)
    · have hf := pif hf c_1
      refine lv_aload_n hx hb dX3_helpsTold_10 rfl (lv_at hl 0 rfl) ?_
      refine va_get (D := (dC, dI)) (ci := 3) (v := .ref a_o_helpers) (C := RX3) (T := TX3) (N := 11) hx hb hts uX3_helpsTold_X3 hown hK hP 0 rfl rfl 7 (by decide) (hts _ mX3_helpsTold_0) (fun _ h9 => h9) rfl dX3_helpsTold_11 ?_
      refine lv_iload_n hx hb dX3_helpsTold_14 rfl (lv_at hl 2 rfl) ?_
      obtain ⟨h_2, hf⟩ := pgd hf
      refine va_iald hx hb hK hP 1 1 rfl rfl h_2 dX3_helpsTold_15 ?_
      refine lv_bipush (v := (-9 : Int32)) hx hb dX3_helpsTold_16 (by decide) ?_
      refine lv_icmp_eq (tgt := 24) hx hb dX3_helpsTold_18 (by decide) (fun c_3 => ?_) (fun c_3 => ?_)
      · have hf := pit hf c_3
        refine lv_iinc (v := (l2 + 1)) (lv' := [(2, .int (l2 + 1)), (0, .ref a_o), (1, .int l1)]) hx hb dX3_helpsTold_24 hl (k := 2) rfl rfl (by decide) rfl (fun ls hl => ?_)
        refine lv_goto (tgt := 4) hx hb dX3_helpsTold_27 (by decide) ?_
        exact ih _ _ _ _ hf _ _ _ hP hD hS (lv_sub hl [1, 2, 0] rfl) kx
      · have hf := pif hf c_3
        refine lv_iinc (v := (l1 + 1)) (lv' := [(1, .int (l1 + 1)), (0, .ref a_o), (2, .int l2)]) hx hb dX3_helpsTold_21 hl (k := 1) rfl rfl (by decide) rfl (fun ls hl => ?_)
        refine lv_iinc (v := (l2 + 1)) (lv' := [(2, .int (l2 + 1)), (1, .int (l1 + 1)), (0, .ref a_o)]) hx hb dX3_helpsTold_24 hl (k := 2) rfl rfl (by decide) rfl (fun ls hl => ?_)
        refine lv_goto (tgt := 4) hx hb dX3_helpsTold_27 (by decide) ?_
        exact ih _ _ _ _ hf _ _ _ hP hD hS (lv_sub hl [2, 1, 0] rfl) kx
set_option maxHeartbeats 4000000 in
set_option maxRecDepth 100000 in
theorem kX3_helpsTold (l : Launch) (dC : Nat → ClassId) (dI : Nat → Nat → Nat) (Z : gZ) (cC cI cZ cW : ClassId) (a_o a_o_skills a_o_places a_o_stores a_o_lacked a_o_helpers a_o_favours a_o_wheel a_o_works : Nat) (sz : Nat) (o_round : Int32) (o_fell : Int32) (o_ills : Int32) (o_helpers : Nat → Int32)  (N : Nat) (r' : Int32) (hf : fX3_helpsTold N o_helpers   = some r') : Met l yX3_helpsTold wsX3_helpsTold rmX3_helpsTold (va_Pc [.ref a_o] (gB (dC, dI) Z [(cC, .char), (cI, .int), (cZ, .boolean), (cW, .object RX3)] [(a_o, .inr (3, [.int o_round, .int o_fell, .int o_ills, .ref a_o_skills, .ref a_o_places, .ref a_o_stores, .ref a_o_lacked, .ref a_o_helpers, .ref a_o_favours, .ref a_o_wheel, .ref a_o_works])), (a_o_helpers, .inl (cI, 6, .inl o_helpers))] sz)) (va_Qi (fun (r : Int32) (_ : Unit) => r = r') (gE (dC, dI) [(a_o, .inr (3, [.int o_round, .int o_fell, .int o_ills, .ref a_o_skills, .ref a_o_places, .ref a_o_stores, .ref a_o_lacked, .ref a_o_helpers, .ref a_o_favours, .ref a_o_wheel, .ref a_o_works])), (a_o_helpers, .inl (cI, 6, .inl o_helpers))]) (va_A [(a_o, .inr (3, [.int o_round, .int o_fell, .int o_ills, .ref a_o_skills, .ref a_o_places, .ref a_o_stores, .ref a_o_lacked, .ref a_o_helpers, .ref a_o_favours, .ref a_o_wheel, .ref a_o_works])), (a_o_helpers, .inl (cI, 6, .inl o_helpers))] sz)) 0 0 (va_A [(a_o, .inr (3, [.int o_round, .int o_fell, .int o_ills, .ref a_o_skills, .ref a_o_places, .ref a_o_stores, .ref a_o_lacked, .ref a_o_helpers, .ref a_o_favours, .ref a_o_wheel, .ref a_o_works])), (a_o_helpers, .inl (cI, 6, .inl o_helpers))] sz) := by
  refine gMet (cc := cX3_helpsTold) (maxL := 3) (ret := (some .int)) (Qc := fun A => va_Qi (fun (r : Int32) (_ : Unit) => r = r') (gE (dC, dI) [(a_o, .inr (3, [.int o_round, .int o_fell, .int o_ills, .ref a_o_skills, .ref a_o_places, .ref a_o_stores, .ref a_o_lacked, .ref a_o_helpers, .ref a_o_favours, .ref a_o_wheel, .ref a_o_works])), (a_o_helpers, .inl (cI, 6, .inl o_helpers))]) A) (by decide) rfl (Nat.le_of_ble_eq_true rfl) ?_
  intro p e s m below meth c A ls hg0 _ hsz hP hD hS hl
  have hg0 : gX p s m _ meth c cX3_helpsTold 3 (some .int) wsX3_helpsTold RX3 (dC, dI) Z [(cC, .char), (cI, .int), (cZ, .boolean), (cW, .object RX3)] A := hg0
  obtain ⟨hx, hb, hr, hml, hown, hts, hlocks, hA, hK, hN⟩ := id hg0
  subst hsz
  have hF : CallFix p m c cX3_helpsTold 3 s _ wsX3_helpsTold RX3 := ⟨hx, hb, hml, hown, hts⟩
  have hl : lv_has ls 3 [(0, .ref a_o)] := hl
  unfold fX3_helpsTold at hf
  refine lv_iconst (v := (0 : Int32)) hx hb dX3_helpsTold_0 (by decide) ?_
  refine lv_istore_n (lv' := [(1, .int (0 : Int32)), (0, .ref a_o)]) hx hb dX3_helpsTold_1 rfl hl (by decide) rfl (fun ls hl => ?_)
  refine lv_iconst (v := (0 : Int32)) hx hb dX3_helpsTold_2 (by decide) ?_
  refine lv_istore_n (lv' := [(2, .int (0 : Int32)), (1, .int (0 : Int32)), (0, .ref a_o)]) hx hb dX3_helpsTold_3 rfl hl (by decide) rfl (fun ls hl => ?_)
  obtain ⟨l1_1, l2_2, hc, hf⟩ := pb2 hf
  refine wX3_helpsTold_4 hg0 a_o a_o_skills a_o_places a_o_stores a_o_lacked a_o_helpers a_o_favours a_o_wheel a_o_works o_round o_fell o_ills o_helpers  N N (0 : Int32) (0 : Int32) l1_1 l2_2 hc _ _ _ hP hD hS (lv_sub hl [2, 1, 0] rfl) (fun H locs ls hP hD hS hl => ?_)
  refine lv_iload_n hx hb dX3_helpsTold_30 rfl (lv_at hl 0 rfl) ?_
  have q0 := Option.some.inj hf
  subst q0
  exact gRi hx hb hr hlocks hP hS dX3_helpsTold_31
