theorem gSame {D : va_G} {cl : List vw_C} {tys : List (ClassId × FieldType)} {s : State} {ty : FieldType} {cA c0 : ClassId} (hK : va_K D cl tys s) (hK2 : va_K D cl (tys ++ [(cA, ty)]) s) (hp : refKind ty = false) {k : Nat} (hk : tys[k]? = some (c0, ty)) (hl : tys.length = 4) : c0 = cA := by
  have h1 := (hK.2 k _ hk).2
  have h2 := (hK2.2 4 (cA, ty) (by rw [List.getElem?_append_right (by omega), hl]; rfl)).2
  cases ty <;> first | (simp only [va_RA] at h1 h2; exact Option.some.inj (h1.symm.trans h2)) | (simp [refKind] at hp)
theorem gSameO {D : va_G} {cl : List vw_C} {tys : List (ClassId × FieldType)} {s : State} {C : String} {cA c0 : ClassId} (hK : va_K D cl tys s) (hK2 : va_K D cl (tys ++ [(cA, .object C)]) s) {k : Nat} (hk : tys[k]? = some (c0, .object C)) (hl : tys.length = 4) : c0 = cA := by
  obtain ⟨_, _, _, _, _, h1⟩ := (hK.2 k _ hk).2
  obtain ⟨_, _, _, _, _, h2⟩ := (hK2.2 4 (cA, .object C) (by rw [List.getElem?_append_right (by omega), hl]; rfl)).2
  exact Option.some.inj (h1.symm.trans h2)
set_option maxRecDepth 20000 in
theorem uX2_init_X2 : ∀ w ∈ wsX20, w ∈ wsX2_init := by decide +kernel
set_option maxRecDepth 20000 in
theorem mX2_init_0 : (Cond.methodLink RX2 1 objectInit : Cond) ∈ wsX2_init := by decide +kernel
set_option maxRecDepth 20000 in
theorem mX2_init_1 : (Cond.instanceMethod objectInit : Cond) ∈ wsX2_init := by decide +kernel
set_option maxRecDepth 20000 in
theorem mX2_init_2 : (Cond.code objectInit ⟨#[0xb1]⟩ 1 none : Cond) ∈ wsX2_init := by decide +kernel
set_option maxRecDepth 20000 in
theorem mX2_init_3 : (Cond.fieldLink RX2 7 "TradeWheel$Tunes" "fade" "I" : Cond) ∈ wsX2_init := by decide +kernel
set_option maxRecDepth 20000 in
theorem mX2_init_4 : (Cond.fieldLink RX2 13 "TradeWheel$Tunes" "winter" "I" : Cond) ∈ wsX2_init := by decide +kernel
set_option maxRecDepth 20000 in
theorem mX2_init_5 : (Cond.fieldLink RX2 16 "TradeWheel$Tunes" "fall" "I" : Cond) ∈ wsX2_init := by decide +kernel
abbrev rmX2_init : Room := { frames := 1, cells := 0, slots := 0, locals := 24 }
set_option maxHeartbeats 4000000 in
set_option maxRecDepth 100000 in
theorem kX2_init (l : Launch) (dC : Nat → ClassId) (dI : Nat → Nat → Nat) (Z : gZ) (cC cI cZ cW : ClassId) (a_o : Nat) (sz : Nat) : Met l yX2_init wsX2_init rmX2_init (va_Pc [.ref a_o] (gB (dC, dI) Z [(cC, .char), (cI, .int), (cZ, .boolean), (cW, .object RX3)] [(a_o, .inr (2, [.int 0, .int 0, .int 0]))] sz)) (va_Qv (fun (_ : Unit) => True) (fun _ t => va_P (dC, dI) vwCl [(a_o, .inr (2, [.int (4 : Int32), .int (5 : Int32), .int (10 : Int32)]))] t.heap ∧ va_D (va_A [(a_o, .inr (2, [.int 0, .int 0, .int 0]))] sz) [(a_o, .inr (2, [.int (4 : Int32), .int (5 : Int32), .int (10 : Int32)]))]) (va_A [(a_o, .inr (2, [.int 0, .int 0, .int 0]))] sz)) 0 0 (va_A [(a_o, .inr (2, [.int 0, .int 0, .int 0]))] sz) := by
  refine gMet (cc := cX2_init) (maxL := 1) (ret := none) (Qc := fun A => va_Qv (fun (_ : Unit) => True) (fun _ t => va_P (dC, dI) vwCl [(a_o, .inr (2, [.int (4 : Int32), .int (5 : Int32), .int (10 : Int32)]))] t.heap ∧ va_D (A) [(a_o, .inr (2, [.int (4 : Int32), .int (5 : Int32), .int (10 : Int32)]))]) (A)) (by decide) rfl (Nat.le_of_ble_eq_true rfl) ?_
  intro p e s m below meth c A ls hg0 hin hsz hP hD hS hl
  obtain ⟨hx, hb, hr, hml, hown, hts, hlocks, hA, hK, hN⟩ := id hg0
  have hown : s.vm.findClass RX2 = some m.cls := hown
  have hin : meth.name = "<init>" := hin
  subst hsz
  have hF : CallFix p m c cX2_init 1 s _ wsX2_init RX2 := ⟨hx, hb, hml, hown, hts⟩
  have hl : lv_has ls 1 [(0, .ref a_o)] := hl
  refine lv_aload_n hx hb dX2_init_0 rfl (lv_at hl 0 rfl) ?_
  refine W.objInit hx hb hown (hts _ mX2_init_0) (hts _ mX2_init_1) (hts _ mX2_init_2) rfl (by rw [hml]; exact hl.1) rfl dX2_init_1 (Nat.le_of_ble_eq_true rfl) (Nat.le_of_ble_eq_true rfl) ?_
  refine W.eq (g2 := F0 m 4 ls []) rfl ?_
  refine lv_aload_n hx hb dX2_init_4 rfl (lv_at hl 0 rfl) ?_
  refine lv_iconst (v := (4 : Int32)) hx hb dX2_init_5 (by decide) ?_
  refine va_put (D := (dC, dI)) (ci := 2) (v := .int (4 : Int32)) (ty := .int) (C := RX2) (T := TX2) (N := 3) hx hb hts uX2_init_X2 tyX2 tyX2_ok nmX2 hown hK hP hD hS 0 rfl rfl 0 (by decide) (hts _ mX2_init_3) (fun _ h9 => h9) rfl (by decide +kernel) rfl rfl (Nat.le_of_ble_eq_true rfl) dX2_init_6 (fun H locs hP hD hS => ?_)
  have hP : va_P (dC, dI) vwCl [(a_o, .inr (2, [.int (4 : Int32), .int 0, .int 0]))] H := hP
  have hD : va_D A [(a_o, .inr (2, [.int (4 : Int32), .int 0, .int 0]))] := hD
  refine lv_aload_n hx hb dX2_init_9 rfl (lv_at hl 0 rfl) ?_
  refine lv_iconst (v := (5 : Int32)) hx hb dX2_init_10 (by decide) ?_
  refine va_put (D := (dC, dI)) (ci := 2) (v := .int (5 : Int32)) (ty := .int) (C := RX2) (T := TX2) (N := 3) hx hb hts uX2_init_X2 tyX2 tyX2_ok nmX2 hown hK hP hD hS 0 rfl rfl 1 (by decide) (hts _ mX2_init_4) (fun _ h9 => h9) rfl (by decide +kernel) rfl rfl (Nat.le_of_ble_eq_true rfl) dX2_init_11 (fun H locs hP hD hS => ?_)
  have hP : va_P (dC, dI) vwCl [(a_o, .inr (2, [.int (4 : Int32), .int (5 : Int32), .int 0]))] H := hP
  have hD : va_D A [(a_o, .inr (2, [.int (4 : Int32), .int (5 : Int32), .int 0]))] := hD
  refine lv_aload_n hx hb dX2_init_14 rfl (lv_at hl 0 rfl) ?_
  refine lv_bipush (v := (10 : Int32)) hx hb dX2_init_15 (by decide) ?_
  refine va_put (D := (dC, dI)) (ci := 2) (v := .int (10 : Int32)) (ty := .int) (C := RX2) (T := TX2) (N := 3) hx hb hts uX2_init_X2 tyX2 tyX2_ok nmX2 hown hK hP hD hS 0 rfl rfl 2 (by decide) (hts _ mX2_init_5) (fun _ h9 => h9) rfl (by decide +kernel) rfl rfl (Nat.le_of_ble_eq_true rfl) dX2_init_17 (fun H locs hP hD hS => ?_)
  have hP : va_P (dC, dI) vwCl [(a_o, .inr (2, [.int (4 : Int32), .int (5 : Int32), .int (10 : Int32)]))] H := hP
  have hD : va_D A [(a_o, .inr (2, [.int (4 : Int32), .int (5 : Int32), .int (10 : Int32)]))] := hD
  have hP9 := hP.sub (ws' := [(a_o, .inr (2, [.int (4 : Int32), .int (5 : Int32), .int (10 : Int32)]))]) [0] rfl
  have hD9 := hD.sub (ws' := [(a_o, .inr (2, [.int (4 : Int32), .int (5 : Int32), .int (10 : Int32)]))]) [0] (by decide) rfl
  refine W.widen (k := 0) (n := 0) (Nat.le_of_ble_eq_true rfl) (Nat.le_of_ble_eq_true rfl) ?_
  exact W.vret hx hb hr (fun t ht hW => ⟨⟨(), rfl, trivial, by rw [ht]; exact hP9, hD9⟩, hS.F ht⟩) hS.2.2 dX2_init_20 hlocks
set_option maxRecDepth 20000 in
theorem uX0_init_X0 : ∀ w ∈ wsX00, w ∈ wsX0_init := by decide +kernel
set_option maxRecDepth 20000 in
theorem mX0_init_0 : (Cond.methodLink RX0 3 objectInit : Cond) ∈ wsX0_init := by decide +kernel
set_option maxRecDepth 20000 in
theorem mX0_init_1 : (Cond.instanceMethod objectInit : Cond) ∈ wsX0_init := by decide +kernel
set_option maxRecDepth 20000 in
theorem mX0_init_2 : (Cond.code objectInit ⟨#[0xb1]⟩ 1 none : Cond) ∈ wsX0_init := by decide +kernel
set_option maxRecDepth 20000 in
theorem mX0_init_3 : (Cond.fieldLink RX0 9 "TradeWheel$Text" "length" "I" : Cond) ∈ wsX0_init := by decide +kernel
set_option maxRecDepth 20000 in
theorem mX0_init_4 : (Cond.arrayClass .char : Cond) ∈ wsX0_init := by decide +kernel
set_option maxRecDepth 20000 in
theorem mX0_init_5 : (Cond.fieldLink RX0 15 "TradeWheel$Text" "signs" "[C" : Cond) ∈ wsX0_init := by decide +kernel
set_option maxRecDepth 20000 in
theorem mX0_init_6 : (Cond.arrayClass .int : Cond) ∈ wsX0_init := by decide +kernel
set_option maxRecDepth 20000 in
theorem mX0_init_7 : (Cond.fieldLink RX0 19 "TradeWheel$Text" "tokens" "[I" : Cond) ∈ wsX0_init := by decide +kernel
set_option maxRecDepth 20000 in
theorem mX0_init_8 : (Cond.fieldLink RX0 23 "TradeWheel$Text" "starts" "[I" : Cond) ∈ wsX0_init := by decide +kernel
set_option maxRecDepth 20000 in
theorem mX0_init_9 : (Cond.fieldLink RX0 26 "TradeWheel$Text" "cuts" "I" : Cond) ∈ wsX0_init := by decide +kernel
set_option maxRecDepth 20000 in
theorem mX0_init_10 : (Cond.fieldLink RX0 29 "TradeWheel$Text" "current" "I" : Cond) ∈ wsX0_init := by decide +kernel
abbrev rmX0_init : Room := { frames := 1, cells := 3, slots := 1202, locals := 24 }
set_option maxHeartbeats 4000000 in
set_option maxRecDepth 100000 in
theorem kX0_init (l : Launch) (dC : Nat → ClassId) (dI : Nat → Nat → Nat) (Z : gZ) (cC cI cZ cW : ClassId) (a_o : Nat) (sz : Nat) : Met l yX0_init wsX0_init rmX0_init (va_Pc [.ref a_o] (gB (dC, dI) Z [(cC, .char), (cI, .int), (cZ, .boolean), (cW, .object RX3)] [(a_o, .inr (0, [.int 0, .null, .null, .null, .int 0, .int 0]))] sz)) (va_Qv (fun (_ : Unit) => True) (fun _ t => ∃ (a_o_signs : Nat) (a_o_tokens : Nat) (a_o_starts : Nat), va_P (dC, dI) vwCl [(a_o, .inr (0, [.int (0 : Int32), .ref a_o_signs, .ref a_o_tokens, .ref a_o_starts, .int (0 : Int32), .int (0 : Int32)])), (a_o_signs, .inl (cC, 400, .inl (fun _ => 0))), (a_o_tokens, .inl (cI, 401, .inl (fun _ => 0))), (a_o_starts, .inl (cI, 401, .inl (fun _ => 0)))] t.heap ∧ va_D (va_A [(a_o, .inr (0, [.int 0, .null, .null, .null, .int 0, .int 0]))] sz) [(a_o, .inr (0, [.int (0 : Int32), .ref a_o_signs, .ref a_o_tokens, .ref a_o_starts, .int (0 : Int32), .int (0 : Int32)])), (a_o_signs, .inl (cC, 400, .inl (fun _ => 0))), (a_o_tokens, .inl (cI, 401, .inl (fun _ => 0))), (a_o_starts, .inl (cI, 401, .inl (fun _ => 0)))]) (va_A [(a_o, .inr (0, [.int 0, .null, .null, .null, .int 0, .int 0]))] sz)) 3 1202 (va_A [(a_o, .inr (0, [.int 0, .null, .null, .null, .int 0, .int 0]))] sz) := by
  refine gMet (cc := cX0_init) (maxL := 1) (ret := none) (Qc := fun A => va_Qv (fun (_ : Unit) => True) (fun _ t => ∃ (a_o_signs : Nat) (a_o_tokens : Nat) (a_o_starts : Nat), va_P (dC, dI) vwCl [(a_o, .inr (0, [.int (0 : Int32), .ref a_o_signs, .ref a_o_tokens, .ref a_o_starts, .int (0 : Int32), .int (0 : Int32)])), (a_o_signs, .inl (cC, 400, .inl (fun _ => 0))), (a_o_tokens, .inl (cI, 401, .inl (fun _ => 0))), (a_o_starts, .inl (cI, 401, .inl (fun _ => 0)))] t.heap ∧ va_D (A) [(a_o, .inr (0, [.int (0 : Int32), .ref a_o_signs, .ref a_o_tokens, .ref a_o_starts, .int (0 : Int32), .int (0 : Int32)])), (a_o_signs, .inl (cC, 400, .inl (fun _ => 0))), (a_o_tokens, .inl (cI, 401, .inl (fun _ => 0))), (a_o_starts, .inl (cI, 401, .inl (fun _ => 0)))]) (A)) (by decide) rfl (Nat.le_of_ble_eq_true rfl) ?_
  intro p e s m below meth c A ls hg0 hin hsz hP hD hS hl
  obtain ⟨hx, hb, hr, hml, hown, hts, hlocks, hA, hK, hN⟩ := id hg0
  have hown : s.vm.findClass RX0 = some m.cls := hown
  have hin : meth.name = "<init>" := hin
  subst hsz
  have hF : CallFix p m c cX0_init 1 s _ wsX0_init RX0 := ⟨hx, hb, hml, hown, hts⟩
  have hl : lv_has ls 1 [(0, .ref a_o)] := hl
  refine lv_aload_n hx hb dX0_init_0 rfl (lv_at hl 0 rfl) ?_
  refine W.objInit hx hb hown (hts _ mX0_init_0) (hts _ mX0_init_1) (hts _ mX0_init_2) rfl (by rw [hml]; exact hl.1) rfl dX0_init_1 (Nat.le_of_ble_eq_true rfl) (Nat.le_of_ble_eq_true rfl) ?_
  refine W.eq (g2 := F0 m 4 ls []) rfl ?_
  refine lv_aload_n hx hb dX0_init_4 rfl (lv_at hl 0 rfl) ?_
  refine lv_iconst (v := (0 : Int32)) hx hb dX0_init_5 (by decide) ?_
  refine va_put (D := (dC, dI)) (ci := 0) (v := .int (0 : Int32)) (ty := .int) (C := RX0) (T := TX0) (N := 6) hx hb hts uX0_init_X0 tyX0 tyX0_ok nmX0 hown hK hP hD hS 0 rfl rfl 0 (by decide) (hts _ mX0_init_3) (fun _ h9 => h9) rfl (by decide +kernel) rfl rfl (Nat.le_of_ble_eq_true rfl) dX0_init_6 (fun H locs hP hD hS => ?_)
  have hP : va_P (dC, dI) vwCl [(a_o, .inr (0, [.int (0 : Int32), .null, .null, .null, .int 0, .int 0]))] H := hP
  have hD : va_D A [(a_o, .inr (0, [.int (0 : Int32), .null, .null, .null, .int 0, .int 0]))] := hD
  refine lv_aload_n hx hb dX0_init_9 rfl (lv_at hl 0 rfl) ?_
  refine lv_sipush (v := (400 : Int32)) hx hb dX0_init_10 (by decide) ?_
  refine va_newa (atype := .char) (ty := .char) (N' := 400) (a0 := (400, .inl (fun _ => 0))) hx hb (hts _ mX0_init_4) rfl hK hP hD hS hA (fun _ => rfl) (by decide) (by decide) (Nat.le_of_ble_eq_true rfl) (Nat.le_of_ble_eq_true rfl) (Nat.le_of_ble_eq_true rfl) dX0_init_13 (fun a_o_signs cA H hK2 hP hD hS => ?_)
  have hcA : cC = cA := gSame hK hK2 (by decide) (k := 0) rfl rfl
  subst hcA
  refine W.widen (k := 1) (n := 400) (Nat.le_of_ble_eq_true rfl) (Nat.le_of_ble_eq_true rfl) ?_
  have hP : va_P (dC, dI) vwCl [(a_o, .inr (0, [.int (0 : Int32), .null, .null, .null, .int 0, .int 0])), (a_o_signs, .inl (cC, 400, .inl (fun _ => 0)))] H := hP
  have hD : va_D A [(a_o, .inr (0, [.int (0 : Int32), .null, .null, .null, .int 0, .int 0])), (a_o_signs, .inl (cC, 400, .inl (fun _ => 0)))] := hD
  refine va_putF (D := (dC, dI)) (ci := 0) (v := .ref a_o_signs) (ty := .array .char) (C := RX0) (T := TX0) (N := 6) hx hb hts uX0_init_X0 tyX0 tyX0_ok nmX0 hown hK hP hD hS 0 rfl rfl 1 (by decide) (hts _ mX0_init_5) (fun _ h9 => h9) rfl hin rfl (by decide +kernel) rfl rfl (Nat.le_of_ble_eq_true rfl) dX0_init_15 (fun H locs hP hD hS => ?_)
  have hP : va_P (dC, dI) vwCl [(a_o, .inr (0, [.int (0 : Int32), .ref a_o_signs, .null, .null, .int 0, .int 0])), (a_o_signs, .inl (cC, 400, .inl (fun _ => 0)))] H := hP
  have hD : va_D A [(a_o, .inr (0, [.int (0 : Int32), .ref a_o_signs, .null, .null, .int 0, .int 0])), (a_o_signs, .inl (cC, 400, .inl (fun _ => 0)))] := hD
  refine lv_aload_n hx hb dX0_init_18 rfl (lv_at hl 0 rfl) ?_
  refine lv_sipush (v := (401 : Int32)) hx hb dX0_init_19 (by decide) ?_
  refine va_newa (atype := .int) (ty := .int) (N' := 401) (a0 := (401, .inl (fun _ => 0))) hx hb (hts _ mX0_init_6) rfl hK hP hD hS hA (fun _ => rfl) (by decide) (by decide) (Nat.le_of_ble_eq_true rfl) (Nat.le_of_ble_eq_true rfl) (Nat.le_of_ble_eq_true rfl) dX0_init_22 (fun a_o_tokens cA H hK2 hP hD hS => ?_)
  have hcA : cI = cA := gSame hK hK2 (by decide) (k := 1) rfl rfl
  subst hcA
  refine W.widen (k := 2) (n := 801) (Nat.le_of_ble_eq_true rfl) (Nat.le_of_ble_eq_true rfl) ?_
  have hP : va_P (dC, dI) vwCl [(a_o, .inr (0, [.int (0 : Int32), .ref a_o_signs, .null, .null, .int 0, .int 0])), (a_o_signs, .inl (cC, 400, .inl (fun _ => 0))), (a_o_tokens, .inl (cI, 401, .inl (fun _ => 0)))] H := hP
  have hD : va_D A [(a_o, .inr (0, [.int (0 : Int32), .ref a_o_signs, .null, .null, .int 0, .int 0])), (a_o_signs, .inl (cC, 400, .inl (fun _ => 0))), (a_o_tokens, .inl (cI, 401, .inl (fun _ => 0)))] := hD
  refine va_putF (D := (dC, dI)) (ci := 0) (v := .ref a_o_tokens) (ty := .array .int) (C := RX0) (T := TX0) (N := 6) hx hb hts uX0_init_X0 tyX0 tyX0_ok nmX0 hown hK hP hD hS 0 rfl rfl 2 (by decide) (hts _ mX0_init_7) (fun _ h9 => h9) rfl hin rfl (by decide +kernel) rfl rfl (Nat.le_of_ble_eq_true rfl) dX0_init_24 (fun H locs hP hD hS => ?_)
  have hP : va_P (dC, dI) vwCl [(a_o, .inr (0, [.int (0 : Int32), .ref a_o_signs, .ref a_o_tokens, .null, .int 0, .int 0])), (a_o_signs, .inl (cC, 400, .inl (fun _ => 0))), (a_o_tokens, .inl (cI, 401, .inl (fun _ => 0)))] H := hP
  have hD : va_D A [(a_o, .inr (0, [.int (0 : Int32), .ref a_o_signs, .ref a_o_tokens, .null, .int 0, .int 0])), (a_o_signs, .inl (cC, 400, .inl (fun _ => 0))), (a_o_tokens, .inl (cI, 401, .inl (fun _ => 0)))] := hD
  refine lv_aload_n hx hb dX0_init_27 rfl (lv_at hl 0 rfl) ?_
  refine lv_sipush (v := (401 : Int32)) hx hb dX0_init_28 (by decide) ?_
  refine va_newa (atype := .int) (ty := .int) (N' := 401) (a0 := (401, .inl (fun _ => 0))) hx hb (hts _ mX0_init_6) rfl hK hP hD hS hA (fun _ => rfl) (by decide) (by decide) (Nat.le_of_ble_eq_true rfl) (Nat.le_of_ble_eq_true rfl) (Nat.le_of_ble_eq_true rfl) dX0_init_31 (fun a_o_starts cA H hK2 hP hD hS => ?_)
  have hcA : cI = cA := gSame hK hK2 (by decide) (k := 1) rfl rfl
  subst hcA
  refine W.widen (k := 3) (n := 1202) (Nat.le_of_ble_eq_true rfl) (Nat.le_of_ble_eq_true rfl) ?_
  have hP : va_P (dC, dI) vwCl [(a_o, .inr (0, [.int (0 : Int32), .ref a_o_signs, .ref a_o_tokens, .null, .int 0, .int 0])), (a_o_signs, .inl (cC, 400, .inl (fun _ => 0))), (a_o_tokens, .inl (cI, 401, .inl (fun _ => 0))), (a_o_starts, .inl (cI, 401, .inl (fun _ => 0)))] H := hP
  have hD : va_D A [(a_o, .inr (0, [.int (0 : Int32), .ref a_o_signs, .ref a_o_tokens, .null, .int 0, .int 0])), (a_o_signs, .inl (cC, 400, .inl (fun _ => 0))), (a_o_tokens, .inl (cI, 401, .inl (fun _ => 0))), (a_o_starts, .inl (cI, 401, .inl (fun _ => 0)))] := hD
  refine va_putF (D := (dC, dI)) (ci := 0) (v := .ref a_o_starts) (ty := .array .int) (C := RX0) (T := TX0) (N := 6) hx hb hts uX0_init_X0 tyX0 tyX0_ok nmX0 hown hK hP hD hS 0 rfl rfl 3 (by decide) (hts _ mX0_init_8) (fun _ h9 => h9) rfl hin rfl (by decide +kernel) rfl rfl (Nat.le_of_ble_eq_true rfl) dX0_init_33 (fun H locs hP hD hS => ?_)
  have hP : va_P (dC, dI) vwCl [(a_o, .inr (0, [.int (0 : Int32), .ref a_o_signs, .ref a_o_tokens, .ref a_o_starts, .int 0, .int 0])), (a_o_signs, .inl (cC, 400, .inl (fun _ => 0))), (a_o_tokens, .inl (cI, 401, .inl (fun _ => 0))), (a_o_starts, .inl (cI, 401, .inl (fun _ => 0)))] H := hP
  have hD : va_D A [(a_o, .inr (0, [.int (0 : Int32), .ref a_o_signs, .ref a_o_tokens, .ref a_o_starts, .int 0, .int 0])), (a_o_signs, .inl (cC, 400, .inl (fun _ => 0))), (a_o_tokens, .inl (cI, 401, .inl (fun _ => 0))), (a_o_starts, .inl (cI, 401, .inl (fun _ => 0)))] := hD
  refine lv_aload_n hx hb dX0_init_36 rfl (lv_at hl 0 rfl) ?_
  refine lv_iconst (v := (0 : Int32)) hx hb dX0_init_37 (by decide) ?_
  refine va_put (D := (dC, dI)) (ci := 0) (v := .int (0 : Int32)) (ty := .int) (C := RX0) (T := TX0) (N := 6) hx hb hts uX0_init_X0 tyX0 tyX0_ok nmX0 hown hK hP hD hS 0 rfl rfl 4 (by decide) (hts _ mX0_init_9) (fun _ h9 => h9) rfl (by decide +kernel) rfl rfl (Nat.le_of_ble_eq_true rfl) dX0_init_38 (fun H locs hP hD hS => ?_)
  have hP : va_P (dC, dI) vwCl [(a_o, .inr (0, [.int (0 : Int32), .ref a_o_signs, .ref a_o_tokens, .ref a_o_starts, .int (0 : Int32), .int 0])), (a_o_signs, .inl (cC, 400, .inl (fun _ => 0))), (a_o_tokens, .inl (cI, 401, .inl (fun _ => 0))), (a_o_starts, .inl (cI, 401, .inl (fun _ => 0)))] H := hP
  have hD : va_D A [(a_o, .inr (0, [.int (0 : Int32), .ref a_o_signs, .ref a_o_tokens, .ref a_o_starts, .int (0 : Int32), .int 0])), (a_o_signs, .inl (cC, 400, .inl (fun _ => 0))), (a_o_tokens, .inl (cI, 401, .inl (fun _ => 0))), (a_o_starts, .inl (cI, 401, .inl (fun _ => 0)))] := hD
  refine lv_aload_n hx hb dX0_init_41 rfl (lv_at hl 0 rfl) ?_
  refine lv_iconst (v := (0 : Int32)) hx hb dX0_init_42 (by decide) ?_
  refine va_put (D := (dC, dI)) (ci := 0) (v := .int (0 : Int32)) (ty := .int) (C := RX0) (T := TX0) (N := 6) hx hb hts uX0_init_X0 tyX0 tyX0_ok nmX0 hown hK hP hD hS 0 rfl rfl 5 (by decide) (hts _ mX0_init_10) (fun _ h9 => h9) rfl (by decide +kernel) rfl rfl (Nat.le_of_ble_eq_true rfl) dX0_init_43 (fun H locs hP hD hS => ?_)
  have hP : va_P (dC, dI) vwCl [(a_o, .inr (0, [.int (0 : Int32), .ref a_o_signs, .ref a_o_tokens, .ref a_o_starts, .int (0 : Int32), .int (0 : Int32)])), (a_o_signs, .inl (cC, 400, .inl (fun _ => 0))), (a_o_tokens, .inl (cI, 401, .inl (fun _ => 0))), (a_o_starts, .inl (cI, 401, .inl (fun _ => 0)))] H := hP
  have hD : va_D A [(a_o, .inr (0, [.int (0 : Int32), .ref a_o_signs, .ref a_o_tokens, .ref a_o_starts, .int (0 : Int32), .int (0 : Int32)])), (a_o_signs, .inl (cC, 400, .inl (fun _ => 0))), (a_o_tokens, .inl (cI, 401, .inl (fun _ => 0))), (a_o_starts, .inl (cI, 401, .inl (fun _ => 0)))] := hD
  have hP9 := hP.sub (ws' := [(a_o, .inr (0, [.int (0 : Int32), .ref a_o_signs, .ref a_o_tokens, .ref a_o_starts, .int (0 : Int32), .int (0 : Int32)])), (a_o_signs, .inl (cC, 400, .inl (fun _ => 0))), (a_o_tokens, .inl (cI, 401, .inl (fun _ => 0))), (a_o_starts, .inl (cI, 401, .inl (fun _ => 0)))]) [0, 1, 2, 3] rfl
  have hD9 := hD.sub (ws' := [(a_o, .inr (0, [.int (0 : Int32), .ref a_o_signs, .ref a_o_tokens, .ref a_o_starts, .int (0 : Int32), .int (0 : Int32)])), (a_o_signs, .inl (cC, 400, .inl (fun _ => 0))), (a_o_tokens, .inl (cI, 401, .inl (fun _ => 0))), (a_o_starts, .inl (cI, 401, .inl (fun _ => 0)))]) [0, 1, 2, 3] (by decide) rfl
  refine W.widen (k := 3) (n := 1202) (Nat.le_of_ble_eq_true rfl) (Nat.le_of_ble_eq_true rfl) ?_
  exact W.vret hx hb hr (fun t ht hW => ⟨⟨(), rfl, trivial, a_o_signs, a_o_tokens, a_o_starts, by rw [ht]; exact hP9, hD9⟩, hS.F ht⟩) hS.2.2 dX0_init_46 hlocks
set_option maxRecDepth 20000 in
theorem uX1_init_X1 : ∀ w ∈ wsX10, w ∈ wsX1_init := by decide +kernel
set_option maxRecDepth 20000 in
theorem mX1_init_0 : (Cond.methodLink RX1 3 objectInit : Cond) ∈ wsX1_init := by decide +kernel
set_option maxRecDepth 20000 in
theorem mX1_init_1 : (Cond.instanceMethod objectInit : Cond) ∈ wsX1_init := by decide +kernel
set_option maxRecDepth 20000 in
theorem mX1_init_2 : (Cond.code objectInit ⟨#[0xb1]⟩ 1 none : Cond) ∈ wsX1_init := by decide +kernel
set_option maxRecDepth 20000 in
theorem mX1_init_3 : (Cond.fieldLink RX1 9 "TradeWheel$Told" "trades" "I" : Cond) ∈ wsX1_init := by decide +kernel
set_option maxRecDepth 20000 in
theorem mX1_init_4 : (Cond.fieldLink RX1 15 "TradeWheel$Told" "people" "I" : Cond) ∈ wsX1_init := by decide +kernel
set_option maxRecDepth 20000 in
theorem mX1_init_5 : (Cond.arrayClass .int : Cond) ∈ wsX1_init := by decide +kernel
set_option maxRecDepth 20000 in
theorem mX1_init_6 : (Cond.fieldLink RX1 18 "TradeWheel$Told" "needs" "[I" : Cond) ∈ wsX1_init := by decide +kernel
set_option maxRecDepth 20000 in
theorem mX1_init_7 : (Cond.fieldLink RX1 22 "TradeWheel$Told" "yields" "[I" : Cond) ∈ wsX1_init := by decide +kernel
set_option maxRecDepth 20000 in
theorem mX1_init_8 : (Cond.fieldLink RX1 25 "TradeWheel$Told" "skips" "[I" : Cond) ∈ wsX1_init := by decide +kernel
set_option maxRecDepth 20000 in
theorem mX1_init_9 : (Cond.fieldLink RX1 28 "TradeWheel$Told" "skills" "[I" : Cond) ∈ wsX1_init := by decide +kernel
set_option maxRecDepth 20000 in
theorem mX1_init_10 : (Cond.fieldLink RX1 31 "TradeWheel$Told" "places" "[I" : Cond) ∈ wsX1_init := by decide +kernel
set_option maxRecDepth 20000 in
theorem mX1_init_11 : (Cond.fieldLink RX1 34 "TradeWheel$Told" "wheel" "[I" : Cond) ∈ wsX1_init := by decide +kernel
set_option maxRecDepth 20000 in
theorem mX1_init_12 : (Cond.fieldLink RX1 37 "TradeWheel$Told" "tradesEnded" "Z" : Cond) ∈ wsX1_init := by decide +kernel
abbrev rmX1_init : Room := { frames := 1, cells := 6, slots := 66, locals := 24 }
set_option maxHeartbeats 4000000 in
set_option maxRecDepth 100000 in
theorem kX1_init (l : Launch) (dC : Nat → ClassId) (dI : Nat → Nat → Nat) (Z : gZ) (cC cI cZ cW : ClassId) (a_o : Nat) (sz : Nat) : Met l yX1_init wsX1_init rmX1_init (va_Pc [.ref a_o] (gB (dC, dI) Z [(cC, .char), (cI, .int), (cZ, .boolean), (cW, .object RX3)] [(a_o, .inr (1, [.int 0, .int 0, .null, .null, .null, .null, .null, .null, .int 0]))] sz)) (va_Qv (fun (_ : Unit) => True) (fun _ t => ∃ (a_o_needs : Nat) (a_o_yields : Nat) (a_o_skips : Nat) (a_o_skills : Nat) (a_o_places : Nat) (a_o_wheel : Nat), va_P (dC, dI) vwCl [(a_o, .inr (1, [.int (0 : Int32), .int (0 : Int32), .ref a_o_needs, .ref a_o_yields, .ref a_o_skips, .ref a_o_skills, .ref a_o_places, .ref a_o_wheel, .int (0 : Int32)])), (a_o_needs, .inl (cI, 6, .inl (fun _ => 0))), (a_o_yields, .inl (cI, 6, .inl (fun _ => 0))), (a_o_skips, .inl (cI, 6, .inl (fun _ => 0))), (a_o_skills, .inl (cI, 36, .inl (fun _ => 0))), (a_o_places, .inl (cI, 6, .inl (fun _ => 0))), (a_o_wheel, .inl (cI, 6, .inl (fun _ => 0)))] t.heap ∧ va_D (va_A [(a_o, .inr (1, [.int 0, .int 0, .null, .null, .null, .null, .null, .null, .int 0]))] sz) [(a_o, .inr (1, [.int (0 : Int32), .int (0 : Int32), .ref a_o_needs, .ref a_o_yields, .ref a_o_skips, .ref a_o_skills, .ref a_o_places, .ref a_o_wheel, .int (0 : Int32)])), (a_o_needs, .inl (cI, 6, .inl (fun _ => 0))), (a_o_yields, .inl (cI, 6, .inl (fun _ => 0))), (a_o_skips, .inl (cI, 6, .inl (fun _ => 0))), (a_o_skills, .inl (cI, 36, .inl (fun _ => 0))), (a_o_places, .inl (cI, 6, .inl (fun _ => 0))), (a_o_wheel, .inl (cI, 6, .inl (fun _ => 0)))]) (va_A [(a_o, .inr (1, [.int 0, .int 0, .null, .null, .null, .null, .null, .null, .int 0]))] sz)) 6 66 (va_A [(a_o, .inr (1, [.int 0, .int 0, .null, .null, .null, .null, .null, .null, .int 0]))] sz) := by
  refine gMet (cc := cX1_init) (maxL := 1) (ret := none) (Qc := fun A => va_Qv (fun (_ : Unit) => True) (fun _ t => ∃ (a_o_needs : Nat) (a_o_yields : Nat) (a_o_skips : Nat) (a_o_skills : Nat) (a_o_places : Nat) (a_o_wheel : Nat), va_P (dC, dI) vwCl [(a_o, .inr (1, [.int (0 : Int32), .int (0 : Int32), .ref a_o_needs, .ref a_o_yields, .ref a_o_skips, .ref a_o_skills, .ref a_o_places, .ref a_o_wheel, .int (0 : Int32)])), (a_o_needs, .inl (cI, 6, .inl (fun _ => 0))), (a_o_yields, .inl (cI, 6, .inl (fun _ => 0))), (a_o_skips, .inl (cI, 6, .inl (fun _ => 0))), (a_o_skills, .inl (cI, 36, .inl (fun _ => 0))), (a_o_places, .inl (cI, 6, .inl (fun _ => 0))), (a_o_wheel, .inl (cI, 6, .inl (fun _ => 0)))] t.heap ∧ va_D (A) [(a_o, .inr (1, [.int (0 : Int32), .int (0 : Int32), .ref a_o_needs, .ref a_o_yields, .ref a_o_skips, .ref a_o_skills, .ref a_o_places, .ref a_o_wheel, .int (0 : Int32)])), (a_o_needs, .inl (cI, 6, .inl (fun _ => 0))), (a_o_yields, .inl (cI, 6, .inl (fun _ => 0))), (a_o_skips, .inl (cI, 6, .inl (fun _ => 0))), (a_o_skills, .inl (cI, 36, .inl (fun _ => 0))), (a_o_places, .inl (cI, 6, .inl (fun _ => 0))), (a_o_wheel, .inl (cI, 6, .inl (fun _ => 0)))]) (A)) (by decide) rfl (Nat.le_of_ble_eq_true rfl) ?_
  intro p e s m below meth c A ls hg0 hin hsz hP hD hS hl
  obtain ⟨hx, hb, hr, hml, hown, hts, hlocks, hA, hK, hN⟩ := id hg0
  have hown : s.vm.findClass RX1 = some m.cls := hown
  have hin : meth.name = "<init>" := hin
  subst hsz
  have hF : CallFix p m c cX1_init 1 s _ wsX1_init RX1 := ⟨hx, hb, hml, hown, hts⟩
  have hl : lv_has ls 1 [(0, .ref a_o)] := hl
  refine lv_aload_n hx hb dX1_init_0 rfl (lv_at hl 0 rfl) ?_
  refine W.objInit hx hb hown (hts _ mX1_init_0) (hts _ mX1_init_1) (hts _ mX1_init_2) rfl (by rw [hml]; exact hl.1) rfl dX1_init_1 (Nat.le_of_ble_eq_true rfl) (Nat.le_of_ble_eq_true rfl) ?_
  refine W.eq (g2 := F0 m 4 ls []) rfl ?_
  refine lv_aload_n hx hb dX1_init_4 rfl (lv_at hl 0 rfl) ?_
  refine lv_iconst (v := (0 : Int32)) hx hb dX1_init_5 (by decide) ?_
  refine va_put (D := (dC, dI)) (ci := 1) (v := .int (0 : Int32)) (ty := .int) (C := RX1) (T := TX1) (N := 9) hx hb hts uX1_init_X1 tyX1 tyX1_ok nmX1 hown hK hP hD hS 0 rfl rfl 0 (by decide) (hts _ mX1_init_3) (fun _ h9 => h9) rfl (by decide +kernel) rfl rfl (Nat.le_of_ble_eq_true rfl) dX1_init_6 (fun H locs hP hD hS => ?_)
  have hP : va_P (dC, dI) vwCl [(a_o, .inr (1, [.int (0 : Int32), .int 0, .null, .null, .null, .null, .null, .null, .int 0]))] H := hP
  have hD : va_D A [(a_o, .inr (1, [.int (0 : Int32), .int 0, .null, .null, .null, .null, .null, .null, .int 0]))] := hD
  refine lv_aload_n hx hb dX1_init_9 rfl (lv_at hl 0 rfl) ?_
  refine lv_iconst (v := (0 : Int32)) hx hb dX1_init_10 (by decide) ?_
  refine va_put (D := (dC, dI)) (ci := 1) (v := .int (0 : Int32)) (ty := .int) (C := RX1) (T := TX1) (N := 9) hx hb hts uX1_init_X1 tyX1 tyX1_ok nmX1 hown hK hP hD hS 0 rfl rfl 1 (by decide) (hts _ mX1_init_4) (fun _ h9 => h9) rfl (by decide +kernel) rfl rfl (Nat.le_of_ble_eq_true rfl) dX1_init_11 (fun H locs hP hD hS => ?_)
  have hP : va_P (dC, dI) vwCl [(a_o, .inr (1, [.int (0 : Int32), .int (0 : Int32), .null, .null, .null, .null, .null, .null, .int 0]))] H := hP
  have hD : va_D A [(a_o, .inr (1, [.int (0 : Int32), .int (0 : Int32), .null, .null, .null, .null, .null, .null, .int 0]))] := hD
  refine lv_aload_n hx hb dX1_init_14 rfl (lv_at hl 0 rfl) ?_
  refine lv_bipush (v := (6 : Int32)) hx hb dX1_init_15 (by decide) ?_
  refine va_newa (atype := .int) (ty := .int) (N' := 6) (a0 := (6, .inl (fun _ => 0))) hx hb (hts _ mX1_init_5) rfl hK hP hD hS hA (fun _ => rfl) (by decide) (by decide) (Nat.le_of_ble_eq_true rfl) (Nat.le_of_ble_eq_true rfl) (Nat.le_of_ble_eq_true rfl) dX1_init_17 (fun a_o_needs cA H hK2 hP hD hS => ?_)
  have hcA : cI = cA := gSame hK hK2 (by decide) (k := 1) rfl rfl
  subst hcA
  refine W.widen (k := 1) (n := 6) (Nat.le_of_ble_eq_true rfl) (Nat.le_of_ble_eq_true rfl) ?_
  have hP : va_P (dC, dI) vwCl [(a_o, .inr (1, [.int (0 : Int32), .int (0 : Int32), .null, .null, .null, .null, .null, .null, .int 0])), (a_o_needs, .inl (cI, 6, .inl (fun _ => 0)))] H := hP
  have hD : va_D A [(a_o, .inr (1, [.int (0 : Int32), .int (0 : Int32), .null, .null, .null, .null, .null, .null, .int 0])), (a_o_needs, .inl (cI, 6, .inl (fun _ => 0)))] := hD
  refine va_putF (D := (dC, dI)) (ci := 1) (v := .ref a_o_needs) (ty := .array .int) (C := RX1) (T := TX1) (N := 9) hx hb hts uX1_init_X1 tyX1 tyX1_ok nmX1 hown hK hP hD hS 0 rfl rfl 2 (by decide) (hts _ mX1_init_6) (fun _ h9 => h9) rfl hin rfl (by decide +kernel) rfl rfl (Nat.le_of_ble_eq_true rfl) dX1_init_19 (fun H locs hP hD hS => ?_)
  have hP : va_P (dC, dI) vwCl [(a_o, .inr (1, [.int (0 : Int32), .int (0 : Int32), .ref a_o_needs, .null, .null, .null, .null, .null, .int 0])), (a_o_needs, .inl (cI, 6, .inl (fun _ => 0)))] H := hP
  have hD : va_D A [(a_o, .inr (1, [.int (0 : Int32), .int (0 : Int32), .ref a_o_needs, .null, .null, .null, .null, .null, .int 0])), (a_o_needs, .inl (cI, 6, .inl (fun _ => 0)))] := hD
  refine lv_aload_n hx hb dX1_init_22 rfl (lv_at hl 0 rfl) ?_
  refine lv_bipush (v := (6 : Int32)) hx hb dX1_init_23 (by decide) ?_
  refine va_newa (atype := .int) (ty := .int) (N' := 6) (a0 := (6, .inl (fun _ => 0))) hx hb (hts _ mX1_init_5) rfl hK hP hD hS hA (fun _ => rfl) (by decide) (by decide) (Nat.le_of_ble_eq_true rfl) (Nat.le_of_ble_eq_true rfl) (Nat.le_of_ble_eq_true rfl) dX1_init_25 (fun a_o_yields cA H hK2 hP hD hS => ?_)
  have hcA : cI = cA := gSame hK hK2 (by decide) (k := 1) rfl rfl
  subst hcA
  refine W.widen (k := 2) (n := 12) (Nat.le_of_ble_eq_true rfl) (Nat.le_of_ble_eq_true rfl) ?_
  have hP : va_P (dC, dI) vwCl [(a_o, .inr (1, [.int (0 : Int32), .int (0 : Int32), .ref a_o_needs, .null, .null, .null, .null, .null, .int 0])), (a_o_needs, .inl (cI, 6, .inl (fun _ => 0))), (a_o_yields, .inl (cI, 6, .inl (fun _ => 0)))] H := hP
  have hD : va_D A [(a_o, .inr (1, [.int (0 : Int32), .int (0 : Int32), .ref a_o_needs, .null, .null, .null, .null, .null, .int 0])), (a_o_needs, .inl (cI, 6, .inl (fun _ => 0))), (a_o_yields, .inl (cI, 6, .inl (fun _ => 0)))] := hD
  refine va_putF (D := (dC, dI)) (ci := 1) (v := .ref a_o_yields) (ty := .array .int) (C := RX1) (T := TX1) (N := 9) hx hb hts uX1_init_X1 tyX1 tyX1_ok nmX1 hown hK hP hD hS 0 rfl rfl 3 (by decide) (hts _ mX1_init_7) (fun _ h9 => h9) rfl hin rfl (by decide +kernel) rfl rfl (Nat.le_of_ble_eq_true rfl) dX1_init_27 (fun H locs hP hD hS => ?_)
  have hP : va_P (dC, dI) vwCl [(a_o, .inr (1, [.int (0 : Int32), .int (0 : Int32), .ref a_o_needs, .ref a_o_yields, .null, .null, .null, .null, .int 0])), (a_o_needs, .inl (cI, 6, .inl (fun _ => 0))), (a_o_yields, .inl (cI, 6, .inl (fun _ => 0)))] H := hP
  have hD : va_D A [(a_o, .inr (1, [.int (0 : Int32), .int (0 : Int32), .ref a_o_needs, .ref a_o_yields, .null, .null, .null, .null, .int 0])), (a_o_needs, .inl (cI, 6, .inl (fun _ => 0))), (a_o_yields, .inl (cI, 6, .inl (fun _ => 0)))] := hD
  refine lv_aload_n hx hb dX1_init_30 rfl (lv_at hl 0 rfl) ?_
  refine lv_bipush (v := (6 : Int32)) hx hb dX1_init_31 (by decide) ?_
  refine va_newa (atype := .int) (ty := .int) (N' := 6) (a0 := (6, .inl (fun _ => 0))) hx hb (hts _ mX1_init_5) rfl hK hP hD hS hA (fun _ => rfl) (by decide) (by decide) (Nat.le_of_ble_eq_true rfl) (Nat.le_of_ble_eq_true rfl) (Nat.le_of_ble_eq_true rfl) dX1_init_33 (fun a_o_skips cA H hK2 hP hD hS => ?_)
  have hcA : cI = cA := gSame hK hK2 (by decide) (k := 1) rfl rfl
  subst hcA
  refine W.widen (k := 3) (n := 18) (Nat.le_of_ble_eq_true rfl) (Nat.le_of_ble_eq_true rfl) ?_
  have hP : va_P (dC, dI) vwCl [(a_o, .inr (1, [.int (0 : Int32), .int (0 : Int32), .ref a_o_needs, .ref a_o_yields, .null, .null, .null, .null, .int 0])), (a_o_needs, .inl (cI, 6, .inl (fun _ => 0))), (a_o_yields, .inl (cI, 6, .inl (fun _ => 0))), (a_o_skips, .inl (cI, 6, .inl (fun _ => 0)))] H := hP
  have hD : va_D A [(a_o, .inr (1, [.int (0 : Int32), .int (0 : Int32), .ref a_o_needs, .ref a_o_yields, .null, .null, .null, .null, .int 0])), (a_o_needs, .inl (cI, 6, .inl (fun _ => 0))), (a_o_yields, .inl (cI, 6, .inl (fun _ => 0))), (a_o_skips, .inl (cI, 6, .inl (fun _ => 0)))] := hD
  refine va_putF (D := (dC, dI)) (ci := 1) (v := .ref a_o_skips) (ty := .array .int) (C := RX1) (T := TX1) (N := 9) hx hb hts uX1_init_X1 tyX1 tyX1_ok nmX1 hown hK hP hD hS 0 rfl rfl 4 (by decide) (hts _ mX1_init_8) (fun _ h9 => h9) rfl hin rfl (by decide +kernel) rfl rfl (Nat.le_of_ble_eq_true rfl) dX1_init_35 (fun H locs hP hD hS => ?_)
  have hP : va_P (dC, dI) vwCl [(a_o, .inr (1, [.int (0 : Int32), .int (0 : Int32), .ref a_o_needs, .ref a_o_yields, .ref a_o_skips, .null, .null, .null, .int 0])), (a_o_needs, .inl (cI, 6, .inl (fun _ => 0))), (a_o_yields, .inl (cI, 6, .inl (fun _ => 0))), (a_o_skips, .inl (cI, 6, .inl (fun _ => 0)))] H := hP
  have hD : va_D A [(a_o, .inr (1, [.int (0 : Int32), .int (0 : Int32), .ref a_o_needs, .ref a_o_yields, .ref a_o_skips, .null, .null, .null, .int 0])), (a_o_needs, .inl (cI, 6, .inl (fun _ => 0))), (a_o_yields, .inl (cI, 6, .inl (fun _ => 0))), (a_o_skips, .inl (cI, 6, .inl (fun _ => 0)))] := hD
  refine lv_aload_n hx hb dX1_init_38 rfl (lv_at hl 0 rfl) ?_
  refine lv_bipush (v := (36 : Int32)) hx hb dX1_init_39 (by decide) ?_
  refine va_newa (atype := .int) (ty := .int) (N' := 36) (a0 := (36, .inl (fun _ => 0))) hx hb (hts _ mX1_init_5) rfl hK hP hD hS hA (fun _ => rfl) (by decide) (by decide) (Nat.le_of_ble_eq_true rfl) (Nat.le_of_ble_eq_true rfl) (Nat.le_of_ble_eq_true rfl) dX1_init_41 (fun a_o_skills cA H hK2 hP hD hS => ?_)
  have hcA : cI = cA := gSame hK hK2 (by decide) (k := 1) rfl rfl
  subst hcA
  refine W.widen (k := 4) (n := 54) (Nat.le_of_ble_eq_true rfl) (Nat.le_of_ble_eq_true rfl) ?_
  have hP : va_P (dC, dI) vwCl [(a_o, .inr (1, [.int (0 : Int32), .int (0 : Int32), .ref a_o_needs, .ref a_o_yields, .ref a_o_skips, .null, .null, .null, .int 0])), (a_o_needs, .inl (cI, 6, .inl (fun _ => 0))), (a_o_yields, .inl (cI, 6, .inl (fun _ => 0))), (a_o_skips, .inl (cI, 6, .inl (fun _ => 0))), (a_o_skills, .inl (cI, 36, .inl (fun _ => 0)))] H := hP
  have hD : va_D A [(a_o, .inr (1, [.int (0 : Int32), .int (0 : Int32), .ref a_o_needs, .ref a_o_yields, .ref a_o_skips, .null, .null, .null, .int 0])), (a_o_needs, .inl (cI, 6, .inl (fun _ => 0))), (a_o_yields, .inl (cI, 6, .inl (fun _ => 0))), (a_o_skips, .inl (cI, 6, .inl (fun _ => 0))), (a_o_skills, .inl (cI, 36, .inl (fun _ => 0)))] := hD
  refine va_putF (D := (dC, dI)) (ci := 1) (v := .ref a_o_skills) (ty := .array .int) (C := RX1) (T := TX1) (N := 9) hx hb hts uX1_init_X1 tyX1 tyX1_ok nmX1 hown hK hP hD hS 0 rfl rfl 5 (by decide) (hts _ mX1_init_9) (fun _ h9 => h9) rfl hin rfl (by decide +kernel) rfl rfl (Nat.le_of_ble_eq_true rfl) dX1_init_43 (fun H locs hP hD hS => ?_)
  have hP : va_P (dC, dI) vwCl [(a_o, .inr (1, [.int (0 : Int32), .int (0 : Int32), .ref a_o_needs, .ref a_o_yields, .ref a_o_skips, .ref a_o_skills, .null, .null, .int 0])), (a_o_needs, .inl (cI, 6, .inl (fun _ => 0))), (a_o_yields, .inl (cI, 6, .inl (fun _ => 0))), (a_o_skips, .inl (cI, 6, .inl (fun _ => 0))), (a_o_skills, .inl (cI, 36, .inl (fun _ => 0)))] H := hP
  have hD : va_D A [(a_o, .inr (1, [.int (0 : Int32), .int (0 : Int32), .ref a_o_needs, .ref a_o_yields, .ref a_o_skips, .ref a_o_skills, .null, .null, .int 0])), (a_o_needs, .inl (cI, 6, .inl (fun _ => 0))), (a_o_yields, .inl (cI, 6, .inl (fun _ => 0))), (a_o_skips, .inl (cI, 6, .inl (fun _ => 0))), (a_o_skills, .inl (cI, 36, .inl (fun _ => 0)))] := hD
  refine lv_aload_n hx hb dX1_init_46 rfl (lv_at hl 0 rfl) ?_
  refine lv_bipush (v := (6 : Int32)) hx hb dX1_init_47 (by decide) ?_
  refine va_newa (atype := .int) (ty := .int) (N' := 6) (a0 := (6, .inl (fun _ => 0))) hx hb (hts _ mX1_init_5) rfl hK hP hD hS hA (fun _ => rfl) (by decide) (by decide) (Nat.le_of_ble_eq_true rfl) (Nat.le_of_ble_eq_true rfl) (Nat.le_of_ble_eq_true rfl) dX1_init_49 (fun a_o_places cA H hK2 hP hD hS => ?_)
  have hcA : cI = cA := gSame hK hK2 (by decide) (k := 1) rfl rfl
  subst hcA
  refine W.widen (k := 5) (n := 60) (Nat.le_of_ble_eq_true rfl) (Nat.le_of_ble_eq_true rfl) ?_
  have hP : va_P (dC, dI) vwCl [(a_o, .inr (1, [.int (0 : Int32), .int (0 : Int32), .ref a_o_needs, .ref a_o_yields, .ref a_o_skips, .ref a_o_skills, .null, .null, .int 0])), (a_o_needs, .inl (cI, 6, .inl (fun _ => 0))), (a_o_yields, .inl (cI, 6, .inl (fun _ => 0))), (a_o_skips, .inl (cI, 6, .inl (fun _ => 0))), (a_o_skills, .inl (cI, 36, .inl (fun _ => 0))), (a_o_places, .inl (cI, 6, .inl (fun _ => 0)))] H := hP
  have hD : va_D A [(a_o, .inr (1, [.int (0 : Int32), .int (0 : Int32), .ref a_o_needs, .ref a_o_yields, .ref a_o_skips, .ref a_o_skills, .null, .null, .int 0])), (a_o_needs, .inl (cI, 6, .inl (fun _ => 0))), (a_o_yields, .inl (cI, 6, .inl (fun _ => 0))), (a_o_skips, .inl (cI, 6, .inl (fun _ => 0))), (a_o_skills, .inl (cI, 36, .inl (fun _ => 0))), (a_o_places, .inl (cI, 6, .inl (fun _ => 0)))] := hD
  refine va_putF (D := (dC, dI)) (ci := 1) (v := .ref a_o_places) (ty := .array .int) (C := RX1) (T := TX1) (N := 9) hx hb hts uX1_init_X1 tyX1 tyX1_ok nmX1 hown hK hP hD hS 0 rfl rfl 6 (by decide) (hts _ mX1_init_10) (fun _ h9 => h9) rfl hin rfl (by decide +kernel) rfl rfl (Nat.le_of_ble_eq_true rfl) dX1_init_51 (fun H locs hP hD hS => ?_)
  have hP : va_P (dC, dI) vwCl [(a_o, .inr (1, [.int (0 : Int32), .int (0 : Int32), .ref a_o_needs, .ref a_o_yields, .ref a_o_skips, .ref a_o_skills, .ref a_o_places, .null, .int 0])), (a_o_needs, .inl (cI, 6, .inl (fun _ => 0))), (a_o_yields, .inl (cI, 6, .inl (fun _ => 0))), (a_o_skips, .inl (cI, 6, .inl (fun _ => 0))), (a_o_skills, .inl (cI, 36, .inl (fun _ => 0))), (a_o_places, .inl (cI, 6, .inl (fun _ => 0)))] H := hP
  have hD : va_D A [(a_o, .inr (1, [.int (0 : Int32), .int (0 : Int32), .ref a_o_needs, .ref a_o_yields, .ref a_o_skips, .ref a_o_skills, .ref a_o_places, .null, .int 0])), (a_o_needs, .inl (cI, 6, .inl (fun _ => 0))), (a_o_yields, .inl (cI, 6, .inl (fun _ => 0))), (a_o_skips, .inl (cI, 6, .inl (fun _ => 0))), (a_o_skills, .inl (cI, 36, .inl (fun _ => 0))), (a_o_places, .inl (cI, 6, .inl (fun _ => 0)))] := hD
  refine lv_aload_n hx hb dX1_init_54 rfl (lv_at hl 0 rfl) ?_
  refine lv_bipush (v := (6 : Int32)) hx hb dX1_init_55 (by decide) ?_
  refine va_newa (atype := .int) (ty := .int) (N' := 6) (a0 := (6, .inl (fun _ => 0))) hx hb (hts _ mX1_init_5) rfl hK hP hD hS hA (fun _ => rfl) (by decide) (by decide) (Nat.le_of_ble_eq_true rfl) (Nat.le_of_ble_eq_true rfl) (Nat.le_of_ble_eq_true rfl) dX1_init_57 (fun a_o_wheel cA H hK2 hP hD hS => ?_)
  have hcA : cI = cA := gSame hK hK2 (by decide) (k := 1) rfl rfl
  subst hcA
  refine W.widen (k := 6) (n := 66) (Nat.le_of_ble_eq_true rfl) (Nat.le_of_ble_eq_true rfl) ?_
  have hP : va_P (dC, dI) vwCl [(a_o, .inr (1, [.int (0 : Int32), .int (0 : Int32), .ref a_o_needs, .ref a_o_yields, .ref a_o_skips, .ref a_o_skills, .ref a_o_places, .null, .int 0])), (a_o_needs, .inl (cI, 6, .inl (fun _ => 0))), (a_o_yields, .inl (cI, 6, .inl (fun _ => 0))), (a_o_skips, .inl (cI, 6, .inl (fun _ => 0))), (a_o_skills, .inl (cI, 36, .inl (fun _ => 0))), (a_o_places, .inl (cI, 6, .inl (fun _ => 0))), (a_o_wheel, .inl (cI, 6, .inl (fun _ => 0)))] H := hP
  have hD : va_D A [(a_o, .inr (1, [.int (0 : Int32), .int (0 : Int32), .ref a_o_needs, .ref a_o_yields, .ref a_o_skips, .ref a_o_skills, .ref a_o_places, .null, .int 0])), (a_o_needs, .inl (cI, 6, .inl (fun _ => 0))), (a_o_yields, .inl (cI, 6, .inl (fun _ => 0))), (a_o_skips, .inl (cI, 6, .inl (fun _ => 0))), (a_o_skills, .inl (cI, 36, .inl (fun _ => 0))), (a_o_places, .inl (cI, 6, .inl (fun _ => 0))), (a_o_wheel, .inl (cI, 6, .inl (fun _ => 0)))] := hD
  refine va_putF (D := (dC, dI)) (ci := 1) (v := .ref a_o_wheel) (ty := .array .int) (C := RX1) (T := TX1) (N := 9) hx hb hts uX1_init_X1 tyX1 tyX1_ok nmX1 hown hK hP hD hS 0 rfl rfl 7 (by decide) (hts _ mX1_init_11) (fun _ h9 => h9) rfl hin rfl (by decide +kernel) rfl rfl (Nat.le_of_ble_eq_true rfl) dX1_init_59 (fun H locs hP hD hS => ?_)
  have hP : va_P (dC, dI) vwCl [(a_o, .inr (1, [.int (0 : Int32), .int (0 : Int32), .ref a_o_needs, .ref a_o_yields, .ref a_o_skips, .ref a_o_skills, .ref a_o_places, .ref a_o_wheel, .int 0])), (a_o_needs, .inl (cI, 6, .inl (fun _ => 0))), (a_o_yields, .inl (cI, 6, .inl (fun _ => 0))), (a_o_skips, .inl (cI, 6, .inl (fun _ => 0))), (a_o_skills, .inl (cI, 36, .inl (fun _ => 0))), (a_o_places, .inl (cI, 6, .inl (fun _ => 0))), (a_o_wheel, .inl (cI, 6, .inl (fun _ => 0)))] H := hP
  have hD : va_D A [(a_o, .inr (1, [.int (0 : Int32), .int (0 : Int32), .ref a_o_needs, .ref a_o_yields, .ref a_o_skips, .ref a_o_skills, .ref a_o_places, .ref a_o_wheel, .int 0])), (a_o_needs, .inl (cI, 6, .inl (fun _ => 0))), (a_o_yields, .inl (cI, 6, .inl (fun _ => 0))), (a_o_skips, .inl (cI, 6, .inl (fun _ => 0))), (a_o_skills, .inl (cI, 36, .inl (fun _ => 0))), (a_o_places, .inl (cI, 6, .inl (fun _ => 0))), (a_o_wheel, .inl (cI, 6, .inl (fun _ => 0)))] := hD
  refine lv_aload_n hx hb dX1_init_62 rfl (lv_at hl 0 rfl) ?_
  refine lv_iconst (v := (0 : Int32)) hx hb dX1_init_63 (by decide) ?_
  refine va_put (D := (dC, dI)) (ci := 1) (v := .int (0 : Int32)) (ty := .boolean) (C := RX1) (T := TX1) (N := 9) hx hb hts uX1_init_X1 tyX1 tyX1_ok nmX1 hown hK hP hD hS 0 rfl rfl 8 (by decide) (hts _ mX1_init_12) (fun _ h9 => h9) rfl (by decide +kernel) rfl rfl (Nat.le_of_ble_eq_true rfl) dX1_init_64 (fun H locs hP hD hS => ?_)
  have hP : va_P (dC, dI) vwCl [(a_o, .inr (1, [.int (0 : Int32), .int (0 : Int32), .ref a_o_needs, .ref a_o_yields, .ref a_o_skips, .ref a_o_skills, .ref a_o_places, .ref a_o_wheel, .int (0 : Int32)])), (a_o_needs, .inl (cI, 6, .inl (fun _ => 0))), (a_o_yields, .inl (cI, 6, .inl (fun _ => 0))), (a_o_skips, .inl (cI, 6, .inl (fun _ => 0))), (a_o_skills, .inl (cI, 36, .inl (fun _ => 0))), (a_o_places, .inl (cI, 6, .inl (fun _ => 0))), (a_o_wheel, .inl (cI, 6, .inl (fun _ => 0)))] H := hP
  have hD : va_D A [(a_o, .inr (1, [.int (0 : Int32), .int (0 : Int32), .ref a_o_needs, .ref a_o_yields, .ref a_o_skips, .ref a_o_skills, .ref a_o_places, .ref a_o_wheel, .int (0 : Int32)])), (a_o_needs, .inl (cI, 6, .inl (fun _ => 0))), (a_o_yields, .inl (cI, 6, .inl (fun _ => 0))), (a_o_skips, .inl (cI, 6, .inl (fun _ => 0))), (a_o_skills, .inl (cI, 36, .inl (fun _ => 0))), (a_o_places, .inl (cI, 6, .inl (fun _ => 0))), (a_o_wheel, .inl (cI, 6, .inl (fun _ => 0)))] := hD
  have hP9 := hP.sub (ws' := [(a_o, .inr (1, [.int (0 : Int32), .int (0 : Int32), .ref a_o_needs, .ref a_o_yields, .ref a_o_skips, .ref a_o_skills, .ref a_o_places, .ref a_o_wheel, .int (0 : Int32)])), (a_o_needs, .inl (cI, 6, .inl (fun _ => 0))), (a_o_yields, .inl (cI, 6, .inl (fun _ => 0))), (a_o_skips, .inl (cI, 6, .inl (fun _ => 0))), (a_o_skills, .inl (cI, 36, .inl (fun _ => 0))), (a_o_places, .inl (cI, 6, .inl (fun _ => 0))), (a_o_wheel, .inl (cI, 6, .inl (fun _ => 0)))]) [0, 1, 2, 3, 4, 5, 6] rfl
  have hD9 := hD.sub (ws' := [(a_o, .inr (1, [.int (0 : Int32), .int (0 : Int32), .ref a_o_needs, .ref a_o_yields, .ref a_o_skips, .ref a_o_skills, .ref a_o_places, .ref a_o_wheel, .int (0 : Int32)])), (a_o_needs, .inl (cI, 6, .inl (fun _ => 0))), (a_o_yields, .inl (cI, 6, .inl (fun _ => 0))), (a_o_skips, .inl (cI, 6, .inl (fun _ => 0))), (a_o_skills, .inl (cI, 36, .inl (fun _ => 0))), (a_o_places, .inl (cI, 6, .inl (fun _ => 0))), (a_o_wheel, .inl (cI, 6, .inl (fun _ => 0)))]) [0, 1, 2, 3, 4, 5, 6] (by decide) rfl
  refine W.widen (k := 6) (n := 66) (Nat.le_of_ble_eq_true rfl) (Nat.le_of_ble_eq_true rfl) ?_
  exact W.vret hx hb hr (fun t ht hW => ⟨⟨(), rfl, trivial, a_o_needs, a_o_yields, a_o_skips, a_o_skills, a_o_places, a_o_wheel, by rw [ht]; exact hP9, hD9⟩, hS.F ht⟩) hS.2.2 dX1_init_67 hlocks
set_option maxRecDepth 20000 in
theorem uX3_init_X3 : ∀ w ∈ wsX30, w ∈ wsX3_init := by decide +kernel
set_option maxRecDepth 20000 in
theorem mX3_init_0 : (Cond.methodLink RX3 3 objectInit : Cond) ∈ wsX3_init := by decide +kernel
set_option maxRecDepth 20000 in
theorem mX3_init_1 : (Cond.instanceMethod objectInit : Cond) ∈ wsX3_init := by decide +kernel
set_option maxRecDepth 20000 in
theorem mX3_init_2 : (Cond.code objectInit ⟨#[0xb1]⟩ 1 none : Cond) ∈ wsX3_init := by decide +kernel
set_option maxRecDepth 20000 in
theorem mX3_init_3 : (Cond.fieldLink RX3 9 "TradeWheel$World" "round" "I" : Cond) ∈ wsX3_init := by decide +kernel
set_option maxRecDepth 20000 in
theorem mX3_init_4 : (Cond.fieldLink RX3 15 "TradeWheel$World" "fell" "I" : Cond) ∈ wsX3_init := by decide +kernel
set_option maxRecDepth 20000 in
theorem mX3_init_5 : (Cond.fieldLink RX3 18 "TradeWheel$World" "ills" "I" : Cond) ∈ wsX3_init := by decide +kernel
set_option maxRecDepth 20000 in
theorem mX3_init_6 : (Cond.arrayClass .int : Cond) ∈ wsX3_init := by decide +kernel
set_option maxRecDepth 20000 in
theorem mX3_init_7 : (Cond.fieldLink RX3 21 "TradeWheel$World" "skills" "[I" : Cond) ∈ wsX3_init := by decide +kernel
set_option maxRecDepth 20000 in
theorem mX3_init_8 : (Cond.fieldLink RX3 25 "TradeWheel$World" "places" "[I" : Cond) ∈ wsX3_init := by decide +kernel
set_option maxRecDepth 20000 in
theorem mX3_init_9 : (Cond.fieldLink RX3 28 "TradeWheel$World" "stores" "[I" : Cond) ∈ wsX3_init := by decide +kernel
set_option maxRecDepth 20000 in
theorem mX3_init_10 : (Cond.fieldLink RX3 31 "TradeWheel$World" "lacked" "[I" : Cond) ∈ wsX3_init := by decide +kernel
set_option maxRecDepth 20000 in
theorem mX3_init_11 : (Cond.fieldLink RX3 34 "TradeWheel$World" "helpers" "[I" : Cond) ∈ wsX3_init := by decide +kernel
set_option maxRecDepth 20000 in
theorem mX3_init_12 : (Cond.fieldLink RX3 37 "TradeWheel$World" "favours" "[I" : Cond) ∈ wsX3_init := by decide +kernel
set_option maxRecDepth 20000 in
theorem mX3_init_13 : (Cond.fieldLink RX3 40 "TradeWheel$World" "wheel" "[I" : Cond) ∈ wsX3_init := by decide +kernel
set_option maxRecDepth 20000 in
theorem mX3_init_14 : (Cond.fieldLink RX3 43 "TradeWheel$World" "works" "[I" : Cond) ∈ wsX3_init := by decide +kernel
abbrev rmX3_init : Room := { frames := 1, cells := 8, slots := 108, locals := 24 }
set_option maxHeartbeats 4000000 in
set_option maxRecDepth 100000 in
theorem kX3_init (l : Launch) (dC : Nat → ClassId) (dI : Nat → Nat → Nat) (Z : gZ) (cC cI cZ cW : ClassId) (a_o : Nat) (sz : Nat) : Met l yX3_init wsX3_init rmX3_init (va_Pc [.ref a_o] (gB (dC, dI) Z [(cC, .char), (cI, .int), (cZ, .boolean), (cW, .object RX3)] [(a_o, .inr (3, [.int 0, .int 0, .int 0, .null, .null, .null, .null, .null, .null, .null, .null]))] sz)) (va_Qv (fun (_ : Unit) => True) (fun _ t => ∃ (a_o_skills : Nat) (a_o_places : Nat) (a_o_stores : Nat) (a_o_lacked : Nat) (a_o_helpers : Nat) (a_o_favours : Nat) (a_o_wheel : Nat) (a_o_works : Nat), va_P (dC, dI) vwCl [(a_o, .inr (3, [.int (0 : Int32), .int (0 : Int32), .int (0 : Int32), .ref a_o_skills, .ref a_o_places, .ref a_o_stores, .ref a_o_lacked, .ref a_o_helpers, .ref a_o_favours, .ref a_o_wheel, .ref a_o_works])), (a_o_skills, .inl (cI, 36, .inl (fun _ => 0))), (a_o_places, .inl (cI, 6, .inl (fun _ => 0))), (a_o_stores, .inl (cI, 6, .inl (fun _ => 0))), (a_o_lacked, .inl (cI, 6, .inl (fun _ => 0))), (a_o_helpers, .inl (cI, 6, .inl (fun _ => 0))), (a_o_favours, .inl (cI, 36, .inl (fun _ => 0))), (a_o_wheel, .inl (cI, 6, .inl (fun _ => 0))), (a_o_works, .inl (cI, 6, .inl (fun _ => 0)))] t.heap ∧ va_D (va_A [(a_o, .inr (3, [.int 0, .int 0, .int 0, .null, .null, .null, .null, .null, .null, .null, .null]))] sz) [(a_o, .inr (3, [.int (0 : Int32), .int (0 : Int32), .int (0 : Int32), .ref a_o_skills, .ref a_o_places, .ref a_o_stores, .ref a_o_lacked, .ref a_o_helpers, .ref a_o_favours, .ref a_o_wheel, .ref a_o_works])), (a_o_skills, .inl (cI, 36, .inl (fun _ => 0))), (a_o_places, .inl (cI, 6, .inl (fun _ => 0))), (a_o_stores, .inl (cI, 6, .inl (fun _ => 0))), (a_o_lacked, .inl (cI, 6, .inl (fun _ => 0))), (a_o_helpers, .inl (cI, 6, .inl (fun _ => 0))), (a_o_favours, .inl (cI, 36, .inl (fun _ => 0))), (a_o_wheel, .inl (cI, 6, .inl (fun _ => 0))), (a_o_works, .inl (cI, 6, .inl (fun _ => 0)))]) (va_A [(a_o, .inr (3, [.int 0, .int 0, .int 0, .null, .null, .null, .null, .null, .null, .null, .null]))] sz)) 8 108 (va_A [(a_o, .inr (3, [.int 0, .int 0, .int 0, .null, .null, .null, .null, .null, .null, .null, .null]))] sz) := by
  refine gMet (cc := cX3_init) (maxL := 1) (ret := none) (Qc := fun A => va_Qv (fun (_ : Unit) => True) (fun _ t => ∃ (a_o_skills : Nat) (a_o_places : Nat) (a_o_stores : Nat) (a_o_lacked : Nat) (a_o_helpers : Nat) (a_o_favours : Nat) (a_o_wheel : Nat) (a_o_works : Nat), va_P (dC, dI) vwCl [(a_o, .inr (3, [.int (0 : Int32), .int (0 : Int32), .int (0 : Int32), .ref a_o_skills, .ref a_o_places, .ref a_o_stores, .ref a_o_lacked, .ref a_o_helpers, .ref a_o_favours, .ref a_o_wheel, .ref a_o_works])), (a_o_skills, .inl (cI, 36, .inl (fun _ => 0))), (a_o_places, .inl (cI, 6, .inl (fun _ => 0))), (a_o_stores, .inl (cI, 6, .inl (fun _ => 0))), (a_o_lacked, .inl (cI, 6, .inl (fun _ => 0))), (a_o_helpers, .inl (cI, 6, .inl (fun _ => 0))), (a_o_favours, .inl (cI, 36, .inl (fun _ => 0))), (a_o_wheel, .inl (cI, 6, .inl (fun _ => 0))), (a_o_works, .inl (cI, 6, .inl (fun _ => 0)))] t.heap ∧ va_D (A) [(a_o, .inr (3, [.int (0 : Int32), .int (0 : Int32), .int (0 : Int32), .ref a_o_skills, .ref a_o_places, .ref a_o_stores, .ref a_o_lacked, .ref a_o_helpers, .ref a_o_favours, .ref a_o_wheel, .ref a_o_works])), (a_o_skills, .inl (cI, 36, .inl (fun _ => 0))), (a_o_places, .inl (cI, 6, .inl (fun _ => 0))), (a_o_stores, .inl (cI, 6, .inl (fun _ => 0))), (a_o_lacked, .inl (cI, 6, .inl (fun _ => 0))), (a_o_helpers, .inl (cI, 6, .inl (fun _ => 0))), (a_o_favours, .inl (cI, 36, .inl (fun _ => 0))), (a_o_wheel, .inl (cI, 6, .inl (fun _ => 0))), (a_o_works, .inl (cI, 6, .inl (fun _ => 0)))]) (A)) (by decide) rfl (Nat.le_of_ble_eq_true rfl) ?_
  intro p e s m below meth c A ls hg0 hin hsz hP hD hS hl
  obtain ⟨hx, hb, hr, hml, hown, hts, hlocks, hA, hK, hN⟩ := id hg0
  have hown : s.vm.findClass RX3 = some m.cls := hown
  have hin : meth.name = "<init>" := hin
  subst hsz
  have hF : CallFix p m c cX3_init 1 s _ wsX3_init RX3 := ⟨hx, hb, hml, hown, hts⟩
  have hl : lv_has ls 1 [(0, .ref a_o)] := hl
  refine lv_aload_n hx hb dX3_init_0 rfl (lv_at hl 0 rfl) ?_
  refine W.objInit hx hb hown (hts _ mX3_init_0) (hts _ mX3_init_1) (hts _ mX3_init_2) rfl (by rw [hml]; exact hl.1) rfl dX3_init_1 (Nat.le_of_ble_eq_true rfl) (Nat.le_of_ble_eq_true rfl) ?_
  refine W.eq (g2 := F0 m 4 ls []) rfl ?_
  refine lv_aload_n hx hb dX3_init_4 rfl (lv_at hl 0 rfl) ?_
  refine lv_iconst (v := (0 : Int32)) hx hb dX3_init_5 (by decide) ?_
  refine va_put (D := (dC, dI)) (ci := 3) (v := .int (0 : Int32)) (ty := .int) (C := RX3) (T := TX3) (N := 11) hx hb hts uX3_init_X3 tyX3 tyX3_ok nmX3 hown hK hP hD hS 0 rfl rfl 0 (by decide) (hts _ mX3_init_3) (fun _ h9 => h9) rfl (by decide +kernel) rfl rfl (Nat.le_of_ble_eq_true rfl) dX3_init_6 (fun H locs hP hD hS => ?_)
  have hP : va_P (dC, dI) vwCl [(a_o, .inr (3, [.int (0 : Int32), .int 0, .int 0, .null, .null, .null, .null, .null, .null, .null, .null]))] H := hP
  have hD : va_D A [(a_o, .inr (3, [.int (0 : Int32), .int 0, .int 0, .null, .null, .null, .null, .null, .null, .null, .null]))] := hD
  refine lv_aload_n hx hb dX3_init_9 rfl (lv_at hl 0 rfl) ?_
  refine lv_iconst (v := (0 : Int32)) hx hb dX3_init_10 (by decide) ?_
  refine va_put (D := (dC, dI)) (ci := 3) (v := .int (0 : Int32)) (ty := .int) (C := RX3) (T := TX3) (N := 11) hx hb hts uX3_init_X3 tyX3 tyX3_ok nmX3 hown hK hP hD hS 0 rfl rfl 1 (by decide) (hts _ mX3_init_4) (fun _ h9 => h9) rfl (by decide +kernel) rfl rfl (Nat.le_of_ble_eq_true rfl) dX3_init_11 (fun H locs hP hD hS => ?_)
  have hP : va_P (dC, dI) vwCl [(a_o, .inr (3, [.int (0 : Int32), .int (0 : Int32), .int 0, .null, .null, .null, .null, .null, .null, .null, .null]))] H := hP
  have hD : va_D A [(a_o, .inr (3, [.int (0 : Int32), .int (0 : Int32), .int 0, .null, .null, .null, .null, .null, .null, .null, .null]))] := hD
  refine lv_aload_n hx hb dX3_init_14 rfl (lv_at hl 0 rfl) ?_
  refine lv_iconst (v := (0 : Int32)) hx hb dX3_init_15 (by decide) ?_
  refine va_put (D := (dC, dI)) (ci := 3) (v := .int (0 : Int32)) (ty := .int) (C := RX3) (T := TX3) (N := 11) hx hb hts uX3_init_X3 tyX3 tyX3_ok nmX3 hown hK hP hD hS 0 rfl rfl 2 (by decide) (hts _ mX3_init_5) (fun _ h9 => h9) rfl (by decide +kernel) rfl rfl (Nat.le_of_ble_eq_true rfl) dX3_init_16 (fun H locs hP hD hS => ?_)
  have hP : va_P (dC, dI) vwCl [(a_o, .inr (3, [.int (0 : Int32), .int (0 : Int32), .int (0 : Int32), .null, .null, .null, .null, .null, .null, .null, .null]))] H := hP
  have hD : va_D A [(a_o, .inr (3, [.int (0 : Int32), .int (0 : Int32), .int (0 : Int32), .null, .null, .null, .null, .null, .null, .null, .null]))] := hD
  refine lv_aload_n hx hb dX3_init_19 rfl (lv_at hl 0 rfl) ?_
  refine lv_bipush (v := (36 : Int32)) hx hb dX3_init_20 (by decide) ?_
  refine va_newa (atype := .int) (ty := .int) (N' := 36) (a0 := (36, .inl (fun _ => 0))) hx hb (hts _ mX3_init_6) rfl hK hP hD hS hA (fun _ => rfl) (by decide) (by decide) (Nat.le_of_ble_eq_true rfl) (Nat.le_of_ble_eq_true rfl) (Nat.le_of_ble_eq_true rfl) dX3_init_22 (fun a_o_skills cA H hK2 hP hD hS => ?_)
  have hcA : cI = cA := gSame hK hK2 (by decide) (k := 1) rfl rfl
  subst hcA
  refine W.widen (k := 1) (n := 36) (Nat.le_of_ble_eq_true rfl) (Nat.le_of_ble_eq_true rfl) ?_
  have hP : va_P (dC, dI) vwCl [(a_o, .inr (3, [.int (0 : Int32), .int (0 : Int32), .int (0 : Int32), .null, .null, .null, .null, .null, .null, .null, .null])), (a_o_skills, .inl (cI, 36, .inl (fun _ => 0)))] H := hP
  have hD : va_D A [(a_o, .inr (3, [.int (0 : Int32), .int (0 : Int32), .int (0 : Int32), .null, .null, .null, .null, .null, .null, .null, .null])), (a_o_skills, .inl (cI, 36, .inl (fun _ => 0)))] := hD
  refine va_putF (D := (dC, dI)) (ci := 3) (v := .ref a_o_skills) (ty := .array .int) (C := RX3) (T := TX3) (N := 11) hx hb hts uX3_init_X3 tyX3 tyX3_ok nmX3 hown hK hP hD hS 0 rfl rfl 3 (by decide) (hts _ mX3_init_7) (fun _ h9 => h9) rfl hin rfl (by decide +kernel) rfl rfl (Nat.le_of_ble_eq_true rfl) dX3_init_24 (fun H locs hP hD hS => ?_)
  have hP : va_P (dC, dI) vwCl [(a_o, .inr (3, [.int (0 : Int32), .int (0 : Int32), .int (0 : Int32), .ref a_o_skills, .null, .null, .null, .null, .null, .null, .null])), (a_o_skills, .inl (cI, 36, .inl (fun _ => 0)))] H := hP
  have hD : va_D A [(a_o, .inr (3, [.int (0 : Int32), .int (0 : Int32), .int (0 : Int32), .ref a_o_skills, .null, .null, .null, .null, .null, .null, .null])), (a_o_skills, .inl (cI, 36, .inl (fun _ => 0)))] := hD
  refine lv_aload_n hx hb dX3_init_27 rfl (lv_at hl 0 rfl) ?_
  refine lv_bipush (v := (6 : Int32)) hx hb dX3_init_28 (by decide) ?_
  refine va_newa (atype := .int) (ty := .int) (N' := 6) (a0 := (6, .inl (fun _ => 0))) hx hb (hts _ mX3_init_6) rfl hK hP hD hS hA (fun _ => rfl) (by decide) (by decide) (Nat.le_of_ble_eq_true rfl) (Nat.le_of_ble_eq_true rfl) (Nat.le_of_ble_eq_true rfl) dX3_init_30 (fun a_o_places cA H hK2 hP hD hS => ?_)
  have hcA : cI = cA := gSame hK hK2 (by decide) (k := 1) rfl rfl
  subst hcA
  refine W.widen (k := 2) (n := 42) (Nat.le_of_ble_eq_true rfl) (Nat.le_of_ble_eq_true rfl) ?_
  have hP : va_P (dC, dI) vwCl [(a_o, .inr (3, [.int (0 : Int32), .int (0 : Int32), .int (0 : Int32), .ref a_o_skills, .null, .null, .null, .null, .null, .null, .null])), (a_o_skills, .inl (cI, 36, .inl (fun _ => 0))), (a_o_places, .inl (cI, 6, .inl (fun _ => 0)))] H := hP
  have hD : va_D A [(a_o, .inr (3, [.int (0 : Int32), .int (0 : Int32), .int (0 : Int32), .ref a_o_skills, .null, .null, .null, .null, .null, .null, .null])), (a_o_skills, .inl (cI, 36, .inl (fun _ => 0))), (a_o_places, .inl (cI, 6, .inl (fun _ => 0)))] := hD
  refine va_putF (D := (dC, dI)) (ci := 3) (v := .ref a_o_places) (ty := .array .int) (C := RX3) (T := TX3) (N := 11) hx hb hts uX3_init_X3 tyX3 tyX3_ok nmX3 hown hK hP hD hS 0 rfl rfl 4 (by decide) (hts _ mX3_init_8) (fun _ h9 => h9) rfl hin rfl (by decide +kernel) rfl rfl (Nat.le_of_ble_eq_true rfl) dX3_init_32 (fun H locs hP hD hS => ?_)
  have hP : va_P (dC, dI) vwCl [(a_o, .inr (3, [.int (0 : Int32), .int (0 : Int32), .int (0 : Int32), .ref a_o_skills, .ref a_o_places, .null, .null, .null, .null, .null, .null])), (a_o_skills, .inl (cI, 36, .inl (fun _ => 0))), (a_o_places, .inl (cI, 6, .inl (fun _ => 0)))] H := hP
  have hD : va_D A [(a_o, .inr (3, [.int (0 : Int32), .int (0 : Int32), .int (0 : Int32), .ref a_o_skills, .ref a_o_places, .null, .null, .null, .null, .null, .null])), (a_o_skills, .inl (cI, 36, .inl (fun _ => 0))), (a_o_places, .inl (cI, 6, .inl (fun _ => 0)))] := hD
  refine lv_aload_n hx hb dX3_init_35 rfl (lv_at hl 0 rfl) ?_
  refine lv_bipush (v := (6 : Int32)) hx hb dX3_init_36 (by decide) ?_
  refine va_newa (atype := .int) (ty := .int) (N' := 6) (a0 := (6, .inl (fun _ => 0))) hx hb (hts _ mX3_init_6) rfl hK hP hD hS hA (fun _ => rfl) (by decide) (by decide) (Nat.le_of_ble_eq_true rfl) (Nat.le_of_ble_eq_true rfl) (Nat.le_of_ble_eq_true rfl) dX3_init_38 (fun a_o_stores cA H hK2 hP hD hS => ?_)
  have hcA : cI = cA := gSame hK hK2 (by decide) (k := 1) rfl rfl
  subst hcA
  refine W.widen (k := 3) (n := 48) (Nat.le_of_ble_eq_true rfl) (Nat.le_of_ble_eq_true rfl) ?_
  have hP : va_P (dC, dI) vwCl [(a_o, .inr (3, [.int (0 : Int32), .int (0 : Int32), .int (0 : Int32), .ref a_o_skills, .ref a_o_places, .null, .null, .null, .null, .null, .null])), (a_o_skills, .inl (cI, 36, .inl (fun _ => 0))), (a_o_places, .inl (cI, 6, .inl (fun _ => 0))), (a_o_stores, .inl (cI, 6, .inl (fun _ => 0)))] H := hP
  have hD : va_D A [(a_o, .inr (3, [.int (0 : Int32), .int (0 : Int32), .int (0 : Int32), .ref a_o_skills, .ref a_o_places, .null, .null, .null, .null, .null, .null])), (a_o_skills, .inl (cI, 36, .inl (fun _ => 0))), (a_o_places, .inl (cI, 6, .inl (fun _ => 0))), (a_o_stores, .inl (cI, 6, .inl (fun _ => 0)))] := hD
  refine va_putF (D := (dC, dI)) (ci := 3) (v := .ref a_o_stores) (ty := .array .int) (C := RX3) (T := TX3) (N := 11) hx hb hts uX3_init_X3 tyX3 tyX3_ok nmX3 hown hK hP hD hS 0 rfl rfl 5 (by decide) (hts _ mX3_init_9) (fun _ h9 => h9) rfl hin rfl (by decide +kernel) rfl rfl (Nat.le_of_ble_eq_true rfl) dX3_init_40 (fun H locs hP hD hS => ?_)
  have hP : va_P (dC, dI) vwCl [(a_o, .inr (3, [.int (0 : Int32), .int (0 : Int32), .int (0 : Int32), .ref a_o_skills, .ref a_o_places, .ref a_o_stores, .null, .null, .null, .null, .null])), (a_o_skills, .inl (cI, 36, .inl (fun _ => 0))), (a_o_places, .inl (cI, 6, .inl (fun _ => 0))), (a_o_stores, .inl (cI, 6, .inl (fun _ => 0)))] H := hP
  have hD : va_D A [(a_o, .inr (3, [.int (0 : Int32), .int (0 : Int32), .int (0 : Int32), .ref a_o_skills, .ref a_o_places, .ref a_o_stores, .null, .null, .null, .null, .null])), (a_o_skills, .inl (cI, 36, .inl (fun _ => 0))), (a_o_places, .inl (cI, 6, .inl (fun _ => 0))), (a_o_stores, .inl (cI, 6, .inl (fun _ => 0)))] := hD
  refine lv_aload_n hx hb dX3_init_43 rfl (lv_at hl 0 rfl) ?_
  refine lv_bipush (v := (6 : Int32)) hx hb dX3_init_44 (by decide) ?_
  refine va_newa (atype := .int) (ty := .int) (N' := 6) (a0 := (6, .inl (fun _ => 0))) hx hb (hts _ mX3_init_6) rfl hK hP hD hS hA (fun _ => rfl) (by decide) (by decide) (Nat.le_of_ble_eq_true rfl) (Nat.le_of_ble_eq_true rfl) (Nat.le_of_ble_eq_true rfl) dX3_init_46 (fun a_o_lacked cA H hK2 hP hD hS => ?_)
  have hcA : cI = cA := gSame hK hK2 (by decide) (k := 1) rfl rfl
  subst hcA
  refine W.widen (k := 4) (n := 54) (Nat.le_of_ble_eq_true rfl) (Nat.le_of_ble_eq_true rfl) ?_
  have hP : va_P (dC, dI) vwCl [(a_o, .inr (3, [.int (0 : Int32), .int (0 : Int32), .int (0 : Int32), .ref a_o_skills, .ref a_o_places, .ref a_o_stores, .null, .null, .null, .null, .null])), (a_o_skills, .inl (cI, 36, .inl (fun _ => 0))), (a_o_places, .inl (cI, 6, .inl (fun _ => 0))), (a_o_stores, .inl (cI, 6, .inl (fun _ => 0))), (a_o_lacked, .inl (cI, 6, .inl (fun _ => 0)))] H := hP
  have hD : va_D A [(a_o, .inr (3, [.int (0 : Int32), .int (0 : Int32), .int (0 : Int32), .ref a_o_skills, .ref a_o_places, .ref a_o_stores, .null, .null, .null, .null, .null])), (a_o_skills, .inl (cI, 36, .inl (fun _ => 0))), (a_o_places, .inl (cI, 6, .inl (fun _ => 0))), (a_o_stores, .inl (cI, 6, .inl (fun _ => 0))), (a_o_lacked, .inl (cI, 6, .inl (fun _ => 0)))] := hD
  refine va_putF (D := (dC, dI)) (ci := 3) (v := .ref a_o_lacked) (ty := .array .int) (C := RX3) (T := TX3) (N := 11) hx hb hts uX3_init_X3 tyX3 tyX3_ok nmX3 hown hK hP hD hS 0 rfl rfl 6 (by decide) (hts _ mX3_init_10) (fun _ h9 => h9) rfl hin rfl (by decide +kernel) rfl rfl (Nat.le_of_ble_eq_true rfl) dX3_init_48 (fun H locs hP hD hS => ?_)
  have hP : va_P (dC, dI) vwCl [(a_o, .inr (3, [.int (0 : Int32), .int (0 : Int32), .int (0 : Int32), .ref a_o_skills, .ref a_o_places, .ref a_o_stores, .ref a_o_lacked, .null, .null, .null, .null])), (a_o_skills, .inl (cI, 36, .inl (fun _ => 0))), (a_o_places, .inl (cI, 6, .inl (fun _ => 0))), (a_o_stores, .inl (cI, 6, .inl (fun _ => 0))), (a_o_lacked, .inl (cI, 6, .inl (fun _ => 0)))] H := hP
  have hD : va_D A [(a_o, .inr (3, [.int (0 : Int32), .int (0 : Int32), .int (0 : Int32), .ref a_o_skills, .ref a_o_places, .ref a_o_stores, .ref a_o_lacked, .null, .null, .null, .null])), (a_o_skills, .inl (cI, 36, .inl (fun _ => 0))), (a_o_places, .inl (cI, 6, .inl (fun _ => 0))), (a_o_stores, .inl (cI, 6, .inl (fun _ => 0))), (a_o_lacked, .inl (cI, 6, .inl (fun _ => 0)))] := hD
  refine lv_aload_n hx hb dX3_init_51 rfl (lv_at hl 0 rfl) ?_
  refine lv_bipush (v := (6 : Int32)) hx hb dX3_init_52 (by decide) ?_
  refine va_newa (atype := .int) (ty := .int) (N' := 6) (a0 := (6, .inl (fun _ => 0))) hx hb (hts _ mX3_init_6) rfl hK hP hD hS hA (fun _ => rfl) (by decide) (by decide) (Nat.le_of_ble_eq_true rfl) (Nat.le_of_ble_eq_true rfl) (Nat.le_of_ble_eq_true rfl) dX3_init_54 (fun a_o_helpers cA H hK2 hP hD hS => ?_)
  have hcA : cI = cA := gSame hK hK2 (by decide) (k := 1) rfl rfl
  subst hcA
  refine W.widen (k := 5) (n := 60) (Nat.le_of_ble_eq_true rfl) (Nat.le_of_ble_eq_true rfl) ?_
  have hP : va_P (dC, dI) vwCl [(a_o, .inr (3, [.int (0 : Int32), .int (0 : Int32), .int (0 : Int32), .ref a_o_skills, .ref a_o_places, .ref a_o_stores, .ref a_o_lacked, .null, .null, .null, .null])), (a_o_skills, .inl (cI, 36, .inl (fun _ => 0))), (a_o_places, .inl (cI, 6, .inl (fun _ => 0))), (a_o_stores, .inl (cI, 6, .inl (fun _ => 0))), (a_o_lacked, .inl (cI, 6, .inl (fun _ => 0))), (a_o_helpers, .inl (cI, 6, .inl (fun _ => 0)))] H := hP
  have hD : va_D A [(a_o, .inr (3, [.int (0 : Int32), .int (0 : Int32), .int (0 : Int32), .ref a_o_skills, .ref a_o_places, .ref a_o_stores, .ref a_o_lacked, .null, .null, .null, .null])), (a_o_skills, .inl (cI, 36, .inl (fun _ => 0))), (a_o_places, .inl (cI, 6, .inl (fun _ => 0))), (a_o_stores, .inl (cI, 6, .inl (fun _ => 0))), (a_o_lacked, .inl (cI, 6, .inl (fun _ => 0))), (a_o_helpers, .inl (cI, 6, .inl (fun _ => 0)))] := hD
  refine va_putF (D := (dC, dI)) (ci := 3) (v := .ref a_o_helpers) (ty := .array .int) (C := RX3) (T := TX3) (N := 11) hx hb hts uX3_init_X3 tyX3 tyX3_ok nmX3 hown hK hP hD hS 0 rfl rfl 7 (by decide) (hts _ mX3_init_11) (fun _ h9 => h9) rfl hin rfl (by decide +kernel) rfl rfl (Nat.le_of_ble_eq_true rfl) dX3_init_56 (fun H locs hP hD hS => ?_)
  have hP : va_P (dC, dI) vwCl [(a_o, .inr (3, [.int (0 : Int32), .int (0 : Int32), .int (0 : Int32), .ref a_o_skills, .ref a_o_places, .ref a_o_stores, .ref a_o_lacked, .ref a_o_helpers, .null, .null, .null])), (a_o_skills, .inl (cI, 36, .inl (fun _ => 0))), (a_o_places, .inl (cI, 6, .inl (fun _ => 0))), (a_o_stores, .inl (cI, 6, .inl (fun _ => 0))), (a_o_lacked, .inl (cI, 6, .inl (fun _ => 0))), (a_o_helpers, .inl (cI, 6, .inl (fun _ => 0)))] H := hP
  have hD : va_D A [(a_o, .inr (3, [.int (0 : Int32), .int (0 : Int32), .int (0 : Int32), .ref a_o_skills, .ref a_o_places, .ref a_o_stores, .ref a_o_lacked, .ref a_o_helpers, .null, .null, .null])), (a_o_skills, .inl (cI, 36, .inl (fun _ => 0))), (a_o_places, .inl (cI, 6, .inl (fun _ => 0))), (a_o_stores, .inl (cI, 6, .inl (fun _ => 0))), (a_o_lacked, .inl (cI, 6, .inl (fun _ => 0))), (a_o_helpers, .inl (cI, 6, .inl (fun _ => 0)))] := hD
  refine lv_aload_n hx hb dX3_init_59 rfl (lv_at hl 0 rfl) ?_
  refine lv_bipush (v := (36 : Int32)) hx hb dX3_init_60 (by decide) ?_
  refine va_newa (atype := .int) (ty := .int) (N' := 36) (a0 := (36, .inl (fun _ => 0))) hx hb (hts _ mX3_init_6) rfl hK hP hD hS hA (fun _ => rfl) (by decide) (by decide) (Nat.le_of_ble_eq_true rfl) (Nat.le_of_ble_eq_true rfl) (Nat.le_of_ble_eq_true rfl) dX3_init_62 (fun a_o_favours cA H hK2 hP hD hS => ?_)
  have hcA : cI = cA := gSame hK hK2 (by decide) (k := 1) rfl rfl
  subst hcA
  refine W.widen (k := 6) (n := 96) (Nat.le_of_ble_eq_true rfl) (Nat.le_of_ble_eq_true rfl) ?_
  have hP : va_P (dC, dI) vwCl [(a_o, .inr (3, [.int (0 : Int32), .int (0 : Int32), .int (0 : Int32), .ref a_o_skills, .ref a_o_places, .ref a_o_stores, .ref a_o_lacked, .ref a_o_helpers, .null, .null, .null])), (a_o_skills, .inl (cI, 36, .inl (fun _ => 0))), (a_o_places, .inl (cI, 6, .inl (fun _ => 0))), (a_o_stores, .inl (cI, 6, .inl (fun _ => 0))), (a_o_lacked, .inl (cI, 6, .inl (fun _ => 0))), (a_o_helpers, .inl (cI, 6, .inl (fun _ => 0))), (a_o_favours, .inl (cI, 36, .inl (fun _ => 0)))] H := hP
  have hD : va_D A [(a_o, .inr (3, [.int (0 : Int32), .int (0 : Int32), .int (0 : Int32), .ref a_o_skills, .ref a_o_places, .ref a_o_stores, .ref a_o_lacked, .ref a_o_helpers, .null, .null, .null])), (a_o_skills, .inl (cI, 36, .inl (fun _ => 0))), (a_o_places, .inl (cI, 6, .inl (fun _ => 0))), (a_o_stores, .inl (cI, 6, .inl (fun _ => 0))), (a_o_lacked, .inl (cI, 6, .inl (fun _ => 0))), (a_o_helpers, .inl (cI, 6, .inl (fun _ => 0))), (a_o_favours, .inl (cI, 36, .inl (fun _ => 0)))] := hD
  refine va_putF (D := (dC, dI)) (ci := 3) (v := .ref a_o_favours) (ty := .array .int) (C := RX3) (T := TX3) (N := 11) hx hb hts uX3_init_X3 tyX3 tyX3_ok nmX3 hown hK hP hD hS 0 rfl rfl 8 (by decide) (hts _ mX3_init_12) (fun _ h9 => h9) rfl hin rfl (by decide +kernel) rfl rfl (Nat.le_of_ble_eq_true rfl) dX3_init_64 (fun H locs hP hD hS => ?_)
  have hP : va_P (dC, dI) vwCl [(a_o, .inr (3, [.int (0 : Int32), .int (0 : Int32), .int (0 : Int32), .ref a_o_skills, .ref a_o_places, .ref a_o_stores, .ref a_o_lacked, .ref a_o_helpers, .ref a_o_favours, .null, .null])), (a_o_skills, .inl (cI, 36, .inl (fun _ => 0))), (a_o_places, .inl (cI, 6, .inl (fun _ => 0))), (a_o_stores, .inl (cI, 6, .inl (fun _ => 0))), (a_o_lacked, .inl (cI, 6, .inl (fun _ => 0))), (a_o_helpers, .inl (cI, 6, .inl (fun _ => 0))), (a_o_favours, .inl (cI, 36, .inl (fun _ => 0)))] H := hP
  have hD : va_D A [(a_o, .inr (3, [.int (0 : Int32), .int (0 : Int32), .int (0 : Int32), .ref a_o_skills, .ref a_o_places, .ref a_o_stores, .ref a_o_lacked, .ref a_o_helpers, .ref a_o_favours, .null, .null])), (a_o_skills, .inl (cI, 36, .inl (fun _ => 0))), (a_o_places, .inl (cI, 6, .inl (fun _ => 0))), (a_o_stores, .inl (cI, 6, .inl (fun _ => 0))), (a_o_lacked, .inl (cI, 6, .inl (fun _ => 0))), (a_o_helpers, .inl (cI, 6, .inl (fun _ => 0))), (a_o_favours, .inl (cI, 36, .inl (fun _ => 0)))] := hD
  refine lv_aload_n hx hb dX3_init_67 rfl (lv_at hl 0 rfl) ?_
  refine lv_bipush (v := (6 : Int32)) hx hb dX3_init_68 (by decide) ?_
  refine va_newa (atype := .int) (ty := .int) (N' := 6) (a0 := (6, .inl (fun _ => 0))) hx hb (hts _ mX3_init_6) rfl hK hP hD hS hA (fun _ => rfl) (by decide) (by decide) (Nat.le_of_ble_eq_true rfl) (Nat.le_of_ble_eq_true rfl) (Nat.le_of_ble_eq_true rfl) dX3_init_70 (fun a_o_wheel cA H hK2 hP hD hS => ?_)
  have hcA : cI = cA := gSame hK hK2 (by decide) (k := 1) rfl rfl
  subst hcA
  refine W.widen (k := 7) (n := 102) (Nat.le_of_ble_eq_true rfl) (Nat.le_of_ble_eq_true rfl) ?_
  have hP : va_P (dC, dI) vwCl [(a_o, .inr (3, [.int (0 : Int32), .int (0 : Int32), .int (0 : Int32), .ref a_o_skills, .ref a_o_places, .ref a_o_stores, .ref a_o_lacked, .ref a_o_helpers, .ref a_o_favours, .null, .null])), (a_o_skills, .inl (cI, 36, .inl (fun _ => 0))), (a_o_places, .inl (cI, 6, .inl (fun _ => 0))), (a_o_stores, .inl (cI, 6, .inl (fun _ => 0))), (a_o_lacked, .inl (cI, 6, .inl (fun _ => 0))), (a_o_helpers, .inl (cI, 6, .inl (fun _ => 0))), (a_o_favours, .inl (cI, 36, .inl (fun _ => 0))), (a_o_wheel, .inl (cI, 6, .inl (fun _ => 0)))] H := hP
  have hD : va_D A [(a_o, .inr (3, [.int (0 : Int32), .int (0 : Int32), .int (0 : Int32), .ref a_o_skills, .ref a_o_places, .ref a_o_stores, .ref a_o_lacked, .ref a_o_helpers, .ref a_o_favours, .null, .null])), (a_o_skills, .inl (cI, 36, .inl (fun _ => 0))), (a_o_places, .inl (cI, 6, .inl (fun _ => 0))), (a_o_stores, .inl (cI, 6, .inl (fun _ => 0))), (a_o_lacked, .inl (cI, 6, .inl (fun _ => 0))), (a_o_helpers, .inl (cI, 6, .inl (fun _ => 0))), (a_o_favours, .inl (cI, 36, .inl (fun _ => 0))), (a_o_wheel, .inl (cI, 6, .inl (fun _ => 0)))] := hD
  refine va_putF (D := (dC, dI)) (ci := 3) (v := .ref a_o_wheel) (ty := .array .int) (C := RX3) (T := TX3) (N := 11) hx hb hts uX3_init_X3 tyX3 tyX3_ok nmX3 hown hK hP hD hS 0 rfl rfl 9 (by decide) (hts _ mX3_init_13) (fun _ h9 => h9) rfl hin rfl (by decide +kernel) rfl rfl (Nat.le_of_ble_eq_true rfl) dX3_init_72 (fun H locs hP hD hS => ?_)
  have hP : va_P (dC, dI) vwCl [(a_o, .inr (3, [.int (0 : Int32), .int (0 : Int32), .int (0 : Int32), .ref a_o_skills, .ref a_o_places, .ref a_o_stores, .ref a_o_lacked, .ref a_o_helpers, .ref a_o_favours, .ref a_o_wheel, .null])), (a_o_skills, .inl (cI, 36, .inl (fun _ => 0))), (a_o_places, .inl (cI, 6, .inl (fun _ => 0))), (a_o_stores, .inl (cI, 6, .inl (fun _ => 0))), (a_o_lacked, .inl (cI, 6, .inl (fun _ => 0))), (a_o_helpers, .inl (cI, 6, .inl (fun _ => 0))), (a_o_favours, .inl (cI, 36, .inl (fun _ => 0))), (a_o_wheel, .inl (cI, 6, .inl (fun _ => 0)))] H := hP
  have hD : va_D A [(a_o, .inr (3, [.int (0 : Int32), .int (0 : Int32), .int (0 : Int32), .ref a_o_skills, .ref a_o_places, .ref a_o_stores, .ref a_o_lacked, .ref a_o_helpers, .ref a_o_favours, .ref a_o_wheel, .null])), (a_o_skills, .inl (cI, 36, .inl (fun _ => 0))), (a_o_places, .inl (cI, 6, .inl (fun _ => 0))), (a_o_stores, .inl (cI, 6, .inl (fun _ => 0))), (a_o_lacked, .inl (cI, 6, .inl (fun _ => 0))), (a_o_helpers, .inl (cI, 6, .inl (fun _ => 0))), (a_o_favours, .inl (cI, 36, .inl (fun _ => 0))), (a_o_wheel, .inl (cI, 6, .inl (fun _ => 0)))] := hD
  refine lv_aload_n hx hb dX3_init_75 rfl (lv_at hl 0 rfl) ?_
  refine lv_bipush (v := (6 : Int32)) hx hb dX3_init_76 (by decide) ?_
  refine va_newa (atype := .int) (ty := .int) (N' := 6) (a0 := (6, .inl (fun _ => 0))) hx hb (hts _ mX3_init_6) rfl hK hP hD hS hA (fun _ => rfl) (by decide) (by decide) (Nat.le_of_ble_eq_true rfl) (Nat.le_of_ble_eq_true rfl) (Nat.le_of_ble_eq_true rfl) dX3_init_78 (fun a_o_works cA H hK2 hP hD hS => ?_)
  have hcA : cI = cA := gSame hK hK2 (by decide) (k := 1) rfl rfl
  subst hcA
  refine W.widen (k := 8) (n := 108) (Nat.le_of_ble_eq_true rfl) (Nat.le_of_ble_eq_true rfl) ?_
  have hP : va_P (dC, dI) vwCl [(a_o, .inr (3, [.int (0 : Int32), .int (0 : Int32), .int (0 : Int32), .ref a_o_skills, .ref a_o_places, .ref a_o_stores, .ref a_o_lacked, .ref a_o_helpers, .ref a_o_favours, .ref a_o_wheel, .null])), (a_o_skills, .inl (cI, 36, .inl (fun _ => 0))), (a_o_places, .inl (cI, 6, .inl (fun _ => 0))), (a_o_stores, .inl (cI, 6, .inl (fun _ => 0))), (a_o_lacked, .inl (cI, 6, .inl (fun _ => 0))), (a_o_helpers, .inl (cI, 6, .inl (fun _ => 0))), (a_o_favours, .inl (cI, 36, .inl (fun _ => 0))), (a_o_wheel, .inl (cI, 6, .inl (fun _ => 0))), (a_o_works, .inl (cI, 6, .inl (fun _ => 0)))] H := hP
  have hD : va_D A [(a_o, .inr (3, [.int (0 : Int32), .int (0 : Int32), .int (0 : Int32), .ref a_o_skills, .ref a_o_places, .ref a_o_stores, .ref a_o_lacked, .ref a_o_helpers, .ref a_o_favours, .ref a_o_wheel, .null])), (a_o_skills, .inl (cI, 36, .inl (fun _ => 0))), (a_o_places, .inl (cI, 6, .inl (fun _ => 0))), (a_o_stores, .inl (cI, 6, .inl (fun _ => 0))), (a_o_lacked, .inl (cI, 6, .inl (fun _ => 0))), (a_o_helpers, .inl (cI, 6, .inl (fun _ => 0))), (a_o_favours, .inl (cI, 36, .inl (fun _ => 0))), (a_o_wheel, .inl (cI, 6, .inl (fun _ => 0))), (a_o_works, .inl (cI, 6, .inl (fun _ => 0)))] := hD
  refine va_putF (D := (dC, dI)) (ci := 3) (v := .ref a_o_works) (ty := .array .int) (C := RX3) (T := TX3) (N := 11) hx hb hts uX3_init_X3 tyX3 tyX3_ok nmX3 hown hK hP hD hS 0 rfl rfl 10 (by decide) (hts _ mX3_init_14) (fun _ h9 => h9) rfl hin rfl (by decide +kernel) rfl rfl (Nat.le_of_ble_eq_true rfl) dX3_init_80 (fun H locs hP hD hS => ?_)
  have hP : va_P (dC, dI) vwCl [(a_o, .inr (3, [.int (0 : Int32), .int (0 : Int32), .int (0 : Int32), .ref a_o_skills, .ref a_o_places, .ref a_o_stores, .ref a_o_lacked, .ref a_o_helpers, .ref a_o_favours, .ref a_o_wheel, .ref a_o_works])), (a_o_skills, .inl (cI, 36, .inl (fun _ => 0))), (a_o_places, .inl (cI, 6, .inl (fun _ => 0))), (a_o_stores, .inl (cI, 6, .inl (fun _ => 0))), (a_o_lacked, .inl (cI, 6, .inl (fun _ => 0))), (a_o_helpers, .inl (cI, 6, .inl (fun _ => 0))), (a_o_favours, .inl (cI, 36, .inl (fun _ => 0))), (a_o_wheel, .inl (cI, 6, .inl (fun _ => 0))), (a_o_works, .inl (cI, 6, .inl (fun _ => 0)))] H := hP
  have hD : va_D A [(a_o, .inr (3, [.int (0 : Int32), .int (0 : Int32), .int (0 : Int32), .ref a_o_skills, .ref a_o_places, .ref a_o_stores, .ref a_o_lacked, .ref a_o_helpers, .ref a_o_favours, .ref a_o_wheel, .ref a_o_works])), (a_o_skills, .inl (cI, 36, .inl (fun _ => 0))), (a_o_places, .inl (cI, 6, .inl (fun _ => 0))), (a_o_stores, .inl (cI, 6, .inl (fun _ => 0))), (a_o_lacked, .inl (cI, 6, .inl (fun _ => 0))), (a_o_helpers, .inl (cI, 6, .inl (fun _ => 0))), (a_o_favours, .inl (cI, 36, .inl (fun _ => 0))), (a_o_wheel, .inl (cI, 6, .inl (fun _ => 0))), (a_o_works, .inl (cI, 6, .inl (fun _ => 0)))] := hD
  have hP9 := hP.sub (ws' := [(a_o, .inr (3, [.int (0 : Int32), .int (0 : Int32), .int (0 : Int32), .ref a_o_skills, .ref a_o_places, .ref a_o_stores, .ref a_o_lacked, .ref a_o_helpers, .ref a_o_favours, .ref a_o_wheel, .ref a_o_works])), (a_o_skills, .inl (cI, 36, .inl (fun _ => 0))), (a_o_places, .inl (cI, 6, .inl (fun _ => 0))), (a_o_stores, .inl (cI, 6, .inl (fun _ => 0))), (a_o_lacked, .inl (cI, 6, .inl (fun _ => 0))), (a_o_helpers, .inl (cI, 6, .inl (fun _ => 0))), (a_o_favours, .inl (cI, 36, .inl (fun _ => 0))), (a_o_wheel, .inl (cI, 6, .inl (fun _ => 0))), (a_o_works, .inl (cI, 6, .inl (fun _ => 0)))]) [0, 1, 2, 3, 4, 5, 6, 7, 8] rfl
  have hD9 := hD.sub (ws' := [(a_o, .inr (3, [.int (0 : Int32), .int (0 : Int32), .int (0 : Int32), .ref a_o_skills, .ref a_o_places, .ref a_o_stores, .ref a_o_lacked, .ref a_o_helpers, .ref a_o_favours, .ref a_o_wheel, .ref a_o_works])), (a_o_skills, .inl (cI, 36, .inl (fun _ => 0))), (a_o_places, .inl (cI, 6, .inl (fun _ => 0))), (a_o_stores, .inl (cI, 6, .inl (fun _ => 0))), (a_o_lacked, .inl (cI, 6, .inl (fun _ => 0))), (a_o_helpers, .inl (cI, 6, .inl (fun _ => 0))), (a_o_favours, .inl (cI, 36, .inl (fun _ => 0))), (a_o_wheel, .inl (cI, 6, .inl (fun _ => 0))), (a_o_works, .inl (cI, 6, .inl (fun _ => 0)))]) [0, 1, 2, 3, 4, 5, 6, 7, 8] (by decide) rfl
  refine W.widen (k := 8) (n := 108) (Nat.le_of_ble_eq_true rfl) (Nat.le_of_ble_eq_true rfl) ?_
  exact W.vret hx hb hr (fun t ht hW => ⟨⟨(), rfl, trivial, a_o_skills, a_o_places, a_o_stores, a_o_lacked, a_o_helpers, a_o_favours, a_o_wheel, a_o_works, by rw [ht]; exact hP9, hD9⟩, hS.F ht⟩) hS.2.2 dX3_init_83 hlocks
