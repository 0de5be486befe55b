abbrev rmX4_within : Room := { frames := 0, cells := 0, slots := 0, locals := 0 }
set_option maxHeartbeats 4000000 in
set_option maxRecDepth 100000 in
theorem kX4_within (l : Launch) (dC : Nat → ClassId) (dI : Nat → Nat → Nat) (Z : gZ) (cC cI cZ cW : ClassId)  (sz : Nat)  (i0 : Int32) (i1 : Int32) (i2 : Int32) (N : Nat) (r' : Int32) (hf : fX4_within N   i0 i1 i2 = some r') : Met l yX4_within wsX4_within rmX4_within (va_Pc [.int i0, .int i1, .int i2] (gB (dC, dI) Z [(cC, .char), (cI, .int), (cZ, .boolean), (cW, .object RX3)] [] sz)) (va_Qi (fun (r : Int32) (_ : Unit) => r = r') (gE (dC, dI) []) (va_A [] sz)) 0 0 (va_A [] sz) := by
  refine gMet (cc := cX4_within) (maxL := 3) (ret := (some .boolean)) (Qc := fun A => va_Qi (fun (r : Int32) (_ : Unit) => r = r') (gE (dC, dI) []) A) (by decide) rfl (Nat.le_of_ble_eq_true rfl) ?_
  intro p e s m below meth c A ls hg0 _ hsz hP hD hS hl
  have hg0 : gX p s m _ meth c cX4_within 3 (some .boolean) wsX4_within RX4 (dC, dI) Z [(cC, .char), (cI, .int), (cZ, .boolean), (cW, .object RX3)] A := hg0
  obtain ⟨hx, hb, hr, hml, hown, hts, hlocks, hA, hK, hN⟩ := id hg0
  subst hsz
  have hF : CallFix p m c cX4_within 3 s _ wsX4_within RX4 := ⟨hx, hb, hml, hown, hts⟩
  have hl : lv_has ls 3 [(0, .int i0), (1, .int i1), (2, .int i2)] := hl
  unfold fX4_within at hf
  refine lv_iload_n hx hb dX4_within_0 rfl (lv_at hl 1 rfl) ?_
  refine lv_iload_n hx hb dX4_within_1 rfl (lv_at hl 0 rfl) ?_
  refine lv_icmp_gt (tgt := 14) hx hb dX4_within_2 (by decide) (fun c_1 => ?_) (fun c_1 => ?_)
  · have hf := pit hf c_1
    refine lv_iconst (v := (0 : Int32)) hx hb dX4_within_14 (by decide) ?_
    have q0 := Option.some.inj hf
    subst q0
    exact gRz hx hb hr rfl hlocks hP hS dX4_within_15
  · have hf := pif hf c_1
    refine lv_iload_n hx hb dX4_within_5 rfl (lv_at hl 0 rfl) ?_
    refine lv_iload_n hx hb dX4_within_6 rfl (lv_at hl 2 rfl) ?_
    refine lv_icmp_gt (tgt := 14) hx hb dX4_within_7 (by decide) (fun c_2 => ?_) (fun c_2 => ?_)
    · have hf := pit hf c_2
      refine lv_iconst (v := (0 : Int32)) hx hb dX4_within_14 (by decide) ?_
      have q0 := Option.some.inj hf
      subst q0
      exact gRz hx hb hr rfl hlocks hP hS dX4_within_15
    · have hf := pif hf c_2
      refine lv_iconst (v := (1 : Int32)) hx hb dX4_within_10 (by decide) ?_
      refine lv_goto (tgt := 15) hx hb dX4_within_11 (by decide) ?_
      have q0 := Option.some.inj hf
      subst q0
      exact gRz hx hb hr rfl hlocks hP hS dX4_within_15
abbrev rmX4_cell : Room := { frames := 0, cells := 0, slots := 0, locals := 0 }
set_option maxHeartbeats 4000000 in
set_option maxRecDepth 100000 in
theorem kX4_cell (l : Launch) (dC : Nat → ClassId) (dI : Nat → Nat → Nat) (Z : gZ) (cC cI cZ cW : ClassId)  (sz : Nat)  (i0 : Int32) (i1 : Int32) (N : Nat) (r' : Int32) (hf : fX4_cell N   i0 i1 = some r') : Met l yX4_cell wsX4_cell rmX4_cell (va_Pc [.int i0, .int i1] (gB (dC, dI) Z [(cC, .char), (cI, .int), (cZ, .boolean), (cW, .object RX3)] [] sz)) (va_Qi (fun (r : Int32) (_ : Unit) => r = r') (gE (dC, dI) []) (va_A [] sz)) 0 0 (va_A [] sz) := by
  refine gMet (cc := cX4_cell) (maxL := 2) (ret := (some .int)) (Qc := fun A => va_Qi (fun (r : Int32) (_ : Unit) => r = r') (gE (dC, dI) []) A) (by decide) rfl (Nat.le_of_ble_eq_true rfl) ?_
  intro p e s m below meth c A ls hg0 _ hsz hP hD hS hl
  have hg0 : gX p s m _ meth c cX4_cell 2 (some .int) wsX4_cell RX4 (dC, dI) Z [(cC, .char), (cI, .int), (cZ, .boolean), (cW, .object RX3)] A := hg0
  obtain ⟨hx, hb, hr, hml, hown, hts, hlocks, hA, hK, hN⟩ := id hg0
  subst hsz
  have hF : CallFix p m c cX4_cell 2 s _ wsX4_cell RX4 := ⟨hx, hb, hml, hown, hts⟩
  have hl : lv_has ls 2 [(0, .int i0), (1, .int i1)] := hl
  unfold fX4_cell at hf
  refine lv_iload_n hx hb dX4_cell_0 rfl (lv_at hl 0 rfl) ?_
  refine lv_bipush (v := (6 : Int32)) hx hb dX4_cell_1 (by decide) ?_
  refine lv_imul hx hb dX4_cell_3 ?_
  refine lv_iload_n hx hb dX4_cell_4 rfl (lv_at hl 1 rfl) ?_
  refine lv_iadd hx hb dX4_cell_5 ?_
  have q0 := Option.some.inj hf
  subst q0
  exact gRi hx hb hr hlocks hP hS dX4_cell_6
