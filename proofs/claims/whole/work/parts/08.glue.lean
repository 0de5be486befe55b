/-! GLUE: the form of every contract here, a call by one row, the frame behind a call, the end of a method. -/
def nwL : List Cond := [.methodLinkNest RX4 11 yX0_init RX4, .methodLinkNest RX4 20 yX2_init RX4, .methodLinkNest RX4 27 yX3_init RX4, .methodLinkNest RX4 49 yX1_init RX4, .methodLinkNest RX0 50 yX4_within RX4, .methodLinkNest RX1 87 yX4_cell RX4, .methodLinkNest RX1 90 yX4_within RX4, .methodLinkNest RX3 129 yX4_cell RX4]
/-- the links to private methods of the host, at a state -/
def nwA (U : State) : Prop := ∀ w ∈ nwL, va_Nw w U
theorem nwA.same {u U : State} (h : u.vm = U.vm) (q : nwA u) : nwA U := by
  intro w hw
  refine va_Nw.same ?_ h (q w hw)
  revert w
  decide +kernel
theorem nwA.warm {s U : State} (hW : s.WarmedH U.vm) (q : nwA s) : nwA U := by
  intro w hw
  have h := q w hw
  simp only [nwL, List.mem_cons, List.not_mem_nil, or_false] at hw
  rcases hw with rfl | rfl | rfl | rfl | rfl | rfl | rfl | rfl <;> exact va_Nw.warmM hW h
/-- what a method of this system finds: its cells, the classes, the links -/
def gB (D : va_G) (tys : List (ClassId × FieldType)) (ws : va_W) (sz : Nat) : State → Prop := fun U => U.heap.size = sz ∧ va_P D vwCl ws U.heap ∧ va_K D vwCl tys U ∧ va_D (fun _ => True) ws ∧ nwA U
/-- what it leaves: the same cells, with what they hold now -/
def gE (D : va_G) (ws : va_W) : Unit → State → Prop := fun _ t => va_P D vwCl ws t.heap
/-- the facts of a method's body that never change -/
def gX (p : Program) (s : State) (m : MethodId) (args : Array Value) (meth : Method) (c : Code) (cc : ByteArray) (maxL : Nat) (ret : Option FieldType) (Ts : List Cond) (own : String) (D : va_G) (tys : List (ClassId × FieldType)) (A : Nat → Prop) (H0 : Heap) : Prop :=
  p.tables.exec = Jvm.exec ∧ c.code = cc ∧ meth.sig.returnType = ret ∧ c.maxLocals = maxL ∧ s.vm.findClass own = some m.cls ∧ (∀ w ∈ Ts, w.before args s = true) ∧ meth.locks = false ∧ (∀ q : Nat, H0.size ≤ q → A q) ∧ va_K D vwCl tys s ∧ nwA s
set_option maxHeartbeats 1000000 in
theorem gMet {l : Launch} {y : MethodName} {ws ws' : List Cond} {rm : Room} {cc : ByteArray} {maxL : Nat} {ret : Option FieldType} {D : va_G} {tys : List (ClassId × FieldType)} {wc : va_W} {As : List Value} {sz mc ms : Nat} {Qc : (Nat → Prop) → Array Value → State → Outcome → State → Prop}
    (hy : plainName y.cls = true) (hw : ws = Cond.code y cc maxL ret :: ws') (hmax : (lg_sl As).length ≤ maxL)
    (body : ∀ (p : Program) (e : Env) (s : State) (m : MethodId) (below : List Frame) (meth : Method) (c : Code) (A : Nat → Prop) (ls : Array Slot), gX p s m As.toArray meth c cc maxL ret ws y.cls D tys A s.heap → meth.name = y.name → s.heap.size = sz → va_P D vwCl wc s.heap → va_D A wc → va_S A s.heap s.heap [] → lv_has ls maxL (lv_args 0 As) →
      W p l e (headSpec ws rm).room s m As.toArray below meth c s.heap [] 0 0 (MQ below (Qc A) As.toArray s mc ms A) (F0 m 0 ls [])) :
    Met l y ws rm (va_Pc As (gB D tys wc sz)) (Qc (va_A wc sz)) mc ms (va_A wc sz) := by
  refine Met.ofW (cc := cc) (maxL := maxL) (ret := ret) hy hw ?_
  intro p e s m args below meth c s₁ B hml hv
  obtain ⟨rfl, hsz, hP, hK, hD0, hN⟩ := hv
  have hx := B.exec
  have hb := B.bytes
  have hr := B.returns
  have hts := atoms_spec (ws := ws) B.pre
  have hown : s.vm.findClass y.cls = some m.cls := findClass_of_methodNamed B.named
  have hlocks := B.notSynchronized
  have hin : meth.name = y.name := (name_of_methodNamed B.named B.method).1
  subst hsz
  have hD := hD0.self (sz := s.heap.size)
  have hA : ∀ q : Nat, s.heap.size ≤ q → va_A wc s.heap.size q := fun q h => Or.inr h
  have hS : va_S (va_A wc s.heap.size) s.heap s.heap [] := va_S.rf
  have hl := lv_entry As (n := maxL) hmax
  rw [lg_entry_eq]
  exact body p e s m below meth c _ _ ⟨hx, hb, hr, hml, hown, hts, hlocks, hA, hK, hN⟩ hin rfl hP hD hS hl
theorem sub_map {α : Type} {ws ws' : List α} {is : List Nat} (h : is.map (fun i => ws[i]?) = ws'.map some) : is.filterMap (fun i => ws[i]?) = ws' := by
  have h1 : is.filterMap (fun i => ws[i]?) = (is.map (fun i => ws[i]?)).filterMap id := by rw [List.filterMap_map]; rfl
  rw [h1, h, List.filterMap_map]
  induction ws' with
  | nil => rfl
  | cons a l ih => simp
/-- a world with some of its cells put anew -/
def spl (w : va_W) : List Nat → va_W → va_W
  | i :: is, x :: xs => spl (w.set i x) is xs
  | _, _ => w
theorem spl_get : ∀ (is : List Nat) (xs w : va_W), is.length = xs.length → ∀ (k : Nat) (q : Nat × va_E), (spl w is xs)[k]? = some q → (k ∉ is ∧ w[k]? = some q) ∨ ∃ j : Nat, is[j]? = some k ∧ xs[j]? = some q := by
  intro is
  induction is with
  | nil =>
    intro xs w _ k q h
    exact Or.inl ⟨List.not_mem_nil, by simpa [spl] using h⟩
  | cons i is ih =>
    intro xs w hl k q h
    cases xs with
    | nil => simp at hl
    | cons x xs =>
      rcases ih xs (w.set i x) (by simpa using hl) k q h with ⟨h1, h2⟩ | ⟨j, h1, h2⟩
      · by_cases hk : k = i
        · subst hk
          rw [List.getElem?_set] at h2
          simp only [if_true] at h2
          split at h2
          · exact Or.inr ⟨0, rfl, h2⟩
          · cases h2
        · rw [List.getElem?_set_ne (fun e => hk e.symm)] at h2
          exact Or.inl ⟨fun hm => (List.mem_cons.mp hm).elim hk h1, h2⟩
      · exact Or.inr ⟨j + 1, h1, h2⟩
theorem spl_fst : ∀ (is : List Nat) (xs w wc : va_W), is.map (fun i => w[i]?) = wc.map some → va_nd is = true → xs.map (fun q => q.1) = wc.map (fun q => q.1) → (spl w is xs).map (fun q => q.1) = w.map (fun q => q.1) := by
  intro is
  induction is with
  | nil => intro xs w wc _ _ _; cases xs <;> rfl
  | cons i is ih =>
    intro xs w wc hC hn hx
    cases wc with
    | nil => simp at hC
    | cons c wc =>
      cases xs with
      | nil => simp at hx
      | cons x xs =>
        simp only [List.map_cons, List.cons.injEq] at hC hx
        simp only [va_nd, Bool.and_eq_true, decide_eq_true_eq] at hn
        have h1 : (w.set i x).map (fun q => q.1) = w.map (fun q => q.1) := by
          apply List.ext_getElem?
          intro k
          rw [List.getElem?_map, List.getElem?_map]
          by_cases hk : i = k
          · subst hk
            rw [List.getElem?_set, hC.1]
            have : i < w.length := (List.getElem?_eq_some_iff.mp hC.1).1
            simp [this, hx.1]
          · rw [List.getElem?_set_ne hk]
        rw [← h1]
        refine ih xs (w.set i x) wc ?_ hn.2 hx.2
        rw [← hC.2]
        apply List.map_congr_left
        intro j hj
        have hne : i ≠ j := fun e => hn.1 (by rw [e]; exact hj)
        exact List.getElem?_set_ne hne
theorem va_D.fst {A : Nat → Prop} {w w' : va_W} (h : va_D A w) (e : w'.map (fun q => q.1) = w.map (fun q => q.1)) : va_D A w' := by
  have key : ∀ (k : Nat) (q : Nat × va_E), w'[k]? = some q → ∃ q' : Nat × va_E, w[k]? = some q' ∧ q'.1 = q.1 := by
    intro k q hq
    have h1 : (w'.map (fun q => q.1))[k]? = some q.1 := by rw [List.getElem?_map, hq]; rfl
    rw [e, List.getElem?_map] at h1
    cases hw : w[k]? with
    | none => rw [hw] at h1; cases h1
    | some q' => rw [hw] at h1; exact ⟨q', rfl, Option.some.inj h1⟩
  refine ⟨fun i j p q hi hj hpq => ?_, fun k q hk => ?_⟩
  · obtain ⟨p', hp, e1⟩ := key i p hi
    obtain ⟨q', hq, e2⟩ := key j q hj
    exact h.1 i j p' q' hp hq (by rw [e1, e2, hpq])
  · obtain ⟨q', hq, e1⟩ := key k q hk
    rw [← e1]
    exact h.2 k q' hq
/-- behind a call that makes nothing: the callee's cells as it left them, all others as they were -/
theorem gJoin {A0 : Nat → Prop} {D : va_G} {w wc wc' : va_W} {H H1 : Heap} (hP : va_P D vwCl w H) (hD : va_D A0 w) (is : List Nat) (hC : is.map (fun i => w[i]?) = wc.map some) (hn : va_nd is = true) (hx : wc'.map (fun q => q.1) = wc.map (fun q => q.1))
    (hk : ∀ q : Nat, q < H.size → ¬ va_A wc H.size q → H1[q]? = H[q]?) (hP1 : va_P D vwCl wc' H1) : va_P D vwCl (spl w is wc') H1 ∧ va_D A0 (spl w is wc') := by
  have hlen : is.length = wc.length := by have := congrArg List.length hC; simpa using this
  have hlen' : wc'.length = wc.length := by have := congrArg List.length hx; simpa using this
  refine ⟨fun k q hq => ?_, hD.fst (spl_fst is wc' w wc hC hn hx)⟩
  rcases spl_get is wc' w (by omega) k q hq with ⟨h1, h2⟩ | ⟨j, h1, h2⟩
  · refine (hP k q h2).kept (hk q.1 (hP k q h2).lt ?_)
    rintro (⟨j, e, hj⟩ | h)
    · have h3 : (is.map (fun i => w[i]?))[j]? = some (some (q.1, e)) := by rw [hC, List.getElem?_map, hj]; rfl
      rw [List.getElem?_map] at h3
      cases hi : is[j]? with
      | none => rw [hi] at h3; cases h3
      | some i =>
        rw [hi] at h3
        have h4 : w[i]? = some (q.1, e) := Option.some.inj h3
        have h5 := hD.1 i k (q.1, e) q h4 h2 rfl
        exact h1 (h5 ▸ List.mem_of_getElem? hi)
    · exact absurd (hP k q h2).lt (Nat.not_lt.mpr h)
  · exact hP1 j q h2
theorem gB_blind {D : va_G} {tys : List (ClassId × FieldType)} {ws : va_W} {sz : Nat} {av : List Value} : FrameBlind (va_Pc av (gB D tys ws sz)) := fun a U g mk q => by
  obtain ⟨q0, q1, qP, qK, qD, qN⟩ := q
  exact ⟨q0, q1, qP, va_K.moved (u := U) (U := U.calling g mk a) (Vm.Alike.refl U.vm) qK, qD, nwA.same (u := U) (U := U.calling g mk a) rfl qN⟩
theorem gB_of {D : va_G} {tys : List (ClassId × FieldType)} {w wc : va_W} {A : Nat → Prop} {s : State} {H : Heap} {av : List Value} (hK : va_K D vwCl tys s) (hN : nwA s) (hP : va_P D vwCl w H) (hD : va_D A w) (is : List Nat) (hC : is.map (fun i => w[i]?) = wc.map some) (hn : va_nd is = true) : ∀ U : State, U.heap = H → s.WarmedH U.vm → va_Pc av (gB D tys wc H.size) av.toArray U := fun U hU hW =>
  ⟨rfl, by rw [hU], by rw [hU]; exact hP.sub is (sub_map hC), va_K.moved hW.alike hK, (hD.sub is hn hC).weaken (fun _ _ _ _ => trivial), nwA.warm hW hN⟩
-- Options of the pure side
def gd {α : Type} (i : Int32) (n : Nat) (x : Option α) : Option α := if 0 ≤ i.toInt ∧ i.toInt < n then x else none
theorem pgd {α : Type} {i : Int32} {n : Nat} {x : Option α} {y : α} (h : gd i n x = some y) : vp_in i n ∧ x = some y := by
  unfold gd at h
  split at h
  · exact ⟨vp_in_iff.mpr (by assumption), h⟩
  · cases h
theorem gd_in {α : Type} {i : Int32} {n : Nat} {x : Option α} (h : 0 ≤ i.toInt ∧ i.toInt < n) : gd i n x = x := if_pos h
def gz {α : Type} (y : Int32) (x : Option α) : Option α := if y = 0 then none else x
theorem pgz {α : Type} {i : Int32} {x : Option α} {y : α} (h : gz i x = some y) : ¬ i = 0 ∧ x = some y := by
  unfold gz at h
  split at h
  · cases h
  · exact ⟨by assumption, h⟩
theorem gz_ne {α : Type} {y : Int32} {x : Option α} (h : ¬ y = 0) : gz y x = x := if_neg h
def gb {α : Type} (r : Int32) (x : Option α) : Option α := if r = 0 ∨ r = 1 then x else none
theorem pgb {α : Type} {r : Int32} {x : Option α} {y : α} (h : gb r x = some y) : (r = 0 ∨ r = 1) ∧ x = some y := by
  unfold gb at h
  split at h
  · exact ⟨by assumption, h⟩
  · cases h
theorem gb_in {α : Type} {r : Int32} {x : Option α} (h : r = 0 ∨ r = 1) : gb r x = x := if_pos h
theorem nar_b {r : Int32} (h : r = 0 ∨ r = 1) : narrow .boolean (.int r) = .int r := by
  rcases h with rfl | rfl <;> rfl
theorem pit {α : Type} {c : Prop} [Decidable c] {a b r : α} (h : (if c then a else b) = r) (hc : c) : a = r := by rw [if_pos hc] at h; exact h
theorem pif {α : Type} {c : Prop} [Decidable c] {a b r : α} (h : (if c then a else b) = r) (hc : ¬ c) : b = r := by rw [if_neg hc] at h; exact h
def rj {α : Type} (o : Option Int32) (f : Int32 → α) (g : α) : α := match o with
  | some r => f r
  | none => g
def b1 {T0 α : Type} (x : Option (T0)) (f : T0 → Option α) : Option α := x.bind fun u => f u
theorem pb1 {T0 α : Type} {x : Option (T0)} {f : T0 → Option α} {y : α} (h : b1 x f = some y) : ∃ (x0 : T0), x = some x0 ∧ f x0 = some y := by
  cases x with
  | none => cases h
  | some u => exact ⟨u, rfl, h⟩
theorem b1_s {T0 α : Type} (x0 : T0) (f : T0 → Option α) : b1 (some x0) f = f x0 := rfl
def b2 {T0 T1 α : Type} (x : Option (T0 × T1)) (f : T0 → T1 → Option α) : Option α := x.bind fun u => f u.1 u.2
theorem pb2 {T0 T1 α : Type} {x : Option (T0 × T1)} {f : T0 → T1 → Option α} {y : α} (h : b2 x f = some y) : ∃ (x0 : T0) (x1 : T1), x = some (x0, x1) ∧ f x0 x1 = some y := by
  cases x with
  | none => cases h
  | some u => exact ⟨u.1, u.2, rfl, h⟩
theorem b2_s {T0 T1 α : Type} (x0 : T0) (x1 : T1) (f : T0 → T1 → Option α) : b2 (some (x0, x1)) f = f x0 x1 := rfl
def b3 {T0 T1 T2 α : Type} (x : Option (T0 × T1 × T2)) (f : T0 → T1 → T2 → Option α) : Option α := x.bind fun u => f u.1 u.2.1 u.2.2
theorem pb3 {T0 T1 T2 α : Type} {x : Option (T0 × T1 × T2)} {f : T0 → T1 → T2 → Option α} {y : α} (h : b3 x f = some y) : ∃ (x0 : T0) (x1 : T1) (x2 : T2), x = some (x0, x1, x2) ∧ f x0 x1 x2 = some y := by
  cases x with
  | none => cases h
  | some u => exact ⟨u.1, u.2.1, u.2.2, rfl, h⟩
theorem b3_s {T0 T1 T2 α : Type} (x0 : T0) (x1 : T1) (x2 : T2) (f : T0 → T1 → T2 → Option α) : b3 (some (x0, x1, x2)) f = f x0 x1 x2 := rfl
def b4 {T0 T1 T2 T3 α : Type} (x : Option (T0 × T1 × T2 × T3)) (f : T0 → T1 → T2 → T3 → Option α) : Option α := x.bind fun u => f u.1 u.2.1 u.2.2.1 u.2.2.2
theorem pb4 {T0 T1 T2 T3 α : Type} {x : Option (T0 × T1 × T2 × T3)} {f : T0 → T1 → T2 → T3 → Option α} {y : α} (h : b4 x f = some y) : ∃ (x0 : T0) (x1 : T1) (x2 : T2) (x3 : T3), x = some (x0, x1, x2, x3) ∧ f x0 x1 x2 x3 = some y := by
  cases x with
  | none => cases h
  | some u => exact ⟨u.1, u.2.1, u.2.2.1, u.2.2.2, rfl, h⟩
theorem b4_s {T0 T1 T2 T3 α : Type} (x0 : T0) (x1 : T1) (x2 : T2) (x3 : T3) (f : T0 → T1 → T2 → T3 → Option α) : b4 (some (x0, x1, x2, x3)) f = f x0 x1 x2 x3 := rfl
def b5 {T0 T1 T2 T3 T4 α : Type} (x : Option (T0 × T1 × T2 × T3 × T4)) (f : T0 → T1 → T2 → T3 → T4 → Option α) : Option α := x.bind fun u => f u.1 u.2.1 u.2.2.1 u.2.2.2.1 u.2.2.2.2
theorem pb5 {T0 T1 T2 T3 T4 α : Type} {x : Option (T0 × T1 × T2 × T3 × T4)} {f : T0 → T1 → T2 → T3 → T4 → Option α} {y : α} (h : b5 x f = some y) : ∃ (x0 : T0) (x1 : T1) (x2 : T2) (x3 : T3) (x4 : T4), x = some (x0, x1, x2, x3, x4) ∧ f x0 x1 x2 x3 x4 = some y := by
  cases x with
  | none => cases h
  | some u => exact ⟨u.1, u.2.1, u.2.2.1, u.2.2.2.1, u.2.2.2.2, rfl, h⟩
theorem b5_s {T0 T1 T2 T3 T4 α : Type} (x0 : T0) (x1 : T1) (x2 : T2) (x3 : T3) (x4 : T4) (f : T0 → T1 → T2 → T3 → T4 → Option α) : b5 (some (x0, x1, x2, x3, x4)) f = f x0 x1 x2 x3 x4 := rfl
def b6 {T0 T1 T2 T3 T4 T5 α : Type} (x : Option (T0 × T1 × T2 × T3 × T4 × T5)) (f : T0 → T1 → T2 → T3 → T4 → T5 → Option α) : Option α := x.bind fun u => f u.1 u.2.1 u.2.2.1 u.2.2.2.1 u.2.2.2.2.1 u.2.2.2.2.2
theorem pb6 {T0 T1 T2 T3 T4 T5 α : Type} {x : Option (T0 × T1 × T2 × T3 × T4 × T5)} {f : T0 → T1 → T2 → T3 → T4 → T5 → Option α} {y : α} (h : b6 x f = some y) : ∃ (x0 : T0) (x1 : T1) (x2 : T2) (x3 : T3) (x4 : T4) (x5 : T5), x = some (x0, x1, x2, x3, x4, x5) ∧ f x0 x1 x2 x3 x4 x5 = some y := by
  cases x with
  | none => cases h
  | some u => exact ⟨u.1, u.2.1, u.2.2.1, u.2.2.2.1, u.2.2.2.2.1, u.2.2.2.2.2, rfl, h⟩
theorem b6_s {T0 T1 T2 T3 T4 T5 α : Type} (x0 : T0) (x1 : T1) (x2 : T2) (x3 : T3) (x4 : T4) (x5 : T5) (f : T0 → T1 → T2 → T3 → T4 → T5 → Option α) : b6 (some (x0, x1, x2, x3, x4, x5)) f = f x0 x1 x2 x3 x4 x5 := rfl
def b7 {T0 T1 T2 T3 T4 T5 T6 α : Type} (x : Option (T0 × T1 × T2 × T3 × T4 × T5 × T6)) (f : T0 → T1 → T2 → T3 → T4 → T5 → T6 → Option α) : Option α := x.bind fun u => f u.1 u.2.1 u.2.2.1 u.2.2.2.1 u.2.2.2.2.1 u.2.2.2.2.2.1 u.2.2.2.2.2.2
theorem pb7 {T0 T1 T2 T3 T4 T5 T6 α : Type} {x : Option (T0 × T1 × T2 × T3 × T4 × T5 × T6)} {f : T0 → T1 → T2 → T3 → T4 → T5 → T6 → Option α} {y : α} (h : b7 x f = some y) : ∃ (x0 : T0) (x1 : T1) (x2 : T2) (x3 : T3) (x4 : T4) (x5 : T5) (x6 : T6), x = some (x0, x1, x2, x3, x4, x5, x6) ∧ f x0 x1 x2 x3 x4 x5 x6 = some y := by
  cases x with
  | none => cases h
  | some u => exact ⟨u.1, u.2.1, u.2.2.1, u.2.2.2.1, u.2.2.2.2.1, u.2.2.2.2.2.1, u.2.2.2.2.2.2, rfl, h⟩
theorem b7_s {T0 T1 T2 T3 T4 T5 T6 α : Type} (x0 : T0) (x1 : T1) (x2 : T2) (x3 : T3) (x4 : T4) (x5 : T5) (x6 : T6) (f : T0 → T1 → T2 → T3 → T4 → T5 → T6 → Option α) : b7 (some (x0, x1, x2, x3, x4, x5, x6)) f = f x0 x1 x2 x3 x4 x5 x6 := rfl
def b8 {T0 T1 T2 T3 T4 T5 T6 T7 α : Type} (x : Option (T0 × T1 × T2 × T3 × T4 × T5 × T6 × T7)) (f : T0 → T1 → T2 → T3 → T4 → T5 → T6 → T7 → Option α) : Option α := x.bind fun u => f u.1 u.2.1 u.2.2.1 u.2.2.2.1 u.2.2.2.2.1 u.2.2.2.2.2.1 u.2.2.2.2.2.2.1 u.2.2.2.2.2.2.2
theorem pb8 {T0 T1 T2 T3 T4 T5 T6 T7 α : Type} {x : Option (T0 × T1 × T2 × T3 × T4 × T5 × T6 × T7)} {f : T0 → T1 → T2 → T3 → T4 → T5 → T6 → T7 → Option α} {y : α} (h : b8 x f = some y) : ∃ (x0 : T0) (x1 : T1) (x2 : T2) (x3 : T3) (x4 : T4) (x5 : T5) (x6 : T6) (x7 : T7), x = some (x0, x1, x2, x3, x4, x5, x6, x7) ∧ f x0 x1 x2 x3 x4 x5 x6 x7 = some y := by
  cases x with
  | none => cases h
  | some u => exact ⟨u.1, u.2.1, u.2.2.1, u.2.2.2.1, u.2.2.2.2.1, u.2.2.2.2.2.1, u.2.2.2.2.2.2.1, u.2.2.2.2.2.2.2, rfl, h⟩
theorem b8_s {T0 T1 T2 T3 T4 T5 T6 T7 α : Type} (x0 : T0) (x1 : T1) (x2 : T2) (x3 : T3) (x4 : T4) (x5 : T5) (x6 : T6) (x7 : T7) (f : T0 → T1 → T2 → T3 → T4 → T5 → T6 → T7 → Option α) : b8 (some (x0, x1, x2, x3, x4, x5, x6, x7)) f = f x0 x1 x2 x3 x4 x5 x6 x7 := rfl
def b9 {T0 T1 T2 T3 T4 T5 T6 T7 T8 α : Type} (x : Option (T0 × T1 × T2 × T3 × T4 × T5 × T6 × T7 × T8)) (f : T0 → T1 → T2 → T3 → T4 → T5 → T6 → T7 → T8 → Option α) : Option α := x.bind fun u => f u.1 u.2.1 u.2.2.1 u.2.2.2.1 u.2.2.2.2.1 u.2.2.2.2.2.1 u.2.2.2.2.2.2.1 u.2.2.2.2.2.2.2.1 u.2.2.2.2.2.2.2.2
theorem pb9 {T0 T1 T2 T3 T4 T5 T6 T7 T8 α : Type} {x : Option (T0 × T1 × T2 × T3 × T4 × T5 × T6 × T7 × T8)} {f : T0 → T1 → T2 → T3 → T4 → T5 → T6 → T7 → T8 → Option α} {y : α} (h : b9 x f = some y) : ∃ (x0 : T0) (x1 : T1) (x2 : T2) (x3 : T3) (x4 : T4) (x5 : T5) (x6 : T6) (x7 : T7) (x8 : T8), x = some (x0, x1, x2, x3, x4, x5, x6, x7, x8) ∧ f x0 x1 x2 x3 x4 x5 x6 x7 x8 = some y := by
  cases x with
  | none => cases h
  | some u => exact ⟨u.1, u.2.1, u.2.2.1, u.2.2.2.1, u.2.2.2.2.1, u.2.2.2.2.2.1, u.2.2.2.2.2.2.1, u.2.2.2.2.2.2.2.1, u.2.2.2.2.2.2.2.2, rfl, h⟩
theorem b9_s {T0 T1 T2 T3 T4 T5 T6 T7 T8 α : Type} (x0 : T0) (x1 : T1) (x2 : T2) (x3 : T3) (x4 : T4) (x5 : T5) (x6 : T6) (x7 : T7) (x8 : T8) (f : T0 → T1 → T2 → T3 → T4 → T5 → T6 → T7 → T8 → Option α) : b9 (some (x0, x1, x2, x3, x4, x5, x6, x7, x8)) f = f x0 x1 x2 x3 x4 x5 x6 x7 x8 := rfl
def b10 {T0 T1 T2 T3 T4 T5 T6 T7 T8 T9 α : Type} (x : Option (T0 × T1 × T2 × T3 × T4 × T5 × T6 × T7 × T8 × T9)) (f : T0 → T1 → T2 → T3 → T4 → T5 → T6 → T7 → T8 → T9 → Option α) : Option α := x.bind fun u => f u.1 u.2.1 u.2.2.1 u.2.2.2.1 u.2.2.2.2.1 u.2.2.2.2.2.1 u.2.2.2.2.2.2.1 u.2.2.2.2.2.2.2.1 u.2.2.2.2.2.2.2.2.1 u.2.2.2.2.2.2.2.2.2
theorem pb10 {T0 T1 T2 T3 T4 T5 T6 T7 T8 T9 α : Type} {x : Option (T0 × T1 × T2 × T3 × T4 × T5 × T6 × T7 × T8 × T9)} {f : T0 → T1 → T2 → T3 → T4 → T5 → T6 → T7 → T8 → T9 → Option α} {y : α} (h : b10 x f = some y) : ∃ (x0 : T0) (x1 : T1) (x2 : T2) (x3 : T3) (x4 : T4) (x5 : T5) (x6 : T6) (x7 : T7) (x8 : T8) (x9 : T9), x = some (x0, x1, x2, x3, x4, x5, x6, x7, x8, x9) ∧ f x0 x1 x2 x3 x4 x5 x6 x7 x8 x9 = some y := by
  cases x with
  | none => cases h
  | some u => exact ⟨u.1, u.2.1, u.2.2.1, u.2.2.2.1, u.2.2.2.2.1, u.2.2.2.2.2.1, u.2.2.2.2.2.2.1, u.2.2.2.2.2.2.2.1, u.2.2.2.2.2.2.2.2.1, u.2.2.2.2.2.2.2.2.2, rfl, h⟩
theorem b10_s {T0 T1 T2 T3 T4 T5 T6 T7 T8 T9 α : Type} (x0 : T0) (x1 : T1) (x2 : T2) (x3 : T3) (x4 : T4) (x5 : T5) (x6 : T6) (x7 : T7) (x8 : T8) (x9 : T9) (f : T0 → T1 → T2 → T3 → T4 → T5 → T6 → T7 → T8 → T9 → Option α) : b10 (some (x0, x1, x2, x3, x4, x5, x6, x7, x8, x9)) f = f x0 x1 x2 x3 x4 x5 x6 x7 x8 x9 := rfl
def b11 {T0 T1 T2 T3 T4 T5 T6 T7 T8 T9 T10 α : Type} (x : Option (T0 × T1 × T2 × T3 × T4 × T5 × T6 × T7 × T8 × T9 × T10)) (f : T0 → T1 → T2 → T3 → T4 → T5 → T6 → T7 → T8 → T9 → T10 → Option α) : Option α := x.bind fun u => f u.1 u.2.1 u.2.2.1 u.2.2.2.1 u.2.2.2.2.1 u.2.2.2.2.2.1 u.2.2.2.2.2.2.1 u.2.2.2.2.2.2.2.1 u.2.2.2.2.2.2.2.2.1 u.2.2.2.2.2.2.2.2.2.1 u.2.2.2.2.2.2.2.2.2.2
theorem pb11 {T0 T1 T2 T3 T4 T5 T6 T7 T8 T9 T10 α : Type} {x : Option (T0 × T1 × T2 × T3 × T4 × T5 × T6 × T7 × T8 × T9 × T10)} {f : T0 → T1 → T2 → T3 → T4 → T5 → T6 → T7 → T8 → T9 → T10 → Option α} {y : α} (h : b11 x f = some y) : ∃ (x0 : T0) (x1 : T1) (x2 : T2) (x3 : T3) (x4 : T4) (x5 : T5) (x6 : T6) (x7 : T7) (x8 : T8) (x9 : T9) (x10 : T10), x = some (x0, x1, x2, x3, x4, x5, x6, x7, x8, x9, x10) ∧ f x0 x1 x2 x3 x4 x5 x6 x7 x8 x9 x10 = some y := by
  cases x with
  | none => cases h
  | some u => exact ⟨u.1, u.2.1, u.2.2.1, u.2.2.2.1, u.2.2.2.2.1, u.2.2.2.2.2.1, u.2.2.2.2.2.2.1, u.2.2.2.2.2.2.2.1, u.2.2.2.2.2.2.2.2.1, u.2.2.2.2.2.2.2.2.2.1, u.2.2.2.2.2.2.2.2.2.2, rfl, h⟩
theorem b11_s {T0 T1 T2 T3 T4 T5 T6 T7 T8 T9 T10 α : Type} (x0 : T0) (x1 : T1) (x2 : T2) (x3 : T3) (x4 : T4) (x5 : T5) (x6 : T6) (x7 : T7) (x8 : T8) (x9 : T9) (x10 : T10) (f : T0 → T1 → T2 → T3 → T4 → T5 → T6 → T7 → T8 → T9 → T10 → Option α) : b11 (some (x0, x1, x2, x3, x4, x5, x6, x7, x8, x9, x10)) f = f x0 x1 x2 x3 x4 x5 x6 x7 x8 x9 x10 := rfl
def b12 {T0 T1 T2 T3 T4 T5 T6 T7 T8 T9 T10 T11 α : Type} (x : Option (T0 × T1 × T2 × T3 × T4 × T5 × T6 × T7 × T8 × T9 × T10 × T11)) (f : T0 → T1 → T2 → T3 → T4 → T5 → T6 → T7 → T8 → T9 → T10 → T11 → Option α) : Option α := x.bind fun u => f u.1 u.2.1 u.2.2.1 u.2.2.2.1 u.2.2.2.2.1 u.2.2.2.2.2.1 u.2.2.2.2.2.2.1 u.2.2.2.2.2.2.2.1 u.2.2.2.2.2.2.2.2.1 u.2.2.2.2.2.2.2.2.2.1 u.2.2.2.2.2.2.2.2.2.2.1 u.2.2.2.2.2.2.2.2.2.2.2
theorem pb12 {T0 T1 T2 T3 T4 T5 T6 T7 T8 T9 T10 T11 α : Type} {x : Option (T0 × T1 × T2 × T3 × T4 × T5 × T6 × T7 × T8 × T9 × T10 × T11)} {f : T0 → T1 → T2 → T3 → T4 → T5 → T6 → T7 → T8 → T9 → T10 → T11 → Option α} {y : α} (h : b12 x f = some y) : ∃ (x0 : T0) (x1 : T1) (x2 : T2) (x3 : T3) (x4 : T4) (x5 : T5) (x6 : T6) (x7 : T7) (x8 : T8) (x9 : T9) (x10 : T10) (x11 : T11), x = some (x0, x1, x2, x3, x4, x5, x6, x7, x8, x9, x10, x11) ∧ f x0 x1 x2 x3 x4 x5 x6 x7 x8 x9 x10 x11 = some y := by
  cases x with
  | none => cases h
  | some u => exact ⟨u.1, u.2.1, u.2.2.1, u.2.2.2.1, u.2.2.2.2.1, u.2.2.2.2.2.1, u.2.2.2.2.2.2.1, u.2.2.2.2.2.2.2.1, u.2.2.2.2.2.2.2.2.1, u.2.2.2.2.2.2.2.2.2.1, u.2.2.2.2.2.2.2.2.2.2.1, u.2.2.2.2.2.2.2.2.2.2.2, rfl, h⟩
theorem b12_s {T0 T1 T2 T3 T4 T5 T6 T7 T8 T9 T10 T11 α : Type} (x0 : T0) (x1 : T1) (x2 : T2) (x3 : T3) (x4 : T4) (x5 : T5) (x6 : T6) (x7 : T7) (x8 : T8) (x9 : T9) (x10 : T10) (x11 : T11) (f : T0 → T1 → T2 → T3 → T4 → T5 → T6 → T7 → T8 → T9 → T10 → T11 → Option α) : b12 (some (x0, x1, x2, x3, x4, x5, x6, x7, x8, x9, x10, x11)) f = f x0 x1 x2 x3 x4 x5 x6 x7 x8 x9 x10 x11 := rfl
def b13 {T0 T1 T2 T3 T4 T5 T6 T7 T8 T9 T10 T11 T12 α : Type} (x : Option (T0 × T1 × T2 × T3 × T4 × T5 × T6 × T7 × T8 × T9 × T10 × T11 × T12)) (f : T0 → T1 → T2 → T3 → T4 → T5 → T6 → T7 → T8 → T9 → T10 → T11 → T12 → Option α) : Option α := x.bind fun u => f u.1 u.2.1 u.2.2.1 u.2.2.2.1 u.2.2.2.2.1 u.2.2.2.2.2.1 u.2.2.2.2.2.2.1 u.2.2.2.2.2.2.2.1 u.2.2.2.2.2.2.2.2.1 u.2.2.2.2.2.2.2.2.2.1 u.2.2.2.2.2.2.2.2.2.2.1 u.2.2.2.2.2.2.2.2.2.2.2.1 u.2.2.2.2.2.2.2.2.2.2.2.2
theorem pb13 {T0 T1 T2 T3 T4 T5 T6 T7 T8 T9 T10 T11 T12 α : Type} {x : Option (T0 × T1 × T2 × T3 × T4 × T5 × T6 × T7 × T8 × T9 × T10 × T11 × T12)} {f : T0 → T1 → T2 → T3 → T4 → T5 → T6 → T7 → T8 → T9 → T10 → T11 → T12 → Option α} {y : α} (h : b13 x f = some y) : ∃ (x0 : T0) (x1 : T1) (x2 : T2) (x3 : T3) (x4 : T4) (x5 : T5) (x6 : T6) (x7 : T7) (x8 : T8) (x9 : T9) (x10 : T10) (x11 : T11) (x12 : T12), x = some (x0, x1, x2, x3, x4, x5, x6, x7, x8, x9, x10, x11, x12) ∧ f x0 x1 x2 x3 x4 x5 x6 x7 x8 x9 x10 x11 x12 = some y := by
  cases x with
  | none => cases h
  | some u => exact ⟨u.1, u.2.1, u.2.2.1, u.2.2.2.1, u.2.2.2.2.1, u.2.2.2.2.2.1, u.2.2.2.2.2.2.1, u.2.2.2.2.2.2.2.1, u.2.2.2.2.2.2.2.2.1, u.2.2.2.2.2.2.2.2.2.1, u.2.2.2.2.2.2.2.2.2.2.1, u.2.2.2.2.2.2.2.2.2.2.2.1, u.2.2.2.2.2.2.2.2.2.2.2.2, rfl, h⟩
theorem b13_s {T0 T1 T2 T3 T4 T5 T6 T7 T8 T9 T10 T11 T12 α : Type} (x0 : T0) (x1 : T1) (x2 : T2) (x3 : T3) (x4 : T4) (x5 : T5) (x6 : T6) (x7 : T7) (x8 : T8) (x9 : T9) (x10 : T10) (x11 : T11) (x12 : T12) (f : T0 → T1 → T2 → T3 → T4 → T5 → T6 → T7 → T8 → T9 → T10 → T11 → T12 → Option α) : b13 (some (x0, x1, x2, x3, x4, x5, x6, x7, x8, x9, x10, x11, x12)) f = f x0 x1 x2 x3 x4 x5 x6 x7 x8 x9 x10 x11 x12 := rfl
def b14 {T0 T1 T2 T3 T4 T5 T6 T7 T8 T9 T10 T11 T12 T13 α : Type} (x : Option (T0 × T1 × T2 × T3 × T4 × T5 × T6 × T7 × T8 × T9 × T10 × T11 × T12 × T13)) (f : T0 → T1 → T2 → T3 → T4 → T5 → T6 → T7 → T8 → T9 → T10 → T11 → T12 → T13 → Option α) : Option α := x.bind fun u => f u.1 u.2.1 u.2.2.1 u.2.2.2.1 u.2.2.2.2.1 u.2.2.2.2.2.1 u.2.2.2.2.2.2.1 u.2.2.2.2.2.2.2.1 u.2.2.2.2.2.2.2.2.1 u.2.2.2.2.2.2.2.2.2.1 u.2.2.2.2.2.2.2.2.2.2.1 u.2.2.2.2.2.2.2.2.2.2.2.1 u.2.2.2.2.2.2.2.2.2.2.2.2.1 u.2.2.2.2.2.2.2.2.2.2.2.2.2
theorem pb14 {T0 T1 T2 T3 T4 T5 T6 T7 T8 T9 T10 T11 T12 T13 α : Type} {x : Option (T0 × T1 × T2 × T3 × T4 × T5 × T6 × T7 × T8 × T9 × T10 × T11 × T12 × T13)} {f : T0 → T1 → T2 → T3 → T4 → T5 → T6 → T7 → T8 → T9 → T10 → T11 → T12 → T13 → Option α} {y : α} (h : b14 x f = some y) : ∃ (x0 : T0) (x1 : T1) (x2 : T2) (x3 : T3) (x4 : T4) (x5 : T5) (x6 : T6) (x7 : T7) (x8 : T8) (x9 : T9) (x10 : T10) (x11 : T11) (x12 : T12) (x13 : T13), x = some (x0, x1, x2, x3, x4, x5, x6, x7, x8, x9, x10, x11, x12, x13) ∧ f x0 x1 x2 x3 x4 x5 x6 x7 x8 x9 x10 x11 x12 x13 = some y := by
  cases x with
  | none => cases h
  | some u => exact ⟨u.1, u.2.1, u.2.2.1, u.2.2.2.1, u.2.2.2.2.1, u.2.2.2.2.2.1, u.2.2.2.2.2.2.1, u.2.2.2.2.2.2.2.1, u.2.2.2.2.2.2.2.2.1, u.2.2.2.2.2.2.2.2.2.1, u.2.2.2.2.2.2.2.2.2.2.1, u.2.2.2.2.2.2.2.2.2.2.2.1, u.2.2.2.2.2.2.2.2.2.2.2.2.1, u.2.2.2.2.2.2.2.2.2.2.2.2.2, rfl, h⟩
theorem b14_s {T0 T1 T2 T3 T4 T5 T6 T7 T8 T9 T10 T11 T12 T13 α : Type} (x0 : T0) (x1 : T1) (x2 : T2) (x3 : T3) (x4 : T4) (x5 : T5) (x6 : T6) (x7 : T7) (x8 : T8) (x9 : T9) (x10 : T10) (x11 : T11) (x12 : T12) (x13 : T13) (f : T0 → T1 → T2 → T3 → T4 → T5 → T6 → T7 → T8 → T9 → T10 → T11 → T12 → T13 → Option α) : b14 (some (x0, x1, x2, x3, x4, x5, x6, x7, x8, x9, x10, x11, x12, x13)) f = f x0 x1 x2 x3 x4 x5 x6 x7 x8 x9 x10 x11 x12 x13 := rfl
section
variable {p : Program} {l : Launch} {e : Env} {R : Room} {s : State} {m : MethodId} {args : Array Value} {below : List Frame} {meth : Method} {c : Code} {H H0 : Heap} {locs : List Loc} {cells slots : Nat} {Q : State → Prop} {cc : ByteArray} {nL : Nat} {Ts : List Cond} {own : String} {D : va_G} {tys : List (ClassId × FieldType)} {A : Nat → Prop} {w wc wc' : va_W} {pc : Nat} {ls : Array Slot} {st0 rest : List Value} {a : Array Value}
theorem gPV {C : String} {b : Nat} {As : List Value} (hK : va_K D vwCl tys s) (hN : nwA s) (hP : va_P D vwCl w H) (hD : va_D A w) (is : List Nat) (hC : is.map (fun i => w[i]?) = wc.map some) (hn : va_nd is = true) {q0 ci : Nat} {q : vw_C} {fs : List Value} (he : wc[q0]? = some (b, .inr (ci, fs))) (hc : vwCl[ci]? = some q) (hq : q.1 = C) : PreV s H C b (va_Pc (.ref b :: As) (gB D tys wc H.size)) As := by
  subst hq
  exact ⟨gB_blind, va_recv hK (hP.sub is (sub_map hC)) hc he, gB_of hK hN hP hD is hC hn⟩
theorem gPS {As : List Value} (hK : va_K D vwCl tys s) (hN : nwA s) (hP : va_P D vwCl w H) (hD : va_D A w) (is : List Nat) (hC : is.map (fun i => w[i]?) = wc.map some) (hn : va_nd is = true) : PreS s H (va_Pc As (gB D tys wc H.size)) As := ⟨gB_blind, gB_of hK hN hP hD is hC hn⟩
theorem gCi {r0 : Int32} (hr : va_Run p l e R s m args below meth c H locs cells slots 0 0 (F0 m pc ls st0) rest (va_Qi (fun (r : Int32) (_ : Unit) => r = r0) (gE D wc') (va_A wc H.size) a) (va_A wc H.size)) (hP : va_P D vwCl w H) (hD : va_D A w) (hS : va_S A H0 H locs) (hA : ∀ q : Nat, H0.size ≤ q → A q) (is : List Nat) (hC : is.map (fun i => w[i]?) = wc.map some) (hn : va_nd is = true) (hx : wc'.map (fun q => q.1) = wc.map (fun q => q.1))
    (kk : ∀ (H1 : Heap) (locs1 : List Loc), va_P D vwCl (spl w is wc') H1 → va_D A (spl w is wc') → va_S A H0 H1 locs1 → W p l e R s m args below meth c H1 locs1 (cells + 0) (slots + 0) Q (F0 m (pc + 3) ls (.int r0 :: rest))) : W p l e R s m args below meth c H locs cells slots Q (F0 m pc ls st0) := by
  have hF := va_free hD hS hA is hC
  refine va_calli hr hS (fun q _ h => hF q h) hF (fun r u t H1 locs1 ht hvm hw hB hz hk hS1 => ?_)
  subst hw
  obtain ⟨hP', hD'⟩ := gJoin hP hD is hC hn hx hk (by rw [← ht]; exact hB)
  exact kk H1 locs1 hP' hD' hS1
theorem gCl {r0 : Int64} (hr : va_Run p l e R s m args below meth c H locs cells slots 0 0 (F0 m pc ls st0) rest (va_Ql (fun (r : Int64) (_ : Unit) => r = r0) (gE D wc') (va_A wc H.size) a) (va_A wc H.size)) (hP : va_P D vwCl w H) (hD : va_D A w) (hS : va_S A H0 H locs) (hA : ∀ q : Nat, H0.size ≤ q → A q) (is : List Nat) (hC : is.map (fun i => w[i]?) = wc.map some) (hn : va_nd is = true) (hx : wc'.map (fun q => q.1) = wc.map (fun q => q.1))
    (kk : ∀ (H1 : Heap) (locs1 : List Loc), va_P D vwCl (spl w is wc') H1 → va_D A (spl w is wc') → va_S A H0 H1 locs1 → W p l e R s m args below meth c H1 locs1 (cells + 0) (slots + 0) Q (F0 m (pc + 3) ls (.long r0 :: rest))) : W p l e R s m args below meth c H locs cells slots Q (F0 m pc ls st0) := by
  have hF := va_free hD hS hA is hC
  refine va_calll hr hS (fun q _ h => hF q h) hF (fun r u t H1 locs1 ht hvm hw hB hz hk hS1 => ?_)
  subst hw
  obtain ⟨hP', hD'⟩ := gJoin hP hD is hC hn hx hk (by rw [← ht]; exact hB)
  exact kk H1 locs1 hP' hD' hS1
theorem gCv (hr : va_Run p l e R s m args below meth c H locs cells slots 0 0 (F0 m pc ls st0) rest (va_Qv (fun (_ : Unit) => True) (gE D wc') (va_A wc H.size) a) (va_A wc H.size)) (hP : va_P D vwCl w H) (hD : va_D A w) (hS : va_S A H0 H locs) (hA : ∀ q : Nat, H0.size ≤ q → A q) (is : List Nat) (hC : is.map (fun i => w[i]?) = wc.map some) (hn : va_nd is = true) (hx : wc'.map (fun q => q.1) = wc.map (fun q => q.1))
    (kk : ∀ (H1 : Heap) (locs1 : List Loc), va_P D vwCl (spl w is wc') H1 → va_D A (spl w is wc') → va_S A H0 H1 locs1 → W p l e R s m args below meth c H1 locs1 (cells + 0) (slots + 0) Q (F0 m (pc + 3) ls rest)) : W p l e R s m args below meth c H locs cells slots Q (F0 m pc ls st0) := by
  have hF := va_free hD hS hA is hC
  refine va_callv hr hS (fun q _ h => hF q h) hF (fun u t H1 locs1 ht hvm hw hB hz hk hS1 => ?_)
  obtain ⟨hP', hD'⟩ := gJoin hP hD is hC hn hx hk (by rw [← ht]; exact hB)
  exact kk H1 locs1 hP' hD' hS1
theorem gRi {v : Int32} (hx : p.tables.exec = Jvm.exec) (hb : c.code = cc) (hr : meth.sig.returnType = some .int) (hlocks : meth.locks = false) (hP : va_P D vwCl wc' H) (hS : va_S A s.heap H locs) (hdg : decode cc pc = .ok (.ireturn, 1)) : W p l e R s m args below meth c H locs cells slots (MQ below (va_Qi (fun (r : Int32) (_ : Unit) => r = v) (gE D wc') A) args s cells slots A) (F0 m pc ls [.int v]) :=
  W.iret (v := v) hx hb hr (fun t ht hW => ⟨⟨v, (), rfl, rfl, by rw [← ht] at hP; exact hP⟩, hS.F ht⟩) hS.2.2 hdg hlocks
theorem gRz {v : Int32} {ty : FieldType} (hx : p.tables.exec = Jvm.exec) (hb : c.code = cc) (hr : meth.sig.returnType = some ty) (hn : narrow ty (.int v) = .int v) (hlocks : meth.locks = false) (hP : va_P D vwCl wc' H) (hS : va_S A s.heap H locs) (hdg : decode cc pc = .ok (.ireturn, 1)) : W p l e R s m args below meth c H locs cells slots (MQ below (va_Qi (fun (r : Int32) (_ : Unit) => r = v) (gE D wc') A) args s cells slots A) (F0 m pc ls [.int v]) :=
  W.zret (v := v) hx hb hr hn (fun t ht hW => ⟨⟨v, (), rfl, rfl, by rw [← ht] at hP; exact hP⟩, hS.F ht⟩) hS.2.2 hdg hlocks
theorem gRl {v : Int64} (hx : p.tables.exec = Jvm.exec) (hb : c.code = cc) (hr : meth.sig.returnType = some .long) (hlocks : meth.locks = false) (hP : va_P D vwCl wc' H) (hS : va_S A s.heap H locs) (hdg : decode cc pc = .ok (.lreturn, 1)) : W p l e R s m args below meth c H locs cells slots (MQ below (va_Ql (fun (r : Int64) (_ : Unit) => r = v) (gE D wc') A) args s cells slots A) (F0 m pc ls [.long v]) :=
  W.lret (v := v) hx hb hr (fun t ht hW => ⟨⟨v, (), rfl, rfl, by rw [← ht] at hP; exact hP⟩, hS.F ht⟩) hS.2.2 hdg hlocks
theorem gRv (hx : p.tables.exec = Jvm.exec) (hb : c.code = cc) (hr : meth.sig.returnType = none) (hlocks : meth.locks = false) (hP : va_P D vwCl wc' H) (hS : va_S A s.heap H locs) (hdg : decode cc pc = .ok (.return_, 1)) : W p l e R s m args below meth c H locs cells slots (MQ below (va_Qv (fun (_ : Unit) => True) (gE D wc') A) args s cells slots A) (F0 m pc ls []) :=
  W.vret hx hb hr (fun t ht hW => ⟨⟨(), rfl, trivial, by rw [← ht] at hP; exact hP⟩, hS.F ht⟩) hS.2.2 hdg hlocks
theorem gTab {dflt lo hi : Int} {offs : Array Int} {len : Nat} {x v : Int32} {off : Int} {tgt : Nat} (hexec : p.tables.exec = Jvm.exec) (hb : c.code = cc) (ck : x = v) (hdg : decode cc pc = .ok (.tableswitch dflt lo hi offs, len)) (h1 : ¬ v.toInt < lo) (h2 : ¬ hi < v.toInt) (ho : offs[(v.toInt - lo).toNat]? = some off) (ht : (pc : Int) + off = (tgt : Int))
    (k : W p l e R s m args below meth c H locs cells slots Q (F0 m tgt ls rest)) : W p l e R s m args below meth c H locs cells slots Q (F0 m pc ls (.int x :: rest)) := by
  subst ck
  exact lv_tableIn hexec hb hdg h1 h2 ho ht k
end
theorem ti_ne {x v : Int32} {k : Int} (h : ¬ x = v) (hv : v.toInt = k) : x.toInt ≠ k := fun e => h (Int32.toInt_inj.mp (e.trans hv.symm))
theorem rjn {α : Type} {f : Int32 → α} {g y : α} (h : rj none f g = y) : g = y := h
theorem rjs {α : Type} {r : Int32} {f : Int32 → α} {g y : α} (h : rj (some r) f g = y) : f r = y := h
