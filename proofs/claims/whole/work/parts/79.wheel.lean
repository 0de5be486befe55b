/-! the wheel's item, then the whole text -/
theorem n45 : ((-4 : Int32) = (-5 : Int32)) = False := eq_false (by decide)
theorem n46 : ((-4 : Int32) = (-6 : Int32)) = False := eq_false (by decide)
theorem n47 : ((-4 : Int32) = (-7 : Int32)) = False := eq_false (by decide)
theorem n48 : ((-4 : Int32) = (-8 : Int32)) = False := eq_false (by decide)
theorem n49 : ((-4 : Int32) = (-9 : Int32)) = False := eq_false (by decide)
theorem n54 : ((-5 : Int32) = (-4 : Int32)) = False := eq_false (by decide)
theorem n56 : ((-5 : Int32) = (-6 : Int32)) = False := eq_false (by decide)
theorem n57 : ((-5 : Int32) = (-7 : Int32)) = False := eq_false (by decide)
theorem n58 : ((-5 : Int32) = (-8 : Int32)) = False := eq_false (by decide)
theorem n59 : ((-5 : Int32) = (-9 : Int32)) = False := eq_false (by decide)
theorem n64 : ((-6 : Int32) = (-4 : Int32)) = False := eq_false (by decide)
theorem n65 : ((-6 : Int32) = (-5 : Int32)) = False := eq_false (by decide)
theorem n67 : ((-6 : Int32) = (-7 : Int32)) = False := eq_false (by decide)
theorem n68 : ((-6 : Int32) = (-8 : Int32)) = False := eq_false (by decide)
theorem n69 : ((-6 : Int32) = (-9 : Int32)) = False := eq_false (by decide)
theorem n74 : ((-7 : Int32) = (-4 : Int32)) = False := eq_false (by decide)
theorem n75 : ((-7 : Int32) = (-5 : Int32)) = False := eq_false (by decide)
theorem n76 : ((-7 : Int32) = (-6 : Int32)) = False := eq_false (by decide)
theorem n78 : ((-7 : Int32) = (-8 : Int32)) = False := eq_false (by decide)
theorem n79 : ((-7 : Int32) = (-9 : Int32)) = False := eq_false (by decide)
theorem n84 : ((-8 : Int32) = (-4 : Int32)) = False := eq_false (by decide)
theorem n85 : ((-8 : Int32) = (-5 : Int32)) = False := eq_false (by decide)
theorem n86 : ((-8 : Int32) = (-6 : Int32)) = False := eq_false (by decide)
theorem n87 : ((-8 : Int32) = (-7 : Int32)) = False := eq_false (by decide)
theorem n89 : ((-8 : Int32) = (-9 : Int32)) = False := eq_false (by decide)
theorem n94 : ((-9 : Int32) = (-4 : Int32)) = False := eq_false (by decide)
theorem n95 : ((-9 : Int32) = (-5 : Int32)) = False := eq_false (by decide)
theorem n96 : ((-9 : Int32) = (-6 : Int32)) = False := eq_false (by decide)
theorem n97 : ((-9 : Int32) = (-7 : Int32)) = False := eq_false (by decide)
theorem n98 : ((-9 : Int32) = (-8 : Int32)) = False := eq_false (by decide)
section
variable {N n m i T P e : Nat} {tb nd yl sp sk pl wh : Nat → Nat} {signs text tokens starts : Nat → Int32} {cuts nx tk pa va trades people ended dT dP sh : Int32} {needs yields skips skills places wheel need made skT plT skp whT : Nat → Int32}
theorem wheelF {ty : Int32} {f : Nat} (hf : f < 2147483648) (hT : T ≤ 6) : ∀ (d k fu : Nat) (l1 : Int32), k + d = T → d < fu → ∃ z1 z2, fX5_readsWheel_4 N ty (nI T) text fu nx tk pa va (nI f) whT l1 (nI k) = some (nx, tk, pa, va, nI f, whT, z1, z2) := by
  intro d
  induction d with
  | zero =>
    intro k fu l1 hk hfu
    obtain ⟨fu, rfl⟩ : ∃ z, fu = z + 1 := ⟨fu - 1, by omega⟩
    exact ⟨_, _, by rw [fX5_readsWheel_4_s, if_pos (nI_le (by omega) (by omega))]⟩
  | succ d ih =>
    intro k fu l1 hk hfu
    obtain ⟨fu, rfl⟩ : ∃ z, fu = z + 1 := ⟨fu - 1, by omega⟩
    obtain ⟨z1, z2, h⟩ := ih (k + 1) fu (l1 ||| ((1 : Int32) <<< ((0 : Int32) &&& 31))) (by omega) (by omega)
    refine ⟨z1, z2, ?_⟩
    rw [fX5_readsWheel_4_s, ic (sle (by omega) (by omega)), if_neg (by omega), in_e]
    simp only [takesF hf, b6_s, isWellF N hf, b1_s, kq, if_true, ite_self]
    rw [c1, nI_add, ← c1]
    by_cases h2 : tk = (2 : Int32)
    · rw [if_pos h2]
      rcases win_any N va (0 : Int32) (nI T - (1 : Int32)) with g | g
      · have g' : fX4_within N va (0 : Int32) (nI T - nI 1) = _ := g
        first | rw [g, b1_s] | rw [g', b1_s]
        exact h
      · have g' : fX4_within N va (0 : Int32) (nI T - nI 1) = _ := g
        first | rw [g, b1_s] | rw [g', b1_s]
        exact h
    · rw [if_neg h2]
      exact h
theorem wheel_both (hN : 402 ≤ N) (bx : BX n tb signs text) (ct : CT n tb m cuts tokens starts) (hT : T ≤ 6) : ∀ (d k i f f' : Nat) (wheel whT : Nat → Int32) (mask nx tk pa va : Int32), k + d = T → d < f → d < f' → i ≤ m → MU n tb i nx tk pa va → (∃ wh : Nat → Nat, ∀ j, j < k → wh j < T ∧ wheel j = nI (wh j) ∧ whT (6 + j) = nI (wh j)) →
    (∃ i' wheel' mask' z b1' b2' b3' b4' whT', i ≤ i' ∧ i' ≤ m ∧ fX1_readWheel_9 N (nI T) cuts tokens f wheel (nI i) mask (nI k) = some (none, wheel', nI i', mask', z) ∧ fX5_readsWheel_4 N (nI n) (nI T) text f' nx tk pa va (-1 : Int32) whT mask (nI k) = some (b1', b2', b3', b4', (-1 : Int32), whT', mask', z) ∧ MU n tb i' b1' b2' b3' b4' ∧ (∃ wh : Nat → Nat, ∀ j, j < T → wh j < T ∧ wheel' j = nI (wh j) ∧ whT' (6 + j) = nI (wh j)) ∧ ∀ j, j < 6 → whT' j = whT j) ∨
    (∃ j wheel' mask' z b1' b2' b3' b4' whT' z1 z2, j ≤ m ∧ fX1_readWheel_9 N (nI T) cuts tokens f wheel (nI i) mask (nI k) = some (some (0 : Int32), wheel', nI j, mask', z) ∧ fX5_readsWheel_4 N (nI n) (nI T) text f' nx tk pa va (-1 : Int32) whT mask (nI k) = some (b1', b2', b3', b4', nI (stT n tb j), whT', z1, z2) ∧ ∀ j, j < 6 → whT' j = whT j) := by
  intro d
  induction d with
  | zero =>
    intro k i f f' wheel whT mask nx tk pa va hk hf hf' hi mu hw
    obtain ⟨f, rfl⟩ : ∃ z, f = z + 1 := ⟨f - 1, by omega⟩
    obtain ⟨f', rfl⟩ : ∃ z, f' = z + 1 := ⟨f' - 1, by omega⟩
    have hk' : k = T := by omega
    subst hk'
    exact Or.inl ⟨i, wheel, mask, nI k, nx, tk, pa, va, whT, Nat.le_refl _, hi, by rw [fX1_readWheel_9_s, if_pos (nI_le (by omega) (by omega))], by rw [fX5_readsWheel_4_s, if_pos (nI_le (by omega) (by omega))], mu, hw, fun _ _ => rfl⟩
  | succ d ih =>
    intro k i f f' wheel whT mask nx tk pa va hk hf hf' hi mu hw
    obtain ⟨f, rfl⟩ : ∃ z, f = z + 1 := ⟨f - 1, by omega⟩
    obtain ⟨f', rfl⟩ : ∃ z, f' = z + 1 := ⟨f' - 1, by omega⟩
    obtain ⟨k0, k1, k2, k4⟩ := tkp_ok bx (q := stT n tb i)
    have ff : fX5_isWell N (nI (stT n tb i)) = some (0 : Int32) := isWellF N (stT_lt ct)
    have ek : nI k + (1 : Int32) = nI (k + 1) := by rw [c1, nI_add]
    have e6 : (6 : Int32) + nI k = nI (6 + k) := by rw [c6, nI_add]
    obtain ⟨y1, y2, hy⟩ := wheelF (N := N) (ty := nI n) (text := text) (nx := nx) (tk := tk) (pa := pa) (va := va) (whT := whT) (T := T) (f := stT n tb i) (stT_lt ct) hT d (k + 1) f' (mask ||| ((1 : Int32) <<< ((0 : Int32) &&& 31))) (by omega) (by omega)
    rw [fX1_readWheel_9_s, fX5_readsWheel_4_s, ic (sle (by omega) (by omega)), if_neg (show ¬ T ≤ k by omega), ic (sle (by omega) (by omega)), if_neg (show ¬ T ≤ k by omega), tokC ct hi, b1_s, in_e, takes0 mu]
    simp only [b6_s, ff, b1_s, kq, if_true]
    rw [ek]
    by_cases h2 : (tkp n tb (stT n tb i)).1 = 2
    · have hv := k2 h2
      have hlt := notLast bx ct hi (by omega)
      have ev : va = nI (tkp n tb (stT n tb i)).2 := mu.2.2.2 (Or.inr h2)
      have et : tk = (2 : Int32) := by rw [mu.2.1, h2]; rfl
      have ec : cdI (tkp n tb (stT n tb i)) = nI (tkp n tb (stT n tb i)).2 := by
        unfold cdI
        rw [if_neg (by omega), if_neg (by omega), if_pos h2]
      obtain ⟨b, c, dd, ee, t1, t2⟩ := takes1 (N := N) hN bx mu
      rw [if_pos et, ec, t1, b6_s, passC ct hlt, b1_s, isWellT, b1_s, if_neg (show ¬ (1 : Int32) = 0 by decide), ev]
      generalize hvv : (tkp n tb (stT n tb i)).2 = v at *
      rcases RGE_T hT v hv with ⟨g1, g2⟩ | g
      · have g2' : fX4_within N (nI v) (0 : Int32) (nI T - (1 : Int32)) = _ := g2 N
        rw [g2', b1_s, b1_s, if10, if10]
        by_cases hb : ((mask >>> (nI v &&& 31)) &&& (1 : Int32)) = 0
        · rw [if_pos hb, if_pos hb, sgd (by omega) (by decide), sclamp (by omega), e6, sgd (by omega) (by decide), sclamp (by omega)]
          have := ih (k + 1) (i + 1) f f' (upd wheel k (nI v)) (upd whT (6 + k) (nI v)) (mask ||| ((1 : Int32) <<< (nI v &&& 31))) b c dd ee (by omega) (by omega) (by omega) (by omega) t2 (by
            obtain ⟨wh, hw⟩ := hw
            refine ⟨fun j => if j = k then v else wh j, fun j hj => ?_⟩
            show (if j = k then v else wh j) < T ∧ upd wheel k (nI v) j = nI (if j = k then v else wh j) ∧ upd whT (6 + k) (nI v) (6 + j) = nI (if j = k then v else wh j)
            by_cases e : j = k
            · simp only [if_pos e]
              rw [e, up_s, up_s]
              exact ⟨g1, rfl, rfl⟩
            · simp only [if_neg e]
              rw [up_n e, up_n (by omega)]
              exact hw j (by omega))
          rcases this with ⟨i', w', m', z, b1', b2', b3', b4', whT', h1, h3, h4, h5, h6, h7, h8⟩ | ⟨j, w', m', z, b1', b2', b3', b4', whT', z1, z2, h1, h4, h5, h8⟩
          · exact Or.inl ⟨i', w', m', z, b1', b2', b3', b4', whT', by omega, h3, h4, h5, h6, h7, fun j hj => by rw [h8 j hj, up_n (by omega)]⟩
          · exact Or.inr ⟨j, w', m', z, b1', b2', b3', b4', whT', z1, z2, h1, h4, h5, fun j hj => by rw [h8 j hj, up_n (by omega)]⟩
        · rw [if_neg hb, if_neg hb]
          exact Or.inr ⟨i, wheel, mask, nI k, nx, tk, pa, nI v, whT, y1, y2, hi, rfl, by rw [← ev]; exact hy, fun _ _ => rfl⟩
      · have g' : fX4_within N (nI v) (0 : Int32) (nI T - (1 : Int32)) = _ := g N
        rw [g', b1_s, b1_s, if00, if00]
        exact Or.inr ⟨i, wheel, mask, nI k, nx, tk, pa, nI v, whT, y1, y2, hi, rfl, by rw [← ev]; exact hy, fun _ _ => rfl⟩
    · have hn := cdI_neg h2 k1 k4
      have et : ¬ tk = (2 : Int32) := by rw [mu.2.1, c2, seq (by omega) (by decide)]; exact h2
      have g' : fX4_within N (cdI (tkp n tb (stT n tb i))) (0 : Int32) (nI T - (1 : Int32)) = some (nI 0) := inN_s N (lo := 0) hn (by omega)
      rw [g', b1_s, if00, if_neg et]
      exact Or.inr ⟨i, wheel, mask, nI k, nx, tk, pa, va, whT, y1, y2, hi, rfl, hy, fun _ _ => rfl⟩
theorem it_wheel (hN : 402 ≤ N) (bx : BX n tb signs text) (ct : CT n tb m cuts tokens starts) (hi : i ≤ m) (mu : MU n tb i nx tk pa va) (dr : DR T P e nd yl sp sk pl wh trades people ended needs yields skips skills places wheel dT dP sh need made skT plT skp whT) :
    OUT n tb m i need made skT plT skp whT (b4 (fX1_readWheel N trades ended wheel cuts (nI i) tokens) (fun r e s c => gb r (some (r, trades, people, e, needs, yields, skips, skills, places, s, c)))) (fX5_readsItem N (nI n) nx tk pa va (-1 : Int32) dT dP sh text need made skT plT skp whT (5 : Int32)) := by
  obtain ⟨⟨d1, d2, d3⟩, ⟨d4, d5, d6⟩, ⟨d7, d8, d9⟩, d10, d11, d12, d13, d14, d15, d16⟩ := id dr
  unfold fX1_readWheel fX5_readsItem
  simp only [k10, k15, k12, k13, k20, k21, k25, k23, k30, k31, k35, k32, k40, k41, k45, k42, k43, k50, k51, k52, k53, kl0, kl1, kl2, kl3, kl4, kl5, kq, if_true, if_false, ite_self]
  unfold fX5_readsWheel
  rw [d4, d7]
  rcases wheel_both (N := N) hN bx ct d1 T 0 i N N wheel whT (0 : Int32) nx tk pa va (by omega) (by omega) (by omega) hi mu ⟨fun _ => 0, fun j hj => by omega⟩ with ⟨i', w', m', z, b1', b2', b3', b4', whT', h1, h3, h4, h5, h6, ⟨wh', h7⟩, h8⟩ | ⟨j, w', m', z, b1', b2', b3', b4', whT', z1, z2, h1, h4, h5, h8⟩
  · have h4' : fX1_readWheel_9 N (nI T) cuts tokens N wheel (nI i) (0 : Int32) (0 : Int32) = _ := h4
    have h5' : fX5_readsWheel_4 N (nI n) (nI T) text N nx tk pa va (-1 : Int32) whT (0 : Int32) (0 : Int32) = _ := h5
    rw [h4', h5', b5_s, b8_s, rjn_, b4_s, gb1', b6_s]
    exact OUT_yes (i' := i') (T := T) (P := P) (e := 1) (nd := nd) (yl := yl) (sp := sp) (sk := sk) (pl := pl) (wh := wh') h1 h3 rfl rfl h6 ⟨⟨d1, d2, Nat.le_refl _⟩, ⟨rfl, d5, rfl⟩, ⟨rfl, d8, rfl⟩, d10, d11, d12, d13, d14, h7, fun z => by omega⟩ ⟨fun j hj => ⟨rfl, rfl, rfl, rfl, h8 j hj⟩, fun _ _ => rfl⟩
  · have h4' : fX1_readWheel_9 N (nI T) cuts tokens N wheel (nI i) (0 : Int32) (0 : Int32) = _ := h4
    have h5' : fX5_readsWheel_4 N (nI n) (nI T) text N nx tk pa va (-1 : Int32) whT (0 : Int32) (0 : Int32) = _ := h5
    rw [h4', h5', b5_s, b8_s, rjs_, gb0', b4_s, gb0', b6_s]
    exact OUT_no (j := j) h1 rfl rfl ⟨fun j hj => ⟨rfl, rfl, rfl, rfl, h8 j hj⟩, fun _ _ => rfl⟩
/-- what may begin, and what then is read -/
def mayV (v T P e : Nat) : Prop := (v = 0 ∧ T < 6 ∧ e = 0) ∨ (v = 1 ∧ P < 6) ∨ v = 2 ∨ v = 3 ∨ v = 4 ∨ (v = 5 ∧ 0 < T)
theorem item_may (hN : 402 ≤ N) (bx : BX n tb signs text) (ct : CT n tb m cuts tokens starts) (hi : i < m) {v : Nat} (hk : tkp n tb (stT n tb i) = (1, v)) (mu : MU n tb (i + 1) nx tk pa va) (dr : DR T P e nd yl sp sk pl wh trades people ended needs yields skips skills places wheel dT dP sh need made skT plT skp whT) (hm : mayV v T P e) :
    OUT n tb m (i + 1) need made skT plT skp whT (fX1_readItem N trades people ended needs yields skips skills places wheel cuts (nI i) tokens) (fX5_readsItem N (nI n) nx tk pa va (-1 : Int32) dT dP sh text need made skT plT skp whT (nI v)) := by
  obtain ⟨⟨d1, d2, d3⟩, ⟨d4, d5, d6⟩, ⟨d7, d8, d9⟩, d10, d11, d12, d13, d14, d15, d16⟩ := id dr
  unfold fX1_readItem
  rw [tokC ct (by omega), b1_s, hk, passC ct hi, b1_s]
  unfold fX1_canBegin
  rcases hm with ⟨rfl, hT, he⟩ | ⟨rfl, hP⟩ | rfl | rfl | rfl | ⟨rfl, hT⟩
  · rw [show cdI (1, 0) = (-4 : Int32) from rfl]
    have g1 : ¬ (6 : Int32) ≤ trades := by rw [d4, c6, sle (by decide) (by omega)]; omega
    have g2 : ended = (0 : Int32) := by rw [d6, he]; rfl
    simp only [n45, n46, n47, n48, n49, n54, n56, n57, n58, n59, n64, n65, n67, n68, n69, n74, n75, n76, n78, n79, n84, n85, n86, n87, n89, n94, n95, n96, n97, n98, kq, if_false, if_true, if_neg g1, if_pos g2, b1_s, k10]
    exact it_trade hN bx ct (by omega) mu dr hT he
  · rw [show cdI (1, 1) = (-5 : Int32) from rfl]
    have g1 : ¬ (6 : Int32) ≤ people := by rw [d5, c6, sle (by decide) (by omega)]; omega
    simp only [n45, n46, n47, n48, n49, n54, n56, n57, n58, n59, n64, n65, n67, n68, n69, n74, n75, n76, n78, n79, n84, n85, n86, n87, n89, n94, n95, n96, n97, n98, kq, if_false, if_true, if_neg g1, b1_s, k10]
    exact it_person hN bx ct (by omega) mu dr hP
  · rw [show cdI (1, 2) = (-6 : Int32) from rfl]
    simp only [n45, n46, n47, n48, n49, n54, n56, n57, n58, n59, n64, n65, n67, n68, n69, n74, n75, n76, n78, n79, n84, n85, n86, n87, n89, n94, n95, n96, n97, n98, kq, if_false, if_true, b1_s, k10]
    exact it_skill hN bx ct (by omega) mu dr
  · rw [show cdI (1, 3) = (-7 : Int32) from rfl]
    simp only [n45, n46, n47, n48, n49, n54, n56, n57, n58, n59, n64, n65, n67, n68, n69, n74, n75, n76, n78, n79, n84, n85, n86, n87, n89, n94, n95, n96, n97, n98, kq, if_false, if_true, b1_s, k10]
    exact it_skip hN bx ct (by omega) mu dr
  · rw [show cdI (1, 4) = (-8 : Int32) from rfl]
    simp only [n45, n46, n47, n48, n49, n54, n56, n57, n58, n59, n64, n65, n67, n68, n69, n74, n75, n76, n78, n79, n84, n85, n86, n87, n89, n94, n95, n96, n97, n98, kq, if_false, if_true, b1_s, k10]
    exact it_place hN bx ct (by omega) mu dr
  · rw [show cdI (1, 5) = (-9 : Int32) from rfl]
    have g1 : ¬ trades ≤ (0 : Int32) := by rw [d4, c0, sle (by omega) (by decide)]; omega
    simp only [n45, n46, n47, n48, n49, n54, n56, n57, n58, n59, n64, n65, n67, n68, n69, n74, n75, n76, n78, n79, n84, n85, n86, n87, n89, n94, n95, n96, n97, n98, kq, if_false, if_true, if_neg g1, b1_s, k10]
    exact it_wheel hN bx ct (by omega) mu dr
theorem item_not (ct : CT n tb m cuts tokens starts) (bx : BX n tb signs text) (hi : i < m) (dr : DR T P e nd yl sp sk pl wh trades people ended needs yields skips skills places wheel dT dP sh need made skT plT skp whT) (hm : ∀ v, tkp n tb (stT n tb i) = (1, v) → ¬ mayV v T P e) :
    fX1_readItem N trades people ended needs yields skips skills places wheel cuts (nI i) tokens = some ((0 : Int32), trades, people, ended, needs, yields, skips, skills, places, wheel, nI i) := by
  obtain ⟨⟨d1, d2, d3⟩, ⟨d4, d5, d6⟩, _⟩ := id dr
  obtain ⟨k0, k1, k2, k4⟩ := tkp_ok bx (q := stT n tb i)
  have hc : fX1_canBegin N trades people ended (cdI (tkp n tb (stT n tb i))) = some (0 : Int32) := by
    have hk0 : (tkp n tb (stT n tb i)).1 ≠ 0 := fun z => by have := k0 z; have := ct.2.2.2.1 i hi; omega
    generalize tkp n tb (stT n tb i) = z at *
    obtain ⟨k, v⟩ := z
    simp only at k0 k1 k2 k4 hk0
    unfold fX1_canBegin
    rcases (show k = 1 ∨ k = 2 ∨ k = 3 ∨ k = 4 by omega) with rfl | rfl | rfl | rfl
    · have h5 := k1 rfl
      have hm' := hm v rfl
      unfold mayV at hm'
      rcases (show v = 0 ∨ v = 1 ∨ v = 2 ∨ v = 3 ∨ v = 4 ∨ v = 5 by omega) with rfl | rfl | rfl | rfl | rfl | rfl
      · rw [show cdI (1, 0) = (-4 : Int32) from rfl]
        simp only [n45, n46, n47, n48, n49, n54, n56, n57, n58, n59, n64, n65, n67, n68, n69, n74, n75, n76, n78, n79, n84, n85, n86, n87, n89, n94, n95, n96, n97, n98, kq, if_false, if_true]
        rw [d4, c6, ic (sle (by decide) (by omega))]
        by_cases hT : 6 ≤ T
        · rw [if_pos hT]
        · rw [if_neg hT, if_neg (by rw [d6, c0, seq (by omega) (by decide)]; omega)]
      · rw [show cdI (1, 1) = (-5 : Int32) from rfl]
        simp only [n45, n46, n47, n48, n49, n54, n56, n57, n58, n59, n64, n65, n67, n68, n69, n74, n75, n76, n78, n79, n84, n85, n86, n87, n89, n94, n95, n96, n97, n98, kq, if_false, if_true]
        rw [d5, c6, ic (sle (by decide) (by omega)), if_pos (by omega)]
      · omega
      · omega
      · omega
      · rw [show cdI (1, 5) = (-9 : Int32) from rfl]
        simp only [n45, n46, n47, n48, n49, n54, n56, n57, n58, n59, n64, n65, n67, n68, n69, n74, n75, n76, n78, n79, n84, n85, n86, n87, n89, n94, n95, n96, n97, n98, kq, if_false, if_true]
        rw [d4, if_pos (by rw [c0, sle (by omega) (by decide)]; omega)]
    · have h9 := k2 rfl
      rw [show cdI (2, v) = nI v from rfl]
      have hx : ∀ x : Int32, x < 0 → ¬ nI v = x := fun x hx h => by rw [← h] at hx; exact nI_pos (by omega) hx
      rw [if_neg (hx _ (by decide)), if_neg (hx _ (by decide)), if_neg (hx _ (by decide)), if_neg (hx _ (by decide)), if_neg (hx _ (by decide)), if_neg (hx _ (by decide))]
    · rfl
    · rfl
  unfold fX1_readItem
  rw [tokC ct (by omega), b1_s, hc, b1_s, if_pos rfl]
end
