/-! the text's bytes -/
theorem and255 (y : Int64) : ∃ b, b < 256 ∧ (y &&& 255) = lN b := by
  refine ⟨(y &&& 255).toBitVec.toNat, ?_, ?_⟩
  · rw [Int64.toBitVec_and, BitVec.toNat_and]
    have : (255 : Int64).toBitVec.toNat = 255 := rfl
    rw [this]
    exact Nat.lt_of_le_of_lt Nat.and_le_right (by decide)
  · apply Int64.toBitVec_inj.mp
    show _ = BitVec.ofNat 64 _
    rw [BitVec.ofNat_toNat]
    simp
theorem sh8 : ∀ i : Fin 8, ((((8 : Int32) * nI i.val).toInt64 &&& 63).toBitVec.smod 64).toNat = 8 * i.val ∧ (((8 : Int32) * nI i.val).toInt64.toUInt64 &&& Int64.toUInt64 63).toNat % 64 = 8 * i.val := by decide +kernel
theorem byte_eq (x : Int64) {i : Nat} (hi : i < 8) : ((x.toUInt64 >>> (((8 : Int32) * nI i).toInt64.toUInt64 &&& Int64.toUInt64 63)).toInt64 &&& (255 : Int64)) = ((x >>> (((8 : Int32) * nI i).toInt64 &&& 63)) &&& (255 : Int64)) := by
  obtain ⟨h1, h2⟩ := sh8 ⟨i, hi⟩
  simp only at h1 h2
  apply Int64.toBitVec_inj.mp
  apply BitVec.eq_of_getLsbD_eq
  intro k hk
  rw [Int64.toBitVec_and, Int64.toBitVec_and, BitVec.getLsbD_and, BitVec.getLsbD_and]
  by_cases h8 : k < 8
  · congr 1
    rw [Int64.toBitVec_shiftRight]
    have e1 : (x.toUInt64 >>> (((8 : Int32) * nI i).toInt64.toUInt64 &&& Int64.toUInt64 63)).toInt64.toBitVec = x.toBitVec >>> ((((8 : Int32) * nI i).toInt64.toUInt64 &&& Int64.toUInt64 63).toNat % 64) := by
      show (x.toUInt64 >>> (((8 : Int32) * nI i).toInt64.toUInt64 &&& Int64.toUInt64 63)).toBitVec = _
      rw [UInt64.toBitVec_shiftRight]
      rfl
    rw [e1, h2, BitVec.getLsbD_ushiftRight]
    show _ = (x.toBitVec.sshiftRight' _).getLsbD k
    rw [BitVec.sshiftRight', BitVec.getLsbD_sshiftRight, h1]
    simp only [show ¬ 64 ≤ k by omega, decide_false, Bool.not_false, Bool.true_and, show 8 * i + k < 64 by omega, if_true]
  · have : (255 : Int64).toBitVec.getLsbD k = false := by
      have e : (255 : Int64).toBitVec = BitVec.ofNat 64 255 := rfl
      rw [e, BitVec.getLsbD_ofNat]
      have : Nat.testBit 255 k = false := by
        rw [show (255 : Nat) = 2 ^ 8 - 1 from rfl, Nat.testBit_two_pow_sub_one, decide_eq_false h8]
      rw [this, Bool.and_false]
    rw [this, Bool.and_false, Bool.and_false]
theorem lN_i' (b : Nat) : (lN b).toInt32 = nI b := lN_i b
theorem chr_s : ∀ b : Fin 256, vp_nar .char (((nI b.val).toUInt32 % 65536).toInt32) = nI b.val := by decide +kernel
/-- the text: so many bytes, the same on both sides -/
def RX (n : Nat) (len typed : Int32) (signs text : Nat → Int32) : Prop := n ≤ 400 ∧ len = nI n ∧ typed = nI n ∧ ∀ j, j < n → ∃ b, b < 256 ∧ signs j = nI b ∧ text j = nI b
theorem q_clear {N n : Nat} {len typed thrown : Int32} {signs text : Nat → Int32} (rx : RX n len typed signs text) : ∃ r, fX4_clear N len = some (r, 0) ∧ fX5_clear N thrown typed = some (r, 0, 0) ∧ RX 0 0 0 signs text := by
  refine ⟨len, rfl, ?_, by omega, rfl, rfl, fun j hj => by omega⟩
  unfold fX5_clear
  rw [rx.2.1, rx.2.2.1]
theorem q_type {N n : Nat} {len typed thrown : Int32} {signs text : Nat → Int32} (hN : 10 ≤ N) (rx : RX n len typed signs text) (v : Int64) (i3 : Int32) : ∃ r len' signs' typed' text' n', fX4_type N len signs v i3 = some (r, len', signs') ∧ fX5_type N thrown typed text v i3 = some (r, 0, typed', text') ∧ RX n' len' typed' signs' text' := by
  obtain ⟨h1, h2, h3, h4⟩ := id rx
  unfold fX4_type fX5_type
  rw [in_e]
  rcases rng i3 1 8 (by decide) (by decide) with ⟨k, hk1, hk2, rfl, h⟩ | ⟨h, _⟩
  · rw [show (1 : Int32) = nI 1 from rfl, show (8 : Int32) = nI 8 from rfl, h N, b1_s, b1_s]
    simp only [if10, if00, if10', if00']
    rw [h2, h3, nI_add, c400, ic (sle (by omega) (by omega)), ic (sle (by omega) (by omega))]
    by_cases hf : n + k ≤ 400
    · have key : ∀ (d m nn : Nat) (sg tx : Nat → Int32), d ≤ 8 → m + d ≤ 400 → d < nn → RX m (nI m) (nI m) sg tx → ∃ sg' tx' z z', fX0_add_5 N v nn (nI m) sg (nI d - nI 1) = some (nI (m + d), sg', z) ∧ fX5_type_37 N v nn (nI m) tx (nI d - nI 1) = some (nI (m + d), tx', z') ∧ RX (m + d) (nI (m + d)) (nI (m + d)) sg' tx' := by
        intro d
        induction d with
        | zero =>
          intro m nn sg tx _ hm hn rx
          obtain ⟨nn, rfl⟩ : ∃ z, nn = z + 1 := ⟨nn - 1, by omega⟩
          have hneg : nI 0 - nI 1 < 0 := by decide
          exact ⟨sg, tx, _, _, by rw [fX0_add_5_s, if_pos hneg]; rfl, by rw [fX5_type_37_s, if_pos hneg]; rfl, rx⟩
        | succ d ih =>
          intro m nn sg tx hd hm hn rx
          obtain ⟨nn, rfl⟩ : ∃ z, nn = z + 1 := ⟨nn - 1, by omega⟩
          obtain ⟨b, hb, eb⟩ := and255 (v >>> (((8 : Int32) * nI d).toInt64 &&& 63))
          have e1 : nI (d + 1) - nI 1 = nI d := by rw [ssub (by omega)]; rfl
          have e2 : nI d + (-1 : Int32) = nI d - nI 1 := by
            rw [show (-1 : Int32) = -nI 1 from rfl, ← Int32.sub_eq_add_neg]
          have nn0 : ¬ nI d < 0 := nI_pos (by omega)
          have rx' : RX (m + 1) (nI (m + 1)) (nI (m + 1)) (upd sg m (nI b)) (upd tx m (nI b)) := by
            refine ⟨by omega, rfl, rfl, fun j hj => ?_⟩
            by_cases e : j = m
            · subst e; exact ⟨b, hb, up_s, up_s⟩
            · rw [up_n e, up_n e]; exact rx.2.2.2 j (by omega)
          obtain ⟨sg', tx', z, z', q1, q2, q3⟩ := ih (m + 1) nn (upd sg m (nI b)) (upd tx m (nI b)) (by omega) (by omega) (by omega) rx'
          have e3 : m + 1 + d = m + (d + 1) := by omega
          rw [e3] at q1 q2 q3
          refine ⟨sg', tx', z, z', ?_, ?_, q3⟩
          · rw [e1, fX0_add_5_s, if_neg nn0, c400, ic (sle (by omega) (by omega)), if_neg (by omega), sgd (by omega) (by decide), sclamp (by omega), byte_eq v (by omega), eb, lN_i', chr_s ⟨b, hb⟩, c1, nI_add, ← c1, e2]
            exact q1
          · rw [e1, fX5_type_37_s, if_neg nn0, sgd (by omega) (by decide), sclamp (by omega), eb, lN_i', c1, nI_add, ← c1, e2]
            exact q2
      obtain ⟨sg', tx', z, z', q1, q2, q3⟩ := key k n N signs text (by omega) hf (by omega) ⟨h1, rfl, rfl, h4⟩
      rw [if_pos hf, if_pos hf]
      unfold fX0_add
      rw [show (1 : Int32) = nI 1 from rfl, q1, q2]
      exact ⟨_, _, _, _, _, _, rfl, rfl, q3⟩
    · rw [if_neg hf, if_neg hf]
      exact ⟨_, _, _, _, _, n, rfl, rfl, h1, rfl, rfl, h4⟩
  · rw [show (1 : Int32) = nI 1 from rfl, show (8 : Int32) = nI 8 from rfl, h N, b1_s, b1_s]
    simp only [if10, if00, if10', if00']
    exact ⟨_, _, _, _, _, n, rfl, rfl, rx⟩
