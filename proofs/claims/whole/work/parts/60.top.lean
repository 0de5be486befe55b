/-! both programs, call by call: arguments -/
theorem rng (x : Int32) (a b : Nat) (ha : a < 2147483648) (hb : b < 2147483648) : (∃ k, a ≤ k ∧ k ≤ b ∧ x = nI k ∧ ∀ N, fX4_within N x (nI a) (nI b) = some (nI 1)) ∨ (∀ N, fX4_within N x (nI a) (nI b) = some (nI 0)) ∧ ∀ k, a ≤ k → k ≤ b → x ≠ nI k := by
  by_cases h1 : x < nI a
  · exact Or.inr ⟨fun N => by unfold fX4_within; rw [if_pos h1]; rfl, fun k hk hkb e => by subst e; rw [slt (by omega) ha] at h1; omega⟩
  · by_cases h2 : nI b < x
    · exact Or.inr ⟨fun N => by unfold fX4_within; rw [if_neg h1, if_pos h2]; rfl, fun k hk hkb e => by subst e; rw [slt hb (by omega)] at h2; omega⟩
    · have h0 : ¬ x < 0 := fun h => h1 (by
        rw [Int32.lt_iff_toInt_lt] at h ⊢
        rw [nI_toInt (by omega)]
        have : (0 : Int32).toInt = 0 := rfl
        omega)
      obtain ⟨j, hj, rfl⟩ := nI_of h0
      rw [slt (by omega) ha] at h1
      rw [slt hb (by omega)] at h2
      exact Or.inl ⟨j, by omega, by omega, rfl, fun N => by unfold fX4_within; rw [ic (slt (by omega) ha), ic (slt hb (by omega)), if_neg h1, if_neg h2]; rfl⟩
theorem rngT (x : Int32) (T : Nat) (hT : T ≤ 6) : (∃ k, k < T ∧ x = nI k ∧ ∀ N, fX4_isTrade N (nI T) x = some (nI 1)) ∨ (∀ N, fX4_isTrade N (nI T) x = some (nI 0)) := by
  unfold fX4_isTrade
  by_cases h0 : T = 0
  · right
    intro N
    subst h0
    have : fX4_within N x (0 : Int32) (nI 0 - (1 : Int32)) = some (nI 0) := by
      unfold fX4_within
      by_cases h1 : x < 0
      · rw [if_pos h1]; rfl
      · have h2 : nI 0 - (1 : Int32) < x := by
          rw [Int32.lt_iff_toInt_lt] at h1 ⊢
          have e1 : (nI 0 - (1 : Int32)).toInt = -1 := by decide
          have e2 : (0 : Int32).toInt = 0 := rfl
          omega
        rw [if_neg h1, if_pos h2]; rfl
    rw [this, b1_s, sgb0]
  · have e : nI T - (1 : Int32) = nI (T - 1) := by rw [c1, ssub (by omega)]
    rcases rng x 0 (T - 1) (by omega) (by omega) with ⟨k, _, h2, h3, h4⟩ | ⟨h4, _⟩
    · exact Or.inl ⟨k, by omega, h3, fun N => by rw [e, c0, h4 N, b1_s, sgb1]⟩
    · exact Or.inr (fun N => by rw [e, c0, h4 N, b1_s, sgb0])
theorem in_e (N : Nat) (a b c : Int32) : fX5_in N a b c = fX4_within N a b c := rfl
theorem isTrade_e (N : Nat) (a b : Int32) : fX5_isTrade N a b = fX4_isTrade N a b := rfl
theorem isPerson_e (N : Nat) (a b : Int32) : fX5_isPerson N a b = fX4_isTrade N a b := rfl
theorem isPersonX_e (N : Nat) (a b : Int32) : fX4_isPerson N a b = fX4_isTrade N a b := rfl
theorem areTwo_s (N : Nat) (P : Nat) (hP : P ≤ 6) (x y : Int32) : (∃ a b, a < P ∧ b < P ∧ a ≠ b ∧ x = nI a ∧ y = nI b ∧ fX4_areTwo N (nI P) x y = some (nI 1) ∧ fX4_isTrade N (nI P) x = some (nI 1) ∧ fX4_isTrade N (nI P) y = some (nI 1)) ∨ (fX4_areTwo N (nI P) x y = some (nI 0) ∧ (fX4_isTrade N (nI P) x = some (nI 0) ∨ (fX4_isTrade N (nI P) x = some (nI 1) ∧ (fX4_isTrade N (nI P) y = some (nI 0) ∨ (fX4_isTrade N (nI P) y = some (nI 1) ∧ x = y))))) := by
  unfold fX4_areTwo
  rw [isPersonX_e, isPersonX_e]
  rcases rngT x P hP with ⟨a, h1, h2, h3⟩ | h3
  · rw [h3 N, b1_s, if_neg (by decide)]
    rcases rngT y P hP with ⟨b, k1, k2, k3⟩ | k3
    · rw [k3 N, b1_s, if_neg (by decide)]
      by_cases e : x = y
      · rw [if_pos e]
        exact Or.inr ⟨rfl, Or.inr ⟨rfl, Or.inr ⟨rfl, e⟩⟩⟩
      · rw [if_neg e]
        exact Or.inl ⟨a, b, h1, k1, fun z => e (by rw [h2, k2, z]), h2, k2, rfl, rfl, rfl⟩
    · rw [k3 N, b1_s, if_pos (by decide)]
      exact Or.inr ⟨rfl, Or.inr ⟨rfl, Or.inl rfl⟩⟩
  · rw [h3 N, b1_s, if_pos (by decide)]
    exact Or.inr ⟨rfl, Or.inl rfl⟩
