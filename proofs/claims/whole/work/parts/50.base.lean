/-! PURE SIDE: numbers -/
def m9 : Int32 := -9
theorem m9e : (-9 : Int32) = m9 := rfl
theorem c0 : (0 : Int32) = nI 0 := rfl
theorem c1 : (1 : Int32) = nI 1 := rfl
theorem c2 : (2 : Int32) = nI 2 := rfl
theorem c3 : (3 : Int32) = nI 3 := rfl
theorem c4 : (4 : Int32) = nI 4 := rfl
theorem c6 : (6 : Int32) = nI 6 := rfl
theorem c8 : (8 : Int32) = nI 8 := rfl
theorem c9 : (9 : Int32) = nI 9 := rfl
theorem c10 : (10 : Int32) = nI 10 := rfl
theorem c14 : (14 : Int32) = nI 14 := rfl
theorem c20 : (20 : Int32) = nI 20 := rfl
theorem c26 : (26 : Int32) = nI 26 := rfl
theorem c32 : (32 : Int32) = nI 32 := rfl
theorem c33 : (33 : Int32) = nI 33 := rfl
theorem c36 : (36 : Int32) = nI 36 := rfl
theorem c69 : (69 : Int32) = nI 69 := rfl
theorem c99 : (99 : Int32) = nI 99 := rfl
theorem c105 : (105 : Int32) = nI 105 := rfl
theorem c400 : (400 : Int32) = nI 400 := rfl
theorem sclamp {n : Nat} (h : n < 2147483648) : (nI n).toNatClampNeg = n := nI_clamp h
theorem sle {a b : Nat} (ha : a < 2147483648) (hb : b < 2147483648) : (nI a ≤ nI b) = (a ≤ b) := propext (nI_leI ha hb)
theorem slt {a b : Nat} (ha : a < 2147483648) (hb : b < 2147483648) : (nI a < nI b) = (a < b) := propext (nI_ltI ha hb)
theorem seq {a b : Nat} (ha : a < 2147483648) (hb : b < 2147483648) : (nI a = nI b) = (a = b) := propext (nI_eq ha hb)
theorem m9_lt : m9 < 0 := by decide
theorem seqm {a : Nat} (ha : a < 2147483648) : (nI a = m9) = False := eq_false (fun h => nI_pos ha (h ▸ m9_lt))
theorem seqm2 {a : Nat} (ha : a < 2147483648) : (m9 = nI a) = False := eq_false (fun h => nI_pos ha (h ▸ m9_lt))
theorem sub_rem (a d : Nat) : nI a - nI (a / d * d) = nI (a % d) := by
  rw [pk_sub (Nat.div_mul_le_self a d)]
  congr 1
  have := Nat.mod_add_div a d
  have h2 : d * (a / d) = a / d * d := Nat.mul_comm _ _
  omega
theorem ssub {a b : Nat} (h : b ≤ a) : nI a - nI b = nI (a - b) := pk_sub h
theorem sdiv {a b : Nat} (ha : a < 2147483648) (h0 : 0 < b) (hb : b < 2147483648) : nI a / nI b = nI (a / b) := pk_div ha h0 hb
theorem sgd {α : Type} {i n : Nat} {x : Option α} (h : i < n) (hn : n < 2147483648) : gd (nI i) n x = x := gd_in (by rw [nI_toInt (by omega)]; omega)
theorem sgz {α : Type} {y : Nat} {x : Option α} (h : 0 < y) (hy : y < 2147483648) : gz (nI y) x = x := gz_ne (fun e => by rw [c0, nI_eq hy (by decide)] at e; omega)
theorem rjn_ {α : Type} {f : Int32 → α} {g : α} : rj none f g = g := rfl
theorem rjs_ {α : Type} {r : Int32} {f : Int32 → α} {g : α} : rj (some r) f g = f r := rfl
theorem sgb0 {α : Type} {x : Option α} : gb (nI 0) x = x := gb_in (Or.inl rfl)
theorem sgb1 {α : Type} {x : Option α} : gb (nI 1) x = x := gb_in (Or.inr rfl)
theorem bit_tab : ∀ a : Fin 64, ∀ k : Fin 6, ((nI a.val >>> (nI k.val &&& 31)) &&& nI 1) = nI (if Nat.testBit a.val k.val then 1 else 0) := by decide +kernel
theorem bit_s {a k : Nat} (ha : a < 64) (hk : k < 6) : ((nI a >>> (nI k &&& 31)) &&& nI 1) = nI (if Nat.testBit a k then 1 else 0) := bit_tab ⟨a, ha⟩ ⟨k, hk⟩
theorem up_s {f : Nat → Int32} {k : Nat} {x : Int32} : upd f k x k = x := pk_us
theorem up_n {f : Nat → Int32} {k j : Nat} {x : Int32} (h : j ≠ k) : upd f k x j = f j := pk_un h
theorem up_if (f : Nat → Int32) (k j : Nat) (x : Int32) : upd f k x j = if j = k then x else f j := rfl
/-- an option of a place or a trade, as the programs write it -/
def eN : Option Nat → Int32
  | none => m9
  | some k => nI k
theorem eN_n : eN none = m9 := rfl
theorem eN_s {k : Nat} : eN (some k) = nI k := rfl
/-- a loop that counts: its steps, its end -/
theorem lpN {σ ρ : Type} (g : Nat → σ → Option ρ) (st : Nat → σ) (e : Nat) (r : ρ) (hs : ∀ n k, k < e → g (n + 1) (st k) = g n (st (k + 1))) (he : ∀ n, g (n + 1) (st e) = some r) : ∀ (d k : Nat), k + d = e → ∀ n, d < n → g n (st k) = some r := by
  intro d
  induction d with
  | zero =>
    intro k hk n hn
    obtain ⟨n, rfl⟩ : ∃ m, n = m + 1 := ⟨n - 1, by omega⟩
    have : k = e := by omega
    subst this
    exact he n
  | succ d ih =>
    intro k hk n hn
    obtain ⟨n, rfl⟩ : ∃ m, n = m + 1 := ⟨n - 1, by omega⟩
    rw [hs n k (by omega)]
    exact ih (k + 1) (by omega) n (by omega)
theorem ic {α : Type} {c d : Prop} [Decidable c] [Decidable d] (h : c = d) {a b : α} : (if c then a else b) = (if d then a else b) := by
  subst h
  congr
theorem sgd_0 {α : Type} {n : Nat} {x : Option α} : gd (0 : Int32) (n + 1) x = x := gd_in (by rw [show (0 : Int32).toInt = 0 from rfl]; omega)
theorem sgd_1 {α : Type} {n : Nat} {x : Option α} : gd (1 : Int32) (n + 2) x = x := gd_in (by rw [show (1 : Int32).toInt = 1 from rfl]; omega)
theorem if10 {α : Type} {a b : α} : (if nI 1 = (0 : Int32) then a else b) = b := if_neg (by decide)
theorem if00 {α : Type} {a b : α} : (if nI 0 = (0 : Int32) then a else b) = a := if_pos rfl
theorem if10' {α : Type} {a b : α} : (if nI 1 = nI 0 then a else b) = b := if_neg (by decide)
theorem if00' {α : Type} {a b : α} : (if nI 0 = nI 0 then a else b) = a := if_pos rfl
