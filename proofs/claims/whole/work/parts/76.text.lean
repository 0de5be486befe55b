/-! the text as tokens -/
def rnf (c : Nat → Bool) : Nat → Nat → Nat
  | 0, p => p
  | d + 1, p => if c p = true then rnf c d (p + 1) else p
/-- the first place from p on, up to n, where c ends -/
def run (c : Nat → Bool) (n p : Nat) : Nat := rnf c (n - p) p
theorem run_end {c : Nat → Bool} {n p : Nat} (h : n ≤ p) : run c n p = p := by
  unfold run
  rw [show n - p = 0 by omega]
  rfl
theorem run_yes {c : Nat → Bool} {n p : Nat} (h : p < n) (hc : c p = true) : run c n p = run c n (p + 1) := by
  unfold run
  obtain ⟨d, hd⟩ : ∃ d, n - p = d + 1 := ⟨n - p - 1, by omega⟩
  rw [hd, show n - (p + 1) = d by omega]
  show (if c p = true then rnf c d (p + 1) else p) = _
  rw [if_pos hc]
theorem run_no {c : Nat → Bool} {n p : Nat} (hc : c p = false) : run c n p = p := by
  unfold run
  cases h : n - p with
  | zero => rfl
  | succ d =>
    show (if c p = true then rnf c d (p + 1) else p) = p
    rw [if_neg (by rw [hc]; decide)]
theorem run_p {c : Nat → Bool} {n : Nat} : ∀ (d p : Nat), n - p = d → p ≤ run c n p ∧ (p ≤ n → run c n p ≤ n) ∧ ∀ j, p ≤ j → j < run c n p → c j = true := by
  intro d
  induction d with
  | zero =>
    intro p h
    rw [run_end (by omega)]
    exact ⟨Nat.le_refl _, fun h => h, fun j h1 h2 => by omega⟩
  | succ d ih =>
    intro p h
    cases hc : c p with
    | true =>
      obtain ⟨h1, h2, h3⟩ := ih (p + 1) (by omega)
      rw [run_yes (by omega) hc]
      refine ⟨by omega, fun _ => h2 (by omega), fun j j1 j2 => ?_⟩
      by_cases e : j = p
      · rw [e, hc]
      · exact h3 j (by omega) j2
    | false =>
      rw [run_no hc]
      exact ⟨Nat.le_refl _, fun h => h, fun j h1 h2 => by omega⟩
theorem run_stop {c : Nat → Bool} {n : Nat} : ∀ (d p : Nat), n - p = d → run c n p < n → c (run c n p) = false := by
  intro d
  induction d with
  | zero =>
    intro p h hl
    rw [run_end (by omega)] at hl
    omega
  | succ d ih =>
    intro p h hl
    cases hc : c p with
    | true =>
      rw [run_yes (by omega) hc] at hl ⊢
      exact ih (p + 1) (by omega) hl
    | false => rw [run_no hc]; exact hc
def ltr (b : Nat) : Bool := decide (97 ≤ b) && decide (b ≤ 122)
def fgr (b : Nat) : Bool := decide (48 ≤ b) && decide (b ≤ 57)
theorem ltr_t {b : Nat} : ltr b = true ↔ 97 ≤ b ∧ b ≤ 122 := by unfold ltr; rw [Bool.and_eq_true, decide_eq_true_eq, decide_eq_true_eq]
theorem fgr_t {b : Nat} : fgr b = true ↔ 48 ≤ b ∧ b ≤ 57 := by unfold fgr; rw [Bool.and_eq_true, decide_eq_true_eq, decide_eq_true_eq]
theorem ltr_f {b : Nat} : ltr b = false ↔ ¬ (97 ≤ b ∧ b ≤ 122) := by rw [← ltr_t]; simp
theorem fgr_f {b : Nat} : fgr b = false ↔ ¬ (48 ≤ b ∧ b ≤ 57) := by rw [← fgr_t]; simp
/-- the bytes, on both sides -/
def BX (n : Nat) (tb : Nat → Nat) (signs text : Nat → Int32) : Prop := n ≤ 400 ∧ ∀ j, j < n → tb j < 256 ∧ signs j = nI (tb j) ∧ text j = nI (tb j)
theorem BX_of {n : Nat} {len typed : Int32} {signs text : Nat → Int32} (rx : RX n len typed signs text) : BX n (fun j => (signs j).toNatClampNeg) signs text := by
  refine ⟨rx.1, fun j hj => ?_⟩
  obtain ⟨b, h1, h2, h3⟩ := rx.2.2.2 j hj
  show (signs j).toNatClampNeg < 256 ∧ signs j = nI (signs j).toNatClampNeg ∧ text j = nI (signs j).toNatClampNeg
  rw [h2, sclamp (by omega)]
  exact ⟨h1, rfl, h3⟩
/-- where the token at q ends -/
def enT (n : Nat) (tb : Nat → Nat) (q : Nat) : Nat := if ltr (tb q) = true then run (fun j => ltr (tb j)) n (q + 1) else if fgr (tb q) = true then run (fun j => fgr (tb j)) n (q + 1) else q + 1
theorem enT_b {n : Nat} {tb : Nat → Nat} {q : Nat} (h : q < n) : q + 1 ≤ enT n tb q ∧ enT n tb q ≤ n := by
  unfold enT
  split
  · have := run_p (c := fun j => ltr (tb j)) (n := n) _ (q + 1) rfl
    exact ⟨this.1, this.2.1 (by omega)⟩
  · split
    · have := run_p (c := fun j => fgr (tb j)) (n := n) _ (q + 1) rfl
      exact ⟨this.1, this.2.1 (by omega)⟩
    · omega
def eqP (tb : Nat → Nat) (q : Nat) (w : List Int32) : Nat → Bool
  | 0 => true
  | j + 1 => eqP tb q w j && decide (w.getD j 0 = nI (tb (q + j)))
theorem eqP_f {tb : Nat → Nat} {q : Nat} {w : List Int32} {j : Nat} (h : ¬ w.getD j 0 = nI (tb (q + j))) : ∀ m, j < m → eqP tb q w m = false
  | 0, hm => by omega
  | m + 1, hm => by
    unfold eqP
    by_cases e : j = m
    · subst e; rw [decide_eq_false h, Bool.and_false]
    · rw [eqP_f h m (by omega), Bool.false_and]
def wdM (tb : Nat → Nat) (q e : Nat) (w : List Int32) : Bool := decide (w.length = e - q) && eqP tb q w w.length
/-- what token stands at q: its kind and its value -/
def wdx (tb : Nat → Nat) (q e : Nat) : Nat × Nat := if wdM tb q e (wdB 0) = true then (1, 0) else if wdM tb q e (wdB 1) = true then (1, 1) else if wdM tb q e (wdB 2) = true then (1, 2) else if wdM tb q e (wdB 3) = true then (1, 3) else if wdM tb q e (wdB 4) = true then (1, 4) else if wdM tb q e (wdB 5) = true then (1, 5) else (4, 0)
def nmx (tb : Nat → Nat) (q e : Nat) : Nat × Nat := if e - q = 1 then (2, tb q - 48) else if e - q = 2 ∧ tb q ≠ 48 then (2, 10 * (tb q - 48) + (tb (q + 1) - 48)) else (4, 0)
def tkp (n : Nat) (tb : Nat → Nat) (q : Nat) : Nat × Nat := if n ≤ q then (0, 0) else if ltr (tb q) = true then wdx tb q (enT n tb q) else if fgr (tb q) = true then nmx tb q (enT n tb q) else if tb q = 59 then (3, 0) else (4, 0)
/-- the class's word for it -/
def cdI (z : Nat × Nat) : Int32 := if z.1 = 0 then -1 else if z.1 = 1 then (-4 : Int32) - nI z.2 else if z.1 = 2 then nI z.2 else if z.1 = 3 then -2 else -3
section
variable {N n : Nat} {tb : Nat → Nat} {signs text : Nat → Int32}
theorem isLetter_s (bx : BX n tb signs text) {j : Nat} (hj : j < n) : fX0_isLetter N signs (nI j) = some (nI (if ltr (tb j) = true then 1 else 0)) := by
  have h4 := bx.1
  obtain ⟨h1, h2, h3⟩ := bx.2 j hj
  unfold fX0_isLetter
  rw [sgd (by omega) (by decide), sgd (by omega) (by decide), sclamp (by omega), h2, show (97 : Int32) = nI 97 from rfl, show (122 : Int32) = nI 122 from rfl, ic (slt (by omega) (by omega)), ic (slt (by omega) (by omega))]
  cases hb : ltr (tb j) with
  | true => rw [ltr_t] at hb; rw [if_neg (by omega), if_neg (by omega)]; rfl
  | false =>
    rw [ltr_f] at hb
    by_cases h : tb j < 97
    · rw [if_pos h]; rfl
    · rw [if_neg h, if_pos (by omega)]; rfl
theorem isFigure_s (bx : BX n tb signs text) {j : Nat} (hj : j < n) : fX0_isFigure N signs (nI j) = some (nI (if fgr (tb j) = true then 1 else 0)) := by
  have h4 := bx.1
  obtain ⟨h1, h2, h3⟩ := bx.2 j hj
  unfold fX0_isFigure
  rw [sgd (by omega) (by decide), sgd (by omega) (by decide), sclamp (by omega), h2, show (48 : Int32) = nI 48 from rfl, show (57 : Int32) = nI 57 from rfl, ic (slt (by omega) (by omega)), ic (slt (by omega) (by omega))]
  cases hb : fgr (tb j) with
  | true => rw [fgr_t] at hb; rw [if_neg (by omega), if_neg (by omega)]; rfl
  | false =>
    rw [fgr_f] at hb
    by_cases h : tb j < 48
    · rw [if_pos h]; rfl
    · rw [if_neg h, if_pos (by omega)]; rfl
theorem end12_s (bx : BX n tb signs text) : ∀ (d p f : Nat), n - p = d → p ≤ n → d < f → fX0_endOfToken_12 N (nI n) signs f (nI p) = some (nI (run (fun j => ltr (tb j)) n p)) := by
  have h4 := bx.1
  intro d
  induction d with
  | zero =>
    intro p f h hp hf
    obtain ⟨f, rfl⟩ : ∃ z, f = z + 1 := ⟨f - 1, by omega⟩
    rw [fX0_endOfToken_12_s, if_pos (nI_le (by omega) (by omega)), run_end (by omega)]
  | succ d ih =>
    intro p f h hp hf
    obtain ⟨f, rfl⟩ : ∃ z, f = z + 1 := ⟨f - 1, by omega⟩
    rw [fX0_endOfToken_12_s, ic (sle (by omega) (by omega)), if_neg (by omega), isLetter_s bx (by omega), b1_s]
    cases hb : ltr (tb p) with
    | true => rw [if_neg (show ¬ nI (if true = true then 1 else 0) = (0 : Int32) by decide), c1, nI_add, run_yes (c := fun j => ltr (tb j)) (p := p) (by omega) hb]; exact ih (p + 1) f (by omega) (by omega) (by omega)
    | false => rw [if_pos (show nI (if false = true then 1 else 0) = (0 : Int32) from rfl), run_no (c := fun j => ltr (tb j)) (p := p) hb]
theorem end42_s (bx : BX n tb signs text) : ∀ (d p f : Nat), n - p = d → p ≤ n → d < f → fX0_endOfToken_42 N (nI n) signs f (nI p) = some (nI (run (fun j => fgr (tb j)) n p)) := by
  have h4 := bx.1
  intro d
  induction d with
  | zero =>
    intro p f h hp hf
    obtain ⟨f, rfl⟩ : ∃ z, f = z + 1 := ⟨f - 1, by omega⟩
    rw [fX0_endOfToken_42_s, if_pos (nI_le (by omega) (by omega)), run_end (by omega)]
  | succ d ih =>
    intro p f h hp hf
    obtain ⟨f, rfl⟩ : ∃ z, f = z + 1 := ⟨f - 1, by omega⟩
    rw [fX0_endOfToken_42_s, ic (sle (by omega) (by omega)), if_neg (by omega), isFigure_s bx (by omega), b1_s]
    cases hb : fgr (tb p) with
    | true => rw [if_neg (show ¬ nI (if true = true then 1 else 0) = (0 : Int32) by decide), c1, nI_add, run_yes (c := fun j => fgr (tb j)) (p := p) (by omega) hb]; exact ih (p + 1) f (by omega) (by omega) (by omega)
    | false => rw [if_pos (show nI (if false = true then 1 else 0) = (0 : Int32) from rfl), run_no (c := fun j => fgr (tb j)) (p := p) hb]
theorem endOfToken_s (hN : 402 ≤ N) (bx : BX n tb signs text) {q : Nat} (hq : q < n) : fX0_endOfToken N (nI n) signs (nI q) = some (nI (enT n tb q)) := by
  have h4 := bx.1
  unfold fX0_endOfToken enT
  rw [isLetter_s bx hq, isFigure_s bx hq, b1_s, b1_s, c1, nI_add, end12_s bx _ (q + 1) N rfl (by omega) (by omega), end42_s bx _ (q + 1) N rfl (by omega) (by omega), b1_s, b1_s]
  cases hl : ltr (tb q) <;> cases hf : fgr (tb q) <;> rfl
theorem says_s (hN : 8 ≤ N) (bx : BX n tb signs text) {w : List Int32} (hw : w.length ≤ 6) {q e : Nat} (hq : q ≤ e) (he : e ≤ n) : fX0_says N signs w (nI q) (nI e) = some (nI (if wdM tb q e w = true then 1 else 0)) := by
  have h4 := bx.1
  unfold fX0_says wdM
  rw [ssub hq, ic (seq (by omega) (by omega))]
  by_cases hl : w.length = e - q
  · rw [if_pos hl, decide_eq_true hl, Bool.true_and]
    have key : ∀ (d j f : Nat), j + d = w.length → d < f → eqP tb q w j = true → ∃ (o : Option Int32) (b : Int32), fX0_says_15 N signs w (nI q) f (nI j) = some (o, b) ∧ rj o (fun r => gb r (some r)) (some (1 : Int32)) = some (nI (if eqP tb q w w.length = true then 1 else 0)) := by
      intro d
      induction d with
      | zero =>
        intro j f hj hf hE
        obtain ⟨f, rfl⟩ : ∃ z, f = z + 1 := ⟨f - 1, by omega⟩
        have hj' : j = w.length := by omega
        refine ⟨none, nI j, by rw [fX0_says_15_s, if_pos (nI_le (by omega) (by omega))], ?_⟩
        rw [← hj', hE]
        rfl
      | succ d ih =>
        intro j f hj hf hE
        obtain ⟨f, rfl⟩ : ∃ z, f = z + 1 := ⟨f - 1, by omega⟩
        obtain ⟨h1, h2, h3⟩ := bx.2 (q + j) (by omega)
        rw [fX0_says_15_s, ic (sle (by omega) (by omega)), if_neg (by omega), sgd (by omega) (by omega), nI_add, sgd (by omega) (by decide), sclamp (by omega), sclamp (by omega), h2, c1, nI_add]
        by_cases h : w.getD j 0 = nI (tb (q + j))
        · rw [if_pos h]
          refine ih (j + 1) f (by omega) (by omega) ?_
          unfold eqP
          rw [hE, decide_eq_true h]
          rfl
        · rw [if_neg h]
          refine ⟨_, _, rfl, ?_⟩
          rw [eqP_f h w.length (by omega)]
          rfl
    obtain ⟨o, b, h1, h2⟩ := key w.length 0 N (by omega) (by omega) rfl
    have h1' : fX0_says_15 N signs w (nI q) N (0 : Int32) = _ := h1
    rw [h1', b2_s]
    exact h2
  · rw [if_neg hl, decide_eq_false hl, Bool.false_and]
    rfl
theorem wordOf_s (hN : 8 ≤ N) (bx : BX n tb signs text) {q e : Nat} (hq : q ≤ e) (he : e ≤ n) : fX0_wordOf N signs (nI q) (nI e) = some (cdI (wdx tb q e)) := by
  unfold fX0_wordOf wdx
  rw [says_s hN bx (w := wdB 0) (by decide) hq he, says_s hN bx (w := wdB 1) (by decide) hq he, says_s hN bx (w := wdB 2) (by decide) hq he, says_s hN bx (w := wdB 3) (by decide) hq he, says_s hN bx (w := wdB 4) (by decide) hq he, says_s hN bx (w := wdB 5) (by decide) hq he, b1_s, b1_s, b1_s, b1_s, b1_s, b1_s]
  cases wdM tb q e (wdB 0) <;> cases wdM tb q e (wdB 1) <;> cases wdM tb q e (wdB 2) <;> cases wdM tb q e (wdB 3) <;> cases wdM tb q e (wdB 4) <;> cases wdM tb q e (wdB 5) <;> rfl
theorem numberOf_s (bx : BX n tb signs text) {q : Nat} (hq : q < n) (hl : ltr (tb q) = false) (hf : fgr (tb q) = true) : fX0_numberOf N signs (nI q) (nI (enT n tb q)) = some (cdI (nmx tb q (enT n tb q))) := by
  have h4 := bx.1
  have hb := enT_b (tb := tb) hq
  have hf' := fgr_t.mp hf
  obtain ⟨h1, h2, h3⟩ := bx.2 q hq
  unfold fX0_numberOf nmx
  rw [ssub (by omega), c2, ic (sle (by omega) (by omega)), c1, ic (seq (by omega) (by omega)), sgd (by omega) (by decide), sgd (by omega) (by decide), sgd (by omega) (by decide), sclamp (by omega), h2, show (48 : Int32) = nI 48 from rfl, ssub (by omega), ic (seq (by omega) (by omega)), nI_add]
  by_cases e1 : enT n tb q - q = 1
  · rw [if_pos (by omega), if_pos e1, if_pos e1]
    rfl
  · rw [if_neg e1, if_neg e1]
    by_cases e2 : enT n tb q - q = 2
    · have hin := (run_p (c := fun j => fgr (tb j)) (n := n) _ (q + 1) rfl).2.2 (q + 1) (Nat.le_refl _) (by
        have : enT n tb q = run (fun j => fgr (tb j)) n (q + 1) := by unfold enT; rw [if_neg (by rw [hl]; decide), if_pos hf]
        omega)
      have hin' := fgr_t.mp hin
      obtain ⟨g1, g2, g3⟩ := bx.2 (q + 1) (by omega)
      rw [if_pos (by omega), sgd (by omega) (by decide), sclamp (by omega), g2, c10, pk_mul, nI_add, ssub (by omega)]
      by_cases e3 : tb q = 48
      · rw [if_pos e3, if_neg (fun z => z.2 e3)]
        rfl
      · rw [if_neg e3, if_pos ⟨e2, e3⟩, show 10 * (tb q - 48) + tb (q + 1) - 48 = 10 * (tb q - 48) + (tb (q + 1) - 48) by omega]
        rfl
    · rw [if_neg (by omega), if_neg (fun z => e2 z.1)]
      rfl
theorem tokenOf_s (hN : 402 ≤ N) (bx : BX n tb signs text) {q : Nat} (hq : q < n) : fX0_tokenOf N signs (nI q) (nI (enT n tb q)) = some (cdI (tkp n tb q)) := by
  have h4 := bx.1
  have hb := enT_b (tb := tb) hq
  obtain ⟨h1, h2, h3⟩ := bx.2 q hq
  unfold fX0_tokenOf tkp
  rw [if_neg (show ¬ n ≤ q by omega), isLetter_s bx hq, isFigure_s bx hq, b1_s, b1_s, wordOf_s (by omega) bx (by omega) hb.2, b1_s, sgd (by omega) (by decide), sclamp (by omega), h2, show (59 : Int32) = nI 59 from rfl, ic (seq (by omega) (by omega))]
  cases hl : ltr (tb q) with
  | true => rw [if_neg (show ¬ nI (if true = true then 1 else 0) = (0 : Int32) by decide)]; rfl
  | false =>
    rw [if_pos (show nI (if false = true then 1 else 0) = (0 : Int32) from rfl), if_neg (show ¬ false = true by decide)]
    cases hf : fgr (tb q) with
    | true => rw [if_neg (show ¬ nI (if true = true then 1 else 0) = (0 : Int32) by decide), numberOf_s bx hq hl hf, b1_s]; rfl
    | false =>
      rw [if_pos (show nI (if false = true then 1 else 0) = (0 : Int32) from rfl), if_neg (show ¬ false = true by decide)]
      by_cases h : tb q = 59
      · rw [if_pos h, if_pos h]; rfl
      · rw [if_neg h, if_neg h]; rfl
end
/-! the places of the tokens -/
def spc (tb : Nat → Nat) (j : Nat) : Bool := decide (tb j = 32)
def psT (n : Nat) (tb : Nat → Nat) : Nat → Nat
  | 0 => 0
  | i + 1 => if run (spc tb) n (psT n tb i) < n then enT n tb (run (spc tb) n (psT n tb i)) else n
def stT (n : Nat) (tb : Nat → Nat) (i : Nat) : Nat := run (spc tb) n (psT n tb i)
theorem psT_le {n : Nat} {tb : Nat → Nat} : ∀ i, psT n tb i ≤ n
  | 0 => Nat.zero_le _
  | i + 1 => by
    unfold psT
    split
    · exact (enT_b (by assumption)).2
    · exact Nat.le_refl _
theorem stT_le {n : Nat} {tb : Nat → Nat} (i : Nat) : stT n tb i ≤ n := (run_p (c := spc tb) (n := n) _ _ rfl).2.1 (psT_le i)
/-- the tokens, cut: so many before the end -/
def CT (n : Nat) (tb : Nat → Nat) (m : Nat) (cuts : Int32) (tokens starts : Nat → Int32) : Prop := m ≤ n ∧ n ≤ 400 ∧ cuts = nI (m + 1) ∧ (∀ i, i < m → stT n tb i < n) ∧ stT n tb m = n ∧ ∀ i, i ≤ m → tokens i = cdI (tkp n tb (stT n tb i)) ∧ starts i = nI (stT n tb i)
section
variable {N n : Nat} {tb : Nat → Nat} {signs text tokens starts : Nat → Int32} {cuts current : Int32}
theorem cut_l (hN : 402 ≤ N) (bx : BX n tb signs text) : ∀ (d f k i : Nat) (tk st : Nat → Int32), f + d = n → d < k → i ≤ f → stT n tb i = run (spc tb) n (max f (psT n tb i)) → (∀ j, j < i → stT n tb j < n ∧ tk j = cdI (tkp n tb (stT n tb j)) ∧ st j = nI (stT n tb j)) →
    ∃ m tk' st' a b, m ≤ n ∧ fX0_cut_14 N (nI n) signs k (nI i) tk st (nI (psT n tb i)) (nI f) = some (nI m, tk', st', a, b) ∧ stT n tb m = n ∧ ∀ j, j < m → stT n tb j < n ∧ tk' j = cdI (tkp n tb (stT n tb j)) ∧ st' j = nI (stT n tb j) := by
  have h4 := bx.1
  intro d
  induction d with
  | zero =>
    intro f k i tk st hf hk hi he hr
    obtain ⟨k, rfl⟩ : ∃ z, k = z + 1 := ⟨k - 1, by omega⟩
    have hf' : f = n := by omega
    subst hf'
    have hp := psT_le (n := f) (tb := tb) i
    refine ⟨i, tk, st, _, _, hi, by rw [fX0_cut_14_s, if_pos (nI_le (Nat.le_refl _) (by omega))], ?_, hr⟩
    rw [he, Nat.max_eq_left hp, run_end (Nat.le_refl _)]
  | succ d ih =>
    intro f k i tk st hf hk hi he hr
    obtain ⟨k, rfl⟩ : ∃ z, k = z + 1 := ⟨k - 1, by omega⟩
    have hp := psT_le (n := n) (tb := tb) i
    obtain ⟨h1, h2, h3⟩ := bx.2 f (by omega)
    have e1 : nI f + (1 : Int32) = nI (f + 1) := by rw [c1, nI_add]
    rw [fX0_cut_14_s, ic (sle (by omega) (by omega)), if_neg (by omega), ic (slt (by omega) (by omega)), e1]
    by_cases hl : f < psT n tb i
    · rw [if_pos hl]
      exact ih (f + 1) k i tk st (by omega) (by omega) (by omega) (by rw [he, Nat.max_eq_right (by omega), Nat.max_eq_right (by omega)]) hr
    · rw [if_neg hl, sgd (by omega) (by decide), sclamp (by omega), h2, c32, ic (seq (by omega) (by omega))]
      rw [Nat.max_eq_left (by omega)] at he
      by_cases hs : tb f = 32
      · rw [if_pos hs]
        refine ih (f + 1) k i tk st (by omega) (by omega) (by omega) ?_ hr
        rw [he, Nat.max_eq_left (by omega)]
        exact run_yes (by omega) (decide_eq_true hs)
      · rw [if_neg hs, endOfToken_s hN bx (by omega), b1_s, tokenOf_s hN bx (by omega), b1_s]
        have hst : stT n tb i = f := by rw [he]; exact run_no (decide_eq_false hs)
        have hps : psT n tb (i + 1) = enT n tb f := by
          have : psT n tb (i + 1) = if stT n tb i < n then enT n tb (stT n tb i) else n := rfl
          rw [this, hst, if_pos (by omega)]
        have hb := enT_b (tb := tb) (show f < n by omega)
        unfold fX0_addToken
        rw [c400, ic (sle (by omega) (by omega)), if_pos (by omega), sgd (by omega) (by decide), sgd (by omega) (by decide), b3_s, sclamp (by omega), c1, nI_add, ← hps]
        refine ih (f + 1) k (i + 1) _ _ (by omega) (by omega) (by omega) ?_ (fun j hj => ?_)
        · show run (spc tb) n (psT n tb (i + 1)) = _
          rw [Nat.max_eq_right (by omega)]
        · by_cases e : j = i
          · subst e
            rw [up_s, up_s, hst]
            exact ⟨by omega, rfl, rfl⟩
          · rw [up_n e, up_n e]
            exact hr j (by omega)
theorem cut_s (hN : 402 ≤ N) (bx : BX n tb signs text) : ∃ m cu' tk' st', fX0_cut N (nI n) cuts current signs tokens starts = some (cu', 0, tk', st') ∧ CT n tb m cu' tk' st' := by
  have h4 := bx.1
  obtain ⟨m, tk, st, a, b, h1, h2, h3, h5⟩ := cut_l (N := N) hN bx n 0 N 0 tokens starts (by omega) (by omega) (Nat.le_refl _) (by
    show run (spc tb) n 0 = run (spc tb) n (max 0 0)
    rfl) (fun j hj => by omega)
  have h2' : fX0_cut_14 N (nI n) signs N (0 : Int32) tokens starts (0 : Int32) (0 : Int32) = _ := h2
  refine ⟨m, nI (m + 1), upd tk m (-1), upd st m (nI n), ?_, h1, h4, rfl, fun i hi => (h5 i hi).1, h3, fun i hi => ?_⟩
  · unfold fX0_cut fX0_addToken
    rw [h2', b5_s, c400, ic (sle (by omega) (by omega)), if_pos (by omega), sgd (by omega) (by decide), sgd (by omega) (by decide), b3_s, sclamp (by omega), c1, nI_add]
  · by_cases e : i = m
    · subst e
      rw [up_s, up_s, h3]
      refine ⟨?_, rfl⟩
      unfold tkp
      rw [if_pos (Nat.le_refl _)]
      rfl
    · rw [up_n e, up_n e]
      exact (h5 i (by omega)).2
end
