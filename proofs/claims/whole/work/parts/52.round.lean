/-! the class's round -/
def ov (c : Nat → Bool) (f v : Nat → Int32) : Nat → Int32 := fun j => if c j then v j else f j
theorem ov_upd {c c' : Nat → Bool} {f v : Nat → Int32} {i : Nat} {x : Int32} (hx : x = v i) (hc : ∀ j, c' j = (c j || decide (j = i))) : upd (ov c f v) i x = ov c' f v := by
  subst hx
  funext j
  simp only [upd, ov, hc j]
  by_cases h : j = i
  · subst h; simp
  · simp [h]
theorem ov_f {c : Nat → Bool} {f v : Nat → Int32} {j : Nat} (h : c j = false) : ov c f v j = f j := by simp [ov, h]
theorem ov_v {c : Nat → Bool} {f v : Nat → Int32} {j : Nat} (h : c j = true) : ov c f v j = v j := by simp [ov, h]
theorem ov_0 {c : Nat → Bool} {f v : Nat → Int32} (h : ∀ j, c j = false) : ov c f v = f := by funext j; simp [ov, h j]
abbrev TS : Type := Nat × Nat × (Nat → Nat) × (Nat → Nat) × (Nat → Nat) × Nat × Nat × Nat
def tT (t : TS) : Nat := t.1
def tP (t : TS) : Nat := t.2.1
def tNd (t : TS) : Nat → Nat := t.2.2.1
def tYl (t : TS) : Nat → Nat := t.2.2.2.1
def tSp (t : TS) : Nat → Nat := t.2.2.2.2.1
def tFd (t : TS) : Nat := t.2.2.2.2.2.1
def tWi (t : TS) : Nat := t.2.2.2.2.2.2.1
def tFl (t : TS) : Nat := t.2.2.2.2.2.2.2
abbrev WS : Type := Nat × Nat × Nat × (Nat → Nat) × (Nat → Nat) × (Nat → Nat) × (Nat → Nat) × (Nat → Nat) × (Nat → Nat) × (Nat → Nat)
def wRd (w : WS) : Nat := w.1
def wFe (w : WS) : Nat := w.2.1
def wIl (w : WS) : Nat := w.2.2.1
def wSk (w : WS) : Nat → Nat := w.2.2.2.1
def wPl (w : WS) : Nat → Nat := w.2.2.2.2.1
def wSt (w : WS) : Nat → Nat := w.2.2.2.2.2.1
def wLa (w : WS) : Nat → Nat := w.2.2.2.2.2.2.1
def wHp (w : WS) : Nat → Nat := w.2.2.2.2.2.2.2.1
def wFa (w : WS) : Nat → Nat := w.2.2.2.2.2.2.2.2.1
def wWh (w : WS) : Nat → Nat := w.2.2.2.2.2.2.2.2.2
/-- the place at whose trade p works -/
def wk (t : TS) (w : WS) (p : Nat) : Option Nat := wpl (tT t) (tSp t p) (wWh w) (tT t) (wPl w p)
/-- the trade at which p works and isn't ill -/
def wt (t : TS) (w : WS) (p : Nat) : Option Nat := if Nat.testBit (wIl w) p then none else (wk t w p).map (wWh w)
def hnd (w : WS) (p k : Nat) : Nat := if wHp w p = 0 then wSk w (p * 6 + k) else if Nat.testBit (wIl w) (wHp w p - 1) then wSk w (p * 6 + k) else max (wSk w (p * 6 + k)) (wSk w ((wHp w p - 1) * 6 + k))
def gs (t : TS) (w : WS) : Nat → Nat → Nat
  | 0 => wSt w
  | p + 1 => match wt t w p with
    | none => gs t w p
    | some k => fun j => if j = k then gs t w p k + tYl t k * hnd w p k else gs t w p j
def want (t : TS) (w : WS) (k : Nat) : Nat := tNd t k * (if wRd w % 4 = 3 then 10 + tWi t else 10) / 10
def lk (t : TS) (w : WS) (k : Nat) : Nat := want t w k - gs t w (tP t) k
def lks (t : TS) (w : WS) : Nat → Nat
  | 0 => 0
  | k + 1 => lks t w k + lk t w k
def fades (t : TS) (w : WS) : Bool := decide (0 < tFd t ∧ (wRd w + 1) % tFd t = 0)
def skN (t : TS) (w : WS) (i : Nat) : Nat := if wt t w (i / 6) = some (i % 6) then min (wSk w i + 1) 9 else if fades t w then wSk w i - 1 else wSk w i
def plN (t : TS) (w : WS) (p : Nat) : Nat := bh (tT t) (match wk t w p with
  | none => wPl w p
  | some k => k)
def step (t : TS) (w : WS) : WS := (wRd w + 1, wFe w + (if tFl t ≤ lks t w (tT t) then 1 else 0), 0, skN t w, plN t w, fun k => gs t w (tP t) k - want t w k, fun k => wLa w k + lk t w k, fun _ => 0, fun i => wFa w i + (if wHp w (i / 6) = i % 6 + 1 then 1 else 0), wWh w)
def tOK (t : TS) : Prop := tT t ≤ 6 ∧ tP t ≤ 6 ∧ (∀ k, k < tT t → tNd t k ≤ 99 ∧ 1 ≤ tYl t k ∧ tYl t k ≤ 9) ∧ (∀ p, p < tP t → tSp t p < 64) ∧ tFd t ≤ 9 ∧ tWi t ≤ 20 ∧ 1 ≤ tFl t ∧ tFl t ≤ 99
def wOK (t : TS) (w : WS) : Prop := wRd w ≤ 99 ∧ wIl w < 64 ∧ (∀ p, tP t ≤ p → Nat.testBit (wIl w) p = false) ∧ (∀ p, p < tP t → ∀ k, k < tT t → wSk w (p * 6 + k) ≤ 9) ∧ (∀ p, p < tP t → wPl w p < tT t ∨ (tT t = 0 ∧ wPl w p = 0)) ∧ (∀ k, k < tT t → wSt w k ≤ 486 * wRd w ∧ wLa w k ≤ 297 * wRd w) ∧
  (∀ q, q < 6 → wHp w q ≤ tP t ∧ (tP t ≤ q → wHp w q = 0) ∧ wHp w q ≠ q + 1) ∧ (∀ q r, q < 6 → r < 6 → wHp w q = wHp w r → wHp w q ≠ 0 → q = r) ∧ (∀ k, k < tT t → wWh w k < tT t)
/-- the class's told numbers -/
def RT (t : TS) (trades people : Int32) (needs yields skips : Nat → Int32) : Prop := trades = nI (tT t) ∧ people = nI (tP t) ∧ (∀ k, k < tT t → needs k = nI (tNd t k) ∧ yields k = nI (tYl t k)) ∧ (∀ p, p < tP t → skips p = nI (tSp t p))
def RU (t : TS) (fade winter fall : Int32) : Prop := fade = nI (tFd t) ∧ winter = nI (tWi t) ∧ fall = nI (tFl t)
/-- the class's world -/
def RC (t : TS) (w : WS) (round fell ills : Int32) (skills places stores lacked helpers favours wheel : Nat → Int32) : Prop := round = nI (wRd w) ∧ fell = nI (wFe w) ∧ ills = nI (wIl w) ∧ (∀ p, p < tP t → ∀ k, k < tT t → skills (p * 6 + k) = nI (wSk w (p * 6 + k))) ∧ (∀ p, p < tP t → places p = nI (wPl w p)) ∧ (∀ k, k < tT t → stores k = nI (wSt w k)) ∧ (∀ k, k < tT t → lacked k = nI (wLa w k)) ∧
  (∀ q, q < 6 → helpers q = if wHp w q = 0 then m9 else nI (wHp w q - 1)) ∧ (∀ q, q < tP t → ∀ p, p < tP t → favours (q * 6 + p) = nI (wFa w (q * 6 + p))) ∧ (∀ k, k < tT t → wheel k = nI (wWh w k))
theorem isIll_s (N : Nat) {il p : Nat} (h : il < 64) (hp : p < 6) : fX3_isIll N (nI il) (nI p) = some (nI (if Nat.testBit il p then 1 else 0)) := by
  unfold fX3_isIll
  rw [c1, bit_s h hp]
  cases Nat.testBit il p <;> rfl
section
variable {N : Nat} {t : TS} {w : WS} {trades people fade winter fall round fell ills : Int32} {needs yields skips skills places stores lacked helpers favours wheel works : Nat → Int32}
theorem workplace_s (hN : 7 ≤ N) (ht : tOK t) (hw : wOK t w) (rt : RT t trades people needs yields skips) (rc : RC t w round fell ills skills places stores lacked helpers favours wheel) {p : Nat} (hp : p < tP t) : fX3_workplace N places wheel trades skips (nI p) = some (eN (wk t w p)) := by
  obtain ⟨t1, t2, t3, t4, t5, t6, t7, t8⟩ := ht
  obtain ⟨w1, w2, w3, w4, w5, w6, w7, w8, w9⟩ := hw
  obtain ⟨e1, e2, e3, e4⟩ := rt
  obtain ⟨d1, d2, d3, d4, d5, d6, d7, d8, d9, d10⟩ := rc
  have hp6 : p < 6 := by omega
  obtain ⟨a, b, hab⟩ := workplace_l N (T := tT t) (m := tSp t p) (p := p) (wheel := wheel) (skips := skips) (wh := wWh w) t1 hp6 (t4 p hp) (e4 p hp) d10 (fun k hk => by have := w9 k hk; omega) (tT t) 0 (wPl w p) N (by omega) (by omega) (by have := w5 p hp; omega)
  unfold fX3_workplace
  subst e1
  rw [m9e, c0, sgd (by omega) (by decide), sclamp (by omega), d5 p hp, hab, b3_s]
  unfold wk
  cases wpl (tT t) (tSp t p) (wWh w) (tT t) (wPl w p) <;> rfl
theorem wk_lt (hw : wOK t w) {p a : Nat} (hp : p < tP t) (h : wk t w p = some a) : a < tT t := by
  have h5 := hw.2.2.2.2.1 p hp
  unfold wk at h
  by_cases hT : tT t = 0
  · rw [hT] at h; simp [wpl] at h
  · exact wpl_lt _ _ _ (by omega) h
theorem findWork_s (hN : 7 ≤ N) (ht : tOK t) (hw : wOK t w) (rt : RT t trades people needs yields skips) (rc : RC t w round fell ills skills places stores lacked helpers favours wheel) : fX3_findWork N places wheel works trades people skips = some (ov (fun j => decide (j < tP t)) works (fun p => eN (wk t w p))) := by
  have hP : tP t ≤ 6 := ht.2.1
  have e2 := rt.2.1
  have key := lpN (fun n (s : (Nat → Int32) × Int32) => fX3_findWork_2 N places wheel trades people skips n s.1 s.2) (fun k => (ov (fun j => decide (j < k)) works (fun p => eN (wk t w p)), nI k)) (tP t) (ov (fun j => decide (j < tP t)) works (fun p => eN (wk t w p)), nI (tP t))
    (fun n k hk => by
      show fX3_findWork_2 N places wheel trades people skips (n + 1) _ (nI k) = _
      rw [fX3_findWork_2_s, e2]
      simp (disch := omega) only [↓m9e, c0, c1, c2, c3, c4, c6, c8, c9, c10, c14, c20, c26, c32, c33, c36, c69, c99, c105, c400, sclamp, sle, slt, seq, seqm, seqm2, nI_add, pk_mul, sub_rem, ssub, sdiv, sgd, sgz, b1_s, b2_s, b3_s, b4_s, b5_s, b6_s, b7_s, b8_s, b9_s, b10_s, b11_s, b12_s, rjn_, rjs_, if_pos, if_neg, bit_s, Nat.reduceAdd, Nat.zero_add, Nat.add_zero, up_s, up_n, sgb0, sgb1, if_true, if_false, workplace_s hN ht hw rt rc hk]
      rw [ov_upd (c' := fun j => decide (j < k + 1)) rfl (fun j => by by_cases h1 : j = k <;> by_cases h2 : j < k <;> simp [h1, h2] <;> omega), ← e2])
    (fun n => by
      show fX3_findWork_2 N places wheel trades people skips (n + 1) _ (nI (tP t)) = _
      rw [fX3_findWork_2_s, e2]
      simp (disch := omega) only [↓m9e, c0, c1, c2, c3, c4, c6, c8, c9, c10, c14, c20, c26, c32, c33, c36, c69, c99, c105, c400, sclamp, sle, slt, seq, seqm, seqm2, nI_add, pk_mul, sub_rem, ssub, sdiv, sgd, sgz, b1_s, b2_s, b3_s, b4_s, b5_s, b6_s, b7_s, b8_s, b9_s, b10_s, b11_s, b12_s, rjn_, rjs_, if_pos, if_neg, bit_s, Nat.reduceAdd, Nat.zero_add, Nat.add_zero, up_s, up_n, sgb0, sgb1, if_true, if_false])
    (tP t) 0 (by omega) N (by omega)
  unfold fX3_findWork
  have h0 : ov (fun j => decide (j < 0)) works (fun p => eN (wk t w p)) = works := ov_0 (fun j => by simp)
  simp only [h0] at key
  rw [c0, key, b2_s]
end
