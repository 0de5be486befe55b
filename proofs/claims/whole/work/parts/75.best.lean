/-! the wheel by which least lacks: orders -/
def dg (c k : Nat) : Nat := c / 10 ^ k % 10
def decO (c k : Nat) : Int32 := nI (dg c k)
def okT (T c : Nat) : Bool := (List.range T).all (fun k => decide (dg c k < T))
def okS (T c d : Nat) : Bool := match fX4_nextOrder 10 (decO c) (nI T) with
  | some (r, f) => decide (r = nI 1) && (List.range T).all (fun k => decide (f k = decO d k))
  | none => false
def okE (T c : Nat) : Bool := match fX4_nextOrder 10 (decO c) (nI T) with
  | some (r, _) => decide (r = nI 0)
  | none => false
def chk (T : Nat) : Nat → List Nat → Bool
  | c, [] => okT T c && okE T c
  | c, d :: L => okT T c && okS T c d && chk T d L
def pm1 : List Nat := []
def pm2 : List Nat := [1]
def pm3 : List Nat := [120, 201, 21, 102, 12]
def pm4 : List Nat := [2310, 3120, 1320, 2130, 1230, 3201, 2301, 3021, 321, 2031, 231, 3102, 1302, 3012, 312, 1032, 132, 2103, 1203, 2013, 213, 1023, 123]
def pm5 : List Nat := [34210, 42310, 24310, 32410, 23410, 43120, 34120, 41320, 14320, 31420, 13420, 42130, 24130, 41230, 14230, 21430, 12430, 32140, 23140, 31240, 13240, 21340, 12340, 43201, 34201, 42301, 24301, 32401, 23401, 43021, 34021, 40321, 4321, 30421, 3421, 42031, 24031, 40231, 4231, 20431, 2431, 32041, 23041, 30241, 3241, 20341, 2341, 43102, 34102, 41302, 14302, 31402, 13402, 43012, 34012, 40312, 4312, 30412, 3412, 41032, 14032, 40132, 4132, 10432, 1432, 31042, 13042, 30142, 3142, 10342, 1342, 42103, 24103, 41203, 14203, 21403, 12403, 42013, 24013, 40213, 4213, 20413, 2413, 41023, 14023, 40123, 4123, 10423, 1423, 21043, 12043, 20143, 2143, 10243, 1243, 32104, 23104, 31204, 13204, 21304, 12304, 32014, 23014, 30214, 3214, 20314, 2314, 31024, 13024, 30124, 3124, 10324, 1324, 21034, 12034, 20134, 2134, 10234, 1234]
def pm6 : List Nat := [453210, 534210, 354210, 435210, 345210, 542310, 452310, 524310, 254310, 425310, 245310, 532410, 352410, 523410, 253410, 325410, 235410, 432510, 342510, 423510, 243510, 324510, 234510, 543120, 453120, 534120, 354120, 435120, 345120, 541320, 451320, 514320, 154320, 415320, 145320, 531420, 351420, 513420, 153420, 315420, 135420, 431520, 341520, 413520, 143520, 314520, 134520, 542130, 452130, 524130, 254130, 425130, 245130, 541230, 451230, 514230, 154230, 415230, 145230, 521430, 251430, 512430, 152430, 215430, 125430, 421530, 241530, 412530, 142530, 214530, 124530, 532140, 352140, 523140, 253140, 325140, 235140, 531240, 351240, 513240, 153240, 315240, 135240, 521340, 251340, 512340, 152340, 215340, 125340, 321540, 231540, 312540, 132540, 213540, 123540, 432150, 342150, 423150, 243150, 324150, 234150, 431250, 341250, 413250, 143250, 314250, 134250, 421350, 241350, 412350, 142350, 214350, 124350, 321450, 231450, 312450, 132450, 213450, 123450, 543201, 453201, 534201, 354201, 435201, 345201, 542301, 452301, 524301, 254301, 425301, 245301, 532401, 352401, 523401, 253401, 325401, 235401, 432501, 342501, 423501, 243501, 324501, 234501, 543021, 453021, 534021, 354021, 435021, 345021, 540321, 450321, 504321, 54321, 405321, 45321, 530421, 350421, 503421, 53421, 305421, 35421, 430521, 340521, 403521, 43521, 304521, 34521, 542031, 452031, 524031, 254031, 425031, 245031, 540231, 450231, 504231, 54231, 405231, 45231, 520431, 250431, 502431, 52431, 205431, 25431, 420531, 240531, 402531, 42531, 204531, 24531, 532041, 352041, 523041, 253041, 325041, 235041, 530241, 350241, 503241, 53241, 305241, 35241, 520341, 250341, 502341, 52341, 205341, 25341, 320541, 230541, 302541, 32541, 203541, 23541, 432051, 342051, 423051, 243051, 324051, 234051, 430251, 340251, 403251, 43251, 304251, 34251, 420351, 240351, 402351, 42351, 204351, 24351, 320451, 230451, 302451, 32451, 203451, 23451, 543102, 453102, 534102, 354102, 435102, 345102, 541302, 451302, 514302, 154302, 415302, 145302, 531402, 351402, 513402, 153402, 315402, 135402, 431502, 341502, 413502, 143502, 314502, 134502, 543012, 453012, 534012, 354012, 435012, 345012, 540312, 450312, 504312, 54312, 405312, 45312, 530412, 350412, 503412, 53412, 305412, 35412, 430512, 340512, 403512, 43512, 304512, 34512, 541032, 451032, 514032, 154032, 415032, 145032, 540132, 450132, 504132, 54132, 405132, 45132, 510432, 150432, 501432, 51432, 105432, 15432, 410532, 140532, 401532, 41532, 104532, 14532, 531042, 351042, 513042, 153042, 315042, 135042, 530142, 350142, 503142, 53142, 305142, 35142, 510342, 150342, 501342, 51342, 105342, 15342, 310542, 130542, 301542, 31542, 103542, 13542, 431052, 341052, 413052, 143052, 314052, 134052, 430152, 340152, 403152, 43152, 304152, 34152, 410352, 140352, 401352, 41352, 104352, 14352, 310452, 130452, 301452, 31452, 103452, 13452, 542103, 452103, 524103, 254103, 425103, 245103, 541203, 451203, 514203, 154203, 415203, 145203, 521403, 251403, 512403, 152403, 215403, 125403, 421503, 241503, 412503, 142503, 214503, 124503, 542013, 452013, 524013, 254013, 425013, 245013, 540213, 450213, 504213, 54213, 405213, 45213, 520413, 250413, 502413, 52413, 205413, 25413, 420513, 240513, 402513, 42513, 204513, 24513, 541023, 451023, 514023, 154023, 415023, 145023, 540123, 450123, 504123, 54123, 405123, 45123, 510423, 150423, 501423, 51423, 105423, 15423, 410523, 140523, 401523, 41523, 104523, 14523, 521043, 251043, 512043, 152043, 215043, 125043, 520143, 250143, 502143, 52143, 205143, 25143, 510243, 150243, 501243, 51243, 105243, 15243, 210543, 120543, 201543, 21543, 102543, 12543, 421053, 241053, 412053, 142053, 214053, 124053, 420153, 240153, 402153, 42153, 204153, 24153, 410253, 140253, 401253, 41253, 104253, 14253, 210453, 120453, 201453, 21453, 102453, 12453, 532104, 352104, 523104, 253104, 325104, 235104, 531204, 351204, 513204, 153204, 315204, 135204, 521304, 251304, 512304, 152304, 215304, 125304, 321504, 231504, 312504, 132504, 213504, 123504, 532014, 352014, 523014, 253014, 325014, 235014, 530214, 350214, 503214, 53214, 305214, 35214, 520314, 250314, 502314, 52314, 205314, 25314, 320514, 230514, 302514, 32514, 203514, 23514, 531024, 351024, 513024, 153024, 315024, 135024, 530124, 350124, 503124, 53124, 305124, 35124, 510324, 150324, 501324, 51324, 105324, 15324, 310524, 130524, 301524, 31524, 103524, 13524, 521034, 251034, 512034, 152034, 215034, 125034, 520134, 250134, 502134, 52134, 205134, 25134, 510234, 150234, 501234, 51234, 105234, 15234, 210534, 120534, 201534, 21534, 102534, 12534, 321054, 231054, 312054, 132054, 213054, 123054, 320154, 230154, 302154, 32154, 203154, 23154, 310254, 130254, 301254, 31254, 103254, 13254, 210354, 120354, 201354, 21354, 102354, 12354, 432105, 342105, 423105, 243105, 324105, 234105, 431205, 341205, 413205, 143205, 314205, 134205, 421305, 241305, 412305, 142305, 214305, 124305, 321405, 231405, 312405, 132405, 213405, 123405, 432015, 342015, 423015, 243015, 324015, 234015, 430215, 340215, 403215, 43215, 304215, 34215, 420315, 240315, 402315, 42315, 204315, 24315, 320415, 230415, 302415, 32415, 203415, 23415, 431025, 341025, 413025, 143025, 314025, 134025, 430125, 340125, 403125, 43125, 304125, 34125, 410325, 140325, 401325, 41325, 104325, 14325, 310425, 130425, 301425, 31425, 103425, 13425, 421035, 241035, 412035, 142035, 214035, 124035, 420135, 240135, 402135, 42135, 204135, 24135, 410235, 140235, 401235, 41235, 104235, 14235, 210435, 120435, 201435, 21435, 102435, 12435, 321045, 231045, 312045, 132045, 213045, 123045, 320145, 230145, 302145, 32145, 203145, 23145, 310245, 130245, 301245, 31245, 103245, 13245, 210345, 120345, 201345, 21345, 102345, 12345]
theorem chk1 : chk 1 0 pm1 = true := by decide +kernel
theorem chk2 : chk 2 10 pm2 = true := by decide +kernel
theorem chk3 : chk 3 210 pm3 = true := by decide +kernel
theorem chk4 : chk 4 3210 pm4 = true := by decide +kernel
theorem chk5 : chk 5 43210 pm5 = true := by decide +kernel
theorem chk6 : chk 6 543210 pm6 = true := by decide +kernel
theorem orders {T : Nat} (hT0 : 0 < T) (hT : T ≤ 6) : ∃ c L, chk T c L = true ∧ L.length ≤ 719 ∧ ∀ k, k < T → dg c k = k := by
  rcases (show T = 1 ∨ T = 2 ∨ T = 3 ∨ T = 4 ∨ T = 5 ∨ T = 6 by omega) with rfl | rfl | rfl | rfl | rfl | rfl
  · exact ⟨_, _, chk1, by decide, by decide⟩
  · exact ⟨_, _, chk2, by decide, by decide⟩
  · exact ⟨_, _, chk3, by decide, by decide⟩
  · exact ⟨_, _, chk4, by decide, by decide⟩
  · exact ⟨_, _, chk5, by decide +kernel, by decide⟩
  · exact ⟨_, _, chk6, by decide +kernel, by decide⟩
theorem okT_s {T c : Nat} (h : okT T c = true) : ∀ k, k < T → dg c k < T := by
  intro k hk
  unfold okT at h
  rw [List.all_eq_true] at h
  exact of_decide_eq_true (h k (List.mem_range.mpr hk))
theorem okS_s {T c d : Nat} (h : okS T c d = true) : ∃ f, fX4_nextOrder 10 (decO c) (nI T) = some (nI 1, f) ∧ ∀ k, k < T → f k = decO d k := by
  unfold okS at h
  cases hx : fX4_nextOrder 10 (decO c) (nI T) with
  | none => rw [hx] at h; cases h
  | some z =>
    obtain ⟨r, f⟩ := z
    rw [hx] at h
    simp only [Bool.and_eq_true] at h
    obtain ⟨h1, h2⟩ := h
    rw [List.all_eq_true] at h2
    have h1' := of_decide_eq_true h1
    subst h1'
    exact ⟨f, rfl, fun k hk => of_decide_eq_true (h2 k (List.mem_range.mpr hk))⟩
theorem okE_s {T c : Nat} (h : okE T c = true) : ∃ f, fX4_nextOrder 10 (decO c) (nI T) = some (nI 0, f) := by
  unfold okE at h
  cases hx : fX4_nextOrder 10 (decO c) (nI T) with
  | none => rw [hx] at h; cases h
  | some z =>
    obtain ⟨r, f⟩ := z
    rw [hx] at h
    have h1' := of_decide_eq_true h
    subst h1'
    exact ⟨f, rfl⟩
/-! both programs' next order -/
section
variable {N N' T : Nat} {f g : Nat → Int32}
theorem dec1 (d : Nat) : nI (d + 1) - nI 1 = nI d := by rw [ssub (by omega), Nat.add_sub_cancel]
theorem addm1 (d : Nat) : nI d + (-1 : Int32) = nI d - nI 1 := by rw [show (-1 : Int32) = -nI 1 from rfl, ← Int32.sub_eq_add_neg]
theorem nx_1 (hT : T ≤ 6) (hfg : ∀ k, k < T → f k = g k) : ∀ (d n n' : Nat), d + 1 ≤ T → d < n → d < n' → ∃ a, a ≤ d ∧ fX4_nextOrder_14 N f n (nI d - nI 1) = some (nI a - nI 1) ∧ fX5_goesOn_7 N' g n' (nI d - nI 1) = some (nI a - nI 1) := by
  intro d
  induction d with
  | zero =>
    intro n n' hd hn hn'
    obtain ⟨n, rfl⟩ : ∃ z, n = z + 1 := ⟨n - 1, by omega⟩
    obtain ⟨n', rfl⟩ : ∃ z, n' = z + 1 := ⟨n' - 1, by omega⟩
    have hneg : nI 0 - nI 1 < 0 := by decide
    exact ⟨0, by omega, by rw [fX4_nextOrder_14_s, if_pos hneg], by rw [fX5_goesOn_7_s, if_pos hneg]⟩
  | succ d ih =>
    intro n n' hd hn hn'
    obtain ⟨n, rfl⟩ : ∃ z, n = z + 1 := ⟨n - 1, by omega⟩
    obtain ⟨n', rfl⟩ : ∃ z, n' = z + 1 := ⟨n' - 1, by omega⟩
    have nn0 : ¬ nI d < 0 := nI_pos (by omega)
    have e1 : nI d + (1 : Int32) = nI (d + 1) := by rw [c1, nI_add]
    rw [dec1, fX4_nextOrder_14_s, fX5_goesOn_7_s, if_neg nn0, if_neg nn0, e1, sgd (by omega) (by decide), sgd (by omega) (by decide), sgd (by omega) (by decide), sgd (by omega) (by decide), sclamp (by omega), sclamp (by omega), addm1, hfg d (by omega), hfg (d + 1) (by omega)]
    by_cases h : g d ≤ g (d + 1)
    · exact ⟨d + 1, Nat.le_refl _, by rw [if_pos h, dec1], by rw [if_pos h, dec1]⟩
    · obtain ⟨a, h1, h2, h3⟩ := ih n n' (by omega) (by omega) (by omega)
      exact ⟨a, by omega, by rw [if_neg h]; exact h2, by rw [if_neg h]; exact h3⟩
theorem nx_2 (hT : T ≤ 6) (hfg : ∀ k, k < T → f k = g k) {e : Nat} : ∀ (d n n' : Nat), e + d < T → d < n → d < n' → ∃ j, e ≤ j ∧ j < T ∧ fX4_nextOrder_49 N f (nI e) n (nI (e + d)) = some (nI j) ∧ fX5_goesOn_47 N' g (nI e) n' (nI (e + d)) = some (nI j) := by
  intro d
  induction d with
  | zero =>
    intro n n' hd hn hn'
    obtain ⟨n, rfl⟩ : ∃ z, n = z + 1 := ⟨n - 1, by omega⟩
    obtain ⟨n', rfl⟩ : ∃ z, n' = z + 1 := ⟨n' - 1, by omega⟩
    refine ⟨e, Nat.le_refl _, by omega, ?_, ?_⟩
    · rw [fX4_nextOrder_49_s, Nat.add_zero, if_pos (nI_le (Nat.le_refl _) (by omega))]
    · rw [fX5_goesOn_47_s, Nat.add_zero, sgd (by omega) (by decide), sgd (by omega) (by decide), if_pos (Int32.le_refl _)]
  | succ d ih =>
    intro n n' hd hn hn'
    obtain ⟨n, rfl⟩ : ∃ z, n = z + 1 := ⟨n - 1, by omega⟩
    obtain ⟨n', rfl⟩ : ∃ z, n' = z + 1 := ⟨n' - 1, by omega⟩
    obtain ⟨j, h1, h2, h3, h4⟩ := ih n n' (by omega) (by omega) (by omega)
    have e2 : nI (e + (d + 1)) + (-1 : Int32) = nI (e + d) := by rw [addm1, ← Nat.add_assoc, dec1]
    rw [fX4_nextOrder_49_s, fX5_goesOn_47_s, ic (sle (by omega) (by omega)), if_neg (by omega), sgd (by omega) (by decide), sgd (by omega) (by decide), sgd (by omega) (by decide), sgd (by omega) (by decide), sclamp (by omega), sclamp (by omega), e2, hfg e (by omega), hfg (e + (d + 1)) (by omega)]
    by_cases h : g e ≤ g (e + (d + 1))
    · exact ⟨e + (d + 1), by omega, by omega, by rw [if_pos h], by rw [if_pos h]⟩
    · exact ⟨j, h1, h2, by rw [if_neg h]; exact h3, by rw [if_neg h]; exact h4⟩
theorem swap_c {a b : Nat} (ha : a < T) (hb : b < T) (hfg : ∀ k, k < T → f k = g k) : ∀ k, k < T → upd (upd f a (f b)) b (f a) k = upd (upd g a (g b)) b (g a) k := by
  intro k hk
  show (if k = b then f a else if k = a then f b else f k) = (if k = b then g a else if k = a then g b else g k)
  rw [hfg a ha, hfg b hb, hfg k hk]
theorem nx_3 (hT : T ≤ 6) : ∀ (d n n' lo hi : Nat) (f g : Nat → Int32), hi ≤ lo + d → hi < T → lo ≤ T → (∀ k, k < T → f k = g k) → d < n → d < n' → ∃ f' g' a b a' b', fX4_nextOrder_92 N n f (nI lo) (nI hi) = some (f', a, b) ∧ fX5_goesOn_86 N' n' g (nI lo) (nI hi) = some (g', a', b') ∧ ∀ k, k < T → f' k = g' k := by
  intro d
  induction d with
  | zero =>
    intro n n' lo hi f g hd hh hl hfg hn hn'
    obtain ⟨n, rfl⟩ : ∃ z, n = z + 1 := ⟨n - 1, by omega⟩
    obtain ⟨n', rfl⟩ : ∃ z, n' = z + 1 := ⟨n' - 1, by omega⟩
    exact ⟨f, g, _, _, _, _, by rw [fX4_nextOrder_92_s, if_pos (nI_le (by omega) (by omega))], by rw [fX5_goesOn_86_s, if_pos (nI_le (by omega) (by omega))], hfg⟩
  | succ d ih =>
    intro n n' lo hi f g hd hh hl hfg hn hn'
    obtain ⟨n, rfl⟩ : ∃ z, n = z + 1 := ⟨n - 1, by omega⟩
    obtain ⟨n', rfl⟩ : ∃ z, n' = z + 1 := ⟨n' - 1, by omega⟩
    by_cases h : hi ≤ lo
    · exact ⟨f, g, _, _, _, _, by rw [fX4_nextOrder_92_s, if_pos (nI_le (by omega) (by omega))], by rw [fX5_goesOn_86_s, if_pos (nI_le (by omega) (by omega))], hfg⟩
    · have e1 : nI lo + (1 : Int32) = nI (lo + 1) := by rw [c1, nI_add]
      have e2 : nI hi + (-1 : Int32) = nI (hi - 1) := by rw [addm1, ssub (by omega)]
      have s1 : fX4_swap N f (nI lo) (nI hi) = some (upd (upd f lo (f hi)) hi (f lo)) := by
        unfold fX4_swap
        rw [sgd (by omega) (by decide), sgd (by omega) (by decide), sgd (by omega) (by decide), sgd (by omega) (by decide), sclamp (by omega), sclamp (by omega)]
      have s2 : fX5_swaps N' g (nI lo) (nI hi) = some (upd (upd g lo (g hi)) hi (g lo)) := by
        unfold fX5_swaps
        rw [sgd (by omega) (by decide), sgd (by omega) (by decide), sgd (by omega) (by decide), sgd (by omega) (by decide), sclamp (by omega), sclamp (by omega)]
      obtain ⟨f', g', a, b, a', b', q1, q2, q3⟩ := ih n n' (lo + 1) (hi - 1) _ _ (by omega) (by omega) (by omega) (swap_c (a := lo) (b := hi) (by omega) (by omega) hfg) (by omega) (by omega)
      refine ⟨f', g', a, b, a', b', ?_, ?_, q3⟩
      · rw [fX4_nextOrder_92_s, ic (sle (by omega) (by omega)), if_neg h, s1, b1_s, e1, e2]; exact q1
      · rw [fX5_goesOn_86_s, ic (sle (by omega) (by omega)), if_neg h, s2, b1_s, e1, e2]; exact q2
theorem nx_rel (hT0 : 0 < T) (hT : T ≤ 6) (hN : 10 ≤ N) (hN' : 10 ≤ N') (hfg : ∀ k, k < T → f k = g k) : ∃ r f' g', fX4_nextOrder N f (nI T) = some (r, f') ∧ fX5_goesOn N' (nI T) g = some (r, g') ∧ ∀ k, k < T → f' k = g' k := by
  obtain ⟨a, h1, h2, h3⟩ := nx_1 (N := N) (N' := N') hT hfg (T - 1) N N' (by omega) (by omega) (by omega)
  have e1 : (nI T - (1 : Int32)) - (1 : Int32) = nI (T - 1) - nI 1 := by rw [c1, ssub (by omega)]
  have e2 : nI T - (2 : Int32) = nI (T - 1) - nI 1 := by
    rw [← ssub (show 1 ≤ T by omega)]
    rcases (show T = 1 ∨ T = 2 ∨ T = 3 ∨ T = 4 ∨ T = 5 ∨ T = 6 by omega) with rfl | rfl | rfl | rfl | rfl | rfl <;> decide
  have e3 : nI T - (1 : Int32) = nI (T - 1) := by rw [c1, ssub (by omega)]
  unfold fX4_nextOrder fX5_goesOn
  rw [e1, e2, h2, h3, b1_s, b1_s, e3]
  by_cases h0 : a = 0
  · subst h0
    rw [if_neg (show ¬ (0 : Int32) ≤ nI 0 - nI 1 by decide), if_neg (show ¬ (0 : Int32) ≤ nI 0 - nI 1 by decide)]
    exact ⟨_, _, _, rfl, rfl, hfg⟩
  · obtain ⟨e, rfl⟩ : ∃ e, a = e + 1 := ⟨a - 1, by omega⟩
    have p0 : (0 : Int32) ≤ nI e := by rw [c0, sle (by decide) (by omega)]; omega
    obtain ⟨j, j1, j2, j3, j4⟩ := nx_2 (N := N) (N' := N') hT hfg (e := e) (T - 1 - e) N N' (by omega) (by omega) (by omega)
    rw [show e + (T - 1 - e) = T - 1 by omega] at j3 j4
    have s1 : fX4_swap N f (nI e) (nI j) = some (upd (upd f e (f j)) j (f e)) := by
      unfold fX4_swap
      rw [sgd (by omega) (by decide), sgd (by omega) (by decide), sgd (by omega) (by decide), sgd (by omega) (by decide), sclamp (by omega), sclamp (by omega)]
    have s2 : fX5_swaps N' g (nI e) (nI j) = some (upd (upd g e (g j)) j (g e)) := by
      unfold fX5_swaps
      rw [sgd (by omega) (by decide), sgd (by omega) (by decide), sgd (by omega) (by decide), sgd (by omega) (by decide), sclamp (by omega), sclamp (by omega)]
    obtain ⟨f', g', x, y, x', y', q1, q2, q3⟩ := nx_3 (N := N) (N' := N') hT 6 N N' (e + 1) (T - 1) _ _ (by omega) (by omega) (by omega) (swap_c (a := e) (b := j) (by omega) (by omega) hfg) (by omega) (by omega)
    rw [dec1, if_pos p0, if_pos p0, j3, j4, b1_s, b1_s, s1, s2, b1_s, b1_s, c1, nI_add, q1, q2, b3_s, b3_s]
    exact ⟨_, _, _, rfl, rfl, q3⟩
end
/-! trials of orders -/
def figN (o : Nat → Nat) : Nat → Nat
  | 0 => 0
  | n + 1 => 10 * figN o n + o n
theorem figN_lt {o : Nat → Nat} : ∀ n, (∀ k, k < n → o k ≤ 9) → figN o n < 10 ^ n
  | 0, _ => by show (0 : Nat) < 1; omega
  | n + 1, h => by
    have h1 := figN_lt n (fun k hk => h k (by omega))
    have h2 := h n (by omega)
    show 10 * figN o n + o n < 10 ^ (n + 1)
    rw [Nat.pow_succ]
    omega
theorem figN_6 {o : Nat → Nat} {n : Nat} (hn : n ≤ 6) (h : ∀ k, k < n → o k ≤ 9) : figN o n < 1000000 := by
  have h1 := figN_lt n h
  have h2 : 10 ^ n ≤ 10 ^ 6 := Nat.pow_le_pow_right (by omega) hn
  omega
section
variable {N : Nat} {t : TS} {w w' : WS} {trades people fade winter fall round fell ills mtrades mpeople thrown falling : Int32} {needs yields skips skills places stores lacked helpers favours wheel works need made mskips tunes s makes mworks spare s' order morder : Nat → Int32} {o : Nat → Nat}
theorem wWheel_ok (hw : wOK t w) (ho : ∀ k, k < tT t → o k < tT t) : wOK t (wWheel w o) := ⟨hw.1, hw.2.1, hw.2.2.1, hw.2.2.2.1, hw.2.2.2.2.1, hw.2.2.2.2.2.1, hw.2.2.2.2.2.2.1, hw.2.2.2.2.2.2.2.1, ho⟩
theorem lackingByOrder_s (hN : 106 ≤ N) (ht : tOK t) (hw : wOK t w) (rt : RT t trades people needs yields skips) (ru : RU t fade winter fall) (rc : RC t w round fell ills skills places stores lacked helpers favours wheel) (ar af ai : Int32) (ask apl ast ala ahe afa awh awo : Nat → Int32) (ho : ∀ k, k < tT t → o k < tT t) (hor : ∀ k, k < tT t → order k = nI (o k)) {n en : Nat} (hn : n < 2147483648) (hen : en < 2147483648) : ∃ (v : Nat) (br bf bi : Int32) (bsk bpl bst bla bhe bfa bwh bwo : Nat → Int32), fX4_lackingByOrder N fade winter fall round fell ills skills places stores lacked helpers favours wheel ar af ai ask apl ast ala ahe afa awh awo order trades people needs yields skips (nI n) (nI en) = some (nI v, br, bf, bi, bsk, bpl, bst, bla, bhe, bfa, bwh, bwo) ∧ TV t (wWheel w o) n en v := by
  have hP : tP t ≤ 6 := ht.2.1
  have hT : tT t ≤ 6 := ht.1
  obtain ⟨x1, x2, x3, x4, x5, x6, x7, p1, p2⟩ := becomes_s (N := N) (r2 := ar) (f2 := af) (i2 := ai) (x1 := ask) (x2 := apl) (x3 := ast) (x4 := ala) (x5 := ahe) (x6 := afa) (x7 := awh) ht rc
  have rc2 : RC t (wWheel w o) round fell ills x1 x2 x3 x4 x5 x6 (va_cpy order x7 0 0 6) := ⟨p2.1, p2.2.1, p2.2.2.1, p2.2.2.2.1, p2.2.2.2.2.1, p2.2.2.2.2.2.1, p2.2.2.2.2.2.2.1, p2.2.2.2.2.2.2.2.1, p2.2.2.2.2.2.2.2.2.1, fun k hk => by rw [cpy_at (by omega)]; exact hor k hk⟩
  obtain ⟨v, a1, a2, a3, a4, a5, a6, a7, a8, a9, a10, g1, g2⟩ := goRounds_v (N := N) (works := awo) (by omega) ht (wWheel_ok hw ho) rt ru rc2 hn hen
  refine ⟨v, a1, a2, a3, a4, a5, a6, a7, a8, a9, va_cpy order x7 0 0 6, a10, ?_, g2⟩
  unfold fX4_lackingByOrder
  rw [p1, b10_s, g1, b11_s]
theorem figures_s (hN : 7 ≤ N) {T : Nat} (hT : T ≤ 6) (hor : ∀ k, k < T → order k = nI (o k)) : fX4_orderAsFigures N order (nI T) = some (nI (figN o T)) := by
  have key := lpN (fun n (z : Int32 × Int32) => fX4_orderAsFigures_4 N order (nI T) n z.1 z.2) (fun k => (nI (figN o k), nI k)) T _
    (fun n k hk => by
      show fX4_orderAsFigures_4 N order (nI T) (n + 1) _ (nI k) = fX4_orderAsFigures_4 N order (nI T) n (nI (10 * figN o k + o k)) (nI (k + 1))
      dsimp only
      rw [fX4_orderAsFigures_4_s, ic (sle (by omega) (by omega)), if_neg (by omega), sgd (by omega) (by decide), sclamp (by omega), hor k hk, c10, pk_mul, c1, nI_add, nI_add])
    (fun n => by
      show fX4_orderAsFigures_4 N order (nI T) (n + 1) _ (nI T) = _
      dsimp only
      rw [fX4_orderAsFigures_4_s, if_pos (nI_le (Nat.le_refl _) (by omega))])
    T 0 (by omega) N (by omega)
  unfold fX4_orderAsFigures
  have key' : fX4_orderAsFigures_4 N order (nI T) N (0 : Int32) (0 : Int32) = _ := key
  rw [key', b2_s]
theorem best81_s (hN : 7 ≤ N) (ht : tOK t) (rm : RM t w s) (hor : ∀ k, k < tT t → morder k = nI (o k)) : ∃ s', (∃ z, fX5_best_81 N (nI (tT t)) morder N s (0 : Int32) (0 : Int32) = some (s', nI (figN o (tT t)), z)) ∧ RM t (wWheel w o) s' := by
  have hP : tP t ≤ 6 := ht.2.1
  have hT : tT t ≤ 6 := ht.1
  have key := lpI (fun n (z : (Nat → Int32) × Int32 × Int32) => fX5_best_81 N (nI (tT t)) morder n z.1 z.2.1 z.2.2)
    (fun k z => (∀ j, j < k → z.1 (14 + j) = nI (o j)) ∧ (∀ j, (j < 14 ∨ 20 ≤ j) → z.1 j = s j) ∧ z.2.1 = nI (figN o k) ∧ z.2.2 = nI k)
    (fun r => (∀ j, j < tT t → r.1 (14 + j) = nI (o j)) ∧ (∀ j, (j < 14 ∨ 20 ≤ j) → r.1 j = s j) ∧ r.2.1 = nI (figN o (tT t))) (tT t)
    (fun n k z hk hz => by
      obtain ⟨s1, l6, l7⟩ := z
      obtain ⟨h1, h2, h3, h4⟩ := hz
      simp only [] at h1 h2 h3 h4
      subst h3 h4
      dsimp only
      rw [fX5_best_81_s, ic (sle (by omega) (by omega)), if_neg (by omega), c14, nI_add, sgd (by omega) (by decide), sgd (by omega) (by decide), sgd (by omega) (by decide), sclamp (by omega), sclamp (by omega), hor k hk, c10, pk_mul, c1, nI_add, nI_add]
      refine ⟨(_, nI (10 * figN o k + o k), nI (k + 1)), rfl, fun j hj => ?_, fun j hj => ?_, rfl, rfl⟩
      · show upd _ _ _ _ = _
        by_cases e : j = k
        · subst e; rw [up_s]
        · rw [up_n (by omega), h1 j (by omega)]
      · show upd _ _ _ _ = _
        rw [up_n (by omega), h2 j hj])
    (fun n z hz => by
      obtain ⟨s1, l6, l7⟩ := z
      obtain ⟨h1, h2, h3, h4⟩ := hz
      simp only [] at h1 h2 h3 h4
      subst h3 h4
      dsimp only
      refine ⟨(s1, nI (figN o (tT t)), nI (tT t)), ?_, h1, h2, rfl⟩
      rw [fX5_best_81_s, if_pos (nI_le (Nat.le_refl _) (by omega))])
    (tT t) 0 (by omega) N (by omega) (s, (0 : Int32), (0 : Int32)) ⟨fun j hj => by omega, fun j _ => rfl, rfl, rfl⟩
  obtain ⟨⟨s', l, z⟩, h1, h2, h3, h4⟩ := key
  simp only [] at h2 h3 h4
  subst h4
  refine ⟨s', ⟨z, h1⟩, ?_⟩
  obtain ⟨m1, m2, m3, m4, m5, m6, m7, m8, m9', m10⟩ := rm
  refine ⟨?_, ?_, fun k hk => ?_, fun k hk => ?_, fun k hk => ?_, fun j hj => ?_, fun j hj => ?_, ?_, fun a ha j hj => ?_, fun a ha b hb => ?_⟩
  · rw [h3 _ (by omega)]; exact m1
  · rw [h3 _ (by omega)]; exact m2
  · rw [h3 _ (by omega)]; exact m3 k hk
  · rw [h3 _ (by omega)]; exact m4 k hk
  · exact h2 k hk
  · rw [h3 _ (by omega)]; exact m6 j hj
  · rw [h3 _ (by omega)]; exact m7 j hj
  · rw [h3 _ (by omega)]; exact m8
  · rw [h3 _ (by omega)]; exact m9' a ha j hj
  · rw [h3 _ (by omega)]; exact m10 a ha b hb
/-- both programs over the orders that are left -/
theorem best_both (hN : 106 ≤ N) (ht : tOK t) (hw : wOK t w) (rt : RT t trades people needs yields skips) (ru : RU t fade winter fall) (rc : RC t w round fell ills skills places stores lacked helpers favours wheel) (rn : RN t mtrades mpeople need made mskips tunes) (hT0 : 0 < tT t) {n0 : Nat} (hn0 : n0 < 2147483648) :
    ∀ (L : List Nat) (c i n n' : Nat) (order morder : Nat → Int32), chk (tT t) c L = true → i + L.length + 1 ≤ 720 → L.length + 1 < n → L.length + 1 < n' → (∀ k, k < tT t → order k = nI (dg c k)) → (∀ k, k < tT t → morder k = nI (dg c k)) → ∀ (ar af ai : Int32) (ask apl ast ala ahe afa awh awo : Nat → Int32) (fal : Int32) (s spare mk wo : Nat → Int32) (A B A' B' : Int32), RM t w s → RM t w spare →
      ((A = nI 2147483647 ∧ A' = m9) ∨ ∃ a b, a < 2147483647 ∧ b < 2147483647 ∧ A = nI a ∧ B = nI b ∧ A' = nI b ∧ B' = nI a) →
      ∃ (br bf bi : Int32) (bsk bpl bst bla bhe bfa bwh bwo : Nat → Int32) (or' : Nat → Int32) (fal' : Int32) (s' spare' mk' wo' mo' : Nat → Int32) (a b z1 z2 z3 : Int32), fX4_best_56 N fade winter fall round fell ills skills places stores lacked helpers favours wheel trades people needs yields skips (nI n0) n ar af ai ask apl ast ala ahe afa awh awo order A B (1 : Int32) (nI i) = some (br, bf, bi, bsk, bpl, bst, bla, bhe, bfa, bwh, bwo, or', a, b, z1, z2) ∧ fX5_best_70 N mtrades mpeople need made mskips tunes (nI n0) n' fal s spare mk wo morder A' B' (1 : Int32) = some (fal', s', spare', mk', wo', mo', b, a, z3) ∧ RM t w s' := by
  have hP : tP t ≤ 6 := ht.2.1
  have hT : tT t ≤ 6 := ht.1
  have et := rt.1
  have en := rn.1
  subst et en
  intro L
  induction L with
  | nil =>
    intro c i n n' order morder hc hi hn hn' ho hmo ar af ai ask apl ast ala ahe afa awh awo fal s spare mk wo A B A' B' rm rp hst
    obtain ⟨n, rfl⟩ : ∃ z, n = z + 1 := ⟨n - 1, by omega⟩
    obtain ⟨n', rfl⟩ : ∃ z, n' = z + 1 := ⟨n' - 1, by omega⟩
    simp only [List.length_nil] at hi hn hn'
    have hc2 : okT (tT t) c = true ∧ okE (tT t) c = true := by
      unfold chk at hc
      rwa [Bool.and_eq_true] at hc
    have hlt := okT_s hc2.1
    have cont : ∀ (a b : Nat), a < 2147483647 → b < 2147483647 → ∀ (ar af ai : Int32) (ask apl ast ala ahe afa awh awo : Nat → Int32) (fal : Int32) (s spare mk wo : Nat → Int32), RM t w s → RM t w spare → ∃ (br bf bi : Int32) (bsk bpl bst bla bhe bfa bwh bwo : Nat → Int32) (or' : Nat → Int32) (fal' : Int32) (s' spare' mk' wo' mo' : Nat → Int32) (a' b' z1 z2 z3 : Int32), b2 (fX4_nextOrder N order (nI (tT t))) (fun r o => fX4_best_56 N fade winter fall round fell ills skills places stores lacked helpers favours wheel (nI (tT t)) people needs yields skips (nI n0) n ar af ai ask apl ast ala ahe afa awh awo o (nI a) (nI b) r (nI i + 1)) = some (br, bf, bi, bsk, bpl, bst, bla, bhe, bfa, bwh, bwo, or', a', b', z1, z2) ∧ b2 (fX5_goesOn N (nI (tT t)) morder) (fun r o => fX5_best_70 N (nI (tT t)) mpeople need made mskips tunes (nI n0) n' fal s spare mk wo o (nI b) (nI a) r) = some (fal', s', spare', mk', wo', mo', b', a', z3) ∧ RM t w s' := by
      intro a b ha hb ar af ai ask apl ast ala ahe afa awh awo fal s spare mk wo rm rp
      obtain ⟨f0, q0⟩ := okE_s hc2.2
      obtain ⟨r, f1, g1, q1, q2, q3⟩ := nx_rel (N := N) (N' := N) hT0 hT (by omega) (by omega) (f := order) (g := morder) (fun k hk => (ho k hk).trans (hmo k hk).symm)
      obtain ⟨r', f2, g2, q4, q5, q6⟩ := nx_rel (N := 10) (N' := N) hT0 hT (by omega) (by omega) (f := decO c) (g := morder) (fun k hk => (hmo k hk).symm)
      rw [q2] at q5
      rw [q0] at q4
      have e1 := Prod.mk.inj (Option.some.inj q5)
      have e2 := Prod.mk.inj (Option.some.inj q4)
      have hr : r = nI 0 := by rw [e1.1, ← e2.1]
      subst hr
      obtain ⟨n, rfl⟩ : ∃ z, n = z + 1 := ⟨n - 1, by omega⟩
      obtain ⟨n', rfl⟩ : ∃ z, n' = z + 1 := ⟨n' - 1, by omega⟩
      rw [q1, q2, b2_s, b2_s, fX4_best_56_s, fX5_best_70_s, if_pos (show nI 0 = (0 : Int32) from rfl), ite_self, if_pos (show nI 0 = (0 : Int32) from rfl)]
      exact ⟨_, _, _, _, _, _, _, _, _, _, _, _, _, _, _, _, _, _, _, _, _, _, _, rfl, rfl, rm⟩
    obtain ⟨s1, ⟨z1, u1⟩, u2⟩ := best81_s (N := N) (o := dg c) (by omega) ht rm hmo
    have hwo := wWheel_ok hw hlt (o := dg c)
    obtain ⟨s2, mk1, wo1, v1, v2⟩ := asideRun (falling := fal) (makes := mk) (mworks := wo) hN ht hwo hT0 rn u2 hn0
    obtain ⟨s3, d1, d2⟩ := aside_0 (N := N) (s := s2) (spare := spare) hN
    have d1' : fX5_aside N s2 spare (0 : Int32) = _ := d1
    have rm3 : RM t w s3 := RM_congr ht d2 rp
    have tl := tot_lt ht hwo n0
    have fl := figN_6 (o := dg c) hT (fun k hk => by have := hlt k hk; omega)
    rw [fX4_best_56_s, fX5_best_70_s, if_neg (show ¬ (720 : Int32) ≤ nI i by rw [show (720 : Int32) = nI 720 from rfl, sle (by omega) (by omega)]; omega), if_neg (show ¬ (1 : Int32) = 0 by decide), if_neg (show ¬ (1 : Int32) = 0 by decide)]
    rcases hst with ⟨rfl, rfl⟩ | ⟨a, b, ha, hb, rfl, rfl, rfl, rfl⟩
    · obtain ⟨v, cr, cf, ci, csk, cpl, cst, cla, che, cfa, cwh, cwo, g1, g2⟩ := lackingByOrder_s hN ht hw rt ru rc ar af ai ask apl ast ala ahe afa awh awo hlt ho hn0 (en := 2147483647) (by decide)
      have hv : v = tot t (wWheel w (dg c)) (rl (wWheel w (dg c)) n0) := by
        rcases g2.2 with ⟨_, g4⟩ | ⟨g3, _⟩
        · exact g4
        · omega
      subst hv
      rw [g1, b12_s, if_neg (by rw [sle (by omega) (by omega)]; omega), figures_s (by omega) hT ho, b1_s, u1, b3_s, v1, b5_s, if_pos (show m9 = (-9 : Int32) from rfl), d1', b2_s]
      exact cont _ _ (by omega) (by omega) _ _ _ _ _ _ _ _ _ _ _ _ _ _ _ _ rm3 rp
    · obtain ⟨v, cr, cf, ci, csk, cpl, cst, cla, che, cfa, cwh, cwo, g1, g2⟩ := lackingByOrder_s hN ht hw rt ru rc ar af ai ask apl ast ala ahe afa awh awo hlt ho hn0 (en := a) (by omega)
      have nb : ¬ nI b = (-9 : Int32) := by rw [m9e, seqm (by omega)]; exact id
      rw [g1, b12_s, u1, b3_s, v1, b5_s, if_neg nb]
      rcases g2.2 with ⟨g3, g4⟩ | ⟨g3, g4⟩
      · subst g4
        have hle : ¬ nI a ≤ nI (tot t (wWheel w (dg c)) (rl (wWheel w (dg c)) n0)) := by rw [sle (by omega) (by omega)]; omega
        rw [if_neg hle, if_neg hle, figures_s (by omega) hT ho, b1_s, d1', b2_s]
        exact cont _ _ (by omega) (by omega) _ _ _ _ _ _ _ _ _ _ _ _ _ _ _ _ rm3 rp
      · have hle : nI a ≤ nI (tot t (wWheel w (dg c)) (rl (wWheel w (dg c)) n0)) := by rw [sle (by omega) (by omega)]; omega
        have hle2 : nI a ≤ nI v := by rw [sle (by omega) g2.1]; omega
        rw [if_pos hle2, if_pos hle, d1', b2_s]
        exact cont _ _ ha hb _ _ _ _ _ _ _ _ _ _ _ _ _ _ _ _ rm3 rp
  | cons d L ih =>
    intro c i n n' order morder hc hi hn hn' ho hmo ar af ai ask apl ast ala ahe afa awh awo fal s spare mk wo A B A' B' rm rp hst
    obtain ⟨n, rfl⟩ : ∃ z, n = z + 1 := ⟨n - 1, by omega⟩
    obtain ⟨n', rfl⟩ : ∃ z, n' = z + 1 := ⟨n' - 1, by omega⟩
    simp only [List.length_cons] at hi hn hn'
    have hc2 : (okT (tT t) c = true ∧ okS (tT t) c d = true) ∧ chk (tT t) d L = true := by
      unfold chk at hc
      rwa [Bool.and_eq_true, Bool.and_eq_true] at hc
    have hlt := okT_s hc2.1.1
    have cont : ∀ (a b : Nat), a < 2147483647 → b < 2147483647 → ∀ (ar af ai : Int32) (ask apl ast ala ahe afa awh awo : Nat → Int32) (fal : Int32) (s spare mk wo : Nat → Int32), RM t w s → RM t w spare → ∃ (br bf bi : Int32) (bsk bpl bst bla bhe bfa bwh bwo : Nat → Int32) (or' : Nat → Int32) (fal' : Int32) (s' spare' mk' wo' mo' : Nat → Int32) (a' b' z1 z2 z3 : Int32), b2 (fX4_nextOrder N order (nI (tT t))) (fun r o => fX4_best_56 N fade winter fall round fell ills skills places stores lacked helpers favours wheel (nI (tT t)) people needs yields skips (nI n0) n ar af ai ask apl ast ala ahe afa awh awo o (nI a) (nI b) r (nI i + 1)) = some (br, bf, bi, bsk, bpl, bst, bla, bhe, bfa, bwh, bwo, or', a', b', z1, z2) ∧ b2 (fX5_goesOn N (nI (tT t)) morder) (fun r o => fX5_best_70 N (nI (tT t)) mpeople need made mskips tunes (nI n0) n' fal s spare mk wo o (nI b) (nI a) r) = some (fal', s', spare', mk', wo', mo', b', a', z3) ∧ RM t w s' := by
      intro a b ha hb ar af ai ask apl ast ala ahe afa awh awo fal s spare mk wo rm rp
      obtain ⟨f0, q0, q7⟩ := okS_s hc2.1.2
      obtain ⟨r, f1, g1, q1, q2, q3⟩ := nx_rel (N := N) (N' := N) hT0 hT (by omega) (by omega) (f := order) (g := morder) (fun k hk => (ho k hk).trans (hmo k hk).symm)
      obtain ⟨r', f2, g2, q4, q5, q6⟩ := nx_rel (N := 10) (N' := N) hT0 hT (by omega) (by omega) (f := decO c) (g := morder) (fun k hk => (hmo k hk).symm)
      rw [q2] at q5
      rw [q0] at q4
      have e1 := Prod.mk.inj (Option.some.inj q5)
      have e2 := Prod.mk.inj (Option.some.inj q4)
      have hr : r = nI 1 := by rw [e1.1, ← e2.1]
      subst hr
      have f2e := e2.2
      have g2e := e1.2
      subst f2e g2e
      rw [q1, q2, b2_s, b2_s, show nI i + (1 : Int32) = nI (i + 1) by rw [c1, nI_add]]
      have mo2 : ∀ k, k < tT t → g1 k = nI (dg d k) := fun k hk => (q6 k hk).symm.trans (q7 k hk)
      exact ih d (i + 1) n n' f1 g1 hc2.2 (by omega) (by omega) (by omega) (fun k hk => (q3 k hk).trans (mo2 k hk)) mo2 _ _ _ _ _ _ _ _ _ _ _ _ _ _ _ _ _ _ _ _ rm rp (Or.inr ⟨a, b, ha, hb, rfl, rfl, rfl, rfl⟩)
    obtain ⟨s1, ⟨z1, u1⟩, u2⟩ := best81_s (N := N) (o := dg c) (by omega) ht rm hmo
    have hwo := wWheel_ok hw hlt (o := dg c)
    obtain ⟨s2, mk1, wo1, v1, v2⟩ := asideRun (falling := fal) (makes := mk) (mworks := wo) hN ht hwo hT0 rn u2 hn0
    obtain ⟨s3, d1, d2⟩ := aside_0 (N := N) (s := s2) (spare := spare) hN
    have d1' : fX5_aside N s2 spare (0 : Int32) = _ := d1
    have rm3 : RM t w s3 := RM_congr ht d2 rp
    have tl := tot_lt ht hwo n0
    have fl := figN_6 (o := dg c) hT (fun k hk => by have := hlt k hk; omega)
    rw [fX4_best_56_s, fX5_best_70_s, if_neg (show ¬ (720 : Int32) ≤ nI i by rw [show (720 : Int32) = nI 720 from rfl, sle (by omega) (by omega)]; omega), if_neg (show ¬ (1 : Int32) = 0 by decide), if_neg (show ¬ (1 : Int32) = 0 by decide)]
    rcases hst with ⟨rfl, rfl⟩ | ⟨a, b, ha, hb, rfl, rfl, rfl, rfl⟩
    · obtain ⟨v, cr, cf, ci, csk, cpl, cst, cla, che, cfa, cwh, cwo, g1, g2⟩ := lackingByOrder_s hN ht hw rt ru rc ar af ai ask apl ast ala ahe afa awh awo hlt ho hn0 (en := 2147483647) (by decide)
      have hv : v = tot t (wWheel w (dg c)) (rl (wWheel w (dg c)) n0) := by
        rcases g2.2 with ⟨_, g4⟩ | ⟨g3, _⟩
        · exact g4
        · omega
      subst hv
      rw [g1, b12_s, if_neg (by rw [sle (by omega) (by omega)]; omega), figures_s (by omega) hT ho, b1_s, u1, b3_s, v1, b5_s, if_pos (show m9 = (-9 : Int32) from rfl), d1', b2_s]
      exact cont _ _ (by omega) (by omega) _ _ _ _ _ _ _ _ _ _ _ _ _ _ _ _ rm3 rp
    · obtain ⟨v, cr, cf, ci, csk, cpl, cst, cla, che, cfa, cwh, cwo, g1, g2⟩ := lackingByOrder_s hN ht hw rt ru rc ar af ai ask apl ast ala ahe afa awh awo hlt ho hn0 (en := a) (by omega)
      have nb : ¬ nI b = (-9 : Int32) := by rw [m9e, seqm (by omega)]; exact id
      rw [g1, b12_s, u1, b3_s, v1, b5_s, if_neg nb]
      rcases g2.2 with ⟨g3, g4⟩ | ⟨g3, g4⟩
      · subst g4
        have hle : ¬ nI a ≤ nI (tot t (wWheel w (dg c)) (rl (wWheel w (dg c)) n0)) := by rw [sle (by omega) (by omega)]; omega
        rw [if_neg hle, if_neg hle, figures_s (by omega) hT ho, b1_s, d1', b2_s]
        exact cont _ _ (by omega) (by omega) _ _ _ _ _ _ _ _ _ _ _ _ _ _ _ _ rm3 rp
      · have hle : nI a ≤ nI (tot t (wWheel w (dg c)) (rl (wWheel w (dg c)) n0)) := by rw [sle (by omega) (by omega)]; omega
        have hle2 : nI a ≤ nI v := by rw [sle (by omega) g2.1]; omega
        rw [if_pos hle2, if_pos hle, d1', b2_s]
        exact cont _ _ ha hb _ _ _ _ _ _ _ _ _ _ _ _ _ _ _ _ rm3 rp
theorem best25_s (hN : 7 ≤ N) : ∃ o', (∃ z, fX4_best_25 N N order (0 : Int32) = some (o', z)) ∧ ∀ k, k < 6 → o' k = nI k := by
  have key := lpN (fun n (z : (Nat → Int32) × Int32) => fX4_best_25 N n z.1 z.2) (fun k => (ov (fun j => decide (j < k)) order nI, nI k)) 6 _
    (fun n k hk => by
      show fX4_best_25 N (n + 1) _ (nI k) = _
      dsimp only
      have cc : ∀ j, decide (j < k + 1) = (decide (j < k) || decide (j = k)) := fun j => by rw [Bool.eq_iff_iff]; simp only [decide_eq_true_eq, Bool.or_eq_true]; omega
      rw [fX4_best_25_s, c6, ic (sle (by omega) (by omega)), if_neg (by omega), sgd (by omega) (by decide), sclamp (by omega), c1, nI_add, ov_upd (c' := fun j => decide (j < k + 1)) (v := nI) rfl cc])
    (fun n => by
      show fX4_best_25 N (n + 1) _ (nI 6) = _
      dsimp only
      rw [fX4_best_25_s, c6, ic (sle (by omega) (by omega)), if_pos (Nat.le_refl _)])
    6 0 (by omega) N (by omega)
  have h0 : ov (fun j => decide (j < 0)) order nI = order := ov_0 (fun j => by simp)
  simp only [h0] at key
  exact ⟨_, ⟨_, key⟩, fun k hk => ov_v (by simp [hk])⟩
theorem best40_s (hN : 7 ≤ N) {T : Nat} (hT : T ≤ 6) : ∃ o', (∃ z, fX5_best_40 N (nI T) N morder (0 : Int32) = some (o', z)) ∧ ∀ k, k < T → o' k = nI k := by
  have key := lpN (fun n (z : (Nat → Int32) × Int32) => fX5_best_40 N (nI T) n z.1 z.2) (fun k => (ov (fun j => decide (j < k)) morder nI, nI k)) T _
    (fun n k hk => by
      show fX5_best_40 N (nI T) (n + 1) _ (nI k) = _
      dsimp only
      have cc : ∀ j, decide (j < k + 1) = (decide (j < k) || decide (j = k)) := fun j => by rw [Bool.eq_iff_iff]; simp only [decide_eq_true_eq, Bool.or_eq_true]; omega
      rw [fX5_best_40_s, ic (sle (by omega) (by omega)), if_neg (by omega), sgd (by omega) (by decide), sclamp (by omega), c1, nI_add, ov_upd (c' := fun j => decide (j < k + 1)) (v := nI) rfl cc])
    (fun n => by
      show fX5_best_40 N (nI T) (n + 1) _ (nI T) = _
      dsimp only
      rw [fX5_best_40_s, ic (sle (by omega) (by omega)), if_pos (Nat.le_refl _)])
    T 0 (by omega) N (by omega)
  have h0 : ov (fun j => decide (j < 0)) morder nI = morder := ov_0 (fun j => by simp)
  simp only [h0] at key
  exact ⟨_, ⟨_, key⟩, fun k hk => ov_v (by simp [hk])⟩
theorem q_best (hN : 106 ≤ N) (ht : tOK t) (hw : wOK t w) (rt : RT t trades people needs yields skips) (ru : RU t fade winter fall) (rc : RC t w round fell ills skills places stores lacked helpers favours wheel) (hN2 : 800 ≤ N) (rn : RN t mtrades mpeople need made mskips tunes) (rm : RM t w s) (ar af ai : Int32) (ask apl ast ala ahe afa awh awo : Nat → Int32) (i1 i2 : Int32) :
    ∃ r x fal s' sp' mk' wo' mo', fX4_best N fade winter fall round fell ills skills places stores lacked helpers favours wheel ar af ai ask apl ast ala ahe afa awh awo order trades people needs yields skips i1 i2 = some (r, x) ∧ fX5_best N thrown mtrades mpeople falling need made mskips tunes s spare makes mworks morder i1 i2 = some (r, 0, fal, s', sp', mk', wo', mo') ∧ RM t w s' := by
  have hT : tT t ≤ 6 := ht.1
  have et := rt.1
  have en := rn.1
  subst et en
  unfold fX4_best fX5_best
  rw [in_e]
  rcases isF i1 i2 with ⟨n, j, h1, h2, h3, rfl, rfl, h⟩ | h
  · obtain ⟨k1, k2, k3⟩ := h N
    rw [k1, k2, k3, b1_s, b1_s, b1_s]
    try simp only [if10, if00, if10', if00']
    by_cases hz : nI (tT t) = (0 : Int32)
    · rw [if_pos hz, if_pos hz]
      exact ⟨_, _, _, _, _, _, _, _, rfl, rfl, rm⟩
    · have hT0 : 0 < tT t := Nat.pos_of_ne_zero (fun h => hz (by rw [h]; rfl))
      rw [if_neg hz, if_neg hz]
      obtain ⟨o1, ⟨z1, p1⟩, p2⟩ := best25_s (N := N) (order := order) (by omega)
      obtain ⟨o2, ⟨z2, p3⟩, p4⟩ := best40_s (N := N) (morder := morder) (T := tT t) (by omega) hT
      obtain ⟨sp1, a1, a2⟩ := aside_1 (N := N) (s := s) (spare := spare) hN
      have a1' : fX5_aside N s spare (1 : Int32) = _ := a1
      obtain ⟨c, L, l1, l2, l3⟩ := orders hT0 hT
      obtain ⟨br, bf, bi, bsk, bpl, bst, bla, bhe, bfa, bwh, bwo, or', fal', s', sp', mk', wo', mo', a, b, x1, x2, x3, u1, u2, u3⟩ := best_both hN ht hw rt ru rc rn hT0 (n0 := n) (by omega) L c 0 N N o1 o2 l1 (by omega) (by omega) (by omega) (fun k hk => by rw [p2 k (by omega), l3 k hk]) (fun k hk => by rw [p4 k hk, l3 k hk]) ar af ai ask apl ast ala ahe afa awh awo falling s sp1 makes mworks (nI 2147483647) (0 : Int32) m9 (0 : Int32) rm (RM_congr ht a2 rm) (Or.inl ⟨rfl, rfl⟩)
      have u1' : fX4_best_56 N fade winter fall round fell ills skills places stores lacked helpers favours wheel (nI (tT t)) people needs yields skips (nI n) N ar af ai ask apl ast ala ahe afa awh awo o1 (2147483647 : Int32) (0 : Int32) (1 : Int32) (0 : Int32) = _ := u1
      have u2' : fX5_best_70 N (nI (tT t)) mpeople need made mskips tunes (nI n) N falling s sp1 makes mworks o2 (-9 : Int32) (0 : Int32) (1 : Int32) = _ := u2
      rw [p1, b2_s, u1', b16_s, a1', b2_s, p3, b2_s, u2', b9_s]
      by_cases hj : nI j = (0 : Int32)
      · rw [if_pos hj, if_pos hj]
        exact ⟨_, _, _, _, _, _, _, _, rfl, rfl, u3⟩
      · rw [if_neg hj, if_neg hj]
        exact ⟨_, _, _, _, _, _, _, _, rfl, rfl, u3⟩
  · obtain ⟨k1, k2⟩ := h N
    rw [k1, b1_s]
    try simp only [if10, if00, if10', if00']
    rcases k2 with k2 | ⟨k2, k3⟩
    · rw [k2, b1_s]
      try simp only [if10, if00, if10', if00']
      exact ⟨_, _, _, _, _, _, _, _, rfl, rfl, rm⟩
    · rw [k2, k3, b1_s, b1_s]
      try simp only [if10, if00, if10', if00']
      exact ⟨_, _, _, _, _, _, _, _, rfl, rfl, rm⟩
end
