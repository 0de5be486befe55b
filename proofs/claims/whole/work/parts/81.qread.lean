/-! read, on both sides -/
section
variable {N n m i T P e L : Nat} {t : TS} {tb nd yl sp sk pl wh : Nat → Nat} {signs text tokens starts : Nat → Int32} {cuts current nx tk pa va trades people ended dT dP sh thrown next token place value fault mtrades mpeople round fell ills : Int32} {needs yields skips skills places wheel need made skT plT skp whT s isKept kept tunes pskills pplaces pstores placked phelpers pfavours pwheel : Nat → Int32}
theorem read75_s (hN : 3 ≤ N) : ∃ k', (∃ z, fX4_read_75 N N kept (0 : Int32) = some (k', z)) ∧ k' 0 = nI 0 ∧ k' 1 = nI 0 := by
  obtain ⟨N, rfl⟩ : ∃ z, N = z + 1 + 1 + 1 := ⟨N - 3, by omega⟩
  refine ⟨upd (upd kept 0 (nI 0)) 1 (nI 0), ⟨nI 2, ?_⟩, ?_, up_s⟩
  · rw [c0, fX4_read_75_s, c2, ic (sle (by decide) (by decide)), if_neg (by decide), sgd (by decide) (by decide), sclamp (by decide), c1, nI_add, fX4_read_75_s, c2, ic (sle (by decide) (by decide)), if_neg (by decide), sgd (by decide) (by decide), sclamp (by decide), c1, nI_add, fX4_read_75_s, c2, ic (sle (by decide) (by decide)), if_pos (by decide)]
    rfl
  · rw [up_n (by decide), up_s]
/-- the new told numbers -/
def tNew (t : TS) (T P : Nat) (nd yl sp : Nat → Nat) : TS := (T, P, nd, yl, sp, tFd t, tWi t, tFl t)
theorem q_read (hN : 410 ≤ N) (ht : tOK t) {len typed : Int32} (rx : RX n len typed signs text) (hf : tunes 0 = nI (tFd t) ∧ tunes 1 = nI (tWi t) ∧ tunes 2 = nI (tFl t)) (aD aT : Nat) :
    (∃ (r cu cr dt dp de mnx mtk mpl mva mfa mdT mdP msh : Int32) (tk' st' dn dy ds dk dpl dw mneed mmade mskT mplT mskp mwhT : Nat → Int32), fX4_read N len cuts current signs tokens starts round fell ills pskills pplaces pstores placked phelpers pfavours pwheel kept trades people ended needs yields skips skills places wheel aD aT = some (r, len, cu, cr, tk', st', round, fell, ills, pskills, pplaces, pstores, placked, phelpers, pfavours, pwheel, kept, dt, dp, de, dn, dy, ds, dk, dpl, dw, aD, aT) ∧
      fX5_read N thrown typed next token place value fault mtrades mpeople dT dP sh text need made skT plT skp whT s isKept = some (r, 0, typed, mnx, mtk, mpl, mva, mfa, mtrades, mpeople, mdT, mdP, msh, mneed, mmade, mskT, mplT, mskp, mwhT, s, isKept) ∧ FR need made skT plT skp whT mneed mmade mskT mplT mskp mwhT) ∨
    (∃ (T P : Nat) (nd yl sp sk pl wh : Nat → Nat) (r cu cr dt dp de mnx mtk mpl mva mfa mt mp mdT mdP msh rd' fe' il' : Int32) (tk' st' dn dy ds dk dpl dw mneed mmade mskT mplT mskp mwhT sk' pl' st2 la' he' fa' wh' kept' s' isKept' : Nat → Int32), fX4_read N len cuts current signs tokens starts round fell ills pskills pplaces pstores placked phelpers pfavours pwheel kept trades people ended needs yields skips skills places wheel aD aT = some (r, 0, cu, cr, tk', st', rd', fe', il', sk', pl', st2, la', he', fa', wh', kept', dt, dp, de, dn, dy, ds, dk, dpl, dw, aT, aD) ∧
      fX5_read N thrown typed next token place value fault mtrades mpeople dT dP sh text need made skT plT skp whT s isKept = some (r, 0, 0, mnx, mtk, mpl, mva, mfa, mt, mp, mdT, mdP, msh, mneed, mmade, mskT, mplT, mskp, mwhT, s', isKept') ∧
      tOK (tNew t T P nd yl sp) ∧ RT (tNew t T P nd yl sp) dt dp dn dy ds ∧ RN (tNew t T P nd yl sp) mt mp mneed mmade mskp tunes ∧ RS (tNew t T P nd yl sp) sk pl wh dk dpl dw mskT mplT mwhT ∧ RC (tNew t T P nd yl sp) (w0 sk pl wh) rd' fe' il' sk' pl' st2 la' he' fa' wh' ∧ RM (tNew t T P nd yl sp) (w0 sk pl wh) s' ∧ kept' 0 = nI 0 ∧ kept' 1 = nI 0 ∧ isKept' 0 = nI 0 ∧ isKept' 1 = nI 0) := by
  have bx := BX_of rx
  obtain ⟨x1, x2, x3, _⟩ := id rx
  subst x2 x3
  generalize (fun j => (signs j).toNatClampNeg) = tb at bx
  obtain ⟨m, cu, tk1, st1, q1, ct⟩ := cut_s (N := N) (tokens := tokens) (starts := starts) (cuts := cuts) (current := current) (by omega) bx
  have hm := ct.1
  have h4 := ct.2.1
  obtain ⟨a1, a2, a3, a4, b1', b2'⟩ := adv_s (N := N) (by omega) bx 0 token place value
  have b1'' : fX5_advances N (nI n) (0 : Int32) token place value text = _ := b1'
  obtain ⟨sk0, kl0, pl0, wh0, t1, t2, t3, t5⟩ := tellNothing_s (N := N) (trades := trades) (people := people) (ended := ended) (skips := skips) (skills := skills) (places := places) (wheel := wheel) (by omega)
  have dr0 : DR 0 0 0 (fun _ => 0) (fun _ => 0) (fun _ => 0) (fun _ => 0) (fun _ => 0) (fun _ => 0) (0 : Int32) (0 : Int32) (0 : Int32) needs yields sk0 kl0 pl0 wh0 (0 : Int32) (0 : Int32) (0 : Int32) need made skT plT skp whT :=
    ⟨⟨by omega, by omega, by omega⟩, ⟨rfl, rfl, rfl⟩, ⟨rfl, rfl, rfl⟩, fun k hk => by omega, fun p hp => by omega, fun p _ hp => ⟨(t2 p hp).1, (t2 p hp).2, fun k hk => t3 _ (by omega)⟩, fun p hp => by omega, fun p hp => by omega, fun k hk => by omega, fun _ => t5⟩
  have main := read_both (N := N) (by omega) bx ct m 0 0 N N 0 0 0 _ _ _ _ _ _ _ _ _ _ _ _ _ _ _ a1 a2 a3 a4 _ _ _ _ _ _ _ _ _ (by omega) (by omega) (by omega) (by omega) (by omega) b2' dr0
  rcases main with ⟨i', it, T, P, e, nd, yl, sp, sk, pl, wh, dt, dp, de, dn, dy, ds, dk, dpl, dw, mnx, mtk, mpl, mva, mdT, mdP, msh, mneed, mmade, mskT, mplT, mskp, mwhT, g1, g2, g3, g4, g5, g6⟩ | ⟨j, dt, dp, de, dn, dy, ds, dk, dpl, dw, mnx, mtk, mpl, mva, mdT, mdP, msh, z, z', mneed, mmade, mskT, mplT, mskp, mwhT, g1, g3, g4, g6⟩
  · right
    have g3' : fX1_readAll_6 N cu tk1 N (0 : Int32) (0 : Int32) (0 : Int32) needs yields sk0 kl0 pl0 wh0 (0 : Int32) (0 : Int32) = _ := g3
    have g4' : fX5_read_36 N (nI n) text N a1 a2 a3 a4 (-1 : Int32) (0 : Int32) (0 : Int32) (0 : Int32) need made skT plT skp whT (0 : Int32) = _ := g4
    obtain ⟨⟨d1, d2, d3⟩, ⟨d4, d5, d6⟩, ⟨d7, d8, d9⟩, d10, d11, d12, d13, d14, d15, d16⟩ := id g5
    obtain ⟨pl1, r1, r2⟩ := placeRest_s (N := N) (places := dpl) (pl := pl) (T := T) (P := P) (by omega) d2 d1 (fun p hp => by
      rcases d14 p hp with ⟨w1, _⟩ | ⟨_, w1, _⟩
      · exact Or.inl w1
      · exact Or.inr w1)
    obtain ⟨n1, n2, n3, n4, n5, ⟨z1, u1⟩, u2, u3⟩ := read218_s (N := N) (T := T) (P := P) (pl := pl) (places := dpl) (plT := mplT) (need := mneed) (made := mmade) (skp := mskp) (whT := mwhT) (by omega) d2 d1 (fun p hp => by
      rcases d14 p hp with w | ⟨w1, w2, w3⟩
      · exact Or.inl w
      · exact Or.inr ⟨w2, w1, w3⟩)
    obtain ⟨n6, ⟨z2, v1⟩, v2⟩ := read349_s (N := N) (skT := mskT) (by omega)
    have htn : tOK (tNew t T P nd yl sp) := ⟨d1, d2, fun k hk => (d10 k hk).1, fun p hp => (d11 p hp).1, ht.2.2.2.2⟩
    have plb : ∀ p, p < P → plF T pl dpl p < T ∨ (T = 0 ∧ plF T pl dpl p = 0) := by
      intro p hp
      unfold plF
      by_cases hm9 : dpl p = m9
      · rw [if_pos hm9]
        by_cases hz : T = 0
        · rw [if_pos hz]; exact Or.inr ⟨hz, rfl⟩
        · rw [if_neg hz]; exact Or.inl (Nat.mod_lt _ (by omega))
      · rw [if_neg hm9]
        rcases d14 p hp with ⟨w1, _⟩ | ⟨w1, _, _⟩
        · exact absurd w1 hm9
        · exact Or.inl w1
    have rs : RS (tNew t T P nd yl sp) sk (plF T pl dpl) wh dk pl1 dw n6 n3 n5 := by
      refine ⟨fun p hp k hk => ?_, fun p hp => ⟨r2 p hp, u3 p hp⟩, fun k hk => ?_, ?_⟩
      · have hp' : p < P := hp
        have hk' : k < T := hk
        obtain ⟨w1, w2, w3⟩ := d13 p hp' k (by omega)
        refine ⟨w2, ?_⟩
        rw [v2 _ (by omega), ← Nat.add_assoc]
        exact w3
      · have hk' : k < T := hk
        obtain ⟨w1, w2, w3⟩ := d15 k hk'
        exact ⟨w2, by rw [(u2 k (by omega)).2.2.2]; exact w3⟩
      · refine ⟨Nat.zero_le _, by show (0 : Nat) < 64; omega, fun p _ => Nat.zero_testBit p, fun p hp k hk => ?_, fun p hp => plb p hp, fun k hk => ⟨Nat.zero_le _, Nat.zero_le _⟩, fun q hq => ⟨Nat.zero_le _, fun _ => rfl, by show (0 : Nat) ≠ q + 1; omega⟩, fun q r _ _ _ h => absurd rfl h, fun k hk => (d15 k hk).1⟩
        have hk' : k < T := hk
        exact (d13 p hp k (by omega)).1
    obtain ⟨s', w1, w2⟩ := begins_s (N := N) (s := s) (by omega) htn rs
    obtain ⟨c1x, c2x, c3x, c4x, c5x, c6x, c7x, c8x, c9x, c10x, y1, y2⟩ := startAs_s (N := N) (round := round) (fell := fell) (ills := ills) (skills := pskills) (places := pplaces) (stores := pstores) (lacked := placked) (helpers := phelpers) (favours := pfavours) (wheel := pwheel) (by omega) htn rs
    obtain ⟨k', ⟨z3, k1⟩, k2, k3⟩ := read75_s (N := N) (kept := kept) (by omega)
    refine ⟨T, P, nd, yl, sp, sk, plF T pl dpl, wh, nI it, cu, nI i', dt, dp, de, mnx, mtk, mpl, mva, (-1 : Int32), mdT, mdP, mdT, mdP, msh, c1x, c2x, c3x, tk1, st1, dn, dy, ds, dk, pl1, dw, n1, n2, n6, n3, n4, n5, c4x, c5x, c6x, c7x, c8x, c9x, c10x, k', s', upd (upd isKept 0 (nI 0)) 1 (nI 0), ?_, ?_, htn, ⟨d4, d5, fun k hk => ⟨(d10 k hk).2.1, (d10 k hk).2.2.1⟩, fun p hp => (d11 p hp).2.1⟩, ⟨d7, d8, fun k hk => ?_, fun p hp => ?_, hf⟩, rs, y2, w2, k2, k3, ?_, up_s⟩
    · unfold fX4_read fX1_readAll
      rw [q1, b4_s, t1, b7_s, g3', b12_s, rjn_, d4, d5, r1, b1_s, b11_s, if_neg (show ¬ nI it = (-9 : Int32) by rw [m9e, seqm (by omega)]; exact id), y1, b10_s, k1, b2_s]
    · unfold fX5_read
      rw [b1'', b4_s, g4', b15_s, isWellT, b1_s, if_neg (show ¬ (1 : Int32) = 0 by decide), d7, d8, u1, b6_s, v1, b2_s, sgd_0, sgd_1, w1, b1_s]
      rfl
    · have hk' : k < T := hk
      obtain ⟨w1, w2, w3, w4, w5⟩ := d10 k hk'
      exact ⟨by rw [(u2 k (by omega)).1]; exact w4, by rw [(u2 k (by omega)).2.1]; exact w5⟩
    · have hp' : p < P := hp
      obtain ⟨w1, w2, w3⟩ := d11 p hp'
      rw [(u2 p (by omega)).2.2.1]
      exact w3
    · rw [up_n (by decide), up_s]
  · left
    have g3' : fX1_readAll_6 N cu tk1 N (0 : Int32) (0 : Int32) (0 : Int32) needs yields sk0 kl0 pl0 wh0 (0 : Int32) (0 : Int32) = _ := g3
    have g4' : fX5_read_36 N (nI n) text N a1 a2 a3 a4 (-1 : Int32) (0 : Int32) (0 : Int32) (0 : Int32) need made skT plT skp whT (0 : Int32) = _ := g4
    have hst := stT_lt ct (i := j)
    refine ⟨(-10 : Int32) - nI (stT n tb j), cu, nI j, dt, dp, de, mnx, mtk, mpl, mva, nI (stT n tb j), mdT, mdP, msh, tk1, st1, dn, dy, ds, dk, dpl, dw, mneed, mmade, mskT, mplT, mskp, mwhT, ?_, ?_, g6⟩
    · unfold fX4_read fX1_readAll
      rw [q1, b4_s, t1, b7_s, g3', b12_s, rjs_, b11_s, if_pos rfl]
      unfold fX0_start
      rw [sgd (by omega) (by decide), sclamp (by omega), (ct.2.2.2.2.2 j g1).2, b1_s]
    · unfold fX5_read
      rw [b1'', b4_s, g4', b15_s, isWellF N hst, b1_s, if_pos rfl]
end
