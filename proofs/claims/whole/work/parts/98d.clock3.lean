/-! ===== a line of a burgh: a clock, both readers ===== -/
section CLK3
variable {tp : Nat → Int32} {L lim sz c : Nat} {K P V : Nat → Int32} {W : Nat → Int64} {kc : KU} {rc : RU} {res : Nat → Int64} {b : MB} {B : CB} {hh : Nat → Int32} {nm : Nat → Int64}
theorem HB.nms (H : HB b B hh nm) : (∀ i, i < b.C → B.clockName i = nm (18 + i)) ∧ (∀ i, i < b.M → B.masterName i = nm (24 + i)) ∧ (∀ i, i < b.T → B.meetName i = nm (30 + i)) := by
  obtain ⟨⟨-, h1, h2, h3⟩, -, -⟩ := H
  refine ⟨fun i hi => (h1 i hi).2.2.2.2.2.2.2.2.2.2.2.1, fun i hi => ?_, fun i hi => ?_⟩
  · have := (h2 i hi).2.2.2.2.2.2.2.2.2.2.2
    rw [this, show 24 + i = 18 + (6 + i) by omega]
  · have := (h3 i hi).2.2.2.2.2
    rw [this, show 30 + i = 18 + (12 + i) by omega]
theorem ns18 {nm : Nat → Int64} {w : Int64} {j : Nat} (hj : 18 ≤ j) : ∀ i, i < 18 → vp_updL nm j w i = nm i := fun i hi => pk_uLn (by omega)
theorem rdC_ok (hE : EV tp L lim sz K P V W) (h : CQ tp L lim sz c kc) (hr : RC tp L lim c rc) (hv : RV res) (H : HB b B hh nm) (N : Nat) (hN : 2010 ≤ N) (hstep : ps9 tp L lim c + 1 ≤ ps9 tp L lim (c + 1)) (fp fa got : Int32) : (∃ (w : Int64) (v : Nat) (a g : Int) (kc' : KU) (rc' : RU) (c' : Nat) (got' : Int32) (h' : Nat → Int32), f_X2_readClock N (nI b.C) (nI b.M) (nI b.T) kc.1 kc.2.1 kc.2.2.1 kc.2.2.2.1 0 fp (nI sz) kc.2.2.2.2 K P V W B.clockName B.masterName B.meetName B.clockCorner B.clockAhead B.clockGain = some (1, nI (b.C + 1), kc'.1, kc'.2.1, kc'.2.2.1, kc'.2.2.2.1, 0, fp, kc'.2.2.2.2, vp_updL B.clockName b.C w, upd B.clockCorner b.C (nI v), upd B.clockAhead b.C (iI a), upd B.clockGain b.C (iI g)) ∧ f_X12_readClock N (nI L) rc.1 (nI lim) rc.2.1 rc.2.2.1 rc.2.2.2.1 rc.2.2.2.2.1 0 fa rc.2.2.2.2.2 got hh tp res nm = some (1, rc'.1, rc'.2.1, rc'.2.2.1, rc'.2.2.2.1, rc'.2.2.2.2.1, 0, fa, rc'.2.2.2.2.2, got', h', vp_updL nm (18 + b.C) w) ∧ CQ tp L lim sz c' kc' ∧ RC tp L lim c' rc' ∧ ps9 tp L lim c + 1 ≤ ps9 tp L lim c' ∧ HB (MB.mk (b.C + 1) b.M b.T b.pat b.clk b.cor (up9 b.ccor b.C v) b.late (up9 b.gn b.C g) (up9 b.ah0 b.C a) b.du0 b.toC) (CB.mk (nI (b.C + 1)) B.masters B.meets B.patience (vp_updL B.clockName b.C w) (upd B.clockCorner b.C (nI v)) (upd B.clockAhead b.C (iI a)) (upd B.clockGain b.C (iI g)) B.masterName B.masterCorner B.masterLate B.masterClock B.masterMeets B.meetName B.meetDue) h' (vp_updL nm (18 + b.C) w)) ∨ (∃ z w, f_X2_readClock N (nI b.C) (nI b.M) (nI b.T) kc.1 kc.2.1 kc.2.2.1 kc.2.2.2.1 0 fp (nI sz) kc.2.2.2.2 K P V W B.clockName B.masterName B.meetName B.clockCorner B.clockAhead B.clockGain = some z ∧ f_X12_readClock N (nI L) rc.1 (nI lim) rc.2.1 rc.2.2.1 rc.2.2.2.1 rc.2.2.2.2.1 0 fa rc.2.2.2.2.2 got hh tp res nm = some w ∧ z.1 = 0 ∧ w.1 = 0 ∧ ¬ z.2.2.2.2.2.2.1 = 0 ∧ z.2.2.2.2.2.2.1 = w.2.2.2.2.2.2.1 ∧ z.2.2.2.2.2.2.2.1 = w.2.2.2.2.2.2.2.1 ∧ ∀ i, i < 18 → w.2.2.2.2.2.2.2.2.2.2.2 i = nm i) := by
  have H0 := H
  obtain ⟨nC, nM, nT⟩ := H.nms
  obtain ⟨⟨⟨a1, a2, a3, a4, a5, a6, a7, a8, a9, -⟩, h1, h2, h3⟩, z1, z2⟩ := H
  unfold f_X2_readClock f_X12_readClock
  rw [zbn_s, a5]
  by_cases c6 : b.C = 6
  · right
    rw [c6, if_neg (show ¬ nI 6 < 6 by decide), if_pos (show nI 6 = 6 from rfl), ref0]
    exact ⟨_, _, rfl, rfl, rfl, rfl, (show ¬ (4 : Int32) = 0 by decide), rfl, pl_at h hr, fun i _ => rfl⟩
  · obtain ⟨kd, d1, d2⟩ := adv_ok hE h N
    obtain ⟨r1, e1, e2⟩ := nex_ok hE hr N hN
    rw [if_pos (show nI b.C < 6 from nI_lt (b := 6) (by omega) (by omega)), if_neg (show ¬ nI b.C = 6 from nk9 (b := 6) (by omega) (by omega) c6), d1, zcl_s, e1, zcl_s, show (18 : Int32) + nI b.C = nI (18 + b.C) by rw [show (18 : Int32) = nI 18 from rfl, nI_add], show (4 : Int32) + nI b.C = nI (4 + b.C) by rw [show (4 : Int32) = nI 4 from rfl, nI_add]]
    rcases tnn_clock hE d2 e2 hv N b.C b.C b.M b.T B.clockName B.masterName B.meetName nm hh hN (by omega) a1 a2 a3 a5 a7 a9 nC nM nT fp fa with ⟨k2, r2, tw, t1, t2, t3, t4, t5⟩ | ⟨q, t0, t1, t2⟩
    · rw [t1, zcl_s, t2, zcl_s]
      dsimp only
      rw [if_neg one0, if_neg one0]
      have tn := tnu_ok hE t3 t4 N 0 30 hN (by omega) (by omega) fp fa got
      rw [show nI 0 = (0 : Int32) from rfl, show nI 30 = (30 : Int32) from rfl] at tn
      unfold f_X12_puts
      rcases tn with ⟨v, k3, r3, v1, v2, u1, u2, u3, u4, u5⟩ | ⟨q, u0, u1, u2⟩
      · rw [u1, zcl_s, u2, zcl_s]
        dsimp only
        rw [if_neg (show ¬ nI v = -1 from oI_sn (u := v) (by omega)), if_neg one0, zin_nI (show b.C < 6 by omega) (by omega), zck_t, zbn_s, cl_n (show b.C < 2147483648 by omega), zin_nI (show 4 + b.C < 52 by omega) (by omega), zck_t, zbn_s, cl_n (show 4 + b.C < 2147483648 by omega), zcl_s]
        dsimp only
        rw [if_neg one0]
        have z10 := (z1 b.C (Nat.le_refl _) (by omega)).1
        have z16 := (z1 b.C (Nat.le_refl _) (by omega)).2
        rcases turn1 (hh := upd hh (4 + b.C) (nI v)) (nm := vp_updL nm (18 + b.C) kd.2.2.2.1) (res := res) hE u3 u4 N b.C hN (by omega) (by rw [pk_un (by omega)]; exact z10) fp fa (nI v) with ⟨a, k4, r4, c4, g4, h4, ra1, ra2, w1, w2, w3, w4, w5, w6, w7⟩ | ⟨q, x, pl, k4, w, y0, y1, y2, y3, y4, y5, y6⟩
        · rw [w1, zcl_s, w2]
          dsimp only
          rw [zbn_s, if_pos rfl]
          rcases turn2 (hh := h4) (nm := vp_updL nm (18 + b.C) kd.2.2.2.1) (res := res) hE w5 w6 N b.C hN (by omega) (by rw [w4 (16 + b.C) (by omega), pk_un (by omega)]; exact z16) fp fa g4 with ⟨g, k5, r5, c5, g5, h5, rb1, rb2, x1, x2, x3, x4, x5, x6, x7⟩ | ⟨q, x, pl, k5, w, y0, y1, y2, y3, y4, y5, y6⟩
          · left
            rw [x1, zcl_s, x2]
            unfold f_X2_readClock_125 f_X12_readClock_175
            dsimp only
            have hz : h5 0 = nI b.C := by rw [x4 0 (by omega), w4 0 (by omega), pk_un (by omega)]; exact a5
            rw [zin_nI (show b.C < 6 by omega) (by omega), zck_t, zbn_s, zbn_s, cl_n (show b.C < 2147483648 by omega), if_pos rfl, nI_1, zbn_s, zbn_s, hz, nI_1]
            refine ⟨kd.2.2.2.1, v, a, g, k5, r5, c5, g5, upd h5 0 (nI (b.C + 1)), rfl, rfl, x5, x6, by omega, ?_⟩
            exact H0.clk (by omega) kd.2.2.2.1 (wd_cq d2 tw) v a g (by omega) ra1 ra2 rb1 rb2 pk_us (by rw [pk_un (by omega), x4 _ (by omega), w4 _ (by omega), pk_us]) (by rw [pk_un (by omega), x4 _ (by omega)]; exact w3) (by rw [pk_un (by omega)]; exact x3) (fun i i1 i2 i3 i4 => by rw [pk_un i1, x4 i i4, w4 i i3, pk_un i2])
          · right
            rw [y1, zcl_s, y2]
            unfold f_X2_readClock_125
            dsimp only
            rw [zin_nI (show b.C < 6 by omega) (by omega), zck_t, zbn_s, zbn_s, if_neg y0]
            exact ⟨_, _, rfl, rfl, rfl, y3, y0, y4.symm, y5.symm, by rw [y6]; exact ns18 (by omega)⟩
        · right
          rw [y1, zcl_s, y2]
          unfold f_X2_readClock_125
          dsimp only
          rw [zbn_s, if_neg y0, zin_nI (show b.C < 6 by omega) (by omega), zck_t, zbn_s, zbn_s, if_neg y0]
          exact ⟨_, _, rfl, rfl, rfl, y3, y0, y4.symm, y5.symm, by rw [y6]; exact ns18 (by omega)⟩
      · right
        rw [u1, zcl_s, u2, zcl_s]
        dsimp only
        rw [if_pos rfl, if_pos rfl, zcl_s]
        dsimp only
        rw [if_pos rfl]
        exact ⟨_, _, rfl, rfl, rfl, rfl, u0, rfl, rfl, ns18 (by omega)⟩
    · right
      rw [t1, zcl_s, t2, zcl_s]
      dsimp only
      rw [if_pos rfl, if_pos rfl]
      exact ⟨_, _, rfl, rfl, rfl, rfl, t0, rfl, rfl, fun i _ => rfl⟩
end CLK3
