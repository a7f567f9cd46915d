/-! ===== lines of a burgh: a master, a meet, who comes ===== -/
section LNS
variable {tp : Nat → Int32} {L lim sz c : Nat} {K P V : Nat → Int32} {W : Nat → Int64} {kc : KU} {rc : RU} {res : Nat → Int64} {b : MB} {B : CB} {hh : Nat → Int32} {nm : Nat → Int64}
theorem rdM_ok (hE : EV tp L lim sz K P V W) (h : CQ tp L lim sz c kc) (hr : RC tp L lim c rc) (hv : RV res) (H : HB b B hh nm) (N : Nat) (hN : 2010 ≤ N) (hstep : ps9 tp L lim c + 1 ≤ ps9 tp L lim (c + 1)) (fp fa got : Int32) : (∃ (w : Int64) (v l cl : Nat) (kc' : KU) (rc' : RU) (c' : Nat) (got' : Int32) (h' : Nat → Int32) (b' : MB), f_X2_readMaster N (nI b.C) (nI b.M) (nI b.T) kc.1 kc.2.1 kc.2.2.1 kc.2.2.2.1 0 fp (nI sz) kc.2.2.2.2 K P V W B.clockName B.masterName B.meetName B.masterCorner B.masterLate B.masterMeets B.masterClock = some (1, nI (b.M + 1), kc'.1, kc'.2.1, kc'.2.2.1, kc'.2.2.2.1, 0, fp, kc'.2.2.2.2, vp_updL B.masterName b.M w, upd B.masterCorner b.M (nI v), upd B.masterLate b.M (iI l), upd B.masterMeets b.M 0, upd B.masterClock b.M (nI cl)) ∧ f_X12_readMaster N (nI L) rc.1 (nI lim) rc.2.1 rc.2.2.1 rc.2.2.2.1 rc.2.2.2.2.1 0 fa rc.2.2.2.2.2 got hh tp res nm = some (1, rc'.1, rc'.2.1, rc'.2.2.1, rc'.2.2.2.1, rc'.2.2.2.2.1, 0, fa, rc'.2.2.2.2.2, got', h', vp_updL nm (24 + b.M) w) ∧ CQ tp L lim sz c' kc' ∧ RC tp L lim c' rc' ∧ ps9 tp L lim c + 1 ≤ ps9 tp L lim c' ∧ HB b' (CB.mk B.clocks (nI (b.M + 1)) B.meets B.patience B.clockName B.clockCorner B.clockAhead B.clockGain (vp_updL B.masterName b.M w) (upd B.masterCorner b.M (nI v)) (upd B.masterLate b.M (iI l)) (upd B.masterClock b.M (nI cl)) (upd B.masterMeets b.M 0) B.meetName B.meetDue) h' (vp_updL nm (24 + b.M) w)) ∨ (∃ z w, f_X2_readMaster N (nI b.C) (nI b.M) (nI b.T) kc.1 kc.2.1 kc.2.2.1 kc.2.2.2.1 0 fp (nI sz) kc.2.2.2.2 K P V W B.clockName B.masterName B.meetName B.masterCorner B.masterLate B.masterMeets B.masterClock = some z ∧ f_X12_readMaster N (nI L) rc.1 (nI lim) rc.2.1 rc.2.2.1 rc.2.2.2.1 rc.2.2.2.2.1 0 fa rc.2.2.2.2.2 got hh tp res nm = some w ∧ z.1 = 0 ∧ w.1 = 0 ∧ ¬ z.2.2.2.2.2.2.1 = 0 ∧ z.2.2.2.2.2.2.1 = w.2.2.2.2.2.2.1 ∧ z.2.2.2.2.2.2.2.1 = w.2.2.2.2.2.2.2.1 ∧ ∀ i, i < 18 → w.2.2.2.2.2.2.2.2.2.2.2 i = nm i) := by
  have H0 := H
  obtain ⟨nC, nM, nT⟩ := H.nms
  obtain ⟨⟨⟨a1, a2, a3, a4, a5, a6, a7, a8, a9, -⟩, h1, h2, h3⟩, z1, z2⟩ := H
  unfold f_X2_readMaster f_X12_readMaster
  rw [zbn_s, a7]
  by_cases c6 : b.M = 6
  · right
    rw [c6, if_neg (show ¬ nI 6 < 6 by decide), if_pos (show nI 6 = 6 from rfl), ref0]
    exact ⟨_, _, rfl, rfl, rfl, rfl, (show ¬ (4 : Int32) = 0 by decide), rfl, pl_at h hr, fun i _ => rfl⟩
  · obtain ⟨kd, d1, d2⟩ := adv_ok hE h N
    obtain ⟨r1, e1, e2⟩ := nex_ok hE hr N hN
    rw [if_pos (show nI b.M < 6 from nI_lt (b := 6) (by omega) (by omega)), if_neg (show ¬ nI b.M = 6 from nk9 (b := 6) (by omega) (by omega) c6), d1, zcl_s, e1, zcl_s, show (24 : Int32) + nI b.M = nI (24 + b.M) by rw [show (24 : Int32) = nI 24 from rfl, nI_add], show (22 : Int32) + nI b.M = nI (22 + b.M) by rw [show (22 : Int32) = nI 22 from rfl, nI_add], show (28 : Int32) + nI b.M = nI (28 + b.M) by rw [show (28 : Int32) = nI 28 from rfl, nI_add], show (34 : Int32) + nI b.M = nI (34 + b.M) by rw [show (34 : Int32) = nI 34 from rfl, nI_add]]
    rcases tnn_master hE d2 e2 hv N b.M b.C b.M b.T B.clockName B.masterName B.meetName nm hh hN (by omega) a1 a2 a3 a5 a7 a9 nC nM nT fp fa with ⟨k2, r2, t1, t2, t3, t4, t5⟩ | ⟨q, t0, t1, t2⟩
    · rw [t1, zcl_s, t2, zcl_s]
      dsimp only
      rw [if_neg one0, if_neg one0]
      have tn := tnu_ok hE t3 t4 N 0 30 hN (by omega) (by omega) fp fa got
      rw [show nI 0 = (0 : Int32) from rfl, show nI 30 = (30 : Int32) from rfl] at tn
      unfold f_X12_puts
      rcases tn with ⟨v, k3, r3, v1, v2, u1, u2, u3, u4, u5⟩ | ⟨q, u0, u1, u2⟩
      · rw [u1, zcl_s, u2, zcl_s]
        dsimp only
        rw [if_neg (show ¬ nI v = -1 from oI_sn (u := v) (by omega)), if_neg one0, zin_nI (show 22 + b.M < 52 by omega) (by omega), zck_t, zbn_s, cl_n (show 22 + b.M < 2147483648 by omega), zcl_s]
        dsimp only
        rw [if_neg one0]
        have tn2 := tnu_ok hE u3 u4 N 1 60 hN (by omega) (by omega) fp fa (nI v)
        rw [show nI 1 = (1 : Int32) from rfl, show nI 60 = (60 : Int32) from rfl] at tn2
        rcases tn2 with ⟨l, k4, r4, l1, l2, x1, x2, x3, x4, x5⟩ | ⟨q, u0, x1, x2⟩
        · rw [x1, zcl_s, x2, zcl_s]
          dsimp only
          have g5 : upd (upd hh (22 + b.M) (nI v)) (28 + b.M) (nI l) 0 = nI b.C := by rw [pk_un (by omega), pk_un (by omega)]; exact a5
          rw [if_neg (show ¬ nI l = -1 from oI_sn (u := l) (by omega)), if_neg one0, zin_nI (show b.M < 6 by omega) (by omega), zck_t, zbn_s, zbn_s, zbn_s, zbn_s, cl_n (show b.M < 2147483648 by omega), zin_nI (show 28 + b.M < 52 by omega) (by omega), zck_t, zbn_s, cl_n (show 28 + b.M < 2147483648 by omega), zcl_s]
          dsimp only
          rw [if_neg one0, g5, nI_1]
          obtain ⟨k5, y1, y2⟩ := adv_ok hE x3 N
          have tk := tkn_ok hE x3 x4 hv N 18 b.C B.clockName (vp_updL nm (24 + b.M) kd.2.2.2.1) hN a1 (by omega) (fun i hi => by rw [pk_uLn (by omega)]; exact nC i hi) fp fa (nI l)
          rw [show nI 18 = (18 : Int32) from rfl] at tk
          rcases tk with ⟨cl, r5, q0, q1, q2, q3, q4⟩ | ⟨q, g, q0, q1, q2⟩
          · left
            have g6 : upd (upd (upd hh (22 + b.M) (nI v)) (28 + b.M) (nI l)) (34 + b.M) (nI cl) 1 = nI b.M := by rw [pk_un (by omega), pk_un (by omega), pk_un (by omega)]; exact a7
            rw [q1, zcl_s, y1, zcl_s, q2, zcl_s]
            dsimp only
            rw [zbn_s, zbn_s, if_neg (show ¬ nI cl = -1 from oI_sn (u := cl) (by omega)), if_neg one0, zin_nI (show 34 + b.M < 52 by omega) (by omega), zck_t, zbn_s, zbn_s, zbn_s, cl_n (show 34 + b.M < 2147483648 by omega), g6, nI_1, show zmax (nI cl) 0 = nI cl by rw [show (0 : Int32) = nI 0 from rfl, zmax_n (by omega) (by omega)]; congr 1; omega]
            have HH := H0.mas (h' := upd (upd (upd (upd hh (22 + b.M) (nI v)) (28 + b.M) (nI l)) (34 + b.M) (nI cl)) 1 (nI (b.M + 1))) (by omega) kd.2.2.2.1 v cl (l : Int) (by omega) (by omega) (by omega) q0 pk_us (by rw [pk_un (by omega), pk_un (by omega), pk_un (by omega), pk_us]) (by rw [pk_un (by omega), pk_un (by omega), pk_us, iI_nat]) (by rw [pk_un (by omega), pk_us]) (fun i i1 i2 i3 i4 => by rw [pk_un i1, pk_un i4, pk_un i3, pk_un i2])
            have hps : ps9 tp L lim c + 1 ≤ ps9 tp L lim (c + 1 + 1 + 1 + 1 + 1) := by
              have t5' : ps9 tp L lim (c + 1) + 1 ≤ ps9 tp L lim (c + 1 + 1) := t5
              have u5' : ps9 tp L lim (c + 1 + 1) + 1 ≤ ps9 tp L lim (c + 1 + 1 + 1) := u5
              have x5' : ps9 tp L lim (c + 1 + 1 + 1) + 1 ≤ ps9 tp L lim (c + 1 + 1 + 1 + 1) := x5
              have q4' : ps9 tp L lim (c + 1 + 1 + 1 + 1) + 1 ≤ ps9 tp L lim (c + 1 + 1 + 1 + 1 + 1) := q4
              omega
            exact ⟨kd.2.2.2.1, v, l, cl, k5, r5, _, nI cl, _, _, by rw [iI_nat l], rfl, y2, q3, hps, HH⟩
          · right
            rw [q1, zcl_s, y1, zcl_s, q2, zcl_s]
            dsimp only
            rw [zbn_s, zbn_s, if_pos rfl, if_pos rfl]
            exact ⟨_, _, rfl, rfl, rfl, rfl, q0, rfl, rfl, ns18 (by omega)⟩
        · right
          rw [x1, zcl_s, x2, zcl_s]
          dsimp only
          rw [if_pos rfl, if_pos rfl, zcl_s]
          dsimp only
          rw [if_pos rfl]
          exact ⟨_, _, rfl, rfl, rfl, rfl, u0, rfl, rfl, ns18 (by omega)⟩
      · right
        rw [u1, zcl_s, u2, zcl_s]
        dsimp only
        rw [if_pos rfl, if_pos rfl, zcl_s]
        dsimp only
        rw [if_pos rfl]
        exact ⟨_, _, rfl, rfl, rfl, rfl, u0, rfl, rfl, ns18 (by omega)⟩
    · right
      rw [t1, zcl_s, t2, zcl_s]
      dsimp only
      rw [if_pos rfl, if_pos rfl]
      exact ⟨_, _, rfl, rfl, rfl, rfl, t0, rfl, rfl, fun i _ => rfl⟩
theorem rdT_ok (hE : EV tp L lim sz K P V W) (h : CQ tp L lim sz c kc) (hr : RC tp L lim c rc) (hv : RV res) (H : HB b B hh nm) (N : Nat) (hN : 2010 ≤ N) (hstep : ps9 tp L lim c + 1 ≤ ps9 tp L lim (c + 1)) (fp fa got : Int32) : (∃ (w : Int64) (v : Nat) (kc' : KU) (rc' : RU) (c' : Nat) (got' : Int32) (h' : Nat → Int32) (b' : MB), f_X2_readMeet N (nI b.C) (nI b.M) (nI b.T) kc.1 kc.2.1 kc.2.2.1 kc.2.2.2.1 0 fp (nI sz) kc.2.2.2.2 K P V W B.clockName B.masterName B.meetName B.meetDue = some (1, nI (b.T + 1), kc'.1, kc'.2.1, kc'.2.2.1, kc'.2.2.2.1, 0, fp, kc'.2.2.2.2, vp_updL B.meetName b.T w, upd B.meetDue b.T (nI v)) ∧ f_X12_readMeet N (nI L) rc.1 (nI lim) rc.2.1 rc.2.2.1 rc.2.2.2.1 rc.2.2.2.2.1 0 fa rc.2.2.2.2.2 got hh tp res nm = some (1, rc'.1, rc'.2.1, rc'.2.2.1, rc'.2.2.2.1, rc'.2.2.2.2.1, 0, fa, rc'.2.2.2.2.2, got', h', vp_updL nm (30 + b.T) w) ∧ CQ tp L lim sz c' kc' ∧ RC tp L lim c' rc' ∧ ps9 tp L lim c + 1 ≤ ps9 tp L lim c' ∧ HB b' (CB.mk B.clocks B.masters (nI (b.T + 1)) B.patience B.clockName B.clockCorner B.clockAhead B.clockGain B.masterName B.masterCorner B.masterLate B.masterClock B.masterMeets (vp_updL B.meetName b.T w) (upd B.meetDue b.T (nI v))) h' (vp_updL nm (30 + b.T) w)) ∨ (∃ z w, f_X2_readMeet N (nI b.C) (nI b.M) (nI b.T) kc.1 kc.2.1 kc.2.2.1 kc.2.2.2.1 0 fp (nI sz) kc.2.2.2.2 K P V W B.clockName B.masterName B.meetName B.meetDue = some z ∧ f_X12_readMeet N (nI L) rc.1 (nI lim) rc.2.1 rc.2.2.1 rc.2.2.2.1 rc.2.2.2.2.1 0 fa rc.2.2.2.2.2 got hh tp res nm = some w ∧ z.1 = 0 ∧ w.1 = 0 ∧ ¬ z.2.2.2.2.2.2.1 = 0 ∧ z.2.2.2.2.2.2.1 = w.2.2.2.2.2.2.1 ∧ z.2.2.2.2.2.2.2.1 = w.2.2.2.2.2.2.2.1 ∧ ∀ i, i < 18 → w.2.2.2.2.2.2.2.2.2.2.2 i = nm i) := by
  have H0 := H
  obtain ⟨nC, nM, nT⟩ := H.nms
  obtain ⟨⟨⟨a1, a2, a3, a4, a5, a6, a7, a8, a9, -⟩, h1, h2, h3⟩, z1, z2⟩ := H
  unfold f_X2_readMeet f_X12_readMeet
  rw [zbn_s, a9]
  by_cases c6 : b.T = 6
  · right
    rw [c6, if_neg (show ¬ nI 6 < 6 by decide), if_pos (show nI 6 = 6 from rfl), ref0]
    exact ⟨_, _, rfl, rfl, rfl, rfl, (show ¬ (4 : Int32) = 0 by decide), rfl, pl_at h hr, fun i _ => rfl⟩
  · obtain ⟨kd, d1, d2⟩ := adv_ok hE h N
    obtain ⟨r1, e1, e2⟩ := nex_ok hE hr N hN
    rw [if_pos (show nI b.T < 6 from nI_lt (b := 6) (by omega) (by omega)), if_neg (show ¬ nI b.T = 6 from nk9 (b := 6) (by omega) (by omega) c6), d1, zcl_s, e1, zcl_s, show (30 : Int32) + nI b.T = nI (30 + b.T) by rw [show (30 : Int32) = nI 30 from rfl, nI_add], show (40 : Int32) + nI b.T = nI (40 + b.T) by rw [show (40 : Int32) = nI 40 from rfl, nI_add]]
    rcases tnn_meet hE d2 e2 hv N b.T b.C b.M b.T B.clockName B.masterName B.meetName nm hh hN (by omega) a1 a2 a3 a5 a7 a9 nC nM nT fp fa with ⟨k2, r2, t1, t2, t3, t4, t5⟩ | ⟨q, t0, t1, t2⟩
    · rw [t1, zcl_s, t2, zcl_s]
      dsimp only
      rw [if_neg one0, if_neg one0]
      have tn := tnu_ok hE t3 t4 N 0 999 hN (by omega) (by omega) fp fa got
      rw [show nI 0 = (0 : Int32) from rfl, show nI 999 = (999 : Int32) from rfl] at tn
      unfold f_X12_puts
      rcases tn with ⟨v, k3, r3, v1, v2, u1, u2, u3, u4, u5⟩ | ⟨q, u0, u1, u2⟩
      · left
        rw [u1, zcl_s, u2, zcl_s]
        dsimp only
        have g5 : upd hh (40 + b.T) (nI v) 2 = nI b.T := by rw [pk_un (by omega)]; exact a9
        rw [if_neg one0, zin_nI (show b.T < 6 by omega) (by omega), zck_t, zbn_s, zbn_s, cl_n (show b.T < 2147483648 by omega), if_pos rfl, nI_1, zin_nI (show 40 + b.T < 52 by omega) (by omega), zck_t, zbn_s, cl_n (show 40 + b.T < 2147483648 by omega), zcl_s]
        dsimp only
        rw [if_neg one0, zbn_s, zbn_s, g5, nI_1]
        have HH := H0.met (h' := upd (upd hh (40 + b.T) (nI v)) 2 (nI (b.T + 1))) (by omega) kd.2.2.2.1 v v2 pk_us (by rw [pk_un (by omega), pk_us]) (fun i i1 i2 => by rw [pk_un i1, pk_un i2])
        have hps : ps9 tp L lim c + 1 ≤ ps9 tp L lim (c + 1 + 1 + 1) := by
          have t5' : ps9 tp L lim (c + 1) + 1 ≤ ps9 tp L lim (c + 1 + 1) := t5
          have u5' : ps9 tp L lim (c + 1 + 1) + 1 ≤ ps9 tp L lim (c + 1 + 1 + 1) := u5
          omega
        exact ⟨kd.2.2.2.1, v, k3, r3, _, nI v, _, _, rfl, rfl, u3, u4, hps, HH⟩
      · right
        rw [u1, zcl_s, u2, zcl_s]
        dsimp only
        rw [if_pos rfl, zin_nI (show b.T < 6 by omega) (by omega), zck_t, zbn_s, zbn_s, if_neg u0, zcl_s]
        dsimp only
        rw [if_pos rfl]
        exact ⟨_, _, rfl, rfl, rfl, rfl, u0, rfl, rfl, ns18 (by omega)⟩
    · right
      rw [t1, zcl_s, t2, zcl_s]
      dsimp only
      rw [if_pos rfl, if_pos rfl]
      exact ⟨_, _, rfl, rfl, rfl, rfl, t0, rfl, rfl, fun i _ => rfl⟩
theorem rdE_ok (hE : EV tp L lim sz K P V W) (h : CQ tp L lim sz c kc) (hr : RC tp L lim c rc) (hv : RV res) (H : HB b B hh nm) (N : Nat) (hN : 2010 ≤ N) (hstep : ps9 tp L lim c + 1 ≤ ps9 tp L lim (c + 1)) (fp fa got : Int32) : (∃ (m e : Nat) (kc' : KU) (rc' : RU) (c' : Nat) (got' : Int32) (h' : Nat → Int32) (b' : MB), f_X2_readComes N kc.1 kc.2.1 kc.2.2.1 kc.2.2.2.1 0 fp (nI sz) kc.2.2.2.2 K P V W (nI b.M) (nI b.T) B.masterName B.meetName B.masterMeets = some (1, kc'.1, kc'.2.1, kc'.2.2.1, kc'.2.2.2.1, 0, fp, kc'.2.2.2.2, upd B.masterMeets m (B.masterMeets m ||| ((1 : Int32) <<< (nI e &&& 31)))) ∧ f_X12_readComes N (nI L) rc.1 (nI lim) rc.2.1 rc.2.2.1 rc.2.2.2.1 rc.2.2.2.2.1 0 fa rc.2.2.2.2.2 got tp hh res nm = some (1, rc'.1, rc'.2.1, rc'.2.2.1, rc'.2.2.2.1, rc'.2.2.2.2.1, 0, fa, rc'.2.2.2.2.2, got', h') ∧ CQ tp L lim sz c' kc' ∧ RC tp L lim c' rc' ∧ ps9 tp L lim c + 1 ≤ ps9 tp L lim c' ∧ HB b' (CB.mk B.clocks B.masters B.meets B.patience B.clockName B.clockCorner B.clockAhead B.clockGain B.masterName B.masterCorner B.masterLate B.masterClock (upd B.masterMeets m (B.masterMeets m ||| ((1 : Int32) <<< (nI e &&& 31)))) B.meetName B.meetDue) h' nm) ∨ (∃ z w, f_X2_readComes N kc.1 kc.2.1 kc.2.2.1 kc.2.2.2.1 0 fp (nI sz) kc.2.2.2.2 K P V W (nI b.M) (nI b.T) B.masterName B.meetName B.masterMeets = some z ∧ f_X12_readComes N (nI L) rc.1 (nI lim) rc.2.1 rc.2.2.1 rc.2.2.2.1 rc.2.2.2.2.1 0 fa rc.2.2.2.2.2 got tp hh res nm = some w ∧ z.1 = 0 ∧ w.1 = 0 ∧ ¬ z.2.2.2.2.2.1 = 0 ∧ z.2.2.2.2.2.1 = w.2.2.2.2.2.2.1 ∧ z.2.2.2.2.2.2.1 = w.2.2.2.2.2.2.2.1) := by
  have H0 := H
  obtain ⟨nC, nM, nT⟩ := H.nms
  obtain ⟨⟨⟨a1, a2, a3, a4, a5, a6, a7, a8, a9, -⟩, h1, h2, h3⟩, z1, z2⟩ := H
  unfold f_X2_readComes f_X12_readComes
  obtain ⟨kd, d1, d2⟩ := adv_ok hE h N
  obtain ⟨r1, e1, e2⟩ := nex_ok hE hr N hN
  rw [d1, zcl_s, e1, zcl_s, a7, a9]
  have tk := tkn_ok hE d2 e2 hv N 24 b.M B.masterName nm hN a2 (by omega) nM fp fa got
  rw [show nI 24 = (24 : Int32) from rfl] at tk
  rcases tk with ⟨m, r2, m0, q1, q2, q3, q4⟩ | ⟨q, g, q0, q1, q2⟩
  · obtain ⟨k2, y1, y2⟩ := adv_ok hE d2 N
    rw [q1, zcl_s, q2, zcl_s]
    dsimp only
    rw [if_neg (show ¬ nI m = -1 from oI_sn (u := m) (by omega)), if_neg one0, y1, zcl_s]
    have fn := fnm_ok y2 q3 hv N 30 b.T B.meetName nm hN a3 (by omega) nT fp fa (nI m)
    rw [show nI 30 = (30 : Int32) from rfl] at fn
    rcases fn with ⟨e, e0, f1, f2, f3⟩ | ⟨q, g, q0, f1, f2⟩
    · rw [f1, zcl_s, f2, zcl_s]
      dsimp only
      have e46 : (46 : Int32) + nI e = nI (46 + e) := by rw [show (46 : Int32) = nI 46 from rfl, nI_add]
      have g5 := (h3 e e0).2.2.2.2.1
      have g6 := (h2 m m0).2.2.2.2.2.2.2.2.2.2.1
      have tc : f_X1_isToCome N (nI m) (nI e) B.masterMeets = some (bI (b.toC m e)) := by
        unfold f_X1_isToCome
        rw [zin_nI (show m < 6 by omega) (by omega), zck_t, cl_n (show m < 2147483648 by omega), g6, hasBit_ok N (fun e => b.toC m e) a3 e0, zcl_s, bI_bo, zck_t]
      have bt1 := bmk_bit (P := fun m => b.toC m e) (n := b.M) (by omega) m
      rw [decide_eq_true m0, Bool.true_and] at bt1
      have bo : f_X12_bitOf N (hh (46 + e)) (nI m) = some (bI (b.toC m e)) := by
        unfold f_X12_bitOf
        rw [g5]
        cases hP : b.toC m e
        · rw [if_neg (fun z => by have := (bit_one _ (by omega)).mp z; rw [bt1, hP] at this; cases this)]; rfl
        · rw [if_pos ((bit_one _ (by omega)).mpr (by rw [bt1, hP]))]; rfl
      rw [if_neg (show ¬ nI e = -1 from oI_sn (u := e) (by omega)), if_neg one0, tc, zcl_s, e46, zin_nI (show 46 + e < 52 by omega) (by omega), zck_t, cl_n (show 46 + e < 2147483648 by omega), bo, zcl_s]
      cases hP : b.toC m e
      · left
        obtain ⟨k3, x1, x2⟩ := adv_ok hE y2 N
        obtain ⟨r3, w1, w2⟩ := nex_ok hE q3 N hN
        rw [if_pos (show bI false = 0 from rfl), if_pos (show bI false = 0 from rfl), zin_nI (show m < 6 by omega) (by omega), zck_t, zbn_s, zbn_s, x1, zcl_s, zbn_s, zbn_s, w1, zcl_s, cl_n (show m < 2147483648 by omega)]
        have hps : ps9 tp L lim c + 1 ≤ ps9 tp L lim (c + 1 + 1 + 1) := by
          have q4' : ps9 tp L lim (c + 1) + 1 ≤ ps9 tp L lim (c + 1 + 1) := q4
          have f3' : ps9 tp L lim (c + 1 + 1) + 1 ≤ ps9 tp L lim (c + 1 + 1 + 1) := f3
          omega
        have HH := H0.com (h' := upd hh (46 + e) (hh (46 + e) ||| ((1 : Int32) <<< (nI m &&& 31)))) m0 e0 pk_us (fun i hi => pk_un hi)
        exact ⟨m, e, k3, r3, _, nI e, _, _, rfl, rfl, x2, w2, hps, HH⟩
      · right
        rw [if_neg (show ¬ bI true = 0 by decide), if_neg (show ¬ bI true = 0 by decide), ref0]
        exact ⟨_, _, rfl, rfl, rfl, rfl, (show ¬ (3 : Int32) = 0 by decide), rfl, pl_at y2 q3⟩
    · right
      rw [f1, zcl_s, f2, zcl_s]
      dsimp only
      rw [if_pos rfl, if_pos rfl]
      exact ⟨_, _, rfl, rfl, rfl, rfl, q0, rfl, rfl⟩
  · right
    rw [q1, zcl_s, q2, zcl_s]
    dsimp only
    rw [if_pos rfl, if_pos rfl]
    exact ⟨_, _, rfl, rfl, rfl, rfl, q0, rfl, rfl⟩
end LNS
