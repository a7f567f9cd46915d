/-! ===== a line of a book: an act ===== -/
section BAC
variable {tp : Nat → Int32} {L lim sz c : Nat} {K P V : Nat → Int32} {W : Nat → Int64} {kc : KU} {rc : RU} {res : Nat → Int64} {b : MB} {B : CB} {s : Nat → Int32} {nm : Nat → Int64} {vb wh wt rd : Nat → Int32} {lines : Nat}
theorem bk86_ok (hE : EV tp L lim sz K P V W) (h : CQ tp L lim sz c kc) (hr : RC tp L lim c rc) (hv : RV res) (H : BR b B s nm) (N : Nat) (hN : 2010 ≤ N) (hl : lines ≤ 40) (hK : BK b lines vb wh wt rd) (j : Nat) (hj : 1 ≤ j ∧ j ≤ 4) (hval : kc.2.2.1 = nI (9 + j)) (hstep : ps9 tp L lim c + 1 ≤ ps9 tp L lim (c + 1)) (fp fa got : Int32) : (∃ (vb' wh' wt' rd' : Nat → Int32) (kc' : KU) (rc' : RU) (c' : Nat) (got' : Int32), lines < 40 ∧ f_X0_readLine_86 N (nI lines) (nI sz) B.clocks B.masters B.meets B.masterName K P V W B.meetName B.clockName (-1) kc.1 kc.2.1 kc.2.2.1 kc.2.2.2.1 0 fp kc.2.2.2.2 vb wh wt = some (1, kc'.1, kc'.2.1, kc'.2.2.1, kc'.2.2.2.1, 0, fp, kc'.2.2.2.2, vb', wh', wt') ∧ f_X12_bookLine_86 N (nI L) (nI lim) (nI lines) s res nm tp (nI (3 * lines)) (nI j) rc.1 rc.2.1 rc.2.2.1 rc.2.2.2.1 rc.2.2.2.2.1 0 fa rc.2.2.2.2.2 got rd = some (1, rc'.1, rc'.2.1, rc'.2.2.1, rc'.2.2.2.1, rc'.2.2.2.2.1, 0, fa, rc'.2.2.2.2.2, got', rd') ∧ CQ tp L lim sz c' kc' ∧ RC tp L lim c' rc' ∧ ps9 tp L lim c + 1 ≤ ps9 tp L lim c' ∧ BK b (lines + 1) vb' wh' wt' rd') ∨ (∃ z w, f_X0_readLine_86 N (nI lines) (nI sz) B.clocks B.masters B.meets B.masterName K P V W B.meetName B.clockName (-1) kc.1 kc.2.1 kc.2.2.1 kc.2.2.2.1 0 fp kc.2.2.2.2 vb wh wt = some z ∧ f_X12_bookLine_86 N (nI L) (nI lim) (nI lines) s res nm tp (nI (3 * lines)) (nI j) rc.1 rc.2.1 rc.2.2.1 rc.2.2.2.1 rc.2.2.2.2.1 0 fa rc.2.2.2.2.2 got rd = some w ∧ z.1 = 0 ∧ w.1 = 0 ∧ ¬ z.2.2.2.2.2.1 = 0 ∧ z.2.2.2.2.2.1 = w.2.2.2.2.2.2.1 ∧ z.2.2.2.2.2.2.1 = w.2.2.2.2.2.2.2.1) := by
  obtain ⟨nC, nM, nT⟩ := H.nms
  obtain ⟨⟨a1, a2, a3, a4, a5, a6, a7, a8, a9, -⟩, -⟩ := H
  have e32 : nI (3 * lines) + 2 = nI (3 * lines + 2) := by rw [show (2 : Int32) = nI 2 from rfl, nI_add]
  unfold f_X0_readLine_86 f_X12_bookLine_86
  by_cases hl4 : lines < 40
  · obtain ⟨kd, d1, d2⟩ := adv_ok hE h N
    obtain ⟨r1, e1, e2⟩ := nex_ok hE hr N hN
    rw [if_pos (show nI lines < 40 from nI_lt (b := 40) hl4 (by omega)), if_neg (show ¬ nI lines = 40 from nk9 (b := 40) (by omega) (by omega) (by omega)), d1, zcl_s, e1, zcl_s, if_pos rfl, zin_nI (show 3 * lines < 135 by omega) (by omega), zck_t, zbn_s, nI_1, zin_nI (show 3 * lines + 1 < 135 by omega) (by omega), zck_t, zbn_s, if_neg (show ¬ nI j = 0 from nk9 (b := 0) (by omega) (by omega) (by omega)), cl_n (show 3 * lines < 2147483648 by omega), cl_n (show 3 * lines + 1 < 2147483648 by omega), hval]
    unfold f_X0_readAct
    by_cases j4 : j = 4
    · subst j4
      have tn := tnu_ok hE d2 e2 N 1 999 hN (by omega) (by omega) fp fa got
      rw [show nI 1 = (1 : Int32) from rfl, show nI 999 = (999 : Int32) from rfl] at tn
      rw [if_pos (show nI (9 + 4) = 13 from rfl), if_pos (show nI 4 = 4 from rfl)]
      rcases tn with ⟨v, k3, r3, v1, v2, x1, x2, x3, x4, x5⟩ | ⟨q, x0, x1, x2⟩
      · left
        rw [x1, zcl_s, x2, zcl_s]
        dsimp only
        unfold f_X12_bookLine_227
        rw [if_neg (show ¬ nI v = -1 from oI_sn (u := v) (by omega)), bw_ok N lines hl4, zcl_s, nI_1, zin_nI (show 3 * lines + 1 < 135 by omega) (by omega), zck_t, zbn_s, if_neg one0, if_neg (show ¬ nI 4 = 3 by decide), cl_n (show 3 * lines + 1 < 2147483648 by omega)]
        dsimp only
        rw [if_neg one0]
        have x5' : ps9 tp L lim (c + 1) + 1 ≤ ps9 tp L lim (c + 1 + 1) := x5
        refine ⟨upd vb lines 13, upd wh lines 0, upd wt lines (nI v), upd (upd (upd rd (3 * lines) (nI 4)) (3 * lines + 1) got) (3 * lines + 1) (nI v), k3, r3, _, nI v, hl4, rfl, rfl, x3, x4, by omega, BK.add hK (fun i hi => ?_) ?_⟩
        · rw [pk_un (by omega), pk_un (by omega), pk_un (by omega)]
        · rw [pk_us, pk_un (show 3 * lines ≠ 3 * lines + 1 by omega), pk_un (show 3 * lines ≠ 3 * lines + 1 by omega), pk_us]
          exact Or.inr (Or.inr (Or.inr (Or.inr ⟨v, v1, v2, rfl, rfl, rfl, rfl⟩)))
      · right
        rw [x1, zcl_s, x2, zcl_s]
        dsimp only
        unfold f_X12_bookLine_227
        rw [if_pos rfl, nI_1, zin_nI (show 3 * lines + 1 < 135 by omega) (by omega), zck_t, zbn_s, if_pos rfl]
        exact ⟨_, _, rfl, rfl, rfl, rfl, x0, rfl, rfl⟩
    · by_cases j3 : j = 3
      · subst j3
        rw [if_neg (show ¬ nI (9 + 3) = 13 by decide), if_pos (show nI (9 + 3) = 12 from rfl), if_neg (show ¬ nI 3 = 4 by decide), if_pos (show nI 3 = 3 from rfl), a8, a9]
        have tk := tkn_ok hE d2 e2 hv N 12 b.T B.meetName nm hN a3 (by omega) nT fp fa got
        rw [show nI 12 = (12 : Int32) from rfl] at tk
        obtain ⟨k4, d5, d6⟩ := adv_ok hE d2 N
        rcases tk with ⟨e, r4, e0, q1, q2, q3, q4⟩ | ⟨q, g, q0, q1, q2⟩
        · rw [q1, zcl_s, q2, zcl_s]
          dsimp only
          unfold f_X12_bookLine_227
          have tn := tnu_ok hE d6 q3 N 0 999 hN (by omega) (by omega) fp fa (nI e)
          rw [show nI 0 = (0 : Int32) from rfl, show nI 999 = (999 : Int32) from rfl] at tn
          rw [if_neg (show ¬ nI e = -1 from oI_sn (u := e) (by omega)), d5, zcl_s, nI_1, zin_nI (show 3 * lines + 1 < 135 by omega) (by omega), zck_t, zbn_s, if_neg one0, if_pos (show nI 3 = 3 from rfl), cl_n (show 3 * lines + 1 < 2147483648 by omega)]
          rcases tn with ⟨v, k3, r3, v1, v2, x1, x2, x3, x4, x5⟩ | ⟨q, x0, x1, x2⟩
          · left
            rw [x1, zcl_s, x2, zcl_s]
            dsimp only
            rw [if_neg (show ¬ nI v = -1 from oI_sn (u := v) (by omega)), bw_ok N lines hl4, zcl_s, e32, zin_nI (show 3 * lines + 2 < 135 by omega) (by omega), zck_t, zbn_s, cl_n (show 3 * lines + 2 < 2147483648 by omega)]
            dsimp only
            rw [if_neg one0]
            have x5' : ps9 tp L lim (c + 1 + 1) + 1 ≤ ps9 tp L lim (c + 1 + 1 + 1) := x5
            have q4' : ps9 tp L lim (c + 1) + 1 ≤ ps9 tp L lim (c + 1 + 1) := q4
            refine ⟨upd vb lines 12, upd wh lines (nI e), upd wt lines (nI v), upd (upd (upd (upd rd (3 * lines) (nI 3)) (3 * lines + 1) got) (3 * lines + 1) (nI e)) (3 * lines + 2) (nI v), k3, r3, _, nI v, hl4, rfl, rfl, x3, x4, by omega, BK.add hK (fun i hi => ?_) ?_⟩
            · rw [pk_un (by omega), pk_un (by omega), pk_un (by omega), pk_un (by omega)]
            · rw [pk_us, pk_un (show 3 * lines + 1 ≠ 3 * lines + 2 by omega), pk_us, pk_un (show 3 * lines ≠ 3 * lines + 2 by omega), pk_un (show 3 * lines ≠ 3 * lines + 1 by omega), pk_un (show 3 * lines ≠ 3 * lines + 1 by omega), pk_us]
              exact Or.inr (Or.inr (Or.inr (Or.inl ⟨e, v, e0, v2, rfl, rfl, rfl, rfl, rfl, rfl⟩)))
          · right
            rw [x1, zcl_s, x2, zcl_s]
            dsimp only
            rw [if_pos rfl, e32, zin_nI (show 3 * lines + 2 < 135 by omega) (by omega), zck_t, zbn_s]
            exact ⟨_, _, rfl, rfl, rfl, rfl, x0, rfl, rfl⟩
        · right
          rw [q1, zcl_s, q2, zcl_s]
          dsimp only
          unfold f_X12_bookLine_227
          rw [if_pos rfl, nI_1, zin_nI (show 3 * lines + 1 < 135 by omega) (by omega), zck_t, zbn_s, if_pos rfl]
          exact ⟨_, _, rfl, rfl, rfl, rfl, q0, rfl, rfl⟩
      · rw [if_neg (show ¬ nI (9 + j) = 13 from nk9 (b := 13) (by omega) (by omega) (by omega)), if_neg (show ¬ nI (9 + j) = 12 from nk9 (b := 12) (by omega) (by omega) (by omega)), if_neg (show ¬ nI j = 4 from nk9 (b := 4) (by omega) (by omega) (by omega)), if_neg (show ¬ nI j = 3 from nk9 (b := 3) (by omega) (by omega) (by omega)), a4, a5]
        have tk := tkn_ok hE d2 e2 hv N 0 b.C B.clockName nm hN a1 (by omega) nC fp fa got
        rw [show nI 0 = (0 : Int32) from rfl] at tk
        obtain ⟨k4, d5, d6⟩ := adv_ok hE d2 N
        rcases tk with ⟨cl, r4, c0, q1, q2, q3, q4⟩ | ⟨q, g, q0, q1, q2⟩
        · left
          rw [q1, zcl_s, q2, zcl_s, d5, zcl_s]
          dsimp only
          unfold f_X12_bookLine_227
          rw [if_neg (show ¬ nI cl = -1 from oI_sn (u := cl) (by omega)), bw_ok N lines hl4, zcl_s, nI_1, zin_nI (show 3 * lines + 1 < 135 by omega) (by omega), zck_t, zbn_s, if_neg one0, if_neg (show ¬ nI j = 3 from nk9 (b := 3) (by omega) (by omega) (by omega)), cl_n (show 3 * lines + 1 < 2147483648 by omega)]
          dsimp only
          rw [if_neg one0]
          have q4' : ps9 tp L lim (c + 1) + 1 ≤ ps9 tp L lim (c + 1 + 1) := q4
          refine ⟨upd vb lines (nI (9 + j)), upd wh lines (nI cl), upd wt lines 0, upd (upd (upd rd (3 * lines) (nI j)) (3 * lines + 1) got) (3 * lines + 1) (nI cl), k4, r4, _, nI cl, hl4, rfl, rfl, d6, q3, by omega, BK.add hK (fun i hi => ?_) ?_⟩
          · rw [pk_un (by omega), pk_un (by omega), pk_un (by omega)]
          · rw [pk_us, pk_un (show 3 * lines ≠ 3 * lines + 1 by omega), pk_un (show 3 * lines ≠ 3 * lines + 1 by omega), pk_us]
            by_cases j1 : j = 1
            · subst j1
              exact Or.inr (Or.inl ⟨cl, c0, rfl, rfl, rfl, rfl⟩)
            · obtain rfl : j = 2 := by omega
              exact Or.inr (Or.inr (Or.inl ⟨cl, c0, rfl, rfl, rfl, rfl⟩))
        · right
          rw [q1, zcl_s, q2, zcl_s, d5, zcl_s]
          dsimp only
          unfold f_X12_bookLine_227
          rw [if_pos rfl, nI_1, zin_nI (show 3 * lines + 1 < 135 by omega) (by omega), zck_t, zbn_s, if_pos rfl]
          exact ⟨_, _, rfl, rfl, rfl, rfl, q0, rfl, rfl⟩
  · right
    have e4 : lines = 40 := by omega
    rw [e4, if_neg (show ¬ nI 40 < 40 by decide), if_pos (show nI 40 = 40 from rfl), ref0]
    exact ⟨_, _, rfl, rfl, rfl, rfl, (show ¬ (4 : Int32) = 0 by decide), rfl, pl_at h hr⟩
theorem bkL_ok (hE : EV tp L lim sz K P V W) (h : CQ tp L lim sz c kc) (hr : RC tp L lim c rc) (hv : RV res) (H : BR b B s nm) (N : Nat) (hN : 2010 ≤ N) (hl : lines ≤ 40) (hK : BK b lines vb wh wt rd) (fp fa got : Int32) : (∃ (vb' wh' wt' rd' : Nat → Int32) (kc' : KU) (rc' : RU) (c' : Nat) (got' : Int32), lines < 40 ∧ f_X0_readLine N (nI lines) kc.1 kc.2.1 kc.2.2.1 kc.2.2.2.1 0 fp (nI sz) kc.2.2.2.2 B.clocks B.masters B.meets B.masterName K P V W vb wh wt B.meetName B.clockName = some (1, kc'.1, kc'.2.1, kc'.2.2.1, kc'.2.2.2.1, 0, fp, kc'.2.2.2.2, vb', wh', wt') ∧ f_X12_bookLine N (nI L) rc.1 (nI lim) rc.2.1 rc.2.2.1 rc.2.2.2.1 rc.2.2.2.2.1 0 fa rc.2.2.2.2.2 got (nI lines) s res nm tp rd = some (1, rc'.1, rc'.2.1, rc'.2.2.1, rc'.2.2.2.1, rc'.2.2.2.2.1, 0, fa, rc'.2.2.2.2.2, got', rd') ∧ CQ tp L lim sz c' kc' ∧ RC tp L lim c' rc' ∧ ps9 tp L lim c + 1 ≤ ps9 tp L lim c' ∧ BK b (lines + 1) vb' wh' wt' rd') ∨ (∃ z w, f_X0_readLine N (nI lines) kc.1 kc.2.1 kc.2.2.1 kc.2.2.2.1 0 fp (nI sz) kc.2.2.2.2 B.clocks B.masters B.meets B.masterName K P V W vb wh wt B.meetName B.clockName = some z ∧ f_X12_bookLine N (nI L) rc.1 (nI lim) rc.2.1 rc.2.2.1 rc.2.2.2.1 rc.2.2.2.2.1 0 fa rc.2.2.2.2.2 got (nI lines) s res nm tp rd = some w ∧ z.1 = 0 ∧ w.1 = 0 ∧ ¬ z.2.2.2.2.2.1 = 0 ∧ z.2.2.2.2.2.1 = w.2.2.2.2.2.2.1 ∧ z.2.2.2.2.2.2.1 = w.2.2.2.2.2.2.2.1) := by
  by_cases hk : kc.1 = 2
  · exact bkN_ok hE h hr hv H N hN hl hK hk fp fa got
  · have e3 : (3 : Int32) * nI lines = nI (3 * lines) := by rw [show (3 : Int32) = nI 3 from rfl, pk_mul]
    have nob : (∀ (j : Nat) (w : Int64), kwL[j]? = some w → 10 ≤ j → j ≤ 13 → isK tp L lim c w = false) → f_X0_readLine N (nI lines) kc.1 kc.2.1 kc.2.2.1 kc.2.2.2.1 0 fp (nI sz) kc.2.2.2.2 B.clocks B.masters B.meets B.masterName K P V W vb wh wt B.meetName B.clockName = f_X0_readLine_77 N (nI lines) (nI sz) B.clocks B.masters B.meets B.masterName K P V W B.meetName B.clockName kc.1 kc.2.1 kc.2.2.1 kc.2.2.2.1 0 fp kc.2.2.2.2 vb wh wt → (∃ (vb' wh' wt' rd' : Nat → Int32) (kc' : KU) (rc' : RU) (c' : Nat) (got' : Int32), lines < 40 ∧ f_X0_readLine N (nI lines) kc.1 kc.2.1 kc.2.2.1 kc.2.2.2.1 0 fp (nI sz) kc.2.2.2.2 B.clocks B.masters B.meets B.masterName K P V W vb wh wt B.meetName B.clockName = some (1, kc'.1, kc'.2.1, kc'.2.2.1, kc'.2.2.2.1, 0, fp, kc'.2.2.2.2, vb', wh', wt') ∧ f_X12_bookLine N (nI L) rc.1 (nI lim) rc.2.1 rc.2.2.1 rc.2.2.2.1 rc.2.2.2.2.1 0 fa rc.2.2.2.2.2 got (nI lines) s res nm tp rd = some (1, rc'.1, rc'.2.1, rc'.2.2.1, rc'.2.2.2.1, rc'.2.2.2.2.1, 0, fa, rc'.2.2.2.2.2, got', rd') ∧ CQ tp L lim sz c' kc' ∧ RC tp L lim c' rc' ∧ ps9 tp L lim c + 1 ≤ ps9 tp L lim c' ∧ BK b (lines + 1) vb' wh' wt' rd') ∨ (∃ z w, f_X0_readLine N (nI lines) kc.1 kc.2.1 kc.2.2.1 kc.2.2.2.1 0 fp (nI sz) kc.2.2.2.2 B.clocks B.masters B.meets B.masterName K P V W vb wh wt B.meetName B.clockName = some z ∧ f_X12_bookLine N (nI L) rc.1 (nI lim) rc.2.1 rc.2.2.1 rc.2.2.2.1 rc.2.2.2.2.1 0 fa rc.2.2.2.2.2 got (nI lines) s res nm tp rd = some w ∧ z.1 = 0 ∧ w.1 = 0 ∧ ¬ z.2.2.2.2.2.1 = 0 ∧ z.2.2.2.2.2.1 = w.2.2.2.2.2.2.1 ∧ z.2.2.2.2.2.2.1 = w.2.2.2.2.2.2.2.1) := by
      intro hz hc
      right
      rw [hc]
      obtain ⟨nC, nM, nT⟩ := H.nms
      obtain ⟨⟨a1, a2, a3, a4, a5, a6, a7, a8, a9, -⟩, -⟩ := H
      unfold f_X0_readLine_77 f_X12_bookLine
      rw [ref0, zcl_s, zbn_s, e3, (kwd_ok h hr N 10 1937010544 rfl).2, hz 10 1937010544 rfl (by omega) (by omega), zcl_s, if_pos (show bI false = 0 from rfl), (kwd_ok h hr N 11 495873782388 rfl).2, hz 11 495873782388 rfl (by omega) (by omega), zcl_s, if_pos (show bI false = 0 from rfl), (kwd_ok h hr N 12 1836021349 rfl).2, hz 12 1836021349 rfl (by omega) (by omega), zcl_s, if_pos (show bI false = 0 from rfl), (kwd_ok h hr N 13 120299592184933 rfl).2, hz 13 120299592184933 rfl (by omega) (by omega), zcl_s, if_pos (show bI false = 0 from rfl)]
      unfold f_X12_bookLine_64 f_X12_looksAt
      rcases nam_ok h hr hv N (by omega) with ⟨n1, -⟩ | ⟨-, n2⟩
      · exact absurd n1 hk
      · rw [if_pos rfl, n2, zcl_s, if_pos rfl]
        exact ⟨_, _, rfl, rfl, rfl, rfl, one0, rfl, pl_at h hr⟩
    by_cases k3 : kc.1 = 3
    · obtain ⟨i, i1, i2, i3⟩ := yk3 h hr k3
      have cc : f_X0_readLine N (nI lines) kc.1 kc.2.1 kc.2.2.1 kc.2.2.2.1 0 fp (nI sz) kc.2.2.2.2 B.clocks B.masters B.meets B.masterName K P V W vb wh wt B.meetName B.clockName = if nI i < 10 then f_X0_readLine_77 N (nI lines) (nI sz) B.clocks B.masters B.meets B.masterName K P V W B.meetName B.clockName kc.1 kc.2.1 kc.2.2.1 kc.2.2.2.1 0 fp kc.2.2.2.2 vb wh wt else (if nI i ≤ 13 then f_X0_readLine_86 N (nI lines) (nI sz) B.clocks B.masters B.meets B.masterName K P V W B.meetName B.clockName (-1) kc.1 kc.2.1 kc.2.2.1 kc.2.2.2.1 0 fp kc.2.2.2.2 vb wh wt else f_X0_readLine_77 N (nI lines) (nI sz) B.clocks B.masters B.meets B.masterName K P V W B.meetName B.clockName kc.1 kc.2.1 kc.2.2.1 kc.2.2.2.1 0 fp kc.2.2.2.2 vb wh wt) := by
        unfold f_X0_readLine
        rw [if_neg hk, if_pos k3, i2]
      by_cases c1 : i < 10
      · rw [if_pos (show nI i < 10 from nI_lt (b := 10) c1 (by omega))] at cc
        exact nob (fun j w hj j1 j2 => by rw [i3 j w hj, decide_eq_false (by omega)]) cc
      · rw [if_neg (show ¬ nI i < 10 from nI_nlt (b := 10) (by omega) (by omega))] at cc
        by_cases c2 : i ≤ 13
        · rw [if_pos (show nI i ≤ 13 from nI_le (b := 13) c2 (by omega))] at cc
          have b10 := i3 10 1937010544 rfl
          have b11 := i3 11 495873782388 rfl
          have b12 := i3 12 1836021349 rfl
          have b13 := i3 13 120299592184933 rfl
          have st : ps9 tp L lim c + 1 ≤ ps9 tp L lim (c + 1) := by
            have : i = 10 ∨ i = 11 ∨ i = 12 ∨ i = 13 := by omega
            rcases this with e | e | e | e
            · rw [decide_eq_true e] at b10; exact isK_1 b10
            · rw [decide_eq_true e] at b11; exact isK_1 b11
            · rw [decide_eq_true e] at b12; exact isK_1 b12
            · rw [decide_eq_true e] at b13; exact isK_1 b13
          have main := bk86_ok (kc := kc) (rc := rc) hE h hr hv H N hN hl hK (i - 9) ⟨by omega, by omega⟩ (by rw [i2, show 9 + (i - 9) = i by omega]) st fp fa got
          have cr : f_X12_bookLine N (nI L) rc.1 (nI lim) rc.2.1 rc.2.2.1 rc.2.2.2.1 rc.2.2.2.2.1 0 fa rc.2.2.2.2.2 got (nI lines) s res nm tp rd = f_X12_bookLine_86 N (nI L) (nI lim) (nI lines) s res nm tp (nI (3 * lines)) (nI (i - 9)) rc.1 rc.2.1 rc.2.2.1 rc.2.2.2.1 rc.2.2.2.2.1 0 fa rc.2.2.2.2.2 got rd := by
            unfold f_X12_bookLine f_X12_bookLine_64
            rw [zbn_s, e3, (kwd_ok h hr N 10 1937010544 rfl).2, zcl_s, b10, (kwd_ok h hr N 11 495873782388 rfl).2, zcl_s, b11, (kwd_ok h hr N 12 1836021349 rfl).2, zcl_s, b12, (kwd_ok h hr N 13 120299592184933 rfl).2, zcl_s, b13]
            have : i = 10 ∨ i = 11 ∨ i = 12 ∨ i = 13 := by omega
            rcases this with e | e | e | e
            · subst e; rfl
            · subst e; rfl
            · subst e; rfl
            · subst e; rfl
          rw [← cc, ← cr] at main
          exact main
        · rw [if_neg (show ¬ nI i ≤ 13 from nI_ge (a := 13) (by omega) (by omega))] at cc
          exact nob (fun j w hj j1 j2 => by rw [i3 j w hj, decide_eq_false (by omega)]) cc
    · refine nob (fun j w hj j1 j2 => nk3 h hr k3 j w hj) ?_
      unfold f_X0_readLine
      rw [if_neg hk, if_neg k3]
end BAC
