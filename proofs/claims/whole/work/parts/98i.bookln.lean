/-! ===== a line of a book ===== -/
def LB (b : MB) (v w t r0 r1 r2 : Int32) : Prop :=
  (∃ m c : Nat, m < b.M ∧ c < b.C ∧ v = 9 ∧ w = nI m ∧ t = nI c ∧ r0 = 0 ∧ r1 = nI m ∧ r2 = nI c) ∨
  (∃ c : Nat, c < b.C ∧ v = 10 ∧ w = nI c ∧ r0 = 1 ∧ r1 = nI c) ∨
  (∃ c : Nat, c < b.C ∧ v = 11 ∧ w = nI c ∧ r0 = 2 ∧ r1 = nI c) ∨
  (∃ e u : Nat, e < b.T ∧ u ≤ 999 ∧ v = 12 ∧ w = nI e ∧ t = nI u ∧ r0 = 3 ∧ r1 = nI e ∧ r2 = nI u) ∨
  (∃ n : Nat, 1 ≤ n ∧ n ≤ 999 ∧ v = 13 ∧ t = nI n ∧ r0 = 4 ∧ r1 = nI n)
def BK (b : MB) (lines : Nat) (vb wh wt rd : Nat → Int32) : Prop := ∀ i, i < lines → LB b (vb i) (wh i) (wt i) (rd (3 * i)) (rd (3 * i + 1)) (rd (3 * i + 2))
theorem BK.add {b : MB} {lines : Nat} {vb wh wt rd rd' : Nat → Int32} {x0 x1 x2 : Int32} (h : BK b lines vb wh wt rd) (hr : ∀ i, i < 3 * lines → rd' i = rd i) (hx : LB b x0 x1 x2 (rd' (3 * lines)) (rd' (3 * lines + 1)) (rd' (3 * lines + 2))) : BK b (lines + 1) (upd vb lines x0) (upd wh lines x1) (upd wt lines x2) rd' := by
  intro i hi
  by_cases e : i = lines
  · rw [e, pk_us, pk_us, pk_us]; exact hx
  · rw [pk_un e, pk_un e, pk_un e, hr _ (by omega), hr _ (by omega), hr _ (by omega)]
    exact h i (by omega)
theorem bw_ok (N lines : Nat) (hl : lines < 40) (x0 x1 x2 : Int32) (vb wh wt : Nat → Int32) : f_X0_write N x0 x1 x2 (nI lines) vb wh wt = some (1, upd vb lines x0, upd wh lines x1, upd wt lines x2) := by
  unfold f_X0_write
  rw [zin_nI hl (by omega), zck_t, zbn_s, zbn_s, zbn_s, cl_n (show lines < 2147483648 by omega)]
section BLN
variable {tp : Nat → Int32} {L lim sz c : Nat} {K P V : Nat → Int32} {W : Nat → Int64} {kc : KU} {rc : RU} {res : Nat → Int64} {b : MB} {B : CB} {s : Nat → Int32} {nm : Nat → Int64} {vb wh wt rd : Nat → Int32} {lines : Nat}
theorem BR.nms (H : BR b B s nm) : (∀ i, i < b.C → B.clockName i = nm (0 + i)) ∧ (∀ i, i < b.M → B.masterName i = nm (6 + i)) ∧ (∀ i, i < b.T → B.meetName i = nm (12 + i)) := by
  obtain ⟨-, h1, h2, h3⟩ := H
  refine ⟨fun i hi => ?_, fun i hi => ?_, fun i hi => ?_⟩
  · rw [Nat.zero_add]; exact (h1 i hi).2.2.2.2.2.2.2.2.2.2.2.1
  · exact (h2 i hi).2.2.2.2.2.2.2.2.2.2.2
  · exact (h3 i hi).2.2.2.2.2
theorem nk3 (h : CQ tp L lim sz c kc) (hr : RC tp L lim c rc) (hk : ¬ kc.1 = 3) (j : Nat) (w : Int64) (hj : kwL[j]? = some w) : isK tp L lim c w = false := by
  obtain ⟨u, -⟩ := kwd_ok h hr 0 j w hj
  unfold f_X8_isKeyword at u
  rw [if_neg hk] at u
  cases e : isK tp L lim c w
  · rfl
  · rw [e] at u; exact absurd (Option.some.inj u) (by decide)
theorem yk3 (h : CQ tp L lim sz c kc) (hr : RC tp L lim c rc) (hk : kc.1 = 3) : ∃ i, i < 26 ∧ kc.2.2.1 = nI i ∧ ∀ (j : Nat) (w : Int64), kwL[j]? = some w → isK tp L lim c w = decide (i = j) := by
  have hi : ∃ i, i < 26 ∧ kc.2.2.1 = nI i := by
    rcases h.1.2 with ⟨q1, q2⟩ | ⟨q1, q2⟩ | ⟨q1, q2, q3⟩ | ⟨q1, q2, -⟩ | ⟨q1, q2, -⟩
    · rw [hk] at q2; exact absurd q2 (by decide)
    · rw [hk] at q2; exact absurd q2 (by decide)
    · rcases q3 with ⟨q3, q4⟩ | ⟨q3, i, q4, q5, q6⟩
      · rw [hk] at q3; exact absurd q3 (by decide)
      · exact ⟨i, q4, q6⟩
    · rw [hk] at q2; exact absurd q2 (by decide)
    · rw [hk] at q2; exact absurd q2 (by decide)
  obtain ⟨i, i1, i2⟩ := hi
  refine ⟨i, i1, i2, fun j w hj => ?_⟩
  have hj26 : j < 26 := (List.getElem?_eq_some_iff.mp hj).1
  obtain ⟨u, -⟩ := kwd_ok h hr 0 j w hj
  unfold f_X8_isKeyword at u
  rw [if_pos hk, i2] at u
  by_cases e : i = j
  · rw [if_pos (by rw [e])] at u
    rw [decide_eq_true e]
    cases z : isK tp L lim c w
    · rw [z] at u; exact absurd (Option.some.inj u) (by decide)
    · rfl
  · rw [if_neg (nk9 (by omega) (by omega) e)] at u
    rw [decide_eq_false e]
    cases z : isK tp L lim c w
    · rfl
    · rw [z] at u; exact absurd (Option.some.inj u) (by decide)
/-- a master sets a clock -/
theorem bkN_ok (hE : EV tp L lim sz K P V W) (h : CQ tp L lim sz c kc) (hr : RC tp L lim c rc) (hv : RV res) (H : BR b B s nm) (N : Nat) (hN : 2010 ≤ N) (hl : lines ≤ 40) (hK : BK b lines vb wh wt rd) (hk : kc.1 = 2) (fp fa got : Int32) : (∃ (vb' wh' wt' rd' : Nat → Int32) (kc' : KU) (rc' : RU) (c' : Nat) (got' : Int32), lines < 40 ∧ f_X0_readLine N (nI lines) kc.1 kc.2.1 kc.2.2.1 kc.2.2.2.1 0 fp (nI sz) kc.2.2.2.2 B.clocks B.masters B.meets B.masterName K P V W vb wh wt B.meetName B.clockName = some (1, kc'.1, kc'.2.1, kc'.2.2.1, kc'.2.2.2.1, 0, fp, kc'.2.2.2.2, vb', wh', wt') ∧ f_X12_bookLine N (nI L) rc.1 (nI lim) rc.2.1 rc.2.2.1 rc.2.2.2.1 rc.2.2.2.2.1 0 fa rc.2.2.2.2.2 got (nI lines) s res nm tp rd = some (1, rc'.1, rc'.2.1, rc'.2.2.1, rc'.2.2.2.1, rc'.2.2.2.2.1, 0, fa, rc'.2.2.2.2.2, got', rd') ∧ CQ tp L lim sz c' kc' ∧ RC tp L lim c' rc' ∧ ps9 tp L lim c + 1 ≤ ps9 tp L lim c' ∧ BK b (lines + 1) vb' wh' wt' rd') ∨ (∃ z w, f_X0_readLine N (nI lines) kc.1 kc.2.1 kc.2.2.1 kc.2.2.2.1 0 fp (nI sz) kc.2.2.2.2 B.clocks B.masters B.meets B.masterName K P V W vb wh wt B.meetName B.clockName = some z ∧ f_X12_bookLine N (nI L) rc.1 (nI lim) rc.2.1 rc.2.2.1 rc.2.2.2.1 rc.2.2.2.2.1 0 fa rc.2.2.2.2.2 got (nI lines) s res nm tp rd = some w ∧ z.1 = 0 ∧ w.1 = 0 ∧ ¬ z.2.2.2.2.2.1 = 0 ∧ z.2.2.2.2.2.1 = w.2.2.2.2.2.2.1 ∧ z.2.2.2.2.2.2.1 = w.2.2.2.2.2.2.2.1) := by
  obtain ⟨nC, nM, nT⟩ := H.nms
  obtain ⟨⟨a1, a2, a3, a4, a5, a6, a7, a8, a9, -⟩, -⟩ := H
  have k3 : ¬ kc.1 = 3 := by rw [hk]; decide
  have e3 : (3 : Int32) * nI lines = nI (3 * lines) := by rw [show (3 : Int32) = nI 3 from rfl, pk_mul]
  have e32 : nI (3 * lines) + 2 = nI (3 * lines + 2) := by rw [show (2 : Int32) = nI 2 from rfl, nI_add]
  unfold f_X0_readLine f_X12_bookLine
  rw [if_pos hk, a6, zbn_s, e3, (kwd_ok h hr N 10 1937010544 rfl).2, nk3 h hr k3 10 1937010544 rfl, zcl_s, if_pos (show bI false = 0 from rfl), (kwd_ok h hr N 11 495873782388 rfl).2, nk3 h hr k3 11 495873782388 rfl, zcl_s, if_pos (show bI false = 0 from rfl), (kwd_ok h hr N 12 1836021349 rfl).2, nk3 h hr k3 12 1836021349 rfl, zcl_s, if_pos (show bI false = 0 from rfl), (kwd_ok h hr N 13 120299592184933 rfl).2, nk3 h hr k3 13 120299592184933 rfl, zcl_s, if_pos (show bI false = 0 from rfl)]
  unfold f_X12_bookLine_64
  rw [if_pos rfl, a7]
  have fn := fnm_ok h hr hv N 6 b.M B.masterName nm hN a2 (by omega) nM fp fa got
  rw [show nI 6 = (6 : Int32) from rfl] at fn
  rcases fn with ⟨m, m0, f1, f2, f3⟩ | ⟨q, g, q0, f1, f2⟩
  · rw [f1, zcl_s, f2, zcl_s]
    dsimp only
    rw [if_neg (show ¬ nI m = -1 from oI_sn (u := m) (by omega)), if_neg one0]
    unfold f_X0_readLine_86 f_X12_bookLine_86
    by_cases hl4 : lines < 40
    · obtain ⟨kd, d1, d2⟩ := adv_ok hE h N
      obtain ⟨r1, e1, e2⟩ := nex_ok hE hr N hN
      rw [if_pos (show nI lines < 40 from nI_lt (b := 40) hl4 (by omega)), if_neg (show ¬ nI lines = 40 from nk9 (b := 40) (by omega) (by omega) (by omega)), d1, zcl_s, e1, zcl_s, if_neg (show ¬ nI m = -1 from oI_sn (u := m) (by omega)), zin_nI (show 3 * lines < 135 by omega) (by omega), zck_t, zbn_s, nI_1, zin_nI (show 3 * lines + 1 < 135 by omega) (by omega), zck_t, zbn_s, if_pos rfl, cl_n (show 3 * lines < 2147483648 by omega), cl_n (show 3 * lines + 1 < 2147483648 by omega)]
      unfold f_X0_readSets
      have u9 := kwd_ok d2 e2 N 9 1936028787 rfl
      rw [show nI 9 = (9 : Int32) from rfl] at u9
      rw [u9.1, zcl_s, u9.2, zcl_s]
      cases s9 : isK tp L lim (c + 1) 1936028787
      · right
        rw [if_pos (show bI false = 0 from rfl), if_pos (show bI false = 0 from rfl), ref0]
        exact ⟨_, _, rfl, rfl, rfl, rfl, one0, rfl, pl_at d2 e2⟩
      · obtain ⟨k2, d3, d4⟩ := adv_ok hE d2 N
        obtain ⟨r2, e4, e5⟩ := nex_ok hE e2 N hN
        rw [if_neg (show ¬ bI true = 0 by decide), if_neg (show ¬ bI true = 0 by decide), d3, zcl_s, e4, zcl_s, a4, a5]
        have tk := tkn_ok hE d4 e5 hv N 0 b.C B.clockName nm hN a1 (by omega) nC fp fa (nI m)
        rw [show nI 0 = (0 : Int32) from rfl] at tk
        obtain ⟨k4, d5, d6⟩ := adv_ok hE d4 N
        rcases tk with ⟨cl, r4, c0, q1, q2, q3, q4⟩ | ⟨q, g, q0, q1, q2⟩
        · left
          rw [q1, zcl_s, q2, zcl_s, d5, zcl_s]
          dsimp only
          rw [if_neg (show ¬ nI cl = -1 from oI_sn (u := cl) (by omega)), if_neg one0, bw_ok N lines hl4, zcl_s, e32, zin_nI (show 3 * lines + 2 < 135 by omega) (by omega), zck_t, zbn_s, cl_n (show 3 * lines + 2 < 2147483648 by omega)]
          have hps : ps9 tp L lim c + 1 ≤ ps9 tp L lim (c + 1 + 1 + 1) := by
            have := isK_1 s9
            have q4' : ps9 tp L lim (c + 1 + 1) + 1 ≤ ps9 tp L lim (c + 1 + 1 + 1) := q4
            omega
          refine ⟨upd vb lines 9, upd wh lines (nI m), upd wt lines (nI cl), upd (upd (upd rd (3 * lines) 0) (3 * lines + 1) (nI m)) (3 * lines + 2) (nI cl), k4, r4, _, nI cl, hl4, rfl, rfl, d6, q3, hps, BK.add hK (fun i hi => ?_) ?_⟩
          · rw [pk_un (by omega), pk_un (by omega), pk_un (by omega)]
          · have g1 : upd (upd (upd rd (3 * lines) 0) (3 * lines + 1) (nI m)) (3 * lines + 2) (nI cl) (3 * lines) = 0 := by rw [pk_un (by omega), pk_un (by omega), pk_us]
            have g2 : upd (upd (upd rd (3 * lines) 0) (3 * lines + 1) (nI m)) (3 * lines + 2) (nI cl) (3 * lines + 1) = nI m := by rw [pk_un (by omega), pk_us]
            have g3 : upd (upd (upd rd (3 * lines) 0) (3 * lines + 1) (nI m)) (3 * lines + 2) (nI cl) (3 * lines + 2) = nI cl := pk_us
            rw [g1, g2, g3]
            exact Or.inl ⟨m, cl, m0, c0, rfl, rfl, rfl, rfl, rfl, rfl⟩
        · right
          rw [q1, zcl_s, q2, zcl_s, d5, zcl_s]
          dsimp only
          rw [if_pos rfl, if_pos rfl]
          exact ⟨_, _, rfl, rfl, rfl, rfl, q0, rfl, rfl⟩
    · right
      have e4 : lines = 40 := by omega
      rw [e4, if_neg (show ¬ nI 40 < 40 by decide), if_pos (show nI 40 = 40 from rfl), ref0]
      exact ⟨_, _, rfl, rfl, rfl, rfl, (show ¬ (4 : Int32) = 0 by decide), rfl, pl_at h hr⟩
  · right
    rw [f1, zcl_s, f2, zcl_s]
    dsimp only
    rw [if_pos rfl, if_pos rfl]
    exact ⟨_, _, rfl, rfl, rfl, rfl, q0, rfl, rfl⟩
end BLN
