/-! ===== a line of a burgh, whichever it is ===== -/
theorem zb0 : zbo 0 = true := rfl
theorem zb1 : zbo 1 = true := rfl
section LIN
variable {tp : Nat → Int32} {L lim sz c : Nat} {K P V : Nat → Int32} {W : Nat → Int64} {kc : KU} {rc : RU} {res : Nat → Int64} {b : MB} {B : CB} {hh : Nat → Int32} {nm : Nat → Int64}
theorem rdL_ok (hE : EV tp L lim sz K P V W) (h : CQ tp L lim sz c kc) (hr : RC tp L lim c rc) (hv : RV res) (H : HB b B hh nm) (N : Nat) (hN : 2010 ≤ N) (wt fp fa got : Int32) : (∃ (wt' : Int32) (b' : MB) (B' : CB) (kc' : KU) (rc' : RU) (c' : Nat) (got' : Int32) (h' : Nat → Int32) (nm' : Nat → Int64), f_X2_readLine N wt kc.1 kc.2.1 kc.2.2.1 kc.2.2.2.1 0 fp (nI sz) kc.2.2.2.2 B.clocks B.masters B.meets B.patience K P V W B.clockName B.masterName B.meetName B.clockCorner B.clockAhead B.clockGain B.masterCorner B.masterLate B.masterMeets B.masterClock B.meetDue = some (1, wt', kc'.1, kc'.2.1, kc'.2.2.1, kc'.2.2.2.1, 0, fp, kc'.2.2.2.2, B'.clocks, B'.masters, B'.meets, B'.patience, B'.clockName, B'.masterName, B'.meetName, B'.clockCorner, B'.clockAhead, B'.clockGain, B'.masterCorner, B'.masterLate, B'.masterMeets, B'.masterClock, B'.meetDue) ∧ f_X12_readLine N (nI L) rc.1 (nI lim) rc.2.1 rc.2.2.1 rc.2.2.2.1 rc.2.2.2.2.1 0 fa rc.2.2.2.2.2 got wt hh tp res nm = some (1, rc'.1, rc'.2.1, rc'.2.2.1, rc'.2.2.2.1, rc'.2.2.2.2.1, 0, fa, rc'.2.2.2.2.2, got', wt', h', nm') ∧ CQ tp L lim sz c' kc' ∧ RC tp L lim c' rc' ∧ ps9 tp L lim c + 1 ≤ ps9 tp L lim c' ∧ HB b' B' h' nm' ∧ ∀ i, i < 18 → nm' i = nm i) ∨ (∃ z w, f_X2_readLine N wt kc.1 kc.2.1 kc.2.2.1 kc.2.2.2.1 0 fp (nI sz) kc.2.2.2.2 B.clocks B.masters B.meets B.patience K P V W B.clockName B.masterName B.meetName B.clockCorner B.clockAhead B.clockGain B.masterCorner B.masterLate B.masterMeets B.masterClock B.meetDue = some z ∧ f_X12_readLine N (nI L) rc.1 (nI lim) rc.2.1 rc.2.2.1 rc.2.2.2.1 rc.2.2.2.2.1 0 fa rc.2.2.2.2.2 got wt hh tp res nm = some w ∧ z.1 = 0 ∧ w.1 = 0 ∧ ¬ z.2.2.2.2.2.2.1 = 0 ∧ z.2.2.2.2.2.2.1 = w.2.2.2.2.2.2.1 ∧ z.2.2.2.2.2.2.2.1 = w.2.2.2.2.2.2.2.1 ∧ ∀ i, i < 18 → w.2.2.2.2.2.2.2.2.2.2.2.2 i = nm i) := by
  have H0 := H
  obtain ⟨⟨⟨a1, a2, a3, a4, a5, a6, a7, a8, a9, -⟩, -⟩, -⟩ := H
  obtain ⟨u0, v0⟩ := kwd_ok h hr N 0 427021001579 rfl
  obtain ⟨u1, v1⟩ := kwd_ok h hr N 1 120265316263282 rfl
  obtain ⟨u2, v2⟩ := kwd_ok h hr N 2 1835361652 rfl
  obtain ⟨u3, v3⟩ := kwd_ok h hr N 3 427071202675 rfl
  obtain ⟨u4, v4⟩ := kwd_ok h hr N 4 2002872692 rfl
  rw [show nI 0 = (0 : Int32) from rfl] at u0
  rw [show nI 1 = (1 : Int32) from rfl] at u1
  rw [show nI 2 = (2 : Int32) from rfl] at u2
  rw [show nI 3 = (3 : Int32) from rfl] at u3
  rw [show nI 4 = (4 : Int32) from rfl] at u4
  unfold f_X2_readLine f_X12_readLine
  rw [u0, zcl_s, v0, zcl_s, a4, a6, a8]
  cases s0 : isK tp L lim c 427021001579
  · rw [if_pos (show bI false = 0 from rfl), if_pos (show bI false = 0 from rfl), u1, zcl_s, v1, zcl_s]
    cases s1 : isK tp L lim c 120265316263282
    · rw [if_pos (show bI false = 0 from rfl), if_pos (show bI false = 0 from rfl), u2, zcl_s, v2, zcl_s]
      cases s2 : isK tp L lim c 1835361652
      · rw [if_pos (show bI false = 0 from rfl), if_pos (show bI false = 0 from rfl), u3, zcl_s, v3, zcl_s]
        cases s3 : isK tp L lim c 427071202675
        · rw [if_pos (show bI false = 0 from rfl), if_pos (show bI false = 0 from rfl), v4, zcl_s]
          unfold f_X2_readWait
          rw [u4, zcl_s]
          cases s4 : isK tp L lim c 2002872692
          · right
            rw [if_pos (show bI false = 0 from rfl), if_pos (show bI false = 0 from rfl), ref0]
            exact ⟨_, _, rfl, rfl, rfl, rfl, (show ¬ (1 : Int32) = 0 by decide), rfl, pl_at h hr, fun i _ => rfl⟩
          · rw [if_neg (show ¬ bI true = 0 by decide), if_neg (show ¬ bI true = 0 by decide)]
            by_cases w0 : wt = 0
            · obtain ⟨kd, d1, d2⟩ := adv_ok hE h N
              obtain ⟨r1, e1, e2⟩ := nex_ok hE hr N hN
              have tn := tnu_ok hE d2 e2 N 0 99 hN (by omega) (by omega) fp fa got
              rw [show nI 0 = (0 : Int32) from rfl, show nI 99 = (99 : Int32) from rfl] at tn
              rw [if_pos w0, if_pos w0, d1, zcl_s, e1, zcl_s]
              unfold f_X12_puts
              rcases tn with ⟨v, k3, r3, n1, n2, x1, x2, x3, x4, x5⟩ | ⟨q, x0, x1, x2⟩
              · left
                rw [x1, zcl_s, x2, zcl_s]
                have HH := H0.wai v n2
                rw [a4, a6, a8] at HH
                have st := isK_1 s4
                have x5' : ps9 tp L lim (c + 1) + 1 ≤ ps9 tp L lim (c + 1 + 1) := x5
                exact ⟨1, _, _, k3, r3, _, nI v, _, nm, rfl, rfl, x3, x4, by omega, HH, fun i _ => rfl⟩
              · right
                rw [x1, zcl_s, x2, zcl_s]
                dsimp only
                rw [if_neg x0, if_pos rfl]
                exact ⟨_, _, rfl, rfl, rfl, rfl, x0, rfl, rfl, fun i _ => rfl⟩
            · right
              rw [if_neg w0, if_neg w0, ref0]
              exact ⟨_, _, rfl, rfl, rfl, rfl, (show ¬ (3 : Int32) = 0 by decide), rfl, pl_at h hr, fun i _ => rfl⟩
        · rw [if_neg (show ¬ bI true = 0 by decide), if_neg (show ¬ bI true = 0 by decide)]
          rcases rdE_ok hE h hr hv H0 N hN (isK_1 s3) fp fa got with ⟨m, e, k3, r3, c3, g3, h3, b3, x1, x2, x3, x4, x5, x6⟩ | ⟨z, w, x1, x2, x3, x4, x5, x6, x7⟩
          · left
            rw [x1, zcl_s, x2, zcl_s]
            rw [a4, a6, a8] at x6
            exact ⟨wt, _, _, k3, r3, c3, g3, h3, nm, rfl, rfl, x3, x4, x5, x6, fun i _ => rfl⟩
          · right
            rw [x1, zcl_s, x2, zcl_s, x3, zb0, zck_t, x4, zb0, zck_t]
            exact ⟨_, _, rfl, rfl, rfl, rfl, x5, x6, x7, fun i _ => rfl⟩
      · rw [if_neg (show ¬ bI true = 0 by decide), if_neg (show ¬ bI true = 0 by decide)]
        rcases rdT_ok hE h hr hv H0 N hN (isK_1 s2) fp fa got with ⟨w, v, k3, r3, c3, g3, h3, b3, x1, x2, x3, x4, x5, x6⟩ | ⟨z, w, x1, x2, x3, x4, x5, x6, x7, x8⟩
        · left
          rw [x1, zcl_s, x2, zcl_s]
          rw [a4, a6] at x6
          exact ⟨wt, _, _, k3, r3, c3, g3, h3, _, rfl, rfl, x3, x4, x5, x6, ns18 (by omega)⟩
        · right
          rw [x1, zcl_s, x2, zcl_s, x3, zb0, zck_t, x4, zb0, zck_t]
          exact ⟨_, _, rfl, rfl, rfl, rfl, x5, x6, x7, x8⟩
    · rw [if_neg (show ¬ bI true = 0 by decide), if_neg (show ¬ bI true = 0 by decide)]
      rcases rdM_ok hE h hr hv H0 N hN (isK_1 s1) fp fa got with ⟨w, v, l, cl, k3, r3, c3, g3, h3, b3, x1, x2, x3, x4, x5, x6⟩ | ⟨z, w, x1, x2, x3, x4, x5, x6, x7, x8⟩
      · left
        rw [x1, zcl_s, x2, zcl_s]
        rw [a4, a8] at x6
        exact ⟨wt, _, _, k3, r3, c3, g3, h3, _, rfl, rfl, x3, x4, x5, x6, ns18 (by omega)⟩
      · right
        rw [x1, zcl_s, x2, zcl_s, x3, zb0, zck_t, x4, zb0, zck_t]
        exact ⟨_, _, rfl, rfl, rfl, rfl, x5, x6, x7, x8⟩
  · rw [if_neg (show ¬ bI true = 0 by decide), if_neg (show ¬ bI true = 0 by decide)]
    rcases rdC_ok hE h hr hv H0 N hN (isK_1 s0) fp fa got with ⟨w, v, a, g, k3, r3, c3, g3, h3, x1, x2, x3, x4, x5, x6⟩ | ⟨z, w, x1, x2, x3, x4, x5, x6, x7, x8⟩
    · left
      rw [x1, zcl_s, x2, zcl_s]
      rw [a6, a8] at x6
      exact ⟨wt, _, _, k3, r3, c3, g3, h3, _, rfl, rfl, x3, x4, x5, x6, ns18 (by omega)⟩
    · right
      rw [x1, zcl_s, x2, zcl_s, x3, zb0, zck_t, x4, zb0, zck_t]
      exact ⟨_, _, rfl, rfl, rfl, rfl, x5, x6, x7, x8⟩
end LIN
