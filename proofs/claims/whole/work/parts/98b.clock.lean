/-! ===== a line of a burgh: a clock ===== -/
section CLK
variable {tp : Nat → Int32} {L lim sz c : Nat} {K P V : Nat → Int32} {W : Nat → Int64} {kc : KU} {rc : RU} {res : Nat → Int64}
theorem isK_1 {w : Int64} (h : isK tp L lim c w = true) : ps9 tp L lim c + 1 ≤ ps9 tp L lim (c + 1) := by
  unfold isK at h
  rw [decide_eq_true_iff] at h
  rw [ps9]
  exact (tk9_nx (ps9_le c)).2.2.1 (Or.inl h.1)
theorem isK_2 {w w' : Int64} (hw : ¬ w = w') (h : isK tp L lim c w = true) : isK tp L lim c w' = false := by
  unfold isK at h ⊢
  rw [decide_eq_true_iff] at h
  exact decide_eq_false (fun z => hw (h.2.symm.trans z.2))
theorem trn_ok (hE : EV tp L lim sz K P V W) (h : CQ tp L lim sz c kc) (hr : RC tp L lim c rc) (N mo le hi : Nat) (w1 w2 : Int64) (hN : 2010 ≤ N) (hw1 : kwL[mo]? = some w1) (hw2 : kwL[le]? = some w2) (hw : ¬ w1 = w2) (hh : hi < 1000) (hi1 : 1 ≤ hi) (fp fa got : Int32) : (isK tp L lim c w1 = false ∧ isK tp L lim c w2 = false ∧ f_X2_readTurn N (nI mo) (nI le) (nI hi) kc.1 kc.2.1 kc.2.2.1 kc.2.2.2.1 0 fp (nI sz) kc.2.2.2.2 K P V W = some (0, kc.1, kc.2.1, kc.2.2.1, kc.2.2.2.1, 0, fp, kc.2.2.2.2)) ∨ (∃ sg : Bool, isK tp L lim c w1 = sg ∧ isK tp L lim c w2 = (!sg) ∧ ∃ r1, f_X12_next N (nI L) rc.1 (nI lim) rc.2.1 rc.2.2.1 rc.2.2.2.1 rc.2.2.2.2.1 rc.2.2.2.2.2 tp = some r1 ∧ ((∃ v kc' rc', 1 ≤ v ∧ v ≤ hi ∧ f_X2_readTurn N (nI mo) (nI le) (nI hi) kc.1 kc.2.1 kc.2.2.1 kc.2.2.2.1 0 fp (nI sz) kc.2.2.2.2 K P V W = some (iI (if sg then (v : Int) else -(v : Int)), kc'.1, kc'.2.1, kc'.2.2.1, kc'.2.2.2.1, 0, fp, kc'.2.2.2.2) ∧ f_X12_takes N 1 (nI hi) (nI L) r1.1 (nI lim) r1.2.1 r1.2.2.1 r1.2.2.2.1 r1.2.2.2.2.1 0 fa r1.2.2.2.2.2 got tp = some (1, rc'.1, rc'.2.1, rc'.2.2.1, rc'.2.2.2.1, rc'.2.2.2.2.1, 0, fa, rc'.2.2.2.2.2, nI v) ∧ CQ tp L lim sz (c + 2) kc' ∧ RC tp L lim (c + 2) rc' ∧ ps9 tp L lim c + 1 ≤ ps9 tp L lim (c + 2)) ∨ (∃ (k x : Int32) (kc' : KU), ¬ k = 0 ∧ f_X2_readTurn N (nI mo) (nI le) (nI hi) kc.1 kc.2.1 kc.2.2.1 kc.2.2.2.1 0 fp (nI sz) kc.2.2.2.2 K P V W = some (x, kc'.1, kc'.2.1, kc'.2.2.1, kc'.2.2.2.1, k, r1.2.2.1, kc'.2.2.2.2) ∧ f_X12_takes N 1 (nI hi) (nI L) r1.1 (nI lim) r1.2.1 r1.2.2.1 r1.2.2.2.1 r1.2.2.2.2.1 0 fa r1.2.2.2.2.2 got tp = some (0, r1.1, r1.2.1, r1.2.2.1, r1.2.2.2.1, r1.2.2.2.2.1, k, r1.2.2.1, r1.2.2.2.2.2, got)))) := by
  obtain ⟨k1, -⟩ := kwd_ok h hr N mo w1 hw1
  obtain ⟨k2, -⟩ := kwd_ok h hr N le w2 hw2
  obtain ⟨kd, a1, a2⟩ := adv_ok hE h N
  obtain ⟨r1, b1, b2⟩ := nex_ok hE hr N hN
  have tn := tnu_ok hE a2 b2 N 1 hi hN hh hi1 fp fa got
  rw [show nI 1 = (1 : Int32) from rfl] at tn
  unfold f_X2_readTurn f_X2_readTurn_28
  rw [k1, zcl_s, k2, zcl_s, a1, zcl_s]
  have main : ∀ sg : Bool, isK tp L lim c w1 = sg → isK tp L lim c w2 = (!sg) → ps9 tp L lim c + 1 ≤ ps9 tp L lim (c + 1) → ∃ sg : Bool, isK tp L lim c w1 = sg ∧ isK tp L lim c w2 = (!sg) ∧ ∃ r1, f_X12_next N (nI L) rc.1 (nI lim) rc.2.1 rc.2.2.1 rc.2.2.2.1 rc.2.2.2.2.1 rc.2.2.2.2.2 tp = some r1 ∧ ((∃ v kc' rc', 1 ≤ v ∧ v ≤ hi ∧ (if bI (isK tp L lim c w1) = 0 then (if bI (isK tp L lim c w2) = 0 then (some (0, kc.1, kc.2.1, kc.2.2.1, kc.2.2.2.1, 0, fp, kc.2.2.2.2)) else (zcl (f_X8_takeNumber N 1 (nI hi) kd.1 kd.2.1 kd.2.2.1 kd.2.2.2.1 0 fp (nI sz) kd.2.2.2.2 K P V W) fun z41 => if bI (isK tp L lim c w1) = 0 then (some ((-z41.1), z41.2.1, z41.2.2.1, z41.2.2.2.1, z41.2.2.2.2.1, z41.2.2.2.2.2.1, z41.2.2.2.2.2.2.1, z41.2.2.2.2.2.2.2)) else (some (z41.1, z41.2.1, z41.2.2.1, z41.2.2.2.1, z41.2.2.2.2.1, z41.2.2.2.2.2.1, z41.2.2.2.2.2.2.1, z41.2.2.2.2.2.2.2)))) else (zcl (f_X8_takeNumber N 1 (nI hi) kd.1 kd.2.1 kd.2.2.1 kd.2.2.2.1 0 fp (nI sz) kd.2.2.2.2 K P V W) fun z41 => if bI (isK tp L lim c w1) = 0 then (some ((-z41.1), z41.2.1, z41.2.2.1, z41.2.2.2.1, z41.2.2.2.2.1, z41.2.2.2.2.2.1, z41.2.2.2.2.2.2.1, z41.2.2.2.2.2.2.2)) else (some (z41.1, z41.2.1, z41.2.2.1, z41.2.2.2.1, z41.2.2.2.2.1, z41.2.2.2.2.2.1, z41.2.2.2.2.2.2.1, z41.2.2.2.2.2.2.2)))) = some (iI (if sg then (v : Int) else -(v : Int)), kc'.1, kc'.2.1, kc'.2.2.1, kc'.2.2.2.1, 0, fp, kc'.2.2.2.2) ∧ f_X12_takes N 1 (nI hi) (nI L) r1.1 (nI lim) r1.2.1 r1.2.2.1 r1.2.2.2.1 r1.2.2.2.2.1 0 fa r1.2.2.2.2.2 got tp = some (1, rc'.1, rc'.2.1, rc'.2.2.1, rc'.2.2.2.1, rc'.2.2.2.2.1, 0, fa, rc'.2.2.2.2.2, nI v) ∧ CQ tp L lim sz (c + 2) kc' ∧ RC tp L lim (c + 2) rc' ∧ ps9 tp L lim c + 1 ≤ ps9 tp L lim (c + 2)) ∨ (∃ (k x : Int32) (kc' : KU), ¬ k = 0 ∧ (if bI (isK tp L lim c w1) = 0 then (if bI (isK tp L lim c w2) = 0 then (some (0, kc.1, kc.2.1, kc.2.2.1, kc.2.2.2.1, 0, fp, kc.2.2.2.2)) else (zcl (f_X8_takeNumber N 1 (nI hi) kd.1 kd.2.1 kd.2.2.1 kd.2.2.2.1 0 fp (nI sz) kd.2.2.2.2 K P V W) fun z41 => if bI (isK tp L lim c w1) = 0 then (some ((-z41.1), z41.2.1, z41.2.2.1, z41.2.2.2.1, z41.2.2.2.2.1, z41.2.2.2.2.2.1, z41.2.2.2.2.2.2.1, z41.2.2.2.2.2.2.2)) else (some (z41.1, z41.2.1, z41.2.2.1, z41.2.2.2.1, z41.2.2.2.2.1, z41.2.2.2.2.2.1, z41.2.2.2.2.2.2.1, z41.2.2.2.2.2.2.2)))) else (zcl (f_X8_takeNumber N 1 (nI hi) kd.1 kd.2.1 kd.2.2.1 kd.2.2.2.1 0 fp (nI sz) kd.2.2.2.2 K P V W) fun z41 => if bI (isK tp L lim c w1) = 0 then (some ((-z41.1), z41.2.1, z41.2.2.1, z41.2.2.2.1, z41.2.2.2.2.1, z41.2.2.2.2.2.1, z41.2.2.2.2.2.2.1, z41.2.2.2.2.2.2.2)) else (some (z41.1, z41.2.1, z41.2.2.1, z41.2.2.2.1, z41.2.2.2.2.1, z41.2.2.2.2.2.1, z41.2.2.2.2.2.2.1, z41.2.2.2.2.2.2.2)))) = some (x, kc'.1, kc'.2.1, kc'.2.2.1, kc'.2.2.2.1, k, r1.2.2.1, kc'.2.2.2.2) ∧ f_X12_takes N 1 (nI hi) (nI L) r1.1 (nI lim) r1.2.1 r1.2.2.1 r1.2.2.2.1 r1.2.2.2.2.1 0 fa r1.2.2.2.2.2 got tp = some (0, r1.1, r1.2.1, r1.2.2.1, r1.2.2.2.1, r1.2.2.2.2.1, k, r1.2.2.1, r1.2.2.2.2.2, got))) := by
    intro sg s1 s2 s3
    refine ⟨sg, s1, s2, r1, b1, ?_⟩
    rw [s1, s2]
    rcases tn with ⟨v, kc', rc', v1, v2, t1, t2, t3, t4, t5⟩ | ⟨k, kk, t1, t2⟩
    · left
      rw [t1]
      refine ⟨v, kc', rc', v1, v2, ?_, t2, t3, t4, by rw [show c + 1 + 1 = c + 2 from rfl] at t5; omega⟩
      cases sg
      · show some (-(nI v), _) = some (iI (-(v : Int)), _)
        rw [iI_nat, iI_neg]
      · show some (nI v, _) = some (iI (v : Int), _)
        rw [iI_nat]
    · right
      rw [t1]
      cases sg
      · exact ⟨k, _, kd, kk, rfl, t2⟩
      · exact ⟨k, _, kd, kk, rfl, t2⟩
  cases s1 : isK tp L lim c w1
  · cases s2 : isK tp L lim c w2
    · left
      exact ⟨rfl, rfl, rfl⟩
    · right
      have := main false s1 s2 (isK_1 s2)
      rw [s1, s2] at this
      exact this
  · right
    have s2 := isK_2 hw s1
    have := main true s1 s2 (isK_1 s1)
    rw [s1, s2] at this
    rw [s2]
    exact this
end CLK
