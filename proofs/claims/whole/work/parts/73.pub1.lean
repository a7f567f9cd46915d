/-! ===== public methods that only ask ===== -/
/-- is it one of n: both sides -/
theorem zin_cases (x : Int32) {n : Nat} (hn : n < 100000) : (zin x n = true ∧ ∃ j, j < n ∧ x = nI j) ∨ zin x n = false := by
  cases h : zin x n
  · exact Or.inr rfl
  · exact Or.inl ⟨rfl, zin_ex h hn⟩
theorem b01 (b : Bool) : (if b = true then (1 : Int32) else 0) = bI b := by cases b <;> rfl
theorem X11_isClock_ok (N : Nat) (x : Int32) {n : Nat} (hn : n < 100000) : f_X11_isClock N x (nI n) = some (bI (zin x n)) := by rw [← b01]; exact isin_ok x hn
theorem X11_isMaster_ok (N : Nat) (x : Int32) {n : Nat} (hn : n < 100000) : f_X11_isMaster N x (nI n) = some (bI (zin x n)) := by rw [← b01]; exact isin_ok x hn
theorem X11_isMeet_ok (N : Nat) (x : Int32) {n : Nat} (hn : n < 100000) : f_X11_isMeet N x (nI n) = some (bI (zin x n)) := by rw [← b01]; exact isin_ok x hn
theorem X12_isC (N : Nat) (x : Int32) {n : Nat} (hn : n < 100000) : (zcl (f_X12_isIn N x 0 (nI n - 1)) fun z10 => zck (zbo z10) <| some z10 : Option Int32) = some (bI (zin x n)) := by
  rw [X12_isIn_ok N x hn, b01, zcl_s, bI_bo, zck_t]
theorem X12_isClock_ok (N : Nat) (x : Int32) {n : Nat} {s : Nat → Int32} (hs : s 0 = nI n) (hn : n < 100000) : f_X12_isClock N x s = some (bI (zin x n)) := by unfold f_X12_isClock; rw [hs]; exact X12_isC N x hn
theorem X12_isMaster_ok (N : Nat) (x : Int32) {n : Nat} {s : Nat → Int32} (hs : s 1 = nI n) (hn : n < 100000) : f_X12_isMaster N x s = some (bI (zin x n)) := by unfold f_X12_isMaster; rw [hs]; exact X12_isC N x hn
theorem X12_isMeet_ok (N : Nat) (x : Int32) {n : Nat} {s : Nat → Int32} (hs : s 2 = nI n) (hn : n < 100000) : f_X12_isMeet N x s = some (bI (zin x n)) := by unfold f_X12_isMeet; rw [hs]; exact X12_isC N x hn
/-- between two numbers -/
theorem X12_isIn_lit (N : Nat) (x : Int32) {a c : Nat} (ha : a < 100000) (hc : c < 100000) : f_X12_isIn N x (nI a) (nI c) = some (bI (decide ((a : Int) ≤ x.toInt ∧ x.toInt ≤ c))) := by
  unfold f_X12_isIn
  have h1 : x < nI a ↔ x.toInt < a := by rw [Int32.lt_iff_toInt_lt, nI_toInt (by omega)]
  have h2 : nI c < x ↔ (c : Int) < x.toInt := by rw [Int32.lt_iff_toInt_lt, nI_toInt (by omega)]
  by_cases h3 : x.toInt < a
  · rw [if_pos (h1.mpr h3), decide_eq_false (by omega)]; rfl
  · rw [if_neg (fun z => h3 (h1.mp z))]
    by_cases h4 : (c : Int) < x.toInt
    · rw [if_pos (h2.mpr h4), decide_eq_false (by omega)]; rfl
    · rw [if_neg (fun z => h4 (h2.mp z)), decide_eq_true (by omega)]; rfl
/-- one of the first numbers, or none of them -/
theorem small (x : Int32) (n : Nat) (hn : n < 100000) : (∃ j, j < n ∧ x = nI j) ∨ (zin x n = false ∧ ∀ j, j < n → ¬ x = nI j) := by
  rcases zin_cases x hn with ⟨-, h⟩ | h
  · exact Or.inl h
  · refine Or.inr ⟨h, fun j hj z => ?_⟩
    rw [z, zin_nI hj (by omega)] at h
    cases h
section PUB1
variable {b : MB} {d : MD} {B : CB} {D : CY} {s : Nat → Int32} {nm : Nat → Int64}
theorem clock_ok (hB : BR b B s nm) (h : DY b d B D s) (N : Nat) (hN : 10 ≤ N) (x0 x1 th : Int32) : ∃ v, f_X11_clock N x0 x1 B.clocks B.masters B.clockCorner B.masterClock D.minute D.stopped D.stood D.ahead B.clockGain D.since = some v ∧ f_X12_clock N x0 x1 th s = some (v, 0) := by
  have c6 := h.C6
  have m6 := h.M6
  have t2 := h.t2
  unfold f_X11_clock f_X12_clock
  rw [h.nC, h.nM, X11_isClock_ok N x0 (n := b.C) (by omega), X12_isClock_ok N x0 h.sC (by omega), zcl_s, zcl_s]
  rcases zin_cases x0 (n := b.C) (by omega) with ⟨hz, c, hc, rfl⟩ | hz
  · obtain ⟨g1, g2, -, -, -, -, -, g3, g4, -⟩ := hB.2.1 c hc
    rw [hz, if_neg (show ¬ bI true = 0 by decide), if_neg (show ¬ bI true = 0 by decide), h.rClk N c hN hc, f_X12_clock_20]
    have hk := X1_mastersBy_ok (M := b.M) (clk := b.clk) N c B.masterClock hN m6 (by omega) (fun m hm => ⟨(h.cm.2 m hm).1, by have := (h.cm.2 m hm).2.1; omega⟩)
    obtain ⟨s1, s2⟩ := h.sh N c d.t hc (Nat.le_refl _) (by omega)
    obtain ⟨p1, p2⟩ := h.sp N c hc
    rw [h.mi, h.sm]
    simp (disch := omega) only [zcl_s, zck_t, zbn_s, lits, m1_iI, ng_n, nI_le_T, nI_le_F, nI_lt_T, nI_lt_F, nI_eq_T, nI_eq_F, nI_1, le_1, le_1r, lt_1, lt_1r, eq_1, nI_add, pk_mul, sb_1, sb_n, cl_n, zi_n, iI_le_T, iI_le_F, iI_lt_T, iI_lt_F, iI_eq_T, iI_eq_F, mx1, mx2, mx3, mx4, mx5, mx6, mx7, mx8, mx9, mx10, iI_add, iI_sub, iI_p1, bI_n0, bI_1, bI_bo, tr_f, fa_f, tr_t, fa_t, if_true, if_false, or_n0, Nat.add_zero, Int.add_zero, h.sM, g1, g2, g3, g4, hk, s1, s2, p1, p2]
    by_cases e0 : x1 = nI 0
    · exact ⟨_, by rw [if_pos e0], by rw [if_pos e0]⟩
    rw [if_neg e0, if_neg e0]
    by_cases e1 : x1 = 1
    · exact ⟨_, by rw [if_pos e1], by rw [if_pos e1]⟩
    rw [if_neg e1, if_neg e1]
    by_cases e2 : x1 = nI 2
    · rw [if_pos e2, if_pos e2]
      cases d.stp c
      · exact ⟨_, rfl, rfl⟩
      · exact ⟨_, rfl, rfl⟩
    rw [if_neg e2, if_neg e2]
    by_cases e3 : x1 = nI 3
    · exact ⟨_, by rw [if_pos e3], by rw [if_pos e3]⟩
    rw [if_neg e3, if_neg e3]
    by_cases e4 : x1 = nI 4
    · exact ⟨_, by rw [if_pos e4], by rw [if_pos e4]⟩
    exact ⟨_, by rw [if_neg e4], by rw [if_neg e4]⟩
  · rw [hz]
    exact ⟨_, if_pos rfl, if_pos rfl⟩
theorem meet_ok (hB : BR b B s nm) (h : DY b d B D s) (N : Nat) (hN : 10 ≤ N) (x0 x1 th : Int32) : ∃ v, f_X11_meet N x0 x1 B.masters B.meets D.due D.came D.left B.masterMeets = some v ∧ f_X12_meet N x0 x1 th s = some (v, 0) := by
  have t6 := h.T6
  unfold f_X11_meet f_X12_meet
  rw [h.nT, X11_isMeet_ok N x0 (n := b.T) (by omega), X12_isMeet_ok N x0 h.sT (by omega), zcl_s, zcl_s]
  rcases zin_cases x0 (n := b.T) (by omega) with ⟨hz, e, he, rfl⟩ | hz
  · obtain ⟨-, -, -, -, g5, -⟩ := hB.2.2.2 e he
    obtain ⟨u1, u2, -, -⟩ := h.du9 he
    obtain ⟨i1, i2, i3, i4⟩ := h.sIn N e hN he
    rw [hz]
    simp (disch := omega) only [zcl_s, zck_t, zbn_s, lits, m1_iI, ng_n, nI_le_T, nI_le_F, nI_lt_T, nI_lt_F, nI_eq_T, nI_eq_F, nI_1, le_1, le_1r, lt_1, lt_1r, eq_1, nI_add, pk_mul, sb_1, sb_n, cl_n, zi_n, iI_le_T, iI_le_F, iI_lt_T, iI_lt_F, iI_eq_T, iI_eq_F, mx1, mx2, mx3, mx4, mx5, mx6, mx7, mx8, mx9, mx10, iI_add, iI_sub, iI_p1, bI_n0, bI_1, bI_bo, tr_f, fa_f, tr_t, fa_t, if_true, if_false, or_n0, Nat.add_zero, Int.add_zero, g5, u1, u2, i1, i2, i3, i4, h.sTo N e hN he]
    by_cases e0 : x1 = nI 0
    · exact ⟨_, by rw [if_pos e0], by rw [if_pos e0]⟩
    rw [if_neg e0, if_neg e0]
    by_cases e1 : x1 = 1
    · exact ⟨_, by rw [if_pos e1], by rw [if_pos e1]⟩
    rw [if_neg e1, if_neg e1]
    by_cases e2 : x1 = nI 2
    · exact ⟨_, by rw [if_pos e2], by rw [if_pos e2]⟩
    rw [if_neg e2, if_neg e2]
    by_cases e3 : x1 = nI 3
    · exact ⟨_, by rw [if_pos e3], by rw [if_pos e3]⟩
    exact ⟨_, by rw [if_neg e3], by rw [if_neg e3]⟩
  · rw [hz]
    exact ⟨_, if_pos rfl, if_pos rfl⟩
theorem now_ok (h : DY b d B D s) (N : Nat) (hN : 10 ≤ N) (x0 th : Int32) : ∃ v, f_X11_now N x0 D.minute D.out D.stopped B.clocks B.masters B.meets D.came D.due D.stood D.ahead B.clockGain D.since = some v ∧ f_X12_now N x0 th s = some (v, 0) := by
  unfold f_X11_now
  have c6 := h.C6
  rw [h.rNow N hN x0 th, f_X12_now_9, h.rgc N hN, h.cnt N hN, h.mbh N hN, h.mi, h.ou, h.st]
  simp (disch := omega) only [zcl_s, zck_t, zbn_s, lits, m1_iI, ng_n, nI_le_T, nI_le_F, nI_lt_T, nI_lt_F, nI_eq_T, nI_eq_F, nI_1, le_1, le_1r, lt_1, lt_1r, eq_1, nI_add, pk_mul, sb_1, sb_n, cl_n, zi_n, iI_le_T, iI_le_F, iI_lt_T, iI_lt_F, iI_eq_T, iI_eq_F, mx1, mx2, mx3, mx4, mx5, mx6, mx7, mx8, mx9, mx10, iI_add, iI_sub, iI_p1, bI_n0, bI_1, bI_bo, tr_f, fa_f, tr_t, fa_t, if_true, if_false, or_n0, Nat.add_zero, Int.add_zero, h.sC, h.sm]
  by_cases e0 : x0 = nI 0
  · exact ⟨_, by rw [if_pos e0], by rw [if_pos e0]⟩
  rw [if_neg e0, if_neg e0]
  by_cases e1 : x0 = 1
  · exact ⟨_, by rw [if_pos e1], by rw [if_pos e1]⟩
  rw [if_neg e1, if_neg e1]
  by_cases e2 : x0 = nI 2
  · exact ⟨_, by rw [if_pos e2], by rw [if_pos e2]⟩
  rw [if_neg e2, if_neg e2]
  by_cases e3 : x0 = nI 3
  · exact ⟨_, by rw [if_pos e3], by rw [if_pos e3]⟩
  rw [if_neg e3, if_neg e3]
  by_cases e4 : x0 = nI 4
  · exact ⟨_, by rw [if_pos e4], by rw [if_pos e4]⟩
  rw [if_neg e4, if_neg e4]
  by_cases e5 : x0 = nI 5
  · exact ⟨_, by rw [if_pos e5], by rw [if_pos e5]⟩
  exact ⟨_, by rw [if_neg e5], by rw [if_neg e5]⟩
theorem count_ok (hB : BR b B s nm) (N : Nat) (x0 th len : Int32) : ∃ v, f_X11_count N x0 B.clocks B.masters B.meets B.patience len = some v ∧ f_X12_count N x0 th len s = some (v, 0) := by
  obtain ⟨-, -, -, a1, a2, a3, a4, a5, a6, a7, a8, -⟩ := hB.1
  unfold f_X11_count f_X12_count
  rw [a1, a3, a5, a7]
  simp (disch := omega) only [zcl_s, zck_t, zbn_s, lits, m1_iI, ng_n, nI_le_T, nI_le_F, nI_lt_T, nI_lt_F, nI_eq_T, nI_eq_F, nI_1, le_1, le_1r, lt_1, lt_1r, eq_1, nI_add, pk_mul, sb_1, sb_n, cl_n, zi_n, iI_le_T, iI_le_F, iI_lt_T, iI_lt_F, iI_eq_T, iI_eq_F, mx1, mx2, mx3, mx4, mx5, mx6, mx7, mx8, mx9, mx10, iI_add, iI_sub, iI_p1, bI_n0, bI_1, bI_bo, tr_f, fa_f, tr_t, fa_t, if_true, if_false, or_n0, Nat.add_zero, Int.add_zero, X12_isIn_lit]
  rcases small x0 5 (by omega) with ⟨j, hj, rfl⟩ | ⟨h5, hne⟩
  · have : j = 0 ∨ j = 1 ∨ j = 2 ∨ j = 3 ∨ j = 4 := by omega
    rcases this with rfl | rfl | rfl | rfl | rfl
    · exact ⟨_, by simp (disch := omega) only [zcl_s, zck_t, zbn_s, lits, m1_iI, ng_n, nI_le_T, nI_le_F, nI_lt_T, nI_lt_F, nI_eq_T, nI_eq_F, nI_1, le_1, le_1r, lt_1, lt_1r, eq_1, nI_add, pk_mul, sb_1, sb_n, cl_n, zi_n, iI_le_T, iI_le_F, iI_lt_T, iI_lt_F, iI_eq_T, iI_eq_F, mx1, mx2, mx3, mx4, mx5, mx6, mx7, mx8, mx9, mx10, iI_add, iI_sub, iI_p1, bI_n0, bI_1, bI_bo, tr_f, fa_f, tr_t, fa_t, if_true, if_false, or_n0, Nat.add_zero, Int.add_zero]; rfl, by simp (disch := omega) only [zcl_s, zck_t, zbn_s, lits, m1_iI, ng_n, nI_le_T, nI_le_F, nI_lt_T, nI_lt_F, nI_eq_T, nI_eq_F, nI_1, le_1, le_1r, lt_1, lt_1r, eq_1, nI_add, pk_mul, sb_1, sb_n, cl_n, zi_n, iI_le_T, iI_le_F, iI_lt_T, iI_lt_F, iI_eq_T, iI_eq_F, mx1, mx2, mx3, mx4, mx5, mx6, mx7, mx8, mx9, mx10, iI_add, iI_sub, iI_p1, bI_n0, bI_1, bI_bo, tr_f, fa_f, tr_t, fa_t, if_true, if_false, or_n0, Nat.add_zero, Int.add_zero, nI_toInt]; rw [decide_eq_true (by decide)]; simp (disch := omega) only [zcl_s, zck_t, zbn_s, lits, m1_iI, ng_n, nI_le_T, nI_le_F, nI_lt_T, nI_lt_F, nI_eq_T, nI_eq_F, nI_1, le_1, le_1r, lt_1, lt_1r, eq_1, nI_add, pk_mul, sb_1, sb_n, cl_n, zi_n, iI_le_T, iI_le_F, iI_lt_T, iI_lt_F, iI_eq_T, iI_eq_F, mx1, mx2, mx3, mx4, mx5, mx6, mx7, mx8, mx9, mx10, iI_add, iI_sub, iI_p1, bI_n0, bI_1, bI_bo, tr_f, fa_f, tr_t, fa_t, if_true, if_false, or_n0, Nat.add_zero, Int.add_zero, a2]⟩
    · exact ⟨_, by simp (disch := omega) only [zcl_s, zck_t, zbn_s, lits, m1_iI, ng_n, nI_le_T, nI_le_F, nI_lt_T, nI_lt_F, nI_eq_T, nI_eq_F, nI_1, le_1, le_1r, lt_1, lt_1r, eq_1, nI_add, pk_mul, sb_1, sb_n, cl_n, zi_n, iI_le_T, iI_le_F, iI_lt_T, iI_lt_F, iI_eq_T, iI_eq_F, mx1, mx2, mx3, mx4, mx5, mx6, mx7, mx8, mx9, mx10, iI_add, iI_sub, iI_p1, bI_n0, bI_1, bI_bo, tr_f, fa_f, tr_t, fa_t, if_true, if_false, or_n0, Nat.add_zero, Int.add_zero]; rfl, by simp (disch := omega) only [zcl_s, zck_t, zbn_s, lits, m1_iI, ng_n, nI_le_T, nI_le_F, nI_lt_T, nI_lt_F, nI_eq_T, nI_eq_F, nI_1, le_1, le_1r, lt_1, lt_1r, eq_1, nI_add, pk_mul, sb_1, sb_n, cl_n, zi_n, iI_le_T, iI_le_F, iI_lt_T, iI_lt_F, iI_eq_T, iI_eq_F, mx1, mx2, mx3, mx4, mx5, mx6, mx7, mx8, mx9, mx10, iI_add, iI_sub, iI_p1, bI_n0, bI_1, bI_bo, tr_f, fa_f, tr_t, fa_t, if_true, if_false, or_n0, Nat.add_zero, Int.add_zero, nI_toInt]; rw [decide_eq_true (by decide)]; simp (disch := omega) only [zcl_s, zck_t, zbn_s, lits, m1_iI, ng_n, nI_le_T, nI_le_F, nI_lt_T, nI_lt_F, nI_eq_T, nI_eq_F, nI_1, le_1, le_1r, lt_1, lt_1r, eq_1, nI_add, pk_mul, sb_1, sb_n, cl_n, zi_n, iI_le_T, iI_le_F, iI_lt_T, iI_lt_F, iI_eq_T, iI_eq_F, mx1, mx2, mx3, mx4, mx5, mx6, mx7, mx8, mx9, mx10, iI_add, iI_sub, iI_p1, bI_n0, bI_1, bI_bo, tr_f, fa_f, tr_t, fa_t, if_true, if_false, or_n0, Nat.add_zero, Int.add_zero, a4]⟩
    · exact ⟨_, by simp (disch := omega) only [zcl_s, zck_t, zbn_s, lits, m1_iI, ng_n, nI_le_T, nI_le_F, nI_lt_T, nI_lt_F, nI_eq_T, nI_eq_F, nI_1, le_1, le_1r, lt_1, lt_1r, eq_1, nI_add, pk_mul, sb_1, sb_n, cl_n, zi_n, iI_le_T, iI_le_F, iI_lt_T, iI_lt_F, iI_eq_T, iI_eq_F, mx1, mx2, mx3, mx4, mx5, mx6, mx7, mx8, mx9, mx10, iI_add, iI_sub, iI_p1, bI_n0, bI_1, bI_bo, tr_f, fa_f, tr_t, fa_t, if_true, if_false, or_n0, Nat.add_zero, Int.add_zero]; rfl, by simp (disch := omega) only [zcl_s, zck_t, zbn_s, lits, m1_iI, ng_n, nI_le_T, nI_le_F, nI_lt_T, nI_lt_F, nI_eq_T, nI_eq_F, nI_1, le_1, le_1r, lt_1, lt_1r, eq_1, nI_add, pk_mul, sb_1, sb_n, cl_n, zi_n, iI_le_T, iI_le_F, iI_lt_T, iI_lt_F, iI_eq_T, iI_eq_F, mx1, mx2, mx3, mx4, mx5, mx6, mx7, mx8, mx9, mx10, iI_add, iI_sub, iI_p1, bI_n0, bI_1, bI_bo, tr_f, fa_f, tr_t, fa_t, if_true, if_false, or_n0, Nat.add_zero, Int.add_zero, nI_toInt]; rw [decide_eq_true (by decide)]; simp (disch := omega) only [zcl_s, zck_t, zbn_s, lits, m1_iI, ng_n, nI_le_T, nI_le_F, nI_lt_T, nI_lt_F, nI_eq_T, nI_eq_F, nI_1, le_1, le_1r, lt_1, lt_1r, eq_1, nI_add, pk_mul, sb_1, sb_n, cl_n, zi_n, iI_le_T, iI_le_F, iI_lt_T, iI_lt_F, iI_eq_T, iI_eq_F, mx1, mx2, mx3, mx4, mx5, mx6, mx7, mx8, mx9, mx10, iI_add, iI_sub, iI_p1, bI_n0, bI_1, bI_bo, tr_f, fa_f, tr_t, fa_t, if_true, if_false, or_n0, Nat.add_zero, Int.add_zero, a6]⟩
    · exact ⟨_, by simp (disch := omega) only [zcl_s, zck_t, zbn_s, lits, m1_iI, ng_n, nI_le_T, nI_le_F, nI_lt_T, nI_lt_F, nI_eq_T, nI_eq_F, nI_1, le_1, le_1r, lt_1, lt_1r, eq_1, nI_add, pk_mul, sb_1, sb_n, cl_n, zi_n, iI_le_T, iI_le_F, iI_lt_T, iI_lt_F, iI_eq_T, iI_eq_F, mx1, mx2, mx3, mx4, mx5, mx6, mx7, mx8, mx9, mx10, iI_add, iI_sub, iI_p1, bI_n0, bI_1, bI_bo, tr_f, fa_f, tr_t, fa_t, if_true, if_false, or_n0, Nat.add_zero, Int.add_zero]; rfl, by simp (disch := omega) only [zcl_s, zck_t, zbn_s, lits, m1_iI, ng_n, nI_le_T, nI_le_F, nI_lt_T, nI_lt_F, nI_eq_T, nI_eq_F, nI_1, le_1, le_1r, lt_1, lt_1r, eq_1, nI_add, pk_mul, sb_1, sb_n, cl_n, zi_n, iI_le_T, iI_le_F, iI_lt_T, iI_lt_F, iI_eq_T, iI_eq_F, mx1, mx2, mx3, mx4, mx5, mx6, mx7, mx8, mx9, mx10, iI_add, iI_sub, iI_p1, bI_n0, bI_1, bI_bo, tr_f, fa_f, tr_t, fa_t, if_true, if_false, or_n0, Nat.add_zero, Int.add_zero, nI_toInt]; rw [decide_eq_true (by decide)]; simp (disch := omega) only [zcl_s, zck_t, zbn_s, lits, m1_iI, ng_n, nI_le_T, nI_le_F, nI_lt_T, nI_lt_F, nI_eq_T, nI_eq_F, nI_1, le_1, le_1r, lt_1, lt_1r, eq_1, nI_add, pk_mul, sb_1, sb_n, cl_n, zi_n, iI_le_T, iI_le_F, iI_lt_T, iI_lt_F, iI_eq_T, iI_eq_F, mx1, mx2, mx3, mx4, mx5, mx6, mx7, mx8, mx9, mx10, iI_add, iI_sub, iI_p1, bI_n0, bI_1, bI_bo, tr_f, fa_f, tr_t, fa_t, if_true, if_false, or_n0, Nat.add_zero, Int.add_zero, a8]⟩
    · exact ⟨_, by simp (disch := omega) only [zcl_s, zck_t, zbn_s, lits, m1_iI, ng_n, nI_le_T, nI_le_F, nI_lt_T, nI_lt_F, nI_eq_T, nI_eq_F, nI_1, le_1, le_1r, lt_1, lt_1r, eq_1, nI_add, pk_mul, sb_1, sb_n, cl_n, zi_n, iI_le_T, iI_le_F, iI_lt_T, iI_lt_F, iI_eq_T, iI_eq_F, mx1, mx2, mx3, mx4, mx5, mx6, mx7, mx8, mx9, mx10, iI_add, iI_sub, iI_p1, bI_n0, bI_1, bI_bo, tr_f, fa_f, tr_t, fa_t, if_true, if_false, or_n0, Nat.add_zero, Int.add_zero]; rfl, by simp (disch := omega) only [zcl_s, zck_t, zbn_s, lits, m1_iI, ng_n, nI_le_T, nI_le_F, nI_lt_T, nI_lt_F, nI_eq_T, nI_eq_F, nI_1, le_1, le_1r, lt_1, lt_1r, eq_1, nI_add, pk_mul, sb_1, sb_n, cl_n, zi_n, iI_le_T, iI_le_F, iI_lt_T, iI_lt_F, iI_eq_T, iI_eq_F, mx1, mx2, mx3, mx4, mx5, mx6, mx7, mx8, mx9, mx10, iI_add, iI_sub, iI_p1, bI_n0, bI_1, bI_bo, tr_f, fa_f, tr_t, fa_t, if_true, if_false, or_n0, Nat.add_zero, Int.add_zero]⟩
  · rw [if_neg (hne 0 (by omega)), if_neg (show ¬ x0 = 1 from hne 1 (by omega)), if_neg (hne 2 (by omega)), if_neg (hne 3 (by omega)), if_neg (hne 4 (by omega)), if_neg (hne 4 (by omega))]
    have hz : ¬ (0 ≤ x0.toInt ∧ x0.toInt ≤ 3) := by
      unfold zin at h5
      rw [decide_eq_false_iff_not] at h5
      omega
    rw [decide_eq_false (by simpa using hz)]
    exact ⟨_, rfl, rfl⟩
end PUB1
section PUB1R
variable {k : KS} {r : RS}
theorem p_clock (N : Nat) (hN : 10 ≤ N) (x0 x1 : Int32) : Ok9 (F_clock N x0 x1) (G_clock N x0 x1) := by
  intro k r hR
  have hR' := hR
  obtain ⟨b, d, ⟨hB, hD, -⟩, -⟩ := hR'
  obtain ⟨v, h1, h2⟩ := clock_ok hB hD N hN x0 x1 r.thrown
  exact ⟨v, k, r.thr 0, by unfold F_clock; rw [h1]; rfl, by unfold G_clock; rw [h2]; rfl, hR.th 0⟩
theorem p_meet (N : Nat) (hN : 10 ≤ N) (x0 x1 : Int32) : Ok9 (F_meet N x0 x1) (G_meet N x0 x1) := by
  intro k r hR
  have hR' := hR
  obtain ⟨b, d, ⟨hB, hD, -⟩, -⟩ := hR'
  obtain ⟨v, h1, h2⟩ := meet_ok hB hD N hN x0 x1 r.thrown
  exact ⟨v, k, r.thr 0, by unfold F_meet; rw [h1]; rfl, by unfold G_meet; rw [h2]; rfl, hR.th 0⟩
theorem p_now (N : Nat) (hN : 10 ≤ N) (x0 : Int32) : Ok9 (F_now N x0) (G_now N x0) := by
  intro k r hR
  have hR' := hR
  obtain ⟨b, d, ⟨hB, hD, -⟩, -⟩ := hR'
  obtain ⟨v, h1, h2⟩ := now_ok hD N hN x0 r.thrown
  exact ⟨v, k, r.thr 0, by unfold F_now; rw [h1]; rfl, by unfold G_now; rw [h2]; rfl, hR.th 0⟩
theorem p_count (N : Nat) (x0 : Int32) : Ok9 (F_count N x0) (G_count N x0) := by
  intro k r hR
  have hR' := hR
  obtain ⟨b, d, ⟨hB, hD, -⟩, -, -, ⟨L, -, l1, l2, -⟩, -⟩ := hR'
  obtain ⟨v, h1, h2⟩ := count_ok hB N x0 r.thrown r.length
  exact ⟨v, k, r.thr 0, by unfold F_count; rw [l1, ← l2, h1]; rfl, by unfold G_count; rw [h2]; rfl, hR.th 0⟩
theorem p_fault (N : Nat) : Ok9 (F_fault N) (G_fault N) := by
  intro k r hR
  have hR' := hR
  obtain ⟨b, d, -, -, -, -, hf, -⟩ := hR'
  exact ⟨k.lastFault, k, r.thr 0, rfl, by rw [hf]; rfl, hR.th 0⟩
theorem p_latestBy (N : Nat) : Ok9 (F_latestBy N) (G_latestBy N) := by
  intro k r hR
  have hR' := hR
  obtain ⟨b, d, -, -, -, -, -, hf, -⟩ := hR'
  exact ⟨k.lastLateness, k, r.thr 0, rfl, by rw [hf]; rfl, hR.th 0⟩
theorem p_timeFirst (N : Nat) : Ok9 (F_timeFirst N) (G_timeFirst N) := by
  intro k r hR
  have hR' := hR
  obtain ⟨b, d, -, -, -, -, -, -, hf, -⟩ := hR'
  have hv : f_X12_timeFirst N r.thrown r.firstMinute r.hasTime = some (k.watch_first, 0) := by
    unfold f_X12_timeFirst
    rcases hf with ⟨h1, h2, h3⟩ | ⟨h1, h2, h3⟩
    · rw [h1, h2]; rfl
    · rw [h1, h2]; rfl
  exact ⟨k.watch_first, k, r.thr 0, rfl, by unfold G_timeFirst; rw [hv]; rfl, hR.th 0⟩
theorem p_look (N : Nat) : Ok9 (F_look N) (G_look N) := by
  intro k r hR
  have hR' := hR
  obtain ⟨b, d, -, -, -, -, -, -, hf, -⟩ := hR'
  have hv : f_X12_look N r.thrown r.lookClock r.hasTime = some (k.watch_bestClock, 0) := by
    unfold f_X12_look
    rcases hf with ⟨h1, h2, h3⟩ | ⟨h1, h2, h3⟩
    · rw [h1, h3]; rfl
    · rw [h1, h3]; rfl
  exact ⟨k.watch_bestClock, k, r.thr 0, rfl, by unfold G_look; rw [hv]; rfl, hR.th 0⟩
end PUB1R
