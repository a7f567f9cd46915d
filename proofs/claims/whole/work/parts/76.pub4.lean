/-! ===== told, the tape, wrong, master, mean ===== -/
section PUB4
variable {b : MB} {d : MD} {B : CB} {D : CY} {s : Nat → Int32} {nm : Nat → Int64}
theorem told_ok (N : Nat) {ju wh go mt ot ha : Int32} {ta : Nat → Int32} (h : TL ju wh go mt ot ha ta) (x0 th : Int32) : ∃ v, f_X11_told N x0 ju wh go mt ot = some v ∧ f_X12_told N x0 th ha ta = some (v, 0) := by
  unfold f_X11_told f_X12_told
  rcases h with ⟨rfl, rfl⟩ | ⟨rfl, rfl, rfl, rfl, rfl, rfl⟩
  · exact ⟨-1, rfl, rfl⟩
  · rw [if_neg (show ¬ (1 : Int32) = 0 by decide), if_neg (show ¬ (1 : Int32) = 0 by decide), show (3 : Int32) = nI 3 from rfl, show (0 : Int32) = nI 0 from rfl, X12_isIn_lit N x0 (a := 0) (c := 3) (by omega) (by omega), zcl_s]
    rcases small x0 4 (by omega) with ⟨j, hj, rfl⟩ | ⟨h5, hne⟩
    · rw [nI_toInt (by omega), decide_eq_true (by omega), if_neg (show ¬ bI true = nI 0 by decide), zin_nI hj (by omega), zck_t, nI_clamp' (show j < 2147483648 by omega)]
      have : j = 0 ∨ j = 1 ∨ j = 2 ∨ j = 3 := by omega
      rcases this with rfl | rfl | rfl | rfl
      · exact ⟨_, by simp (disch := omega) only [zcl_s, zck_t, zbn_s, lits, m1_iI, ng_n, nI_le_T, nI_le_F, nI_lt_T, nI_lt_F, nI_eq_T, nI_eq_F, nI_1, le_1, le_1r, lt_1, lt_1r, eq_1, nI_add, pk_mul, sb_1, sb_n, cl_n, zi_n, iI_le_T, iI_le_F, iI_lt_T, iI_lt_F, iI_eq_T, iI_eq_F, mx1, mx2, mx3, mx4, mx5, mx6, mx7, mx8, mx9, mx10, iI_add, iI_sub, iI_p1, bI_n0, bI_1, bI_bo, tr_f, fa_f, tr_t, fa_t, if_true, if_false, or_n0, Nat.add_zero, Int.add_zero], rfl⟩
      · exact ⟨_, by simp (disch := omega) only [zcl_s, zck_t, zbn_s, lits, m1_iI, ng_n, nI_le_T, nI_le_F, nI_lt_T, nI_lt_F, nI_eq_T, nI_eq_F, nI_1, le_1, le_1r, lt_1, lt_1r, eq_1, nI_add, pk_mul, sb_1, sb_n, cl_n, zi_n, iI_le_T, iI_le_F, iI_lt_T, iI_lt_F, iI_eq_T, iI_eq_F, mx1, mx2, mx3, mx4, mx5, mx6, mx7, mx8, mx9, mx10, iI_add, iI_sub, iI_p1, bI_n0, bI_1, bI_bo, tr_f, fa_f, tr_t, fa_t, if_true, if_false, or_n0, Nat.add_zero, Int.add_zero], rfl⟩
      · exact ⟨_, by simp (disch := omega) only [zcl_s, zck_t, zbn_s, lits, m1_iI, ng_n, nI_le_T, nI_le_F, nI_lt_T, nI_lt_F, nI_eq_T, nI_eq_F, nI_1, le_1, le_1r, lt_1, lt_1r, eq_1, nI_add, pk_mul, sb_1, sb_n, cl_n, zi_n, iI_le_T, iI_le_F, iI_lt_T, iI_lt_F, iI_eq_T, iI_eq_F, mx1, mx2, mx3, mx4, mx5, mx6, mx7, mx8, mx9, mx10, iI_add, iI_sub, iI_p1, bI_n0, bI_1, bI_bo, tr_f, fa_f, tr_t, fa_t, if_true, if_false, or_n0, Nat.add_zero, Int.add_zero], rfl⟩
      · exact ⟨_, by simp (disch := omega) only [zcl_s, zck_t, zbn_s, lits, m1_iI, ng_n, nI_le_T, nI_le_F, nI_lt_T, nI_lt_F, nI_eq_T, nI_eq_F, nI_1, le_1, le_1r, lt_1, lt_1r, eq_1, nI_add, pk_mul, sb_1, sb_n, cl_n, zi_n, iI_le_T, iI_le_F, iI_lt_T, iI_lt_F, iI_eq_T, iI_eq_F, mx1, mx2, mx3, mx4, mx5, mx6, mx7, mx8, mx9, mx10, iI_add, iI_sub, iI_p1, bI_n0, bI_1, bI_bo, tr_f, fa_f, tr_t, fa_t, if_true, if_false, or_n0, Nat.add_zero, Int.add_zero], rfl⟩
    · have hz : ¬ (0 ≤ x0.toInt ∧ x0.toInt ≤ 3) := by
        unfold zin at h5
        rw [decide_eq_false_iff_not] at h5
        omega
      rw [if_neg (hne 0 (by omega)), if_neg (show ¬ x0 = 1 from hne 1 (by omega)), if_neg (show ¬ x0 = 2 from hne 2 (by omega)), if_neg (hne 3 (by omega)), decide_eq_false (by simpa using hz)]
      exact ⟨_, rfl, rfl⟩
theorem end_ok (N : Nat) (x0 th len : Int32) {L : Nat} (hL : L ≤ 940) (hl : len = nI L) : ∃ v L', L' ≤ L ∧ f_X11_end N x0 len = some (v, nI L') ∧ f_X12_end N x0 th len = some (v, 0, nI L') := by
  subst hl
  unfold f_X11_end f_X12_end
  by_cases h0 : x0 < 0
  · exact ⟨0, L, Nat.le_refl _, by rw [if_pos h0], by rw [if_pos h0]⟩
  · obtain ⟨j, hj, rfl⟩ := nI_of h0
    rw [if_neg h0, if_neg h0]
    by_cases h1 : j ≤ L
    · exact ⟨1, j, h1, by rw [if_pos (nI_le h1 (by omega))], by rw [if_pos (nI_le h1 (by omega))]⟩
    · exact ⟨0, L, Nat.le_refl _, by rw [if_neg (nI_ge (by omega) (by omega))], by rw [if_neg (nI_ge (by omega) (by omega))]⟩
/-- four bytes of a number -/
theorem four_ok (N : Nat) (x : Int32) (L : Nat) (hN : 10 ≤ N) (hL : L + 4 ≤ 940) (f g : Nat → Int32) (h : ∀ i, i < L → f i = g i) : ∃ f' g', f_X7_append N x (nI L) f = some (nI (L + 4), f') ∧ f_X12_four N x (nI L) g = some (nI (L + 4), g') ∧ ∀ i, i < L + 4 → f' i = g' i := by
  obtain ⟨n, rfl⟩ : ∃ n, N = n + 5 := ⟨N - 5, by omega⟩
  have st : ∀ (f g : Nat → Int32) (K : Nat) (v : Int32), (∀ i, i < K → f i = g i) → ∀ i, i < K + 1 → upd f K v i = upd g K v i := by
    intro f g K v h i hi
    by_cases e : i = K
    · subst e; rw [pk_us, pk_us]
    · rw [pk_un e, pk_un e]; exact h i (by omega)
  have e8 : ∀ k : Nat, 8 ≤ k → nI k + (-8) = nI (k - 8) := by
    intro k hk
    rw [show (-8 : Int32) = iI (-8) from rfl, mx7, iI_nat]
    congr 1
    omega
  have z8 : nI 0 + (-8) < (0 : Int32) := by decide
  unfold f_X7_append f_X12_four
  refine ⟨(upd (upd (upd (upd f L (Int8.toInt32 (Int32.toInt8 (Int8.toInt32 (Int32.toInt8 (x >>> (nI 24 &&& 31))))))) (L + 1) (Int8.toInt32 (Int32.toInt8 (Int8.toInt32 (Int32.toInt8 (x >>> (nI 16 &&& 31))))))) (L + 1 + 1) (Int8.toInt32 (Int32.toInt8 (Int8.toInt32 (Int32.toInt8 (x >>> (nI 8 &&& 31))))))) (L + 1 + 1 + 1) (Int8.toInt32 (Int32.toInt8 (Int8.toInt32 (Int32.toInt8 (x >>> (nI 0 &&& 31))))))), (upd (upd (upd (upd g L (Int8.toInt32 (Int32.toInt8 (Int8.toInt32 (Int32.toInt8 (x >>> (nI 24 &&& 31))))))) (L + 1) (Int8.toInt32 (Int32.toInt8 (Int8.toInt32 (Int32.toInt8 (x >>> (nI 16 &&& 31))))))) (L + 1 + 1) (Int8.toInt32 (Int32.toInt8 (Int8.toInt32 (Int32.toInt8 (x >>> (nI 8 &&& 31))))))) (L + 1 + 1 + 1) (Int8.toInt32 (Int32.toInt8 (Int8.toInt32 (Int32.toInt8 (x >>> (nI 0 &&& 31))))))), ?_, ?_, st _ _ (L + 3) _ (st _ _ (L + 2) _ (st _ _ (L + 1) _ (st f g L _ h)))⟩
  · have s1 : ∀ (n' k K : Nat) (f : Nat → Int32), k < 100 → K < 940 → f_X7_append_3 (n + 5) (n' + 1) x (nI k) (nI K) f = f_X7_append_3 (n + 5) n' x (nI k + (-8)) (nI (K + 1)) (upd f K (Int8.toInt32 (Int32.toInt8 (Int8.toInt32 (Int32.toInt8 (x >>> (nI k &&& 31))))))) := by
      intro n' k K f hk hK
      rw [f_X7_append_3, if_neg (nI_pos (by omega)), if_neg (show ¬ (940 : Int32) ≤ nI K from nI_ge (b := 940) (by omega) (by omega)), zbn_s, zin_nI hK (by omega), zck_t, zbn_s, zbn_s, zbn_s, nI_clamp' (show K < 2147483648 by omega), nI_1]
    rw [show (24 : Int32) = nI 24 from rfl, s1 _ 24 L f (by omega) (by omega), e8 24 (by omega), s1 _ 16 (L + 1) _ (by omega) (by omega), e8 16 (by omega), s1 _ 8 (L + 1 + 1) _ (by omega) (by omega), e8 8 (by omega), s1 _ 0 (L + 1 + 1 + 1) _ (by omega) (by omega), f_X7_append_3, if_pos z8]
  · have s1 : ∀ (n' k K : Nat) (f : Nat → Int32), k < 100 → K < 940 → f_X12_four_3 (n + 5) (n' + 1) x (nI k) (nI K) f = f_X12_four_3 (n + 5) n' x (nI k + (-8)) (nI (K + 1)) (upd f K (Int8.toInt32 (Int32.toInt8 (Int8.toInt32 (Int32.toInt8 (x >>> (nI k &&& 31))))))) := by
      intro n' k K f hk hK
      rw [f_X12_four_3, if_neg (nI_pos (by omega)), zbn_s, zin_nI hK (by omega), zck_t, zbn_s, zbn_s, zbn_s, nI_clamp' (show K < 2147483648 by omega), nI_1]
    rw [show (24 : Int32) = nI 24 from rfl, s1 _ 24 L g (by omega) (by omega), e8 24 (by omega), s1 _ 16 (L + 1) _ (by omega) (by omega), e8 16 (by omega), s1 _ 8 (L + 1 + 1) _ (by omega) (by omega), e8 8 (by omega), s1 _ 0 (L + 1 + 1 + 1) _ (by omega) (by omega), f_X12_four_3, if_pos z8]
theorem feed_ok (N : Nat) (hN : 10 ≤ N) (a0 a1 a2 a3 a4 th : Int32) (L : Nat) (hL : L ≤ 940) (f g : Nat → Int32) (h : ∀ i, i < L → f i = g i) : ∃ v L' f' g', L' ≤ 940 ∧ f_X11_feed N a0 a1 a2 a3 a4 (nI L) f = some (v, nI L', f') ∧ f_X12_feed N a0 a1 a2 a3 a4 th (nI L) g = some (v, 0, nI L', g') ∧ ∀ i, i < L' → f' i = g' i := by
  unfold f_X11_feed f_X12_feed
  rw [show (20 : Int32) = nI 20 from rfl, show (940 : Int32) = nI 940 from rfl, nI_add]
  by_cases hc : L + 20 ≤ 940
  · rw [if_pos (nI_le hc (by omega)), if_pos (nI_le hc (by omega))]
    obtain ⟨f1, g1, e1, e2, e3⟩ := four_ok N a0 L hN (by omega) f g h
    obtain ⟨f2, g2, k1, k2, k3⟩ := four_ok N a1 (L + 4) hN (by omega) f1 g1 e3
    obtain ⟨f3, g3, l1, l2, l3⟩ := four_ok N a2 (L + 4 + 4) hN (by omega) f2 g2 k3
    obtain ⟨f4, g4, m1, m2, m3⟩ := four_ok N a3 (L + 4 + 4 + 4) hN (by omega) f3 g3 l3
    obtain ⟨f5, g5, n1, n2, n3⟩ := four_ok N a4 (L + 4 + 4 + 4 + 4) hN (by omega) f4 g4 m3
    refine ⟨nI (L + 4 + 4 + 4 + 4 + 4), L + 4 + 4 + 4 + 4 + 4, f5, g5, by omega, ?_, ?_, n3⟩
    · rw [e1, zcl_s, k1, zcl_s, l1, zcl_s, m1, zcl_s, n1, zcl_s]
    · rw [e2, zcl_s, k2, zcl_s, l2, zcl_s, m2, zcl_s, n2, zcl_s]
  · rw [if_neg (nI_ge (by omega) (by omega)), if_neg (nI_ge (by omega) (by omega))]
    exact ⟨-1, L, f, g, hL, rfl, rfl, h⟩
theorem thr_ok (N : Nat) (b : Bool) (th : Int32) : f_X12_throwsIf N (bI b) th = some (bI b, bI b) := by cases b <;> rfl
theorem wrong_ok (h : DY b d B D s) (N : Nat) (x0 th : Int32) : (∃ v, f_X11_wrong N x0 B.clocks D.minute D.stopped D.stood D.ahead B.clockGain D.since = some v ∧ f_X12_wrong N x0 th s = some (v, 0)) ∨ (f_X11_isClock N x0 B.clocks = some 0 ∧ f_X12_wrong N x0 th s = some (0, 1)) := by
  have c6 := h.C6
  unfold f_X11_wrong f_X12_wrong f_X12_wrong_14
  rw [h.nC, X11_isClock_ok N x0 (n := b.C) (by omega), X12_isClock_ok N x0 h.sC (by omega), zcl_s, zcl_s]
  rcases zin_cases x0 (n := b.C) (by omega) with ⟨hz, c, hc, rfl⟩ | hz
  · left
    obtain ⟨w1, w2⟩ := h.wr N c hc
    rw [hz, w1, w2]
    exact ⟨_, rfl, rfl⟩
  · right
    rw [hz]
    exact ⟨rfl, rfl⟩
theorem master_ok (hB : BR b B s nm) (h : DY b d B D s) (N : Nat) (hN : 10 ≤ N) (x0 x1 th : Int32) : (∃ v, f_X11_master N x0 x1 B.masters B.meets B.masterCorner D.out D.came D.left B.masterMeets B.masterClock B.masterLate = some v ∧ f_X12_master N x0 x1 th s = some (v, 0)) ∨ ((f_X11_isMaster N x0 B.masters = some 0 ∨ (f_X11_isMaster N x0 B.masters = some 1 ∧ (x1 < 0 ∨ (¬ x1 < 0 ∧ ¬ x1 ≤ 6)))) ∧ f_X12_master N x0 x1 th s = some (0, 1)) := by
  have m6 := h.M6
  unfold f_X11_master f_X12_master f_X12_master_19
  rw [h.nM, X11_isMaster_ok N x0 (n := b.M) (by omega), X12_isMaster_ok N x0 h.sM (by omega), zcl_s, zcl_s, show (6 : Int32) = nI 6 from rfl, show f_X12_isIn N x1 0 (nI 6) = some (bI (decide (((0 : Nat) : Int) ≤ x1.toInt ∧ x1.toInt ≤ (6 : Nat)))) from X12_isIn_lit N x1 (a := 0) (c := 6) (by omega) (by omega)]
  rcases zin_cases x0 (n := b.M) (by omega) with ⟨hz, m, hm, rfl⟩ | hz
  · rw [hz, if_neg (show ¬ bI true = 0 by decide), if_neg (show ¬ bI true = 0 by decide), zcl_s]
    rcases small x1 7 (by omega) with ⟨j, hj, rfl⟩ | ⟨h5, hne⟩
    · left
      obtain ⟨g1, g2, g3, g4, g5, -, -, g6, g7, -, g8, -⟩ := hB.2.2.1 m hm
      obtain ⟨i1, i2, i3, i4⟩ := h.mIn N m hN hm
      obtain ⟨o1, o2⟩ := h.ot N m hm
      rw [nI_toInt (by omega), decide_eq_true (by omega), if_neg (show ¬ bI true = 0 by decide), if_neg (show ¬ nI j < 0 from nI_pos (by omega)), if_pos (nI_le (show j ≤ 6 by omega) (by omega))]
      unfold f_X12_master_24
      rw [show f_X12_throwsIf N 0 th = some (0, 0) from rfl, zcl_s, if_pos (show (0 : Int32) = 0 from rfl)]
      have : j = 0 ∨ j = 1 ∨ j = 2 ∨ j = 3 ∨ j = 4 ∨ j = 5 ∨ j = 6 := by omega
      rcases this with rfl | rfl | rfl | rfl | rfl | rfl | rfl
      · simp (disch := omega) only [zcl_s, zck_t, zbn_s, lits, m1_iI, ng_n, nI_le_T, nI_le_F, nI_lt_T, nI_lt_F, nI_eq_T, nI_eq_F, nI_1, le_1, le_1r, lt_1, lt_1r, eq_1, nI_add, pk_mul, sb_1, sb_n, cl_n, zi_n, iI_le_T, iI_le_F, iI_lt_T, iI_lt_F, iI_eq_T, iI_eq_F, mx1, mx2, mx3, mx4, mx5, mx6, mx7, mx8, mx9, mx10, iI_add, iI_sub, iI_p1, bI_n0, bI_1, bI_bo, tr_f, fa_f, tr_t, fa_t, if_true, if_false, or_n0, Nat.add_zero, Int.add_zero, g1, g2]; exact ⟨_, rfl, rfl⟩
      · simp (disch := omega) only [zcl_s, zck_t, zbn_s, lits, m1_iI, ng_n, nI_le_T, nI_le_F, nI_lt_T, nI_lt_F, nI_eq_T, nI_eq_F, nI_1, le_1, le_1r, lt_1, lt_1r, eq_1, nI_add, pk_mul, sb_1, sb_n, cl_n, zi_n, iI_le_T, iI_le_F, iI_lt_T, iI_lt_F, iI_eq_T, iI_eq_F, mx1, mx2, mx3, mx4, mx5, mx6, mx7, mx8, mx9, mx10, iI_add, iI_sub, iI_p1, bI_n0, bI_1, bI_bo, tr_f, fa_f, tr_t, fa_t, if_true, if_false, or_n0, Nat.add_zero, Int.add_zero, g4, g5]; exact ⟨_, rfl, rfl⟩
      · simp (disch := omega) only [zcl_s, zck_t, zbn_s, lits, m1_iI, ng_n, nI_le_T, nI_le_F, nI_lt_T, nI_lt_F, nI_eq_T, nI_eq_F, nI_1, le_1, le_1r, lt_1, lt_1r, eq_1, nI_add, pk_mul, sb_1, sb_n, cl_n, zi_n, iI_le_T, iI_le_F, iI_lt_T, iI_lt_F, iI_eq_T, iI_eq_F, mx1, mx2, mx3, mx4, mx5, mx6, mx7, mx8, mx9, mx10, iI_add, iI_sub, iI_p1, bI_n0, bI_1, bI_bo, tr_f, fa_f, tr_t, fa_t, if_true, if_false, or_n0, Nat.add_zero, Int.add_zero, g6, g7]; exact ⟨_, rfl, rfl⟩
      · simp (disch := omega) only [zcl_s, zck_t, zbn_s, lits, m1_iI, ng_n, nI_le_T, nI_le_F, nI_lt_T, nI_lt_F, nI_eq_T, nI_eq_F, nI_1, le_1, le_1r, lt_1, lt_1r, eq_1, nI_add, pk_mul, sb_1, sb_n, cl_n, zi_n, iI_le_T, iI_le_F, iI_lt_T, iI_lt_F, iI_eq_T, iI_eq_F, mx1, mx2, mx3, mx4, mx5, mx6, mx7, mx8, mx9, mx10, iI_add, iI_sub, iI_p1, bI_n0, bI_1, bI_bo, tr_f, fa_f, tr_t, fa_t, if_true, if_false, or_n0, Nat.add_zero, Int.add_zero, o1, o2]
        cases d.x.1 m
        · exact ⟨_, rfl, rfl⟩
        · exact ⟨_, rfl, rfl⟩
      · simp (disch := omega) only [zcl_s, zck_t, zbn_s, lits, m1_iI, ng_n, nI_le_T, nI_le_F, nI_lt_T, nI_lt_F, nI_eq_T, nI_eq_F, nI_1, le_1, le_1r, lt_1, lt_1r, eq_1, nI_add, pk_mul, sb_1, sb_n, cl_n, zi_n, iI_le_T, iI_le_F, iI_lt_T, iI_lt_F, iI_eq_T, iI_eq_F, mx1, mx2, mx3, mx4, mx5, mx6, mx7, mx8, mx9, mx10, iI_add, iI_sub, iI_p1, bI_n0, bI_1, bI_bo, tr_f, fa_f, tr_t, fa_t, if_true, if_false, or_n0, Nat.add_zero, Int.add_zero, g8, h.toc N m hN hm]; exact ⟨_, rfl, rfl⟩
      · simp (disch := omega) only [zcl_s, zck_t, zbn_s, lits, m1_iI, ng_n, nI_le_T, nI_le_F, nI_lt_T, nI_lt_F, nI_eq_T, nI_eq_F, nI_1, le_1, le_1r, lt_1, lt_1r, eq_1, nI_add, pk_mul, sb_1, sb_n, cl_n, zi_n, iI_le_T, iI_le_F, iI_lt_T, iI_lt_F, iI_eq_T, iI_eq_F, mx1, mx2, mx3, mx4, mx5, mx6, mx7, mx8, mx9, mx10, iI_add, iI_sub, iI_p1, bI_n0, bI_1, bI_bo, tr_f, fa_f, tr_t, fa_t, if_true, if_false, or_n0, Nat.add_zero, Int.add_zero, i1, i3]; exact ⟨_, rfl, rfl⟩
      · simp (disch := omega) only [zcl_s, zck_t, zbn_s, lits, m1_iI, ng_n, nI_le_T, nI_le_F, nI_lt_T, nI_lt_F, nI_eq_T, nI_eq_F, nI_1, le_1, le_1r, lt_1, lt_1r, eq_1, nI_add, pk_mul, sb_1, sb_n, cl_n, zi_n, iI_le_T, iI_le_F, iI_lt_T, iI_lt_F, iI_eq_T, iI_eq_F, mx1, mx2, mx3, mx4, mx5, mx6, mx7, mx8, mx9, mx10, iI_add, iI_sub, iI_p1, bI_n0, bI_1, bI_bo, tr_f, fa_f, tr_t, fa_t, if_true, if_false, or_n0, Nat.add_zero, Int.add_zero, i2, i4]; exact ⟨_, rfl, rfl⟩
    · right
      have hz1 : ¬ (0 ≤ x1.toInt ∧ x1.toInt ≤ 6) := by
        unfold zin at h5
        rw [decide_eq_false_iff_not] at h5
        omega
      refine ⟨Or.inr ⟨rfl, ?_⟩, ?_⟩
      · by_cases hn : x1 < 0
        · exact Or.inl hn
        · refine Or.inr ⟨hn, fun z => hz1 ⟨?_, ?_⟩⟩
          · rw [Int32.lt_iff_toInt_lt] at hn
            have h0 : (0 : Int32).toInt = 0 := by decide
            omega
          · rw [Int32.le_iff_toInt_le] at z
            exact z
      · rw [decide_eq_false (by simpa using hz1), if_pos (show bI false = 0 from rfl)]
        rfl
  · right
    rw [hz]
    exact ⟨Or.inl rfl, rfl⟩
end PUB4
