/-! ===== tend, latest, told, the tape, wrong, master, mean ===== -/
/-- the greatest of n numbers, none below 0 -/
def mb9 (f : Nat → Int) : Nat → Int
  | 0 => 0
  | n + 1 => max (mb9 f n) (f n)
theorem mb9_b (f : Nat → Int) (k : Int) (hk : 0 ≤ k) : ∀ n, (∀ i, i < n → f i ≤ k) → 0 ≤ mb9 f n ∧ mb9 f n ≤ k := by
  intro n
  induction n with
  | zero => intro _; exact ⟨Int.le_refl _, hk⟩
  | succ n ih =>
    intro h
    have h1 := ih (fun i hi => h i (by omega))
    have h2 := h n (by omega)
    rw [mb9]
    omega
section PUB3
variable {b : MB} {d : MD} {B : CB} {D : CY} {s : Nat → Int32} {nm : Nat → Int64}
theorem tend_loop (hB : BR b B s nm) (h : DY b d B D s) (N : Nat) (hN : 10 ≤ N) (m j : Nat) (hm : m < b.M) (hj : j < 100) (P Q : Int) (hP : 1000 < P) (hP' : P < 10000000) (hQ : Q < -1000) (hQ' : -10000000 < Q) : ∃ v, f_X11_tend_42 N B.clocks (nI b.M) B.masterCorner D.minute D.stopped D.stood D.ahead B.clockGain D.since B.clockCorner N (nI j) (nI (b.cor m)) (iI (-1)) (iI (-1)) (nI 0) = some v ∧ f_X12_tend_37 N s N (nI m) (nI j) (iI P) (iI Q) (nI 0) (nI 0) = some (v, nI 0) := by
  have c6 := h.C6
  have m6 := h.M6
  have t2 := h.t2
  obtain ⟨g1, g2, g3, -⟩ := hB.2.2.1 m hm
  refine loop2 (F := fun n i (x : Int × Int) => f_X11_tend_42 N B.clocks (nI b.M) B.masterCorner D.minute D.stopped D.stood D.ahead B.clockGain D.since B.clockCorner n (nI j) (nI (b.cor m)) (iI x.1) (iI x.2) (nI i)) (G := fun n i (x : Int × Int) => f_X12_tend_37 N s n (nI m) (nI j) (iI x.1) (iI x.2) (nI i) (nI 0)) (M := b.C) (Post := fun x y => ∃ v, x = some v ∧ y = some (v, nI 0)) (fun _ x y => (x = (-1, -1) ∧ y = (P, Q)) ∨ (x = y ∧ 0 ≤ x.1 ∧ x.1 ≤ x.2 ∧ x.2 ≤ 30)) ?_ ?_ N N 0 (-1, -1) (P, Q) (by omega) (by omega) (by omega) (Or.inl ⟨rfl, rfl⟩)
  · intro n n' i x y hi hI
    left
    obtain ⟨w1, w2⟩ := h.wr N i hi
    have hr := h.rb i hi d.t (Nat.le_refl _)
    have ha := ab9_b (rdd b d i d.t - d.t)
    obtain ⟨q1, q2, q3, -⟩ := hB.2.1 i hi
    rw [iI_nat] at q1 q2
    by_cases hc : ab9 (rdd b d i d.t - d.t) ≤ j
    · refine ⟨x, y, ?_, ?_, hI⟩
      · show f_X11_tend_42 N B.clocks (nI b.M) B.masterCorner D.minute D.stopped D.stood D.ahead B.clockGain D.since B.clockCorner (n + 1) (nI j) (nI (b.cor m)) (iI x.1) (iI x.2) (nI i) = f_X11_tend_42 N B.clocks (nI b.M) B.masterCorner D.minute D.stopped D.stood D.ahead B.clockGain D.since B.clockCorner n (nI j) (nI (b.cor m)) (iI x.1) (iI x.2) (nI (i + 1))
        rw [f_X11_tend_42]
        simp (disch := omega) only [zcl_s, zck_t, zbn_s, lits, m1_iI, ng_n, nI_le_T, nI_le_F, nI_lt_T, nI_lt_F, nI_eq_T, nI_eq_F, nI_1, le_1, le_1r, lt_1, lt_1r, eq_1, nI_add, pk_mul, sb_1, sb_n, cl_n, zi_n, iI_le_T, iI_le_F, iI_lt_T, iI_lt_F, iI_eq_T, iI_eq_F, mx1, mx2, mx3, mx4, mx5, mx6, mx7, mx8, mx9, mx10, iI_add, iI_sub, iI_p1, bI_n0, bI_1, bI_bo, tr_f, fa_f, tr_t, fa_t, if_true, if_false, or_n0, Nat.add_zero, Int.add_zero, h.nC, w1, zab_m]
      · show f_X12_tend_37 N s (n' + 1) (nI m) (nI j) (iI y.1) (iI y.2) (nI i) (nI 0) = f_X12_tend_37 N s n' (nI m) (nI j) (iI y.1) (iI y.2) (nI (i + 1)) (nI 0)
        rw [f_X12_tend_37]
        simp (disch := omega) only [zcl_s, zck_t, zbn_s, lits, m1_iI, ng_n, nI_le_T, nI_le_F, nI_lt_T, nI_lt_F, nI_eq_T, nI_eq_F, nI_1, le_1, le_1r, lt_1, lt_1r, eq_1, nI_add, pk_mul, sb_1, sb_n, cl_n, zi_n, iI_le_T, iI_le_F, iI_lt_T, iI_lt_F, iI_eq_T, iI_eq_F, mx1, mx2, mx3, mx4, mx5, mx6, mx7, mx8, mx9, mx10, iI_add, iI_sub, iI_p1, bI_n0, bI_1, bI_bo, tr_f, fa_f, tr_t, fa_t, if_true, if_false, or_n0, Nat.add_zero, Int.add_zero, h.sC, w2, abs_m]
    · rcases hI with ⟨rfl, rfl⟩ | ⟨rfl, h1, h2, h3⟩
      · refine ⟨(b.ccor i, b.ccor i), (b.ccor i, b.ccor i), ?_, ?_, Or.inr ⟨rfl, by show (0 : Int) ≤ b.ccor i; omega, Int.le_refl _, by show (b.ccor i : Int) ≤ 30; omega⟩⟩
        · show f_X11_tend_42 N B.clocks (nI b.M) B.masterCorner D.minute D.stopped D.stood D.ahead B.clockGain D.since B.clockCorner (n + 1) (nI j) (nI (b.cor m)) (iI (-1)) (iI (-1)) (nI i) = f_X11_tend_42 N B.clocks (nI b.M) B.masterCorner D.minute D.stopped D.stood D.ahead B.clockGain D.since B.clockCorner n (nI j) (nI (b.cor m)) (iI (b.ccor i)) (iI (b.ccor i)) (nI (i + 1))
          rw [f_X11_tend_42]
          simp (disch := omega) only [zcl_s, zck_t, zbn_s, lits, m1_iI, ng_n, nI_le_T, nI_le_F, nI_lt_T, nI_lt_F, nI_eq_T, nI_eq_F, nI_1, le_1, le_1r, lt_1, lt_1r, eq_1, nI_add, pk_mul, sb_1, sb_n, cl_n, zi_n, iI_le_T, iI_le_F, iI_lt_T, iI_lt_F, iI_eq_T, iI_eq_F, mx1, mx2, mx3, mx4, mx5, mx6, mx7, mx8, mx9, mx10, iI_add, iI_sub, iI_p1, bI_n0, bI_1, bI_bo, tr_f, fa_f, tr_t, fa_t, if_true, if_false, or_n0, Nat.add_zero, Int.add_zero, h.nC, w1, zab_m, q1, f_X11_tend_109, zmax_m, show max (-1 : Int) (b.ccor i : Int) = b.ccor i by omega]
        · show f_X12_tend_37 N s (n' + 1) (nI m) (nI j) (iI P) (iI Q) (nI i) (nI 0) = f_X12_tend_37 N s n' (nI m) (nI j) (iI (b.ccor i)) (iI (b.ccor i)) (nI (i + 1)) (nI 0)
          rw [f_X12_tend_37]
          simp (disch := omega) only [zcl_s, zck_t, zbn_s, lits, m1_iI, ng_n, nI_le_T, nI_le_F, nI_lt_T, nI_lt_F, nI_eq_T, nI_eq_F, nI_1, le_1, le_1r, lt_1, lt_1r, eq_1, nI_add, pk_mul, sb_1, sb_n, cl_n, zi_n, iI_le_T, iI_le_F, iI_lt_T, iI_lt_F, iI_eq_T, iI_eq_F, mx1, mx2, mx3, mx4, mx5, mx6, mx7, mx8, mx9, mx10, iI_add, iI_sub, iI_p1, bI_n0, bI_1, bI_bo, tr_f, fa_f, tr_t, fa_t, if_true, if_false, or_n0, Nat.add_zero, Int.add_zero, h.sC, w2, abs_m, q2, lss_m, grt_m, show min P (b.ccor i : Int) = b.ccor i by omega, show max Q (b.ccor i : Int) = b.ccor i by omega]
      · refine ⟨(min x.1 (b.ccor i), max x.2 (b.ccor i)), (min x.1 (b.ccor i), max x.2 (b.ccor i)), ?_, ?_, Or.inr ⟨rfl, by show (0 : Int) ≤ min x.1 (b.ccor i); omega, by show min x.1 (b.ccor i : Int) ≤ max x.2 (b.ccor i); omega, by show max x.2 (b.ccor i : Int) ≤ 30; omega⟩⟩
        · show f_X11_tend_42 N B.clocks (nI b.M) B.masterCorner D.minute D.stopped D.stood D.ahead B.clockGain D.since B.clockCorner (n + 1) (nI j) (nI (b.cor m)) (iI x.1) (iI x.2) (nI i) = f_X11_tend_42 N B.clocks (nI b.M) B.masterCorner D.minute D.stopped D.stood D.ahead B.clockGain D.since B.clockCorner n (nI j) (nI (b.cor m)) (iI (min x.1 (b.ccor i))) (iI (max x.2 (b.ccor i))) (nI (i + 1))
          rw [f_X11_tend_42]
          simp (disch := omega) only [zcl_s, zck_t, zbn_s, lits, m1_iI, ng_n, nI_le_T, nI_le_F, nI_lt_T, nI_lt_F, nI_eq_T, nI_eq_F, nI_1, le_1, le_1r, lt_1, lt_1r, eq_1, nI_add, pk_mul, sb_1, sb_n, cl_n, zi_n, iI_le_T, iI_le_F, iI_lt_T, iI_lt_F, iI_eq_T, iI_eq_F, mx1, mx2, mx3, mx4, mx5, mx6, mx7, mx8, mx9, mx10, iI_add, iI_sub, iI_p1, bI_n0, bI_1, bI_bo, tr_f, fa_f, tr_t, fa_t, if_true, if_false, or_n0, Nat.add_zero, Int.add_zero, h.nC, w1, zab_m, q1, f_X11_tend_109, zmax_m, zmin_m]
        · show f_X12_tend_37 N s (n' + 1) (nI m) (nI j) (iI x.1) (iI x.2) (nI i) (nI 0) = f_X12_tend_37 N s n' (nI m) (nI j) (iI (min x.1 (b.ccor i))) (iI (max x.2 (b.ccor i))) (nI (i + 1)) (nI 0)
          rw [f_X12_tend_37]
          simp (disch := omega) only [zcl_s, zck_t, zbn_s, lits, m1_iI, ng_n, nI_le_T, nI_le_F, nI_lt_T, nI_lt_F, nI_eq_T, nI_eq_F, nI_1, le_1, le_1r, lt_1, lt_1r, eq_1, nI_add, pk_mul, sb_1, sb_n, cl_n, zi_n, iI_le_T, iI_le_F, iI_lt_T, iI_lt_F, iI_eq_T, iI_eq_F, mx1, mx2, mx3, mx4, mx5, mx6, mx7, mx8, mx9, mx10, iI_add, iI_sub, iI_p1, bI_n0, bI_1, bI_bo, tr_f, fa_f, tr_t, fa_t, if_true, if_false, or_n0, Nat.add_zero, Int.add_zero, h.sC, w2, abs_m, q2, lss_m, grt_m]
  · intro n n' x y hI
    rcases hI with ⟨rfl, rfl⟩ | ⟨rfl, h1, h2, h3⟩
    · have e1 : f_X11_tend_42 N B.clocks (nI b.M) B.masterCorner D.minute D.stopped D.stood D.ahead B.clockGain D.since B.clockCorner (n + 1) (nI j) (nI (b.cor m)) (iI (-1)) (iI (-1)) (nI b.C) = some (nI 0) := by
        rw [f_X11_tend_42]
        simp (disch := omega) only [zcl_s, zck_t, zbn_s, lits, m1_iI, ng_n, nI_le_T, nI_le_F, nI_lt_T, nI_lt_F, nI_eq_T, nI_eq_F, nI_1, le_1, le_1r, lt_1, lt_1r, eq_1, nI_add, pk_mul, sb_1, sb_n, cl_n, zi_n, iI_le_T, iI_le_F, iI_lt_T, iI_lt_F, iI_eq_T, iI_eq_F, mx1, mx2, mx3, mx4, mx5, mx6, mx7, mx8, mx9, mx10, iI_add, iI_sub, iI_p1, bI_n0, bI_1, bI_bo, tr_f, fa_f, tr_t, fa_t, if_true, if_false, or_n0, Nat.add_zero, Int.add_zero, h.nC]
      have e2 : f_X12_tend_37 N s (n' + 1) (nI m) (nI j) (iI P) (iI Q) (nI b.C) (nI 0) = some (nI 0, nI 0) := by
        rw [f_X12_tend_37]
        simp (disch := omega) only [zcl_s, zck_t, zbn_s, lits, m1_iI, ng_n, nI_le_T, nI_le_F, nI_lt_T, nI_lt_F, nI_eq_T, nI_eq_F, nI_1, le_1, le_1r, lt_1, lt_1r, eq_1, nI_add, pk_mul, sb_1, sb_n, cl_n, zi_n, iI_le_T, iI_le_F, iI_lt_T, iI_lt_F, iI_eq_T, iI_eq_F, mx1, mx2, mx3, mx4, mx5, mx6, mx7, mx8, mx9, mx10, iI_add, iI_sub, iI_p1, bI_n0, bI_1, bI_bo, tr_f, fa_f, tr_t, fa_t, if_true, if_false, or_n0, Nat.add_zero, Int.add_zero, h.sC]
      exact ⟨_, e1, e2⟩
    · have ha := ab9_b ((b.cor m : Int) - x.1)
      have hb := ab9_b ((b.cor m : Int) - x.2)
      have e1 : f_X11_tend_42 N B.clocks (nI b.M) B.masterCorner D.minute D.stopped D.stood D.ahead B.clockGain D.since B.clockCorner (n + 1) (nI j) (nI (b.cor m)) (iI x.1) (iI x.2) (nI b.C) = some (iI (x.2 - x.1 + min (ab9 ((b.cor m : Int) - x.1)) (ab9 ((b.cor m : Int) - x.2)))) := by
        rw [f_X11_tend_42, h.nC, if_pos (nI_le (Nat.le_refl _) (by omega)), if_neg (show ¬ iI x.1 = -1 from fun z => by have := (iI_eq (b := -1) ⟨by omega, by omega⟩ ⟨by omega, by omega⟩).mp z; omega), mx9, mx9, zab_m (by omega) (by omega), zab_m (by omega) (by omega), zmin_m (by omega) (by omega) (by omega) (by omega), iI_sub, iI_add]
      have e2 : f_X12_tend_37 N s (n' + 1) (nI m) (nI j) (iI x.1) (iI x.2) (nI b.C) (nI 0) = some (iI (x.2 - x.1 + min (ab9 ((b.cor m : Int) - x.1)) (ab9 ((b.cor m : Int) - x.2))), nI 0) := by
        rw [f_X12_tend_37]
        simp (disch := omega) only [zcl_s, zck_t, zbn_s, lits, m1_iI, ng_n, nI_le_T, nI_le_F, nI_lt_T, nI_lt_F, nI_eq_T, nI_eq_F, nI_1, le_1, le_1r, lt_1, lt_1r, eq_1, nI_add, pk_mul, sb_1, sb_n, cl_n, zi_n, iI_le_T, iI_le_F, iI_lt_T, iI_lt_F, iI_eq_T, iI_eq_F, mx1, mx2, mx3, mx4, mx5, mx6, mx7, mx8, mx9, mx10, iI_add, iI_sub, iI_p1, bI_n0, bI_1, bI_bo, tr_f, fa_f, tr_t, fa_t, if_true, if_false, or_n0, Nat.add_zero, Int.add_zero, h.sC, g2, abs_m, lss_m]
      exact ⟨_, e1, e2⟩
theorem tend_ok (hB : BR b B s nm) (h : DY b d B D s) (N : Nat) (hN : 10 ≤ N) (x0 x1 th : Int32) : ∃ v, f_X11_tend N x0 x1 B.clocks B.masters B.masterCorner D.minute D.stopped D.stood D.ahead B.clockGain D.since B.clockCorner = some v ∧ f_X12_tend N x0 x1 th s = some (v, 0) := by
  have c6 := h.C6
  have m6 := h.M6
  have t2 := h.t2
  unfold f_X11_tend f_X12_tend
  rw [h.nM, X11_isMaster_ok N x0 (n := b.M) (by omega), X12_isMaster_ok N x0 h.sM (by omega), zcl_s, zcl_s]
  rcases zin_cases x0 (n := b.M) (by omega) with ⟨hz, m, hm, rfl⟩ | hz
  · rw [hz]
    rcases small x1 100 (by omega) with ⟨j, hj, rfl⟩ | ⟨h5, hne⟩
    · obtain ⟨g1, g2, g3, -⟩ := hB.2.2.1 m hm
      rw [if_neg (show ¬ bI true = 0 by decide), if_neg (show ¬ bI true = 0 by decide), show (0 : Int32) = nI 0 from rfl, show (99 : Int32) = nI 99 from rfl, X12_isIn_lit N (nI j) (a := 0) (c := 99) (by omega) (by omega), nI_toInt (by omega), decide_eq_true (by omega), zcl_s, if_neg (show ¬ bI true = nI 0 by decide), if_neg (nI_nlt (Nat.zero_le j) (by omega)), if_pos (nI_le (show j ≤ 99 by omega) (by omega)), zin_nI (show m < 6 by omega) (by omega), zck_t, nI_clamp' (show m < 2147483648 by omega), g1, zbn_s, show (1000000 : Int32) = iI 1000000 by decide +kernel, show -iI 1000000 = iI (-1000000) from iI_neg 1000000]
      exact tend_loop hB h N hN m j hm hj 1000000 (-1000000) (by omega) (by omega) (by omega) (by omega)
    · have hz1 : ¬ (0 ≤ x1.toInt ∧ x1.toInt ≤ 99) := by
        unfold zin at h5
        rw [decide_eq_false_iff_not] at h5
        omega
      refine ⟨-1, ?_, ?_⟩
      · rw [if_neg (show ¬ bI true = 0 by decide)]
        by_cases hn : x1 < 0
        · rw [if_pos hn]
        · rw [if_neg hn, if_neg (fun z => hz1 ⟨by have := hn; rw [Int32.lt_iff_toInt_lt] at this; have h0 : (0 : Int32).toInt = 0 := by decide
                                                  omega, by rw [Int32.le_iff_toInt_le] at z; exact z⟩)]
      · rw [if_neg (show ¬ bI true = 0 by decide), show (0 : Int32) = nI 0 from rfl, show (99 : Int32) = nI 99 from rfl, X12_isIn_lit N x1 (a := 0) (c := 99) (by omega) (by omega), decide_eq_false (by simpa using hz1), zcl_s]
        rfl
  · rw [hz]
    exact ⟨_, if_pos rfl, if_pos rfl⟩
theorem DY.mob (h : DY b d B D s) (N m : Nat) (hN : 10 ≤ N) (hm : m < b.M) : f_X3_mostBehind N (nI m) B.meets D.came D.due = some (iI (mb9 (fun e => lat9 (d.du e) (d.x.2.2 m e)) b.T)) := by
  have t6 := h.T6
  rw [h.nT]
  refine loopV (F := fun n i v => f_X3_mostBehind_4 N (nI b.T) D.came D.due n (nI m) v (nI i)) (M := b.T) (fun i => iI (mb9 (fun e => lat9 (d.du e) (d.x.2.2 m e)) i)) _ ?_ ?_ N 0 (Nat.zero_le _) (by omega)
  · intro n i hi
    obtain ⟨g1, g2, g3⟩ := h.bhd N m i hm hi
    have hb := mb9_b (fun e => lat9 (d.du e) (d.x.2.2 m e)) 2000 (by omega) i (fun e he => (h.bhd N m e hm (by omega)).2.2)
    show f_X3_mostBehind_4 N (nI b.T) D.came D.due (n + 1) (nI m) _ (nI i) = f_X3_mostBehind_4 N (nI b.T) D.came D.due n (nI m) _ (nI (i + 1))
    rw [f_X3_mostBehind_4]
    simp (disch := omega) only [zcl_s, zck_t, zbn_s, lits, m1_iI, ng_n, nI_le_T, nI_le_F, nI_lt_T, nI_lt_F, nI_eq_T, nI_eq_F, nI_1, le_1, le_1r, lt_1, lt_1r, eq_1, nI_add, pk_mul, sb_1, sb_n, cl_n, zi_n, iI_le_T, iI_le_F, iI_lt_T, iI_lt_F, iI_eq_T, iI_eq_F, mx1, mx2, mx3, mx4, mx5, mx6, mx7, mx8, mx9, mx10, iI_add, iI_sub, iI_p1, bI_n0, bI_1, bI_bo, tr_f, fa_f, tr_t, fa_t, if_true, if_false, or_n0, Nat.add_zero, Int.add_zero, g1, zmax_m, mb9]
  · intro n
    show f_X3_mostBehind_4 N (nI b.T) D.came D.due (n + 1) (nI m) _ (nI b.T) = _
    rw [f_X3_mostBehind_4]
    simp (disch := omega) only [zcl_s, zck_t, zbn_s, lits, m1_iI, ng_n, nI_le_T, nI_le_F, nI_lt_T, nI_lt_F, nI_eq_T, nI_eq_F, nI_1, le_1, le_1r, lt_1, lt_1r, eq_1, nI_add, pk_mul, sb_1, sb_n, cl_n, zi_n, iI_le_T, iI_le_F, iI_lt_T, iI_lt_F, iI_eq_T, iI_eq_F, mx1, mx2, mx3, mx4, mx5, mx6, mx7, mx8, mx9, mx10, iI_add, iI_sub, iI_p1, bI_n0, bI_1, bI_bo, tr_f, fa_f, tr_t, fa_t, if_true, if_false, or_n0, Nat.add_zero, Int.add_zero]
theorem DY.mor (h : DY b d B D s) (N m : Nat) (hN : 10 ≤ N) (hm : m < b.M) (k : Int32 → Int32 → Int32 → Int32 → Int32 → Option (Int32 × Int32 × Int32)) (best : Int32) (most : Int) (h0 : 0 ≤ most) (h1 : most ≤ 2000) (th lm : Int32) : f_X12_latest_24 N s k N best (iI most) (nI m) (nI 0) th lm = k (if mb9 (fun e => lat9 (d.du e) (d.x.2.2 m e)) b.T ≤ most then best else nI m) (iI (max most (mb9 (fun e => lat9 (d.du e) (d.x.2.2 m e)) b.T))) (nI (m + 1)) th lm := by
  have t6 := h.T6
  have m6 := h.M6
  have e0 : f_X12_latest_24 N s k N best (iI most) (nI m) (nI 0) th lm = (fun n i (x : Int32 × Int) => f_X12_latest_24 N s k n x.1 (iI x.2) (nI m) (nI i) th lm) N 0 ((fun i => ((if mb9 (fun e => lat9 (d.du e) (d.x.2.2 m e)) i ≤ most then best else nI m), max most (mb9 (fun e => lat9 (d.du e) (d.x.2.2 m e)) i))) 0) := by
    show _ = f_X12_latest_24 N s k N (if (0 : Int) ≤ most then best else nI m) (iI (max most 0)) (nI m) (nI 0) th lm
    rw [if_pos h0, show max most (0 : Int) = most by omega]
  rw [e0]
  refine loopV (F := fun n i (x : Int32 × Int) => f_X12_latest_24 N s k n x.1 (iI x.2) (nI m) (nI i) th lm) (M := b.T) (fun i => ((if mb9 (fun e => lat9 (d.du e) (d.x.2.2 m e)) i ≤ most then best else nI m), max most (mb9 (fun e => lat9 (d.du e) (d.x.2.2 m e)) i))) _ ?_ ?_ N 0 (Nat.zero_le _) (by omega)
  · intro n i hi
    obtain ⟨-, g2, g3⟩ := h.bhd N m i hm hi
    obtain ⟨-, c2, c3⟩ := h.cf hm hi
    obtain ⟨-, u2, u3, u4⟩ := h.du9 hi
    rw [← Nat.add_assoc] at c2
    have hb := mb9_b (fun e => lat9 (d.du e) (d.x.2.2 m e)) 2000 (by omega) i (fun e he => (h.bhd N m e hm (by omega)).2.2)
    show f_X12_latest_24 N s k (n + 1) (if mb9 (fun e => lat9 (d.du e) (d.x.2.2 m e)) i ≤ most then best else nI m) (iI (max most (mb9 (fun e => lat9 (d.du e) (d.x.2.2 m e)) i))) (nI m) (nI i) th lm = f_X12_latest_24 N s k n (if max (mb9 (fun e => lat9 (d.du e) (d.x.2.2 m e)) i) (lat9 (d.du i) (d.x.2.2 m i)) ≤ most then best else nI m) (iI (max most (max (mb9 (fun e => lat9 (d.du e) (d.x.2.2 m e)) i) (lat9 (d.du i) (d.x.2.2 m i))))) (nI m) (nI (i + 1)) th lm
    generalize hq : mb9 (fun e => lat9 (d.du e) (d.x.2.2 m e)) i = q at hb ⊢
    rw [f_X12_latest_24]
    simp (disch := omega) only [zcl_s, zck_t, zbn_s, lits, m1_iI, ng_n, nI_le_T, nI_le_F, nI_lt_T, nI_lt_F, nI_eq_T, nI_eq_F, nI_1, le_1, le_1r, lt_1, lt_1r, eq_1, nI_add, pk_mul, sb_1, sb_n, cl_n, zi_n, iI_le_T, iI_le_F, iI_lt_T, iI_lt_F, iI_eq_T, iI_eq_F, mx1, mx2, mx3, mx4, mx5, mx6, mx7, mx8, mx9, mx10, iI_add, iI_sub, iI_p1, bI_n0, bI_1, bI_bo, tr_f, fa_f, tr_t, fa_t, if_true, if_false, or_n0, Nat.add_zero, Int.add_zero, h.sT, c2]
    cases ho : d.x.2.2 m i with
    | none =>
      simp (disch := omega) only [zcl_s, zck_t, zbn_s, lits, m1_iI, ng_n, nI_le_T, nI_le_F, nI_lt_T, nI_lt_F, nI_eq_T, nI_eq_F, nI_1, le_1, le_1r, lt_1, lt_1r, eq_1, nI_add, pk_mul, sb_1, sb_n, cl_n, zi_n, iI_le_T, iI_le_F, iI_lt_T, iI_lt_F, iI_eq_T, iI_eq_F, mx1, mx2, mx3, mx4, mx5, mx6, mx7, mx8, mx9, mx10, iI_add, iI_sub, iI_p1, bI_n0, bI_1, bI_bo, tr_f, fa_f, tr_t, fa_t, if_true, if_false, or_n0, Nat.add_zero, Int.add_zero, oJ_n, f_X12_latest_85, lat9, show max q (0 : Int) = q by omega]
    | some u =>
      have hu := c3 u ho
      rw [ho] at g2 g3
      simp (disch := omega) only [zcl_s, zck_t, zbn_s, lits, m1_iI, ng_n, nI_le_T, nI_le_F, nI_lt_T, nI_lt_F, nI_eq_T, nI_eq_F, nI_1, le_1, le_1r, lt_1, lt_1r, eq_1, nI_add, pk_mul, sb_1, sb_n, cl_n, zi_n, iI_le_T, iI_le_F, iI_lt_T, iI_lt_F, iI_eq_T, iI_eq_F, mx1, mx2, mx3, mx4, mx5, mx6, mx7, mx8, mx9, mx10, iI_add, iI_sub, iI_p1, bI_n0, bI_1, bI_bo, tr_f, fa_f, tr_t, fa_t, if_true, if_false, or_n0, Nat.add_zero, Int.add_zero, oJ_s, u2, f_X12_latest_85, Nat.add_sub_cancel]
      by_cases hc : max most q < (u : Int) - d.du i
      · have e1 : lat9 (d.du i) (some u) = (u : Int) - d.du i := by unfold lat9; exact if_neg (by omega)
        rw [e1]
        simp (disch := omega) only [zcl_s, zck_t, zbn_s, lits, m1_iI, ng_n, nI_le_T, nI_le_F, nI_lt_T, nI_lt_F, nI_eq_T, nI_eq_F, nI_1, le_1, le_1r, lt_1, lt_1r, eq_1, nI_add, pk_mul, sb_1, sb_n, cl_n, zi_n, iI_le_T, iI_le_F, iI_lt_T, iI_lt_F, iI_eq_T, iI_eq_F, mx1, mx2, mx3, mx4, mx5, mx6, mx7, mx8, mx9, mx10, iI_add, iI_sub, iI_p1, bI_n0, bI_1, bI_bo, tr_f, fa_f, tr_t, fa_t, if_true, if_false, or_n0, Nat.add_zero, Int.add_zero, show max q ((u : Int) - d.du i) = u - d.du i by omega, show max most ((u : Int) - d.du i) = u - d.du i by omega]
        rw [if_neg (show ¬ ((u : Int) - d.du i ≤ most) by omega)]
      · have e1 : max q (lat9 (d.du i) (some u)) ≤ most ↔ q ≤ most := by
          unfold lat9
          show max q (if (u : Int) - d.du i < 0 then 0 else u - d.du i) ≤ most ↔ q ≤ most
          split <;> omega
        have e2 : max most (max q (lat9 (d.du i) (some u))) = max most q := by
          unfold lat9
          show max most (max q (if (u : Int) - d.du i < 0 then 0 else u - d.du i)) = max most q
          split <;> omega
        simp (disch := omega) only [zcl_s, zck_t, zbn_s, lits, m1_iI, ng_n, nI_le_T, nI_le_F, nI_lt_T, nI_lt_F, nI_eq_T, nI_eq_F, nI_1, le_1, le_1r, lt_1, lt_1r, eq_1, nI_add, pk_mul, sb_1, sb_n, cl_n, zi_n, iI_le_T, iI_le_F, iI_lt_T, iI_lt_F, iI_eq_T, iI_eq_F, mx1, mx2, mx3, mx4, mx5, mx6, mx7, mx8, mx9, mx10, iI_add, iI_sub, iI_p1, bI_n0, bI_1, bI_bo, tr_f, fa_f, tr_t, fa_t, if_true, if_false, or_n0, Nat.add_zero, Int.add_zero, e1, e2]
  · intro n
    show f_X12_latest_24 N s k (n + 1) _ _ (nI m) (nI b.T) th lm = _
    rw [f_X12_latest_24]
    simp (disch := omega) only [zcl_s, zck_t, zbn_s, lits, m1_iI, ng_n, nI_le_T, nI_le_F, nI_lt_T, nI_lt_F, nI_eq_T, nI_eq_F, nI_1, le_1, le_1r, lt_1, lt_1r, eq_1, nI_add, pk_mul, sb_1, sb_n, cl_n, zi_n, iI_le_T, iI_le_F, iI_lt_T, iI_lt_F, iI_eq_T, iI_eq_F, mx1, mx2, mx3, mx4, mx5, mx6, mx7, mx8, mx9, mx10, iI_add, iI_sub, iI_p1, bI_n0, bI_1, bI_bo, tr_f, fa_f, tr_t, fa_t, if_true, if_false, or_n0, Nat.add_zero, Int.add_zero, h.sT]
theorem latest_ok (h : DY b d B D s) (N : Nat) (hN : 10 ≤ N) (th lm : Int32) : ∃ v l', f_X11_latest N lm B.masters B.meets D.came D.due = some (v, l') ∧ f_X12_latest N th lm s = some (v, 0, l') := by
  have m6 := h.M6
  refine loop2 (F := fun n i (x : Int × Int) => f_X11_latest_6 N B.masters B.meets D.came D.due n (iI x.1) (iI x.2) (nI i) lm) (G := fun n i (x : Int × Int) => f_X12_latest_11 N s n (iI x.1) (iI x.2) (nI i) (nI 0) lm) (M := b.M) (Post := fun x y => ∃ v l', x = some (v, l') ∧ y = some (v, nI 0, l')) (fun _ x y => x = y ∧ -1 ≤ x.1 ∧ x.1 < 6 ∧ 0 ≤ x.2 ∧ x.2 ≤ 2000) ?_ ?_ N N 0 (-1, 0) (-1, 0) (by omega) (by omega) (by omega) ⟨rfl, by decide, by decide, by decide, by decide⟩
  · intro n n' i x y hi ⟨e, h1, h2, h3, h4⟩
    subst e
    left
    have hb := mb9_b (fun e => lat9 (d.du e) (d.x.2.2 i e)) 2000 (by omega) b.T (fun e he => (h.bhd N i e hi he).2.2)
    have r1 := h.mob N i hN hi
    have r2 := h.mor N i hN hi (f_X12_latest_11 N s n') (iI x.1) x.2 h3 h4 (nI 0) lm
    generalize hq : mb9 (fun e => lat9 (d.du e) (d.x.2.2 i e)) b.T = q at hb r1 r2
    by_cases hc : q ≤ x.2
    · refine ⟨x, x, ?_, ?_, rfl, h1, h2, h3, h4⟩
      · show f_X11_latest_6 N B.masters B.meets D.came D.due (n + 1) (iI x.1) (iI x.2) (nI i) lm = f_X11_latest_6 N B.masters B.meets D.came D.due n (iI x.1) (iI x.2) (nI (i + 1)) lm
        rw [f_X11_latest_6]
        simp (disch := omega) only [zcl_s, zck_t, zbn_s, lits, m1_iI, ng_n, nI_le_T, nI_le_F, nI_lt_T, nI_lt_F, nI_eq_T, nI_eq_F, nI_1, le_1, le_1r, lt_1, lt_1r, eq_1, nI_add, pk_mul, sb_1, sb_n, cl_n, zi_n, iI_le_T, iI_le_F, iI_lt_T, iI_lt_F, iI_eq_T, iI_eq_F, mx1, mx2, mx3, mx4, mx5, mx6, mx7, mx8, mx9, mx10, iI_add, iI_sub, iI_p1, bI_n0, bI_1, bI_bo, tr_f, fa_f, tr_t, fa_t, if_true, if_false, or_n0, Nat.add_zero, Int.add_zero, h.nM, r1]
      · show f_X12_latest_11 N s (n' + 1) (iI x.1) (iI x.2) (nI i) (nI 0) lm = f_X12_latest_11 N s n' (iI x.1) (iI x.2) (nI (i + 1)) (nI 0) lm
        rw [f_X12_latest_11]
        simp (disch := omega) only [zcl_s, zck_t, zbn_s, lits, m1_iI, ng_n, nI_le_T, nI_le_F, nI_lt_T, nI_lt_F, nI_eq_T, nI_eq_F, nI_1, le_1, le_1r, lt_1, lt_1r, eq_1, nI_add, pk_mul, sb_1, sb_n, cl_n, zi_n, iI_le_T, iI_le_F, iI_lt_T, iI_lt_F, iI_eq_T, iI_eq_F, mx1, mx2, mx3, mx4, mx5, mx6, mx7, mx8, mx9, mx10, iI_add, iI_sub, iI_p1, bI_n0, bI_1, bI_bo, tr_f, fa_f, tr_t, fa_t, if_true, if_false, or_n0, Nat.add_zero, Int.add_zero, h.sM, r2, show max x.2 q = x.2 by omega]
        rw [if_pos hc]
    · refine ⟨(i, q), (i, q), ?_, ?_, rfl, by show (-1 : Int) ≤ i; omega, by show (i : Int) < 6; omega, hb.1, hb.2⟩
      · show f_X11_latest_6 N B.masters B.meets D.came D.due (n + 1) (iI x.1) (iI x.2) (nI i) lm = f_X11_latest_6 N B.masters B.meets D.came D.due n (iI (i : Int)) (iI q) (nI (i + 1)) lm
        rw [f_X11_latest_6, ← iI_nat]
        simp (disch := omega) only [zcl_s, zck_t, zbn_s, lits, m1_iI, ng_n, nI_le_T, nI_le_F, nI_lt_T, nI_lt_F, nI_eq_T, nI_eq_F, nI_1, le_1, le_1r, lt_1, lt_1r, eq_1, nI_add, pk_mul, sb_1, sb_n, cl_n, zi_n, iI_le_T, iI_le_F, iI_lt_T, iI_lt_F, iI_eq_T, iI_eq_F, mx1, mx2, mx3, mx4, mx5, mx6, mx7, mx8, mx9, mx10, iI_add, iI_sub, iI_p1, bI_n0, bI_1, bI_bo, tr_f, fa_f, tr_t, fa_t, if_true, if_false, or_n0, Nat.add_zero, Int.add_zero, h.nM, r1]
      · show f_X12_latest_11 N s (n' + 1) (iI x.1) (iI x.2) (nI i) (nI 0) lm = f_X12_latest_11 N s n' (iI (i : Int)) (iI q) (nI (i + 1)) (nI 0) lm
        rw [f_X12_latest_11, ← iI_nat]
        simp (disch := omega) only [zcl_s, zck_t, zbn_s, lits, m1_iI, ng_n, nI_le_T, nI_le_F, nI_lt_T, nI_lt_F, nI_eq_T, nI_eq_F, nI_1, le_1, le_1r, lt_1, lt_1r, eq_1, nI_add, pk_mul, sb_1, sb_n, cl_n, zi_n, iI_le_T, iI_le_F, iI_lt_T, iI_lt_F, iI_eq_T, iI_eq_F, mx1, mx2, mx3, mx4, mx5, mx6, mx7, mx8, mx9, mx10, iI_add, iI_sub, iI_p1, bI_n0, bI_1, bI_bo, tr_f, fa_f, tr_t, fa_t, if_true, if_false, or_n0, Nat.add_zero, Int.add_zero, h.sM, r2, show max x.2 q = q by omega]
        rw [if_neg hc]
  · intro n n' x y ⟨e, h1, h2, h3, h4⟩
    subst e
    show ∃ v l', f_X11_latest_6 N B.masters B.meets D.came D.due (n + 1) (iI x.1) (iI x.2) (nI b.M) lm = some (v, l') ∧ f_X12_latest_11 N s (n' + 1) (iI x.1) (iI x.2) (nI b.M) (nI 0) lm = some (v, nI 0, l')
    rw [f_X11_latest_6, f_X12_latest_11]
    by_cases hc : x.1 = -1
    · rw [hc]
      simp (disch := omega) only [zcl_s, zck_t, zbn_s, lits, m1_iI, ng_n, nI_le_T, nI_le_F, nI_lt_T, nI_lt_F, nI_eq_T, nI_eq_F, nI_1, le_1, le_1r, lt_1, lt_1r, eq_1, nI_add, pk_mul, sb_1, sb_n, cl_n, zi_n, iI_le_T, iI_le_F, iI_lt_T, iI_lt_F, iI_eq_T, iI_eq_F, mx1, mx2, mx3, mx4, mx5, mx6, mx7, mx8, mx9, mx10, iI_add, iI_sub, iI_p1, bI_n0, bI_1, bI_bo, tr_f, fa_f, tr_t, fa_t, if_true, if_false, or_n0, Nat.add_zero, Int.add_zero, h.nM, h.sM]
      exact ⟨_, _, rfl, rfl⟩
    · simp (disch := omega) only [zcl_s, zck_t, zbn_s, lits, m1_iI, ng_n, nI_le_T, nI_le_F, nI_lt_T, nI_lt_F, nI_eq_T, nI_eq_F, nI_1, le_1, le_1r, lt_1, lt_1r, eq_1, nI_add, pk_mul, sb_1, sb_n, cl_n, zi_n, iI_le_T, iI_le_F, iI_lt_T, iI_lt_F, iI_eq_T, iI_eq_F, mx1, mx2, mx3, mx4, mx5, mx6, mx7, mx8, mx9, mx10, iI_add, iI_sub, iI_p1, bI_n0, bI_1, bI_bo, tr_f, fa_f, tr_t, fa_t, if_true, if_false, or_n0, Nat.add_zero, Int.add_zero, h.nM, h.sM]
      exact ⟨_, _, rfl, rfl⟩
end PUB3
