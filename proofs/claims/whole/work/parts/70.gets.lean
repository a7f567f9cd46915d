/-! ===== loops over masters, meets, clocks ===== -/
section GETS
variable {b : MB} {d : MD} {B : CB} {D : CY} {s : Nat → Int32}
theorem DY.mIn (h : DY b d B D s) (N m : Nat) (hN : 10 ≤ N) (hm : m < b.M) : f_X3_meetsIn N (nI m) B.meets D.left = some (bmk (fun e => (d.x.2.1 m e).isSome) b.T) ∧ f_X3_meetsIn N (nI m) B.meets D.came = some (bmk (fun e => (d.x.2.2 m e).isSome) b.T) ∧ f_X12_meetsOf N (nI 81) (nI m) s = some (bmk (fun e => (d.x.2.1 m e).isSome) b.T) ∧ f_X12_meetsOf N (nI 117) (nI m) s = some (bmk (fun e => (d.x.2.2 m e).isSome) b.T) := by
  have h1 := h.T6
  have h2 := h.M6
  rw [h.nT]
  exact ⟨X3_meetsIn_ok N m D.left (fun e => d.x.2.1 m e) hN h1 (by omega) (fun e he u hu => by have := (h.lf hm he).2.2 u hu; omega) (fun e he => (h.lf hm he).1), X3_meetsIn_ok N m D.came (fun e => d.x.2.2 m e) hN h1 (by omega) (fun e he u hu => by have := (h.cf hm he).2.2 u hu; omega) (fun e he => (h.cf hm he).1), X12_meetsOf_ok N 81 m s (fun e => d.x.2.1 m e) hN h1 (by omega) (by omega) (fun e he u hu => by have := (h.lf hm he).2.2 u hu; omega) h.sT (fun e he => (h.lf hm he).2.1), X12_meetsOf_ok N 117 m s (fun e => d.x.2.2 m e) hN h1 (by omega) (by omega) (fun e he u hu => by have := (h.cf hm he).2.2 u hu; omega) h.sT (fun e he => (h.cf hm he).2.1)⟩
theorem DY.sIn (h : DY b d B D s) (N e : Nat) (hN : 10 ≤ N) (he : e < b.T) : f_X3_mastersIn N (nI e) B.masters D.left = some (bmk (fun m => (d.x.2.1 m e).isSome) b.M) ∧ f_X3_mastersIn N (nI e) B.masters D.came = some (bmk (fun m => (d.x.2.2 m e).isSome) b.M) ∧ f_X12_rowOf N (nI 81) (nI e) s = some (bmk (fun m => (d.x.2.1 m e).isSome) b.M) ∧ f_X12_rowOf N (nI 117) (nI e) s = some (bmk (fun m => (d.x.2.2 m e).isSome) b.M) := by
  have h1 := h.T6
  have h2 := h.M6
  rw [h.nM]
  exact ⟨X3_mastersIn_ok N e D.left (fun m => d.x.2.1 m e) hN h2 (by omega) (fun m hm u hu => by have := (h.lf hm he).2.2 u hu; omega) (fun m hm => (h.lf hm he).1), X3_mastersIn_ok N e D.came (fun m => d.x.2.2 m e) hN h2 (by omega) (fun m hm u hu => by have := (h.cf hm he).2.2 u hu; omega) (fun m hm => (h.cf hm he).1), X12_rowOf_ok N 81 e s (fun m => d.x.2.1 m e) hN h2 (by omega) (by omega) (fun m hm u hu => by have := (h.lf hm he).2.2 u hu; omega) h.sM (fun m hm => (h.lf hm he).2.1), X12_rowOf_ok N 117 e s (fun m => d.x.2.2 m e) hN h2 (by omega) (by omega) (fun m hm u hu => by have := (h.cf hm he).2.2 u hu; omega) h.sM (fun m hm => (h.cf hm he).2.1)⟩
theorem DY.sTo (h : DY b d B D s) (N e : Nat) (hN : 10 ≤ N) (he : e < b.T) : f_X1_mastersTo N (nI e) B.masters B.masterMeets = some (bmk (fun m => b.toC m e) b.M) := by
  have h2 := h.M6
  rw [h.nM]
  refine loopV (F := fun n i v => f_X1_mastersTo_4 N (nI b.M) B.masterMeets n (nI e) v (nI i)) (M := b.M) (fun i => bmk (fun m => b.toC m e) i) _ ?_ ?_ N 0 (Nat.zero_le _) (by omega)
  · intro n i hi
    show f_X1_mastersTo_4 N (nI b.M) B.masterMeets (n + 1) (nI e) _ (nI i) = _
    rw [f_X1_mastersTo_4]
    simp (disch := omega) only [zcl_s, zck_t, zbn_s, lits, m1_iI, ng_n, nI_le_T, nI_le_F, nI_lt_T, nI_lt_F, nI_eq_T, nI_eq_F, nI_1, le_1, le_1r, lt_1, lt_1r, eq_1, nI_add, pk_mul, sb_1, sb_n, cl_n, zi_n, iI_le_T, iI_le_F, iI_lt_T, iI_lt_F, iI_eq_T, iI_eq_F, mx1, mx2, mx3, mx4, mx5, mx6, mx7, mx8, mx9, mx10, iI_add, iI_sub, iI_p1, bI_n0, bI_1, bI_bo, tr_f, fa_f, tr_t, fa_t, if_true, if_false, or_n0, Nat.add_zero, Int.add_zero, (h.tc N i e hi he).1]
    cases ho : b.toC i e with
    | false => simp (disch := omega) only [zcl_s, zck_t, zbn_s, lits, m1_iI, ng_n, nI_le_T, nI_le_F, nI_lt_T, nI_lt_F, nI_eq_T, nI_eq_F, nI_1, le_1, le_1r, lt_1, lt_1r, eq_1, nI_add, pk_mul, sb_1, sb_n, cl_n, zi_n, iI_le_T, iI_le_F, iI_lt_T, iI_lt_F, iI_eq_T, iI_eq_F, mx1, mx2, mx3, mx4, mx5, mx6, mx7, mx8, mx9, mx10, iI_add, iI_sub, iI_p1, bI_n0, bI_1, bI_bo, tr_f, fa_f, tr_t, fa_t, if_true, if_false, or_n0, Nat.add_zero, Int.add_zero, bmk_f (P := fun m => b.toC m e) (n := i) ho]
    | true => simp (disch := omega) only [zcl_s, zck_t, zbn_s, lits, m1_iI, ng_n, nI_le_T, nI_le_F, nI_lt_T, nI_lt_F, nI_eq_T, nI_eq_F, nI_1, le_1, le_1r, lt_1, lt_1r, eq_1, nI_add, pk_mul, sb_1, sb_n, cl_n, zi_n, iI_le_T, iI_le_F, iI_lt_T, iI_lt_F, iI_eq_T, iI_eq_F, mx1, mx2, mx3, mx4, mx5, mx6, mx7, mx8, mx9, mx10, iI_add, iI_sub, iI_p1, bI_n0, bI_1, bI_bo, tr_f, fa_f, tr_t, fa_t, if_true, if_false, or_n0, Nat.add_zero, Int.add_zero, bmk_t (P := fun m => b.toC m e) (n := i) ho]
  · intro n
    show f_X1_mastersTo_4 N (nI b.M) B.masterMeets (n + 1) (nI e) _ (nI b.M) = _
    rw [f_X1_mastersTo_4]
    simp (disch := omega) only [zcl_s, zck_t, zbn_s, lits, m1_iI, ng_n, nI_le_T, nI_le_F, nI_lt_T, nI_lt_F, nI_eq_T, nI_eq_F, nI_1, le_1, le_1r, lt_1, lt_1r, eq_1, nI_add, pk_mul, sb_1, sb_n, cl_n, zi_n, iI_le_T, iI_le_F, iI_lt_T, iI_lt_F, iI_eq_T, iI_eq_F, mx1, mx2, mx3, mx4, mx5, mx6, mx7, mx8, mx9, mx10, iI_add, iI_sub, iI_p1, bI_n0, bI_1, bI_bo, tr_f, fa_f, tr_t, fa_t, if_true, if_false, or_n0, Nat.add_zero, Int.add_zero]
theorem DY.toc (h : DY b d B D s) (N m : Nat) (hN : 10 ≤ N) (hm : m < b.M) : f_X12_toCome N (nI m) s = some (bmk (fun e => b.toC m e) b.T) := by
  have h2 := h.T6
  refine loopV (F := fun n i v => f_X12_toCome_4 N s n (nI m) v (nI i)) (M := b.T) (fun i => bmk (fun e => b.toC m e) i) _ ?_ ?_ N 0 (Nat.zero_le _) (by omega)
  · intro n i hi
    show f_X12_toCome_4 N s (n + 1) (nI m) _ (nI i) = _
    rw [f_X12_toCome_4]
    simp (disch := omega) only [zcl_s, zck_t, zbn_s, lits, m1_iI, ng_n, nI_le_T, nI_le_F, nI_lt_T, nI_lt_F, nI_eq_T, nI_eq_F, nI_1, le_1, le_1r, lt_1, lt_1r, eq_1, nI_add, pk_mul, sb_1, sb_n, cl_n, zi_n, iI_le_T, iI_le_F, iI_lt_T, iI_lt_F, iI_eq_T, iI_eq_F, mx1, mx2, mx3, mx4, mx5, mx6, mx7, mx8, mx9, mx10, iI_add, iI_sub, iI_p1, bI_n0, bI_1, bI_bo, tr_f, fa_f, tr_t, fa_t, if_true, if_false, or_n0, Nat.add_zero, Int.add_zero, (h.tc N m i hm hi).2, h.sT, f_X12_toCome_31]
    cases ho : b.toC m i with
    | false => simp (disch := omega) only [zcl_s, zck_t, zbn_s, lits, m1_iI, ng_n, nI_le_T, nI_le_F, nI_lt_T, nI_lt_F, nI_eq_T, nI_eq_F, nI_1, le_1, le_1r, lt_1, lt_1r, eq_1, nI_add, pk_mul, sb_1, sb_n, cl_n, zi_n, iI_le_T, iI_le_F, iI_lt_T, iI_lt_F, iI_eq_T, iI_eq_F, mx1, mx2, mx3, mx4, mx5, mx6, mx7, mx8, mx9, mx10, iI_add, iI_sub, iI_p1, bI_n0, bI_1, bI_bo, tr_f, fa_f, tr_t, fa_t, if_true, if_false, or_n0, Nat.add_zero, Int.add_zero, bmk_f (P := fun e => b.toC m e) (n := i) ho]
    | true => simp (disch := omega) only [zcl_s, zck_t, zbn_s, lits, m1_iI, ng_n, nI_le_T, nI_le_F, nI_lt_T, nI_lt_F, nI_eq_T, nI_eq_F, nI_1, le_1, le_1r, lt_1, lt_1r, eq_1, nI_add, pk_mul, sb_1, sb_n, cl_n, zi_n, iI_le_T, iI_le_F, iI_lt_T, iI_lt_F, iI_eq_T, iI_eq_F, mx1, mx2, mx3, mx4, mx5, mx6, mx7, mx8, mx9, mx10, iI_add, iI_sub, iI_p1, bI_n0, bI_1, bI_bo, tr_f, fa_f, tr_t, fa_t, if_true, if_false, or_n0, Nat.add_zero, Int.add_zero, bmk_t (P := fun e => b.toC m e) (n := i) ho]
  · intro n
    show f_X12_toCome_4 N s (n + 1) (nI m) _ (nI b.T) = _
    rw [f_X12_toCome_4]
    simp (disch := omega) only [zcl_s, zck_t, zbn_s, lits, m1_iI, ng_n, nI_le_T, nI_le_F, nI_lt_T, nI_lt_F, nI_eq_T, nI_eq_F, nI_1, le_1, le_1r, lt_1, lt_1r, eq_1, nI_add, pk_mul, sb_1, sb_n, cl_n, zi_n, iI_le_T, iI_le_F, iI_lt_T, iI_lt_F, iI_eq_T, iI_eq_F, mx1, mx2, mx3, mx4, mx5, mx6, mx7, mx8, mx9, mx10, iI_add, iI_sub, iI_p1, bI_n0, bI_1, bI_bo, tr_f, fa_f, tr_t, fa_t, if_true, if_false, or_n0, Nat.add_zero, Int.add_zero, h.sT]
theorem DY.rgc (h : DY b d B D s) (N : Nat) (hN : 10 ≤ N) : f_X3_rightClocks N D.minute D.stopped B.clocks D.stood D.ahead B.clockGain D.since = some (bmk (fun c => decide (rdd b d c d.t = d.t)) b.C) := by
  have h2 := h.C6
  have ht := h.t2
  rw [h.nC]
  refine loopV (F := fun n i v => f_X3_rightClocks_4 N D.minute D.stopped (nI b.C) D.stood D.ahead B.clockGain D.since n v (nI i)) (M := b.C) (fun i => bmk (fun c => decide (rdd b d c d.t = d.t)) i) _ ?_ ?_ N 0 (Nat.zero_le _) (by omega)
  · intro n i hi
    have hr := h.rb i hi d.t (Nat.le_refl _)
    show f_X3_rightClocks_4 N D.minute D.stopped (nI b.C) D.stood D.ahead B.clockGain D.since (n + 1) _ (nI i) = _
    rw [f_X3_rightClocks_4]
    simp (disch := omega) only [zcl_s, zck_t, zbn_s, lits, m1_iI, ng_n, nI_le_T, nI_le_F, nI_lt_T, nI_lt_F, nI_eq_T, nI_eq_F, nI_1, le_1, le_1r, lt_1, lt_1r, eq_1, nI_add, pk_mul, sb_1, sb_n, cl_n, zi_n, iI_le_T, iI_le_F, iI_lt_T, iI_lt_F, iI_eq_T, iI_eq_F, mx1, mx2, mx3, mx4, mx5, mx6, mx7, mx8, mx9, mx10, iI_add, iI_sub, iI_p1, bI_n0, bI_1, bI_bo, tr_f, fa_f, tr_t, fa_t, if_true, if_false, or_n0, Nat.add_zero, Int.add_zero, (h.wr N i hi).1]
    by_cases ho : rdd b d i d.t = d.t
    · simp (disch := omega) only [zcl_s, zck_t, zbn_s, lits, m1_iI, ng_n, nI_le_T, nI_le_F, nI_lt_T, nI_lt_F, nI_eq_T, nI_eq_F, nI_1, le_1, le_1r, lt_1, lt_1r, eq_1, nI_add, pk_mul, sb_1, sb_n, cl_n, zi_n, iI_le_T, iI_le_F, iI_lt_T, iI_lt_F, iI_eq_T, iI_eq_F, mx1, mx2, mx3, mx4, mx5, mx6, mx7, mx8, mx9, mx10, iI_add, iI_sub, iI_p1, bI_n0, bI_1, bI_bo, tr_f, fa_f, tr_t, fa_t, if_true, if_false, or_n0, Nat.add_zero, Int.add_zero, bmk_t (P := fun c => decide (rdd b d c d.t = d.t)) (n := i) (by simp [ho])]
    · simp (disch := omega) only [zcl_s, zck_t, zbn_s, lits, m1_iI, ng_n, nI_le_T, nI_le_F, nI_lt_T, nI_lt_F, nI_eq_T, nI_eq_F, nI_1, le_1, le_1r, lt_1, lt_1r, eq_1, nI_add, pk_mul, sb_1, sb_n, cl_n, zi_n, iI_le_T, iI_le_F, iI_lt_T, iI_lt_F, iI_eq_T, iI_eq_F, mx1, mx2, mx3, mx4, mx5, mx6, mx7, mx8, mx9, mx10, iI_add, iI_sub, iI_p1, bI_n0, bI_1, bI_bo, tr_f, fa_f, tr_t, fa_t, if_true, if_false, or_n0, Nat.add_zero, Int.add_zero, bmk_f (P := fun c => decide (rdd b d c d.t = d.t)) (n := i) (by simp [ho])]
  · intro n
    show f_X3_rightClocks_4 N D.minute D.stopped (nI b.C) D.stood D.ahead B.clockGain D.since (n + 1) _ (nI b.C) = _
    rw [f_X3_rightClocks_4]
    simp (disch := omega) only [zcl_s, zck_t, zbn_s, lits, m1_iI, ng_n, nI_le_T, nI_le_F, nI_lt_T, nI_lt_F, nI_eq_T, nI_eq_F, nI_1, le_1, le_1r, lt_1, lt_1r, eq_1, nI_add, pk_mul, sb_1, sb_n, cl_n, zi_n, iI_le_T, iI_le_F, iI_lt_T, iI_lt_F, iI_eq_T, iI_eq_F, mx1, mx2, mx3, mx4, mx5, mx6, mx7, mx8, mx9, mx10, iI_add, iI_sub, iI_p1, bI_n0, bI_1, bI_bo, tr_f, fa_f, tr_t, fa_t, if_true, if_false, or_n0, Nat.add_zero, Int.add_zero]
theorem DY.rNow (h : DY b d B D s) (N : Nat) (hN : 10 ≤ N) (x0 th : Int32) : f_X12_now N x0 th s = f_X12_now_9 N s 1 x0 (bmk (fun c => decide (rdd b d c d.t = d.t)) b.C) (nI b.C) 0 := by
  have h2 := h.C6
  have ht := h.t2
  refine loopV (F := fun n i v => f_X12_now_9 N s n x0 v (nI i) 0) (M := b.C) (fun i => bmk (fun c => decide (rdd b d c d.t = d.t)) i) _ ?_ ?_ N 0 (Nat.zero_le _) (by omega)
  · intro n i hi
    have hr := h.rb i hi d.t (Nat.le_refl _)
    show f_X12_now_9 N s (n + 1) x0 _ (nI i) 0 = f_X12_now_9 N s n x0 _ (nI (i + 1)) 0
    rw [f_X12_now_9]
    simp (disch := omega) only [zcl_s, zck_t, zbn_s, lits, m1_iI, ng_n, nI_le_T, nI_le_F, nI_lt_T, nI_lt_F, nI_eq_T, nI_eq_F, nI_1, le_1, le_1r, lt_1, lt_1r, eq_1, nI_add, pk_mul, sb_1, sb_n, cl_n, zi_n, iI_le_T, iI_le_F, iI_lt_T, iI_lt_F, iI_eq_T, iI_eq_F, mx1, mx2, mx3, mx4, mx5, mx6, mx7, mx8, mx9, mx10, iI_add, iI_sub, iI_p1, bI_n0, bI_1, bI_bo, tr_f, fa_f, tr_t, fa_t, if_true, if_false, or_n0, Nat.add_zero, Int.add_zero, (h.wr N i hi).2, h.sC, f_X12_now_35]
    by_cases ho : rdd b d i d.t = d.t
    · simp (disch := omega) only [zcl_s, zck_t, zbn_s, lits, m1_iI, ng_n, nI_le_T, nI_le_F, nI_lt_T, nI_lt_F, nI_eq_T, nI_eq_F, nI_1, le_1, le_1r, lt_1, lt_1r, eq_1, nI_add, pk_mul, sb_1, sb_n, cl_n, zi_n, iI_le_T, iI_le_F, iI_lt_T, iI_lt_F, iI_eq_T, iI_eq_F, mx1, mx2, mx3, mx4, mx5, mx6, mx7, mx8, mx9, mx10, iI_add, iI_sub, iI_p1, bI_n0, bI_1, bI_bo, tr_f, fa_f, tr_t, fa_t, if_true, if_false, or_n0, Nat.add_zero, Int.add_zero, bmk_t (P := fun c => decide (rdd b d c d.t = d.t)) (n := i) (by simp [ho])]
    · simp (disch := omega) only [zcl_s, zck_t, zbn_s, lits, m1_iI, ng_n, nI_le_T, nI_le_F, nI_lt_T, nI_lt_F, nI_eq_T, nI_eq_F, nI_1, le_1, le_1r, lt_1, lt_1r, eq_1, nI_add, pk_mul, sb_1, sb_n, cl_n, zi_n, iI_le_T, iI_le_F, iI_lt_T, iI_lt_F, iI_eq_T, iI_eq_F, mx1, mx2, mx3, mx4, mx5, mx6, mx7, mx8, mx9, mx10, iI_add, iI_sub, iI_p1, bI_n0, bI_1, bI_bo, tr_f, fa_f, tr_t, fa_t, if_true, if_false, or_n0, Nat.add_zero, Int.add_zero, bmk_f (P := fun c => decide (rdd b d c d.t = d.t)) (n := i) (by simp [ho])]
  · intro n
    show f_X12_now_9 N s (n + 1) x0 _ (nI b.C) 0 = _
    rw [f_X12_now_9, f_X12_now_9]
    simp (disch := omega) only [zcl_s, zck_t, zbn_s, lits, m1_iI, ng_n, nI_le_T, nI_le_F, nI_lt_T, nI_lt_F, nI_eq_T, nI_eq_F, nI_1, le_1, le_1r, lt_1, lt_1r, eq_1, nI_add, pk_mul, sb_1, sb_n, cl_n, zi_n, iI_le_T, iI_le_F, iI_lt_T, iI_lt_F, iI_eq_T, iI_eq_F, mx1, mx2, mx3, mx4, mx5, mx6, mx7, mx8, mx9, mx10, iI_add, iI_sub, iI_p1, bI_n0, bI_1, bI_bo, tr_f, fa_f, tr_t, fa_t, if_true, if_false, or_n0, Nat.add_zero, Int.add_zero, h.sC]
theorem DY.rClk (h : DY b d B D s) (N c : Nat) (hN : 10 ≤ N) (hc : c < b.C) (x1 th : Int32) : f_X12_clock_20 N s N (nI c) x1 0 0 th = f_X12_clock_20 N s 1 (nI c) x1 (nI (cn9 (fun m => decide (b.clk m = c)) b.M)) (nI b.M) th := by
  have h2 := h.M6
  have h3 := h.C6
  refine loopV (F := fun n i v => f_X12_clock_20 N s n (nI c) x1 v (nI i) th) (M := b.M) (fun i => nI (cn9 (fun m => decide (b.clk m = c)) i)) _ ?_ ?_ N 0 (Nat.zero_le _) (by omega)
  · intro n i hi
    have hk := (h.cm.2 i hi).2.1
    show f_X12_clock_20 N s (n + 1) (nI c) x1 _ (nI i) th = f_X12_clock_20 N s n (nI c) x1 _ (nI (i + 1)) th
    rw [f_X12_clock_20]
    simp (disch := omega) only [zcl_s, zck_t, zbn_s, lits, m1_iI, ng_n, nI_le_T, nI_le_F, nI_lt_T, nI_lt_F, nI_eq_T, nI_eq_F, nI_1, le_1, le_1r, lt_1, lt_1r, eq_1, nI_add, pk_mul, sb_1, sb_n, cl_n, zi_n, iI_le_T, iI_le_F, iI_lt_T, iI_lt_F, iI_eq_T, iI_eq_F, mx1, mx2, mx3, mx4, mx5, mx6, mx7, mx8, mx9, mx10, iI_add, iI_sub, iI_p1, bI_n0, bI_1, bI_bo, tr_f, fa_f, tr_t, fa_t, if_true, if_false, or_n0, Nat.add_zero, Int.add_zero, (h.rk.2.2.1 i hi).1, h.sM, f_X12_clock_51]
    by_cases ho : b.clk i = c
    · simp (disch := omega) only [zcl_s, zck_t, zbn_s, lits, m1_iI, ng_n, nI_le_T, nI_le_F, nI_lt_T, nI_lt_F, nI_eq_T, nI_eq_F, nI_1, le_1, le_1r, lt_1, lt_1r, eq_1, nI_add, pk_mul, sb_1, sb_n, cl_n, zi_n, iI_le_T, iI_le_F, iI_lt_T, iI_lt_F, iI_eq_T, iI_eq_F, mx1, mx2, mx3, mx4, mx5, mx6, mx7, mx8, mx9, mx10, iI_add, iI_sub, iI_p1, bI_n0, bI_1, bI_bo, tr_f, fa_f, tr_t, fa_t, if_true, if_false, or_n0, Nat.add_zero, Int.add_zero, cn9_t (P := fun m => decide (b.clk m = c)) (n := i) (by simp [ho])]
    · simp (disch := omega) only [zcl_s, zck_t, zbn_s, lits, m1_iI, ng_n, nI_le_T, nI_le_F, nI_lt_T, nI_lt_F, nI_eq_T, nI_eq_F, nI_1, le_1, le_1r, lt_1, lt_1r, eq_1, nI_add, pk_mul, sb_1, sb_n, cl_n, zi_n, iI_le_T, iI_le_F, iI_lt_T, iI_lt_F, iI_eq_T, iI_eq_F, mx1, mx2, mx3, mx4, mx5, mx6, mx7, mx8, mx9, mx10, iI_add, iI_sub, iI_p1, bI_n0, bI_1, bI_bo, tr_f, fa_f, tr_t, fa_t, if_true, if_false, or_n0, Nat.add_zero, Int.add_zero, cn9_f (P := fun m => decide (b.clk m = c)) (n := i) (by simp [ho])]
  · intro n
    show f_X12_clock_20 N s (n + 1) (nI c) x1 _ (nI b.M) th = _
    rw [f_X12_clock_20, f_X12_clock_20]
    simp (disch := omega) only [zcl_s, zck_t, zbn_s, lits, m1_iI, ng_n, nI_le_T, nI_le_F, nI_lt_T, nI_lt_F, nI_eq_T, nI_eq_F, nI_1, le_1, le_1r, lt_1, lt_1r, eq_1, nI_add, pk_mul, sb_1, sb_n, cl_n, zi_n, iI_le_T, iI_le_F, iI_lt_T, iI_lt_F, iI_eq_T, iI_eq_F, mx1, mx2, mx3, mx4, mx5, mx6, mx7, mx8, mx9, mx10, iI_add, iI_sub, iI_p1, bI_n0, bI_1, bI_bo, tr_f, fa_f, tr_t, fa_t, if_true, if_false, or_n0, Nat.add_zero, Int.add_zero, h.sM]
/-- how many bits -/
theorem bc_ok (N : Nat) (P : Nat → Bool) {n : Nat} (hn : n ≤ 6) : f_J6_bitCount_0f7a4 N (bmk P n) = some (nI (cn9 P n)) := by
  have key : ∀ p0 p1 p2 p3 p4 p5 : Bool, ∀ n, n < 7 → f_J6_bitCount_0f7a4 0 (bmk (fun i => if i = 0 then p0 else if i = 1 then p1 else if i = 2 then p2 else if i = 3 then p3 else if i = 4 then p4 else p5) n) = some (nI (cn9 (fun i => if i = 0 then p0 else if i = 1 then p1 else if i = 2 then p2 else if i = 3 then p3 else if i = 4 then p4 else p5) n)) := by decide +kernel
  have e : ∀ i, i < n → P i = (fun i => if i = 0 then P 0 else if i = 1 then P 1 else if i = 2 then P 2 else if i = 3 then P 3 else if i = 4 then P 4 else P 5) i := by
    intro i hi
    have : i = 0 ∨ i = 1 ∨ i = 2 ∨ i = 3 ∨ i = 4 ∨ i = 5 := by omega
    rcases this with h | h | h | h | h | h <;> subst h <;> rfl
  rw [bmk_congr e, cn9_congr e]
  exact key (P 0) (P 1) (P 2) (P 3) (P 4) (P 5) n (by omega)
end GETS
