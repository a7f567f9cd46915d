/-! ===== how often anybody came, how many minutes behind ===== -/
theorem sm9_add (f g : Nat → Int) : ∀ n, sm9 (fun i => f i + g i) n = sm9 f n + sm9 g n := by
  intro n
  induction n with
  | zero => rfl
  | succ n ih => rw [sm9, sm9, sm9, ih]; omega
theorem sm9_zero : ∀ n, sm9 (fun _ => 0) n = 0 := by
  intro n
  induction n with
  | zero => rfl
  | succ n ih => rw [sm9, ih]; rfl
theorem sm9_swap (f : Nat → Nat → Int) : ∀ M T, sm9 (fun m => sm9 (fun e => f m e) T) M = sm9 (fun e => sm9 (fun m => f m e) M) T := by
  intro M T
  induction M with
  | zero => rw [sm9]; exact (sm9_zero T).symm
  | succ M ih =>
    rw [sm9, ih, ← sm9_add]
    exact sm9_congr (fun i _ => by rw [sm9])
theorem sm9_cn (P : Nat → Option Nat) : ∀ n, sm9 (fun i => cnt9 (P i)) n = cn9 (fun i => (P i).isSome) n := by
  intro n
  induction n with
  | zero => rfl
  | succ n ih =>
    rw [sm9, ih, cn9]
    cases P n with
    | none => simp [cnt9]
    | some u => simp [cnt9]
theorem sm9_le (f : Nat → Int) (k : Nat) : ∀ n, (∀ i, i < n → 0 ≤ f i ∧ f i ≤ k) → 0 ≤ sm9 f n ∧ sm9 f n ≤ n * k := by
  intro n
  induction n with
  | zero => intro _; simp [sm9]
  | succ n ih =>
    intro h
    have h1 := ih (fun i hi => h i (by omega))
    have h2 := h n (by omega)
    rw [sm9, show ((n + 1 : Nat) : Int) * k = n * k + k by rw [Int.natCast_add, Int.add_mul]; simp]
    omega
section SUMS
variable {b : MB} {d : MD} {B : CB} {D : CY} {s : Nat → Int32}
theorem DY.cnt (h : DY b d B D s) (N : Nat) (hN : 10 ≤ N) : f_X3_howOftenCame N B.masters B.meets D.came = some (s 55) := by
  have h2 := h.T6
  have h3 := h.M6
  rw [h.rg.2.2.1, h.nT, show cntM b.M b.T d.x.2.2 = sm9 (fun e => (cn9 (fun m => (d.x.2.2 m e).isSome) b.M : Nat)) b.T from (sm9_swap (fun m e => cnt9 (d.x.2.2 m e)) b.M b.T).trans (sm9_congr (fun e _ => sm9_cn (fun m => d.x.2.2 m e) b.M))]
  refine loopV (F := fun n i v => f_X3_howOftenCame_4 N B.masters (nI b.T) D.came n v (nI i)) (M := b.T) (fun i => iI (sm9 (fun e => (cn9 (fun m => (d.x.2.2 m e).isSome) b.M : Nat)) i)) _ ?_ ?_ N 0 (Nat.zero_le _) (by omega)
  · intro n i hi
    show f_X3_howOftenCame_4 N B.masters (nI b.T) D.came (n + 1) _ (nI i) = f_X3_howOftenCame_4 N B.masters (nI b.T) D.came n _ (nI (i + 1))
    rw [f_X3_howOftenCame_4]
    simp (disch := omega) only [zcl_s, zck_t, zbn_s, lits, m1_iI, ng_n, nI_le_T, nI_le_F, nI_lt_T, nI_lt_F, nI_eq_T, nI_eq_F, nI_1, le_1, le_1r, lt_1, lt_1r, eq_1, nI_add, pk_mul, sb_1, sb_n, cl_n, zi_n, iI_le_T, iI_le_F, iI_lt_T, iI_lt_F, iI_eq_T, iI_eq_F, mx1, mx2, mx3, mx4, mx5, mx6, mx7, mx8, mx9, mx10, iI_add, iI_sub, iI_p1, bI_n0, bI_1, bI_bo, tr_f, fa_f, tr_t, fa_t, if_true, if_false, or_n0, Nat.add_zero, Int.add_zero, (h.sIn N i hN hi).2.1, bc_ok N (fun m => (d.x.2.2 m i).isSome) h3, sm9]
  · intro n
    show f_X3_howOftenCame_4 N B.masters (nI b.T) D.came (n + 1) _ (nI b.T) = _
    rw [f_X3_howOftenCame_4]
    simp (disch := omega) only [zcl_s, zck_t, zbn_s, lits, m1_iI, ng_n, nI_le_T, nI_le_F, nI_lt_T, nI_lt_F, nI_eq_T, nI_eq_F, nI_1, le_1, le_1r, lt_1, lt_1r, eq_1, nI_add, pk_mul, sb_1, sb_n, cl_n, zi_n, iI_le_T, iI_le_F, iI_lt_T, iI_lt_F, iI_eq_T, iI_eq_F, mx1, mx2, mx3, mx4, mx5, mx6, mx7, mx8, mx9, mx10, iI_add, iI_sub, iI_p1, bI_n0, bI_1, bI_bo, tr_f, fa_f, tr_t, fa_t, if_true, if_false, or_n0, Nat.add_zero, Int.add_zero]
theorem DY.bhd (h : DY b d B D s) (N m e : Nat) (hm : m < b.M) (he : e < b.T) : f_X3_behindDue N (nI m) (nI e) D.came D.due = some (iI (lat9 (d.du e) (d.x.2.2 m e))) ∧ 0 ≤ lat9 (d.du e) (d.x.2.2 m e) ∧ lat9 (d.du e) (d.x.2.2 m e) ≤ 2000 := by
  have h2 := h.T6
  have h3 := h.M6
  obtain ⟨g1, -, g3⟩ := h.cf hm he
  obtain ⟨u1, -, u3, u4⟩ := h.du9 he
  unfold f_X3_behindDue
  simp (disch := omega) only [zcl_s, zck_t, zbn_s, lits, m1_iI, ng_n, nI_le_T, nI_le_F, nI_lt_T, nI_lt_F, nI_eq_T, nI_eq_F, nI_1, le_1, le_1r, lt_1, lt_1r, eq_1, nI_add, pk_mul, sb_1, sb_n, cl_n, zi_n, iI_le_T, iI_le_F, iI_lt_T, iI_lt_F, iI_eq_T, iI_eq_F, mx1, mx2, mx3, mx4, mx5, mx6, mx7, mx8, mx9, mx10, iI_add, iI_sub, iI_p1, bI_n0, bI_1, bI_bo, tr_f, fa_f, tr_t, fa_t, if_true, if_false, or_n0, Nat.add_zero, Int.add_zero, X11_slot_ok, g1, u1]
  cases ho : d.x.2.2 m e with
  | none =>
    simp (disch := omega) only [zcl_s, zck_t, zbn_s, lits, m1_iI, ng_n, nI_le_T, nI_le_F, nI_lt_T, nI_lt_F, nI_eq_T, nI_eq_F, nI_1, le_1, le_1r, lt_1, lt_1r, eq_1, nI_add, pk_mul, sb_1, sb_n, cl_n, zi_n, iI_le_T, iI_le_F, iI_lt_T, iI_lt_F, iI_eq_T, iI_eq_F, mx1, mx2, mx3, mx4, mx5, mx6, mx7, mx8, mx9, mx10, iI_add, iI_sub, iI_p1, bI_n0, bI_1, bI_bo, tr_f, fa_f, tr_t, fa_t, if_true, if_false, or_n0, Nat.add_zero, Int.add_zero, oI_n, lat9]
    exact ⟨rfl, by omega, by omega⟩
  | some u =>
    have hu := g3 u ho
    simp (disch := omega) only [zcl_s, zck_t, zbn_s, lits, m1_iI, ng_n, nI_le_T, nI_le_F, nI_lt_T, nI_lt_F, nI_eq_T, nI_eq_F, nI_1, le_1, le_1r, lt_1, lt_1r, eq_1, nI_add, pk_mul, sb_1, sb_n, cl_n, zi_n, iI_le_T, iI_le_F, iI_lt_T, iI_lt_F, iI_eq_T, iI_eq_F, mx1, mx2, mx3, mx4, mx5, mx6, mx7, mx8, mx9, mx10, iI_add, iI_sub, iI_p1, bI_n0, bI_1, bI_bo, tr_f, fa_f, tr_t, fa_t, if_true, if_false, or_n0, Nat.add_zero, Int.add_zero, oI_s, lat9]
    rw [show nI 0 = iI 0 from rfl, zmax_iI ⟨by omega, by omega⟩ ⟨by omega, by omega⟩]
    by_cases hc : (u : Int) - d.du e < 0
    · rw [if_neg (show ¬ (0 : Int) < u - d.du e by omega), if_pos hc]
      exact ⟨rfl, by omega, by omega⟩
    · rw [if_neg hc]
      refine ⟨?_, by omega, by omega⟩
      by_cases h0 : (0 : Int) < u - d.du e
      · rw [if_pos h0]
      · rw [if_neg h0, show (u : Int) - d.du e = 0 by omega]
theorem DY.bhi (h : DY b d B D s) (N m : Nat) (hm : m < b.M) (k : Int32 → Int32 → Option Int32) (a : Int) (hN : 10 ≤ N) : f_X3_minutesBehind_17 N B.masters B.meets D.came D.due k N (iI a) (nI m) (nI 0) = k (iI (a + sm9 (fun e => lat9 (d.du e) (d.x.2.2 m e)) b.T)) (nI (m + 1)) := by
  have h2 := h.T6
  have hz : iI a = iI (a + sm9 (fun e => lat9 (d.du e) (d.x.2.2 m e)) 0) := by rw [sm9, Int.add_zero]
  rw [hz, h.nT]
  refine loopV (F := fun n i v => f_X3_minutesBehind_17 N B.masters (nI b.T) D.came D.due k n v (nI m) (nI i)) (M := b.T) (fun i => iI (a + sm9 (fun e => lat9 (d.du e) (d.x.2.2 m e)) i)) _ ?_ ?_ N 0 (Nat.zero_le _) (by omega)
  · intro n i hi
    show f_X3_minutesBehind_17 N B.masters (nI b.T) D.came D.due k (n + 1) _ (nI m) (nI i) = f_X3_minutesBehind_17 N B.masters (nI b.T) D.came D.due k n _ (nI m) (nI (i + 1))
    rw [f_X3_minutesBehind_17]
    simp (disch := omega) only [zcl_s, zck_t, zbn_s, lits, m1_iI, ng_n, nI_le_T, nI_le_F, nI_lt_T, nI_lt_F, nI_eq_T, nI_eq_F, nI_1, le_1, le_1r, lt_1, lt_1r, eq_1, nI_add, pk_mul, sb_1, sb_n, cl_n, zi_n, iI_le_T, iI_le_F, iI_lt_T, iI_lt_F, iI_eq_T, iI_eq_F, mx1, mx2, mx3, mx4, mx5, mx6, mx7, mx8, mx9, mx10, iI_add, iI_sub, iI_p1, bI_n0, bI_1, bI_bo, tr_f, fa_f, tr_t, fa_t, if_true, if_false, or_n0, Nat.add_zero, Int.add_zero, (h.bhd N m i hm hi).1, sm9, Int.add_assoc]
  · intro n
    show f_X3_minutesBehind_17 N B.masters (nI b.T) D.came D.due k (n + 1) _ (nI m) (nI b.T) = _
    rw [f_X3_minutesBehind_17]
    simp (disch := omega) only [zcl_s, zck_t, zbn_s, lits, m1_iI, ng_n, nI_le_T, nI_le_F, nI_lt_T, nI_lt_F, nI_eq_T, nI_eq_F, nI_1, le_1, le_1r, lt_1, lt_1r, eq_1, nI_add, pk_mul, sb_1, sb_n, cl_n, zi_n, iI_le_T, iI_le_F, iI_lt_T, iI_lt_F, iI_eq_T, iI_eq_F, mx1, mx2, mx3, mx4, mx5, mx6, mx7, mx8, mx9, mx10, iI_add, iI_sub, iI_p1, bI_n0, bI_1, bI_bo, tr_f, fa_f, tr_t, fa_t, if_true, if_false, or_n0, Nat.add_zero, Int.add_zero]
theorem DY.mbh (h : DY b d B D s) (N : Nat) (hN : 10 ≤ N) : f_X3_minutesBehind N B.masters B.meets D.came D.due = some (s 56) := by
  have h3 := h.M6
  rw [h.rg.2.2.2]
  have key : ∀ n i, i ≤ b.M → b.M - i < n → f_X3_minutesBehind_4 N B.masters B.meets D.came D.due n (iI (sm9 (fun m => sm9 (fun e => lat9 (d.du e) (d.x.2.2 m e)) b.T) i)) (nI i) = some (iI (latM b.M b.T d.du d.x.2.2)) := by
    refine loopV (F := fun n i v => f_X3_minutesBehind_4 N B.masters B.meets D.came D.due n v (nI i)) (M := b.M) (fun i => iI (sm9 (fun m => sm9 (fun e => lat9 (d.du e) (d.x.2.2 m e)) b.T) i)) _ ?_ ?_
    · intro n i hi
      show f_X3_minutesBehind_4 N B.masters B.meets D.came D.due (n + 1) _ (nI i) = f_X3_minutesBehind_4 N B.masters B.meets D.came D.due n _ (nI (i + 1))
      rw [f_X3_minutesBehind_4]
      have hb := h.bhi N i hi (f_X3_minutesBehind_4 N B.masters B.meets D.came D.due n) (sm9 (fun m => sm9 (fun e => lat9 (d.du e) (d.x.2.2 m e)) b.T) i) hN
      simp (disch := omega) only [zcl_s, zck_t, zbn_s, lits, m1_iI, ng_n, nI_le_T, nI_le_F, nI_lt_T, nI_lt_F, nI_eq_T, nI_eq_F, nI_1, le_1, le_1r, lt_1, lt_1r, eq_1, nI_add, pk_mul, sb_1, sb_n, cl_n, zi_n, iI_le_T, iI_le_F, iI_lt_T, iI_lt_F, iI_eq_T, iI_eq_F, mx1, mx2, mx3, mx4, mx5, mx6, mx7, mx8, mx9, mx10, iI_add, iI_sub, iI_p1, bI_n0, bI_1, bI_bo, tr_f, fa_f, tr_t, fa_t, if_true, if_false, or_n0, Nat.add_zero, Int.add_zero, h.nM] at hb ⊢
      rw [hb]
      rfl
    · intro n
      show f_X3_minutesBehind_4 N B.masters B.meets D.came D.due (n + 1) _ (nI b.M) = _
      rw [f_X3_minutesBehind_4]
      simp (disch := omega) only [zcl_s, zck_t, zbn_s, lits, m1_iI, ng_n, nI_le_T, nI_le_F, nI_lt_T, nI_lt_F, nI_eq_T, nI_eq_F, nI_1, le_1, le_1r, lt_1, lt_1r, eq_1, nI_add, pk_mul, sb_1, sb_n, cl_n, zi_n, iI_le_T, iI_le_F, iI_lt_T, iI_lt_F, iI_eq_T, iI_eq_F, mx1, mx2, mx3, mx4, mx5, mx6, mx7, mx8, mx9, mx10, iI_add, iI_sub, iI_p1, bI_n0, bI_1, bI_bo, tr_f, fa_f, tr_t, fa_t, if_true, if_false, or_n0, Nat.add_zero, Int.add_zero, h.nM]
      rfl
  exact key N 0 (Nat.zero_le _) (by omega)
theorem DY.cnr (h : DY b d B D s) : ∃ n, n ≤ 36 ∧ s 55 = nI n ∧ cntM b.M b.T d.x.2.2 = n := by
  have h2 := h.T6
  have h3 := h.M6
  have e : cntM b.M b.T d.x.2.2 = sm9 (fun e => (cn9 (fun m => (d.x.2.2 m e).isSome) b.M : Nat)) b.T := (sm9_swap (fun m e => cnt9 (d.x.2.2 m e)) b.M b.T).trans (sm9_congr (fun e _ => sm9_cn (fun m => d.x.2.2 m e) b.M))
  have hl := sm9_le (fun e => (cn9 (fun m => (d.x.2.2 m e).isSome) b.M : Nat)) 6 b.T (fun i hi => by have := cn9_le (fun m => (d.x.2.2 m i).isSome) b.M; omega)
  rw [← e] at hl
  refine ⟨(cntM b.M b.T d.x.2.2).toNat, by omega, ?_, by omega⟩
  rw [h.rg.2.2.1, iI_nat]
  congr 1
  omega
theorem DY.ltr (h : DY b d B D s) : ∃ n, n ≤ 72000 ∧ s 56 = nI n := by
  have h2 := h.T6
  have h3 := h.M6
  have hl := sm9_le (fun m => sm9 (fun e => lat9 (d.du e) (d.x.2.2 m e)) b.T) 12000 b.M (fun i hi => by
    have := sm9_le (fun e => lat9 (d.du e) (d.x.2.2 i e)) 2000 b.T (fun e he => (h.bhd 10 i e hi he).2)
    omega)
  have e : latM b.M b.T d.du d.x.2.2 = sm9 (fun m => sm9 (fun e => lat9 (d.du e) (d.x.2.2 m e)) b.T) b.M := rfl
  rw [← e] at hl
  refine ⟨(latM b.M b.T d.du d.x.2.2).toNat, by omega, ?_⟩
  rw [h.rg.2.2.2, iI_nat]
  congr 1
  omega
end SUMS
