/-! ===== what is asked of a day: both sides, each as one value ===== -/
def cn9 (P : Nat → Bool) : Nat → Nat
  | 0 => 0
  | n + 1 => if P n then cn9 P n + 1 else cn9 P n
theorem cn9_le (P : Nat → Bool) : ∀ n, cn9 P n ≤ n := by
  intro n
  induction n with
  | zero => exact Nat.le_refl _
  | succ n ih => rw [cn9]; split <;> omega
theorem cn9_congr {P Q : Nat → Bool} : ∀ {n : Nat}, (∀ i, i < n → P i = Q i) → cn9 P n = cn9 Q n := by
  intro n
  induction n with
  | zero => intro _; rfl
  | succ n ih => intro h; rw [cn9, cn9, ih (fun i hi => h i (by omega)), h n (by omega)]
theorem bmk_t {P : Nat → Bool} {n : Nat} (h : P n = true) : bmk P (n + 1) = bmk P n ||| (1 <<< (nI n &&& 31)) := by rw [bmk, if_pos h]
theorem bmk_f {P : Nat → Bool} {n : Nat} (h : P n = false) : bmk P (n + 1) = bmk P n := by rw [bmk, if_neg (by rw [h]; decide)]
theorem cn9_t {P : Nat → Bool} {n : Nat} (h : P n = true) : cn9 P (n + 1) = cn9 P n + 1 := by rw [cn9, if_pos h]
theorem cn9_f {P : Nat → Bool} {n : Nat} (h : P n = false) : cn9 P (n + 1) = cn9 P n := by rw [cn9, if_neg (by rw [h]; decide)]
theorem oI_n : oI none = iI (-1) := rfl
theorem oI_s (u : Nat) : oI (some u) = nI u := rfl
theorem oJ_n : oJ none = nI 0 := rfl
theorem oJ_s (u : Nat) : oJ (some u) = nI (u + 1) := rfl
section GET
variable {C M T : Nat} {clk cor si : Nat → Nat} {late du so ah gn : Nat → Int} {stp : Nat → Bool} {toC : Nat → Nat → Bool} {x : GM}
theorem X3_meetsIn_ok (N m : Nat) (r : Nat → Int32) (o : Nat → Option Nat) (hN : 10 ≤ N) (hT : T ≤ 6) (hm : m < 6) (hb : ∀ e, e < T → ∀ u, o e = some u → u < 100000) (h : ∀ e, e < T → r (m * 6 + e) = oI (o e)) : f_X3_meetsIn N (nI m) (nI T) r = some (bmk (fun e => (o e).isSome) T) := by
  refine loopV (F := fun n i v => f_X3_meetsIn_5 N (nI T) r n (nI m) v (nI i)) (M := T) (fun i => bmk (fun e => (o e).isSome) i) _ ?_ ?_ N 0 (Nat.zero_le _) (by omega)
  · intro n i hi
    have hr := h i hi
    have hb := hb i hi
    show f_X3_meetsIn_5 N (nI T) r (n + 1) (nI m) _ (nI i) = _
    rw [f_X3_meetsIn_5]
    simp (disch := omega) only [zcl_s, zck_t, zbn_s, lits, m1_iI, ng_n, nI_le_T, nI_le_F, nI_lt_T, nI_lt_F, nI_eq_T, nI_eq_F, nI_1, le_1, le_1r, lt_1, lt_1r, eq_1, nI_add, pk_mul, sb_1, sb_n, cl_n, zi_n, iI_le_T, iI_le_F, iI_lt_T, iI_lt_F, iI_eq_T, iI_eq_F, mx1, mx2, mx3, mx4, mx5, mx6, mx7, mx8, mx9, mx10, iI_add, iI_sub, iI_p1, bI_n0, bI_1, bI_bo, tr_f, fa_f, tr_t, fa_t, if_true, if_false, or_n0, Nat.add_zero, Int.add_zero, X11_slot_ok, hr]
    cases ho : o i with
    | none => simp (disch := omega) only [zcl_s, zck_t, zbn_s, lits, m1_iI, ng_n, nI_le_T, nI_le_F, nI_lt_T, nI_lt_F, nI_eq_T, nI_eq_F, nI_1, le_1, le_1r, lt_1, lt_1r, eq_1, nI_add, pk_mul, sb_1, sb_n, cl_n, zi_n, iI_le_T, iI_le_F, iI_lt_T, iI_lt_F, iI_eq_T, iI_eq_F, mx1, mx2, mx3, mx4, mx5, mx6, mx7, mx8, mx9, mx10, iI_add, iI_sub, iI_p1, bI_n0, bI_1, bI_bo, tr_f, fa_f, tr_t, fa_t, if_true, if_false, or_n0, Nat.add_zero, Int.add_zero, oI_n, bmk_f (P := fun e => (o e).isSome) (n := i) (by rw [ho]; rfl)]
    | some u =>
      have := hb u ho
      simp (disch := omega) only [zcl_s, zck_t, zbn_s, lits, m1_iI, ng_n, nI_le_T, nI_le_F, nI_lt_T, nI_lt_F, nI_eq_T, nI_eq_F, nI_1, le_1, le_1r, lt_1, lt_1r, eq_1, nI_add, pk_mul, sb_1, sb_n, cl_n, zi_n, iI_le_T, iI_le_F, iI_lt_T, iI_lt_F, iI_eq_T, iI_eq_F, mx1, mx2, mx3, mx4, mx5, mx6, mx7, mx8, mx9, mx10, iI_add, iI_sub, iI_p1, bI_n0, bI_1, bI_bo, tr_f, fa_f, tr_t, fa_t, if_true, if_false, or_n0, Nat.add_zero, Int.add_zero, oI_s, bmk_t (P := fun e => (o e).isSome) (n := i) (by rw [ho]; rfl)]
  · intro n
    show f_X3_meetsIn_5 N (nI T) r (n + 1) (nI m) _ (nI T) = _
    rw [f_X3_meetsIn_5]
    simp (disch := omega) only [zcl_s, zck_t, zbn_s, lits, m1_iI, ng_n, nI_le_T, nI_le_F, nI_lt_T, nI_lt_F, nI_eq_T, nI_eq_F, nI_1, le_1, le_1r, lt_1, lt_1r, eq_1, nI_add, pk_mul, sb_1, sb_n, cl_n, zi_n, iI_le_T, iI_le_F, iI_lt_T, iI_lt_F, iI_eq_T, iI_eq_F, mx1, mx2, mx3, mx4, mx5, mx6, mx7, mx8, mx9, mx10, iI_add, iI_sub, iI_p1, bI_n0, bI_1, bI_bo, tr_f, fa_f, tr_t, fa_t, if_true, if_false, or_n0, Nat.add_zero, Int.add_zero]
theorem X12_meetsOf_ok (N row m : Nat) (s : Nat → Int32) (o : Nat → Option Nat) (hN : 10 ≤ N) (hT : T ≤ 6) (hm : m < 6) (hrow : row + 36 ≤ 334) (hb : ∀ e, e < T → ∀ u, o e = some u → u < 100000) (hs : s 2 = nI T) (h : ∀ e, e < T → s (row + (6 * e + m)) = oJ (o e)) : f_X12_meetsOf N (nI row) (nI m) s = some (bmk (fun e => (o e).isSome) T) := by
  refine loopV (F := fun n i v => f_X12_meetsOf_5 N s n (nI row) (nI m) v (nI i)) (M := T) (fun i => bmk (fun e => (o e).isSome) i) _ ?_ ?_ N 0 (Nat.zero_le _) (by omega)
  · intro n i hi
    have hr := h i hi
    rw [← Nat.add_assoc] at hr
    have hb := hb i hi
    show f_X12_meetsOf_5 N s (n + 1) (nI row) (nI m) _ (nI i) = _
    rw [f_X12_meetsOf_5]
    simp (disch := omega) only [zcl_s, zck_t, zbn_s, lits, m1_iI, ng_n, nI_le_T, nI_le_F, nI_lt_T, nI_lt_F, nI_eq_T, nI_eq_F, nI_1, le_1, le_1r, lt_1, lt_1r, eq_1, nI_add, pk_mul, sb_1, sb_n, cl_n, zi_n, iI_le_T, iI_le_F, iI_lt_T, iI_lt_F, iI_eq_T, iI_eq_F, mx1, mx2, mx3, mx4, mx5, mx6, mx7, mx8, mx9, mx10, iI_add, iI_sub, iI_p1, bI_n0, bI_1, bI_bo, tr_f, fa_f, tr_t, fa_t, if_true, if_false, or_n0, Nat.add_zero, Int.add_zero, hs, hr, f_X12_meetsOf_42]
    cases ho : o i with
    | none => simp (disch := omega) only [zcl_s, zck_t, zbn_s, lits, m1_iI, ng_n, nI_le_T, nI_le_F, nI_lt_T, nI_lt_F, nI_eq_T, nI_eq_F, nI_1, le_1, le_1r, lt_1, lt_1r, eq_1, nI_add, pk_mul, sb_1, sb_n, cl_n, zi_n, iI_le_T, iI_le_F, iI_lt_T, iI_lt_F, iI_eq_T, iI_eq_F, mx1, mx2, mx3, mx4, mx5, mx6, mx7, mx8, mx9, mx10, iI_add, iI_sub, iI_p1, bI_n0, bI_1, bI_bo, tr_f, fa_f, tr_t, fa_t, if_true, if_false, or_n0, Nat.add_zero, Int.add_zero, oJ_n, bmk_f (P := fun e => (o e).isSome) (n := i) (by rw [ho]; rfl)]
    | some u =>
      have := hb u ho
      simp (disch := omega) only [zcl_s, zck_t, zbn_s, lits, m1_iI, ng_n, nI_le_T, nI_le_F, nI_lt_T, nI_lt_F, nI_eq_T, nI_eq_F, nI_1, le_1, le_1r, lt_1, lt_1r, eq_1, nI_add, pk_mul, sb_1, sb_n, cl_n, zi_n, iI_le_T, iI_le_F, iI_lt_T, iI_lt_F, iI_eq_T, iI_eq_F, mx1, mx2, mx3, mx4, mx5, mx6, mx7, mx8, mx9, mx10, iI_add, iI_sub, iI_p1, bI_n0, bI_1, bI_bo, tr_f, fa_f, tr_t, fa_t, if_true, if_false, or_n0, Nat.add_zero, Int.add_zero, oJ_s, bmk_t (P := fun e => (o e).isSome) (n := i) (by rw [ho]; rfl)]
  · intro n
    show f_X12_meetsOf_5 N s (n + 1) (nI row) (nI m) _ (nI T) = _
    rw [f_X12_meetsOf_5]
    simp (disch := omega) only [zcl_s, zck_t, zbn_s, lits, m1_iI, ng_n, nI_le_T, nI_le_F, nI_lt_T, nI_lt_F, nI_eq_T, nI_eq_F, nI_1, le_1, le_1r, lt_1, lt_1r, eq_1, nI_add, pk_mul, sb_1, sb_n, cl_n, zi_n, iI_le_T, iI_le_F, iI_lt_T, iI_lt_F, iI_eq_T, iI_eq_F, mx1, mx2, mx3, mx4, mx5, mx6, mx7, mx8, mx9, mx10, iI_add, iI_sub, iI_p1, bI_n0, bI_1, bI_bo, tr_f, fa_f, tr_t, fa_t, if_true, if_false, or_n0, Nat.add_zero, Int.add_zero, hs]
theorem X1_mastersBy_ok (N c : Nat) (r : Nat → Int32) (hN : 10 ≤ N) (hM : M ≤ 6) (hc : c < 6) (h : ∀ m, m < M → r m = nI (clk m) ∧ clk m < 6) : f_X1_mastersBy N (nI c) (nI M) r = some (nI (cn9 (fun m => decide (clk m = c)) M)) := by
  refine loopV (F := fun n i v => f_X1_mastersBy_4 N (nI M) r n (nI c) v (nI i)) (M := M) (fun i => nI (cn9 (fun m => decide (clk m = c)) i)) _ ?_ ?_ N 0 (Nat.zero_le _) (by omega)
  · intro n i hi
    obtain ⟨hr, hk⟩ := h i hi
    show f_X1_mastersBy_4 N (nI M) r (n + 1) (nI c) _ (nI i) = _
    rw [f_X1_mastersBy_4]
    by_cases hc : clk i = c
    · simp (disch := omega) only [zcl_s, zck_t, zbn_s, lits, m1_iI, ng_n, nI_le_T, nI_le_F, nI_lt_T, nI_lt_F, nI_eq_T, nI_eq_F, nI_1, le_1, le_1r, lt_1, lt_1r, eq_1, nI_add, pk_mul, sb_1, sb_n, cl_n, zi_n, iI_le_T, iI_le_F, iI_lt_T, iI_lt_F, iI_eq_T, iI_eq_F, mx1, mx2, mx3, mx4, mx5, mx6, mx7, mx8, mx9, mx10, iI_add, iI_sub, iI_p1, bI_n0, bI_1, bI_bo, tr_f, fa_f, tr_t, fa_t, if_true, if_false, or_n0, Nat.add_zero, Int.add_zero, hr, cn9_t (P := fun m => decide (clk m = c)) (n := i) (by simp [hc])]
    · simp (disch := omega) only [zcl_s, zck_t, zbn_s, lits, m1_iI, ng_n, nI_le_T, nI_le_F, nI_lt_T, nI_lt_F, nI_eq_T, nI_eq_F, nI_1, le_1, le_1r, lt_1, lt_1r, eq_1, nI_add, pk_mul, sb_1, sb_n, cl_n, zi_n, iI_le_T, iI_le_F, iI_lt_T, iI_lt_F, iI_eq_T, iI_eq_F, mx1, mx2, mx3, mx4, mx5, mx6, mx7, mx8, mx9, mx10, iI_add, iI_sub, iI_p1, bI_n0, bI_1, bI_bo, tr_f, fa_f, tr_t, fa_t, if_true, if_false, or_n0, Nat.add_zero, Int.add_zero, hr, cn9_f (P := fun m => decide (clk m = c)) (n := i) (by simp [hc])]
  · intro n
    show f_X1_mastersBy_4 N (nI M) r (n + 1) (nI c) _ (nI M) = _
    rw [f_X1_mastersBy_4]
    simp (disch := omega) only [zcl_s, zck_t, zbn_s, lits, m1_iI, ng_n, nI_le_T, nI_le_F, nI_lt_T, nI_lt_F, nI_eq_T, nI_eq_F, nI_1, le_1, le_1r, lt_1, lt_1r, eq_1, nI_add, pk_mul, sb_1, sb_n, cl_n, zi_n, iI_le_T, iI_le_F, iI_lt_T, iI_lt_F, iI_eq_T, iI_eq_F, mx1, mx2, mx3, mx4, mx5, mx6, mx7, mx8, mx9, mx10, iI_add, iI_sub, iI_p1, bI_n0, bI_1, bI_bo, tr_f, fa_f, tr_t, fa_t, if_true, if_false, or_n0, Nat.add_zero, Int.add_zero]
end GET
