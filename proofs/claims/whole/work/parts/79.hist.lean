/-! ===== copies, and the days that are kept ===== -/
theorem cpi {α : Type} (f g : Nat → α) (sp dp n j : Nat) (h : dp ≤ j) (h2 : j < dp + n) : va_cpy f g sp dp n j = f (sp + (j - dp)) := pk_cpy_in h h2
theorem cpo {α : Type} (f g : Nat → α) (sp dp n j : Nat) (h : j < dp ∨ dp + n ≤ j) : va_cpy f g sp dp n j = g j := pk_cpy_out h
theorem cp9_0 {α : Type} (f g : Nat → α) (sp dp : Nat) : va_cpy f g sp dp 0 = g := by
  funext j
  exact cpo f g sp dp 0 j (by omega)
theorem cp9_s (f g : Nat → Int32) (sp dp i : Nat) : upd (va_cpy f g sp dp i) (dp + i) (f (sp + i)) = va_cpy f g sp dp (i + 1) := by
  funext j
  by_cases h : j = dp + i
  · rw [h, pk_us, cpi f g sp dp (i + 1) (dp + i) (by omega) (by omega), show sp + (dp + i - dp) = sp + i by omega]
  · rw [pk_un h]
    by_cases h2 : dp ≤ j ∧ j < dp + i
    · rw [cpi f g sp dp i j h2.1 h2.2, cpi f g sp dp (i + 1) j h2.1 (by omega)]
    · rw [cpo f g sp dp i j (by omega), cpo f g sp dp (i + 1) j (by omega)]
theorem cp9_sL (f g : Nat → Int64) (sp dp i : Nat) : vp_updL (va_cpy f g sp dp i) (dp + i) (f (sp + i)) = va_cpy f g sp dp (i + 1) := by
  funext j
  by_cases h : j = dp + i
  · rw [h, pk_uLs, cpi f g sp dp (i + 1) (dp + i) (by omega) (by omega), show sp + (dp + i - dp) = sp + i by omega]
  · rw [pk_uLn h]
    by_cases h2 : dp ≤ j ∧ j < dp + i
    · rw [cpi f g sp dp i j h2.1 h2.2, cpi f g sp dp (i + 1) j h2.1 (by omega)]
    · rw [cpo f g sp dp i j (by omega), cpo f g sp dp (i + 1) j (by omega)]
theorem cp9_z (f g : Nat → Int32) (sp i : Nat) : upd (va_cpy f g sp 0 i) i (f (sp + i)) = va_cpy f g sp 0 (i + 1) := by
  have := cp9_s f g sp 0 i
  rw [Nat.zero_add] at this
  exact this
theorem cp9_y (f g : Nat → Int32) (dp i : Nat) : upd (va_cpy f g 0 dp i) (dp + i) (f i) = va_cpy f g 0 dp (i + 1) := by
  have := cp9_s f g 0 dp i
  rw [Nat.zero_add] at this
  exact this
theorem cp00 {α : Type} (f g : Nat → α) {n i : Nat} (h : i < n) : va_cpy f g 0 0 n i = f i := by
  rw [cpi f g 0 0 n i (by omega) (by omega), show 0 + (i - 0) = i by omega]
/-! the reference's loops that copy -/
theorem X12_keep_45_ok (N m : Nat) (s u : Nat → Int32) (hm : m < 8) (hN : 200 ≤ N) : f_X12_keep_45 N s (nI m) u = some (nI (m + 1), va_cpy s u 52 (101 * m) 101) := by
  have st : ∀ n i, i < 101 → f_X12_keep_47 N s (n + 1) (nI i) (nI m) (va_cpy s u 52 (101 * m) i) = f_X12_keep_47 N s n (nI (i + 1)) (nI m) (va_cpy s u 52 (101 * m) (i + 1)) := by
    intro n i hi
    rw [f_X12_keep_47]
    simp (disch := omega) only [zcl_s, zck_t, zbn_s, lits, m1_iI, ng_n, nI_le_T, nI_le_F, nI_lt_T, nI_lt_F, nI_eq_T, nI_eq_F, nI_1, le_1, le_1r, lt_1, lt_1r, eq_1, nI_add, pk_mul, sb_1, sb_n, cl_n, zi_n, iI_le_T, iI_le_F, iI_lt_T, iI_lt_F, iI_eq_T, iI_eq_F, mx1, mx2, mx3, mx4, mx5, mx6, mx7, mx8, mx9, mx10, iI_add, iI_sub, iI_p1, bI_n0, bI_1, bI_bo, tr_f, fa_f, tr_t, fa_t, if_true, if_false, or_n0, Nat.add_zero, Int.add_zero]
    rw [cp9_s]
  have fi : ∀ n, f_X12_keep_47 N s (n + 1) (nI 101) (nI m) (va_cpy s u 52 (101 * m) 101) = some (nI (m + 1), va_cpy s u 52 (101 * m) 101) := by
    intro n
    rw [f_X12_keep_47]
    simp (disch := omega) only [zcl_s, zck_t, zbn_s, lits, m1_iI, ng_n, nI_le_T, nI_le_F, nI_lt_T, nI_lt_F, nI_eq_T, nI_eq_F, nI_1, le_1, le_1r, lt_1, lt_1r, eq_1, nI_add, pk_mul, sb_1, sb_n, cl_n, zi_n, iI_le_T, iI_le_F, iI_lt_T, iI_lt_F, iI_eq_T, iI_eq_F, mx1, mx2, mx3, mx4, mx5, mx6, mx7, mx8, mx9, mx10, iI_add, iI_sub, iI_p1, bI_n0, bI_1, bI_bo, tr_f, fa_f, tr_t, fa_t, if_true, if_false, or_n0, Nat.add_zero, Int.add_zero]
  have := loopV (F := fun n i w => f_X12_keep_47 N s n (nI i) (nI m) w) (M := 101) (fun i => va_cpy s u 52 (101 * m) i) _ st fi N 0 (by omega) (by omega)
  rw [cp9_0] at this
  exact this
theorem X12_keep_11_ok (N : Nat) (s u : Nat → Int32) (c : Int32) (K : Int32 → (Nat → Int32) → Option (Int32 × (Nat → Int32))) (hN : 800 ≤ N) : f_X12_keep_11 N s K N 0 c u = K 7 (va_cpy u u 101 0 707) := by
  have st : ∀ n i, i < 707 → f_X12_keep_11 N s K (n + 1) (nI i) c (va_cpy u u 101 0 i) = f_X12_keep_11 N s K n (nI (i + 1)) c (va_cpy u u 101 0 (i + 1)) := by
    intro n i hi
    rw [f_X12_keep_11]
    simp (disch := omega) only [zcl_s, zck_t, zbn_s, lits, m1_iI, ng_n, nI_le_T, nI_le_F, nI_lt_T, nI_lt_F, nI_eq_T, nI_eq_F, nI_1, le_1, le_1r, lt_1, lt_1r, eq_1, nI_add, pk_mul, sb_1, sb_n, cl_n, zi_n, iI_le_T, iI_le_F, iI_lt_T, iI_lt_F, iI_eq_T, iI_eq_F, mx1, mx2, mx3, mx4, mx5, mx6, mx7, mx8, mx9, mx10, iI_add, iI_sub, iI_p1, bI_n0, bI_1, bI_bo, tr_f, fa_f, tr_t, fa_t, if_true, if_false, or_n0, Nat.add_zero, Int.add_zero]
    rw [cpo u u 101 0 i (i + 101) (by omega), Nat.add_comm i 101, cp9_z]
  have fi : ∀ n, f_X12_keep_11 N s K (n + 1) (nI 707) c (va_cpy u u 101 0 707) = K 7 (va_cpy u u 101 0 707) := by
    intro n
    rw [f_X12_keep_11, if_pos (show (707 : Int32) ≤ nI 707 by decide)]
  have := loopV (F := fun n i w => f_X12_keep_11 N s K n (nI i) c w) (M := 707) (fun i => va_cpy u u 101 0 i) _ st fi N 0 (by omega) (by omega)
  rw [cp9_0] at this
  exact this
theorem X12_keep_lt (N m : Nat) (s u : Nat → Int32) (hm : m < 8) (hN : 800 ≤ N) : f_X12_keep N (nI m) u s = some (nI (m + 1), va_cpy s u 52 (101 * m) 101) := by
  unfold f_X12_keep
  rw [if_neg (show ¬ nI m = 8 from fun z => by have := (nI_eq (a := m) (b := 8) (by omega) (by omega)).mp z; omega)]
  exact X12_keep_45_ok N m s u hm (by omega)
theorem X12_keep_8 (N : Nat) (s u : Nat → Int32) (hN : 800 ≤ N) : f_X12_keep N (nI 8) u s = some (nI 8, va_cpy s (va_cpy u u 101 0 707) 52 707 101) := by
  unfold f_X12_keep
  rw [if_pos (show nI 8 = 8 from rfl), X12_keep_11_ok N s u _ _ hN]
  exact X12_keep_45_ok N 7 s (va_cpy u u 101 0 707) (by omega) (by omega)
theorem X12_undo_ok (N m : Nat) (s u : Nat → Int32) (th : Int32) (hm : m < 8) (hN : 200 ≤ N) : f_X12_undo N th (nI (m + 1)) u s = some (nI m, 0, nI m, va_cpy u s (101 * m) 52 101) := by
  have st : ∀ n i, i < 101 → f_X12_undo_26 N u (n + 1) (nI i) 0 (nI m) (va_cpy u s (101 * m) 52 i) = f_X12_undo_26 N u n (nI (i + 1)) 0 (nI m) (va_cpy u s (101 * m) 52 (i + 1)) := by
    intro n i hi
    rw [f_X12_undo_26]
    simp (disch := omega) only [zcl_s, zck_t, zbn_s, lits, m1_iI, ng_n, nI_le_T, nI_le_F, nI_lt_T, nI_lt_F, nI_eq_T, nI_eq_F, nI_1, le_1, le_1r, lt_1, lt_1r, eq_1, nI_add, pk_mul, sb_1, sb_n, cl_n, zi_n, iI_le_T, iI_le_F, iI_lt_T, iI_lt_F, iI_eq_T, iI_eq_F, mx1, mx2, mx3, mx4, mx5, mx6, mx7, mx8, mx9, mx10, iI_add, iI_sub, iI_p1, bI_n0, bI_1, bI_bo, tr_f, fa_f, tr_t, fa_t, if_true, if_false, or_n0, Nat.add_zero, Int.add_zero]
    rw [cp9_s]
  have fi : ∀ n, f_X12_undo_26 N u (n + 1) (nI 101) 0 (nI m) (va_cpy u s (101 * m) 52 101) = some (nI m, 0, nI m, va_cpy u s (101 * m) 52 101) := by
    intro n
    rw [f_X12_undo_26]
    simp (disch := omega) only [zcl_s, zck_t, zbn_s, lits, m1_iI, ng_n, nI_le_T, nI_le_F, nI_lt_T, nI_lt_F, nI_eq_T, nI_eq_F, nI_1, le_1, le_1r, lt_1, lt_1r, eq_1, nI_add, pk_mul, sb_1, sb_n, cl_n, zi_n, iI_le_T, iI_le_F, iI_lt_T, iI_lt_F, iI_eq_T, iI_eq_F, mx1, mx2, mx3, mx4, mx5, mx6, mx7, mx8, mx9, mx10, iI_add, iI_sub, iI_p1, bI_n0, bI_1, bI_bo, tr_f, fa_f, tr_t, fa_t, if_true, if_false, or_n0, Nat.add_zero, Int.add_zero]
  have := loopV (F := fun n i w => f_X12_undo_26 N u n (nI i) 0 (nI m) w) (M := 101) (fun i => va_cpy u s (101 * m) 52 i) _ st fi N 0 (by omega) (by omega)
  rw [cp9_0] at this
  unfold f_X12_undo
  rw [if_neg (show ¬ nI (m + 1) = 0 from fun z => by have := (nI_eq (a := m + 1) (b := 0) (by omega) (by omega)).mp z; omega), zbn_s, sb_1 (by omega), Nat.add_sub_cancel]
  exact this
theorem X12_tries_ok (N : Nat) (s w : Nat → Int32) (hN : 200 ≤ N) : f_X12_tries N s w = some (va_cpy s w 52 0 101) := by
  have st : ∀ n i, i < 101 → f_X12_tries_2 N s (n + 1) (nI i) (va_cpy s w 52 0 i) = f_X12_tries_2 N s n (nI (i + 1)) (va_cpy s w 52 0 (i + 1)) := by
    intro n i hi
    rw [f_X12_tries_2]
    simp (disch := omega) only [zcl_s, zck_t, zbn_s, lits, m1_iI, ng_n, nI_le_T, nI_le_F, nI_lt_T, nI_lt_F, nI_eq_T, nI_eq_F, nI_1, le_1, le_1r, lt_1, lt_1r, eq_1, nI_add, pk_mul, sb_1, sb_n, cl_n, zi_n, iI_le_T, iI_le_F, iI_lt_T, iI_lt_F, iI_eq_T, iI_eq_F, mx1, mx2, mx3, mx4, mx5, mx6, mx7, mx8, mx9, mx10, iI_add, iI_sub, iI_p1, bI_n0, bI_1, bI_bo, tr_f, fa_f, tr_t, fa_t, if_true, if_false, or_n0, Nat.add_zero, Int.add_zero]
    rw [cp9_z]
  have fi : ∀ n, f_X12_tries_2 N s (n + 1) (nI 101) (va_cpy s w 52 0 101) = some (va_cpy s w 52 0 101) := by
    intro n
    rw [f_X12_tries_2]
    simp (disch := omega) only [zcl_s, zck_t, zbn_s, lits, m1_iI, ng_n, nI_le_T, nI_le_F, nI_lt_T, nI_lt_F, nI_eq_T, nI_eq_F, nI_1, le_1, le_1r, lt_1, lt_1r, eq_1, nI_add, pk_mul, sb_1, sb_n, cl_n, zi_n, iI_le_T, iI_le_F, iI_lt_T, iI_lt_F, iI_eq_T, iI_eq_F, mx1, mx2, mx3, mx4, mx5, mx6, mx7, mx8, mx9, mx10, iI_add, iI_sub, iI_p1, bI_n0, bI_1, bI_bo, tr_f, fa_f, tr_t, fa_t, if_true, if_false, or_n0, Nat.add_zero, Int.add_zero]
  have := loopV (F := fun n i w => f_X12_tries_2 N s n (nI i) w) (M := 101) (fun i => va_cpy s w 52 0 i) _ st fi N 0 (by omega) (by omega)
  rw [cp9_0] at this
  exact this
theorem X12_back_ok (N : Nat) (s w : Nat → Int32) (hN : 200 ≤ N) : f_X12_back N w s = some (va_cpy w s 0 52 101) := by
  have st : ∀ n i, i < 101 → f_X12_back_2 N w (n + 1) (nI i) (va_cpy w s 0 52 i) = f_X12_back_2 N w n (nI (i + 1)) (va_cpy w s 0 52 (i + 1)) := by
    intro n i hi
    rw [f_X12_back_2]
    simp (disch := omega) only [zcl_s, zck_t, zbn_s, lits, m1_iI, ng_n, nI_le_T, nI_le_F, nI_lt_T, nI_lt_F, nI_eq_T, nI_eq_F, nI_1, le_1, le_1r, lt_1, lt_1r, eq_1, nI_add, pk_mul, sb_1, sb_n, cl_n, zi_n, iI_le_T, iI_le_F, iI_lt_T, iI_lt_F, iI_eq_T, iI_eq_F, mx1, mx2, mx3, mx4, mx5, mx6, mx7, mx8, mx9, mx10, iI_add, iI_sub, iI_p1, bI_n0, bI_1, bI_bo, tr_f, fa_f, tr_t, fa_t, if_true, if_false, or_n0, Nat.add_zero, Int.add_zero]
    rw [cp9_y]
  have fi : ∀ n, f_X12_back_2 N w (n + 1) (nI 101) (va_cpy w s 0 52 101) = some (va_cpy w s 0 52 101) := by
    intro n
    rw [f_X12_back_2]
    simp (disch := omega) only [zcl_s, zck_t, zbn_s, lits, m1_iI, ng_n, nI_le_T, nI_le_F, nI_lt_T, nI_lt_F, nI_eq_T, nI_eq_F, nI_1, le_1, le_1r, lt_1, lt_1r, eq_1, nI_add, pk_mul, sb_1, sb_n, cl_n, zi_n, iI_le_T, iI_le_F, iI_lt_T, iI_lt_F, iI_eq_T, iI_eq_F, mx1, mx2, mx3, mx4, mx5, mx6, mx7, mx8, mx9, mx10, iI_add, iI_sub, iI_p1, bI_n0, bI_1, bI_bo, tr_f, fa_f, tr_t, fa_t, if_true, if_false, or_n0, Nat.add_zero, Int.add_zero]
  have := loopV (F := fun n i z => f_X12_back_2 N w n (nI i) z) (M := 101) (fun i => va_cpy w s 0 52 i) _ st fi N 0 (by omega) (by omega)
  rw [cp9_0] at this
  exact this
/-- tried and brought back -/
theorem back9 (s w s' : Nat → Int32) (h : ∀ i, i < 52 ∨ 153 ≤ i → s' i = s i) : va_cpy (va_cpy s w 52 0 101) s' 0 52 101 = s := by
  funext j
  by_cases hj : 52 ≤ j ∧ j < 153
  · rw [cpi (va_cpy s w 52 0 101) s' 0 52 101 j (by omega) (by omega), cpi s w 52 0 101 (0 + (j - 52)) (by omega) (by omega), show 52 + (0 + (j - 52) - 0) = j by omega]
  · rw [cpo (va_cpy s w 52 0 101) s' 0 52 101 j (by omega)]
    exact h j (by omega)
/-! the class's copies -/
def CY.cpy (A D : CY) : CY := CY.mk A.minute A.out A.stopped (va_cpy A.ahead D.ahead 0 0 6) (va_cpy A.since D.since 0 0 6) (va_cpy A.stood D.stood 0 0 6) (va_cpy A.due D.due 0 0 6) (va_cpy A.left D.left 0 0 36) (va_cpy A.came D.came 0 0 36)
theorem X3_copyFrom_ok (N : Nat) (A D : CY) : f_X3_copyFrom N A.minute A.out A.stopped D.minute D.out D.stopped A.ahead D.ahead A.since D.since A.stood D.stood A.due D.due A.left D.left A.came D.came = some ((CY.cpy A D).minute, (CY.cpy A D).out, (CY.cpy A D).stopped, (CY.cpy A D).ahead, (CY.cpy A D).since, (CY.cpy A D).stood, (CY.cpy A D).due, (CY.cpy A D).left, (CY.cpy A D).came) := rfl
def hdK (hd : Nat → CY) (p : Nat) (A : CY) : Nat → CY := fun j => CY.mk (zup (fun j => (hd j).minute) p A.minute j) (zup (fun j => (hd j).out) p A.out j) (zup (fun j => (hd j).stopped) p A.stopped j) (zup (fun j => (hd j).ahead) p (va_cpy A.ahead (hd p).ahead 0 0 6) j) (zup (fun j => (hd j).since) p (va_cpy A.since (hd p).since 0 0 6) j) (zup (fun j => (hd j).stood) p (va_cpy A.stood (hd p).stood 0 0 6) j) (zup (fun j => (hd j).due) p (va_cpy A.due (hd p).due 0 0 6) j) (zup (fun j => (hd j).left) p (va_cpy A.left (hd p).left 0 0 36) j) (zup (fun j => (hd j).came) p (va_cpy A.came (hd p).came 0 0 36) j)
theorem zup_s {α : Type} (f : Nat → α) (k : Nat) (v : α) : zup f k v k = v := if_pos rfl
theorem zup_n {α : Type} (f : Nat → α) (k : Nat) (v : α) {j : Nat} (h : j ≠ k) : zup f k v j = f j := if_neg h
theorem hdK_s (hd : Nat → CY) (p : Nat) (A : CY) : hdK hd p A p = CY.cpy A (hd p) := by
  unfold hdK CY.cpy
  rw [zup_s, zup_s, zup_s, zup_s, zup_s, zup_s, zup_s, zup_s, zup_s]
theorem hdK_n (hd : Nat → CY) (p : Nat) (A : CY) {j : Nat} (h : j ≠ p) : hdK hd p A j = hd j := by
  unfold hdK
  rw [zup_n _ _ _ h, zup_n _ _ _ h, zup_n _ _ _ h, zup_n _ _ _ h, zup_n _ _ _ h, zup_n _ _ _ h, zup_n _ _ _ h, zup_n _ _ _ h, zup_n _ _ _ h]
  rfl
theorem zmin_8 {n : Nat} (hn : n ≤ 8) : zmin (nI (n + 1)) (nI 8) = nI (min (n + 1) 8) := by
  unfold zmin
  by_cases h : 8 < n + 1
  · rw [if_pos (nI_lt h (by omega)), show min (n + 1) 8 = 8 by omega]
  · rw [if_neg (nI_nlt (show n + 1 ≤ 8 by omega) (by omega)), show min (n + 1) 8 = n + 1 by omega]
theorem zrem_8 {n : Nat} (hn : n < 1000) : zrem (nI n) (nI 8) = nI (n % 8) := pk_rem (by omega) (by omega) (by omega)
theorem X4_keep_ok (N p n : Nat) (A : CY) (hd : Nat → CY) (hp : p < 8) (hn : n ≤ 8) : f_X4_keep N (nI p) (nI n) A.minute A.out A.stopped (fun j => (hd j).minute) (fun j => (hd j).out) (fun j => (hd j).stopped) A.ahead (fun j => (hd j).ahead) A.since (fun j => (hd j).since) A.stood (fun j => (hd j).stood) A.due (fun j => (hd j).due) A.left (fun j => (hd j).left) A.came (fun j => (hd j).came) = some (nI ((p + 1) % 8), nI (min (n + 1) 8), zup (fun j => (hd j).minute) p A.minute, zup (fun j => (hd j).out) p A.out, zup (fun j => (hd j).stopped) p A.stopped, zup (fun j => (hd j).ahead) p (va_cpy A.ahead (hd p).ahead 0 0 6), zup (fun j => (hd j).since) p (va_cpy A.since (hd p).since 0 0 6), zup (fun j => (hd j).stood) p (va_cpy A.stood (hd p).stood 0 0 6), zup (fun j => (hd j).due) p (va_cpy A.due (hd p).due 0 0 6), zup (fun j => (hd j).left) p (va_cpy A.left (hd p).left 0 0 36), zup (fun j => (hd j).came) p (va_cpy A.came (hd p).came 0 0 36)) := by
  have e1 := zmin_8 hn
  have e2 := zrem_8 (n := p + 1) (by omega)
  have h8 : p = 0 ∨ p = 1 ∨ p = 2 ∨ p = 3 ∨ p = 4 ∨ p = 5 ∨ p = 6 ∨ p = 7 := by omega
  unfold f_X4_keep f_X3_copyFrom
  rcases h8 with rfl | rfl | rfl | rfl | rfl | rfl | rfl | rfl
  all_goals simp (disch := omega) only [zcl_s, zck_t, zbn_s, lits, m1_iI, ng_n, nI_le_T, nI_le_F, nI_lt_T, nI_lt_F, nI_eq_T, nI_eq_F, nI_1, le_1, le_1r, lt_1, lt_1r, eq_1, nI_add, pk_mul, sb_1, sb_n, cl_n, zi_n, iI_le_T, iI_le_F, iI_lt_T, iI_lt_F, iI_eq_T, iI_eq_F, mx1, mx2, mx3, mx4, mx5, mx6, mx7, mx8, mx9, mx10, iI_add, iI_sub, iI_p1, bI_n0, bI_1, bI_bo, tr_f, fa_f, tr_t, fa_t, if_true, if_false, or_n0, Nat.add_zero, Int.add_zero, e1, e2]
theorem X4_takeBack_0 (N p : Nat) (A : CY) (hd : Nat → CY) : f_X4_takeBack N (nI p) (nI 0) (fun j => (hd j).minute) (fun j => (hd j).out) (fun j => (hd j).stopped) A.minute A.out A.stopped (fun j => (hd j).ahead) A.ahead (fun j => (hd j).since) A.since (fun j => (hd j).stood) A.stood (fun j => (hd j).due) A.due (fun j => (hd j).left) A.left (fun j => (hd j).came) A.came = some (-1, nI p, nI 0, A.minute, A.out, A.stopped, A.ahead, A.since, A.stood, A.due, A.left, A.came) := by
  unfold f_X4_takeBack
  rw [if_pos (show nI 0 = 0 from rfl)]
theorem X4_takeBack_ok (N p n : Nat) (A : CY) (hd : Nat → CY) (hp : p < 8) (hn : n < 8) : f_X4_takeBack N (nI p) (nI (n + 1)) (fun j => (hd j).minute) (fun j => (hd j).out) (fun j => (hd j).stopped) A.minute A.out A.stopped (fun j => (hd j).ahead) A.ahead (fun j => (hd j).since) A.since (fun j => (hd j).stood) A.stood (fun j => (hd j).due) A.due (fun j => (hd j).left) A.left (fun j => (hd j).came) A.came = some (nI n, nI ((p + 7) % 8), nI n, (CY.cpy (hd ((p + 7) % 8)) A).minute, (CY.cpy (hd ((p + 7) % 8)) A).out, (CY.cpy (hd ((p + 7) % 8)) A).stopped, (CY.cpy (hd ((p + 7) % 8)) A).ahead, (CY.cpy (hd ((p + 7) % 8)) A).since, (CY.cpy (hd ((p + 7) % 8)) A).stood, (CY.cpy (hd ((p + 7) % 8)) A).due, (CY.cpy (hd ((p + 7) % 8)) A).left, (CY.cpy (hd ((p + 7) % 8)) A).came) := by
  have e2 : zrem (nI (p + 8 - 1)) (nI 8) = nI ((p + 7) % 8) := by rw [show p + 8 - 1 = p + 7 by omega]; exact zrem_8 (by omega)
  have h8 : (p + 7) % 8 < 8 := by omega
  generalize hq : (p + 7) % 8 = q at h8 e2 ⊢
  unfold f_X4_takeBack f_X3_copyFrom
  have h9 : q = 0 ∨ q = 1 ∨ q = 2 ∨ q = 3 ∨ q = 4 ∨ q = 5 ∨ q = 6 ∨ q = 7 := by omega
  rcases h9 with h9 | h9 | h9 | h9 | h9 | h9 | h9 | h9
  all_goals
    rw [h9] at e2 ⊢
    simp (disch := omega) only [zcl_s, zck_t, zbn_s, lits, m1_iI, ng_n, nI_le_T, nI_le_F, nI_lt_T, nI_lt_F, nI_eq_T, nI_eq_F, nI_1, le_1, le_1r, lt_1, lt_1r, eq_1, nI_add, pk_mul, sb_1, sb_n, cl_n, zi_n, iI_le_T, iI_le_F, iI_lt_T, iI_lt_F, iI_eq_T, iI_eq_F, mx1, mx2, mx3, mx4, mx5, mx6, mx7, mx8, mx9, mx10, iI_add, iI_sub, iI_p1, bI_n0, bI_1, bI_bo, tr_f, fa_f, tr_t, fa_t, if_true, if_false, or_n0, Nat.add_zero, Int.add_zero, e2, Nat.add_sub_cancel]
    rfl
section HIST
variable {b : MB} {d : MD} {B : CB} {D A : CY} {s : Nat → Int32} {nm : Nat → Int64}
theorem DY.cpy (h : DY b d B A s) (D : CY) : DY b d B (CY.cpy A D) s := h.cong rfl rfl rfl (fun i hi => cp00 _ _ hi) (fun i hi => cp00 _ _ hi) (fun i hi => cp00 _ _ hi) (fun i hi => cp00 _ _ hi) (fun i hi => cp00 _ _ hi) (fun i hi => cp00 _ _ hi)
theorem BR.congS (h : BR b B s nm) {s' : Nat → Int32} (hs : ∀ i, i < 52 → s' i = s i) : BR b B s' nm := by
  obtain ⟨⟨a1, a2, a3, a4, a5, a6, a7, a8, a9, a10, a11, a12⟩, h1, h2, h3⟩ := h
  refine ⟨⟨a1, a2, a3, a4, by rw [hs 0 (by omega)]; exact a5, a6, by rw [hs 1 (by omega)]; exact a7, a8, by rw [hs 2 (by omega)]; exact a9, a10, by rw [hs 3 (by omega)]; exact a11, a12⟩, fun c hc => ?_, fun m hm => ?_, fun e he => ?_⟩
  · rw [hs (4 + c) (by omega), hs (10 + c) (by omega), hs (16 + c) (by omega)]; exact h1 c hc
  · rw [hs (22 + m) (by omega), hs (28 + m) (by omega), hs (34 + m) (by omega)]; exact h2 m hm
  · rw [hs (40 + e) (by omega), hs (46 + e) (by omega)]; exact h3 e he
theorem SR.congS {len : Int32} {code : Nat → Int32} (h : SR b len code s) {s' : Nat → Int32} (hs : ∀ i, 153 ≤ i → i < 334 → s' i = s i) : SR b len code s' := by
  obtain ⟨q, h1, h2, h3, h4, h5, h6⟩ := h
  refine ⟨q, h1, h2, by rw [hs 153 (by omega) (by omega)]; exact h3, fun i x hx => ?_, h5, h6⟩
  have hi : i < q.length := (List.getElem?_eq_some_iff.mp hx).1
  rw [hs (154 + 3 * i) (by omega) (by omega), hs (155 + 3 * i) (by omega) (by omega), hs (156 + 3 * i) (by omega) (by omega)]
  exact h4 i x hx
theorem SR.congC {len : Int32} {code : Nat → Int32} (h : SR b len code s) {code' : Nat → Int32} (hs : ∀ i, i < 40 → code' i = code i) : SR b len code' s := by
  obtain ⟨q, h1, h2, h3, h4, h5, h6⟩ := h
  refine ⟨q, h1, h2, h3, fun i x hx => ?_, h5, h6⟩
  have hi : i < q.length := (List.getElem?_eq_some_iff.mp hx).1
  rw [hs i (by omega)]
  exact h4 i x hx
theorem blk_in (s u : Nat → Int32) (i k : Nat) (h : 52 ≤ k ∧ k < 153) : blk s u i k = u (101 * i + (k - 52)) := if_pos h
theorem blk_out (s u : Nat → Int32) (i k : Nat) (h : ¬ (52 ≤ k ∧ k < 153)) : blk s u i k = s k := if_neg h
theorem HR.congS {hd : Nat → CY} {next size many : Int32} {u : Nat → Int32} (h : HR b B hd next size s u many) {s' : Nat → Int32} (hs : ∀ i, i < 52 → s' i = s i) : HR b B hd next size s' u many := by
  obtain ⟨p, n, h1, h2, h3, h4, h5, h6⟩ := h
  refine ⟨p, n, h1, h2, h3, h4, h5, fun i hi => ?_⟩
  obtain ⟨d', hd'⟩ := h6 i hi
  refine ⟨d', hd'.congS (fun k hk => ?_)⟩
  by_cases e : 52 ≤ k ∧ k < 153
  · rw [blk_in _ _ _ _ e, blk_in _ _ _ _ e]
  · rw [blk_out _ _ _ _ e, blk_out _ _ _ _ e]; exact hs k (by omega)
/-- a day is kept on both sides -/
theorem HR.keep {hd : Nat → CY} {next size many : Int32} {u : Nat → Int32} (hH : HR b B hd next size s u many) (h : DY b d B A s) (N : Nat) (hN : 800 ≤ N) : ∃ (p : Nat) (next' size' many' : Int32) (u' : Nat → Int32), f_X4_keep N next size A.minute A.out A.stopped (fun j => (hd j).minute) (fun j => (hd j).out) (fun j => (hd j).stopped) A.ahead (fun j => (hd j).ahead) A.since (fun j => (hd j).since) A.stood (fun j => (hd j).stood) A.due (fun j => (hd j).due) A.left (fun j => (hd j).left) A.came (fun j => (hd j).came) = some (next', size', zup (fun j => (hd j).minute) p A.minute, zup (fun j => (hd j).out) p A.out, zup (fun j => (hd j).stopped) p A.stopped, zup (fun j => (hd j).ahead) p (va_cpy A.ahead (hd p).ahead 0 0 6), zup (fun j => (hd j).since) p (va_cpy A.since (hd p).since 0 0 6), zup (fun j => (hd j).stood) p (va_cpy A.stood (hd p).stood 0 0 6), zup (fun j => (hd j).due) p (va_cpy A.due (hd p).due 0 0 6), zup (fun j => (hd j).left) p (va_cpy A.left (hd p).left 0 0 36), zup (fun j => (hd j).came) p (va_cpy A.came (hd p).came 0 0 36)) ∧ f_X12_keep N many u s = some (many', u') ∧ HR b B (hdK hd p A) next' size' s u' many' := by
  obtain ⟨p, n, h1, h2, h3, h4, h5, h6⟩ := hH
  rw [h3, h4, h5]
  by_cases hn : n < 8
  · refine ⟨p, _, _, _, _, X4_keep_ok N p n A hd h1 h2, X12_keep_lt N n s u hn hN, (p + 1) % 8, n + 1, by omega, by omega, rfl, by rw [show min (n + 1) 8 = n + 1 by omega], rfl, fun i hi => ?_⟩
    by_cases e : i = n
    · subst e
      refine ⟨d, ?_⟩
      rw [show ((p + 1) % 8 + 8 - (i + 1) + i) % 8 = p by omega, hdK_s]
      refine (h.cpy (hd p)).congS (fun k hk => ?_)
      by_cases e : 52 ≤ k ∧ k < 153
      · rw [blk_in _ _ _ _ e, cpi s u 52 (101 * i) 101 (101 * i + (k - 52)) (by omega) (by omega), show 52 + (101 * i + (k - 52) - 101 * i) = k by omega]
      · rw [blk_out _ _ _ _ e]
    · obtain ⟨d', hd'⟩ := h6 i (by omega)
      refine ⟨d', ?_⟩
      rw [show ((p + 1) % 8 + 8 - (n + 1) + i) % 8 = (p + 8 - n + i) % 8 by omega, hdK_n hd p A (show (p + 8 - n + i) % 8 ≠ p by omega)]
      refine hd'.congS (fun k hk => ?_)
      by_cases e : 52 ≤ k ∧ k < 153
      · rw [blk_in _ _ _ _ e, blk_in _ _ _ _ e, cpo s u 52 (101 * n) 101 (101 * i + (k - 52)) (by omega)]
      · rw [blk_out _ _ _ _ e, blk_out _ _ _ _ e]
  · have hn8 : n = 8 := by omega
    subst hn8
    refine ⟨p, _, _, _, _, X4_keep_ok N p 8 A hd h1 h2, X12_keep_8 N s u hN, (p + 1) % 8, 8, by omega, by omega, rfl, rfl, rfl, fun i hi => ?_⟩
    by_cases e : i = 7
    · subst e
      refine ⟨d, ?_⟩
      rw [show ((p + 1) % 8 + 8 - 8 + 7) % 8 = p by omega, hdK_s]
      refine (h.cpy (hd p)).congS (fun k hk => ?_)
      by_cases e : 52 ≤ k ∧ k < 153
      · rw [blk_in _ _ _ _ e, cpi s (va_cpy u u 101 0 707) 52 707 101 (101 * 7 + (k - 52)) (by omega) (by omega), show 52 + (101 * 7 + (k - 52) - 707) = k by omega]
      · rw [blk_out _ _ _ _ e]
    · obtain ⟨d', hd'⟩ := h6 (i + 1) (by omega)
      refine ⟨d', ?_⟩
      rw [show (p + 8 - 8 + (i + 1)) % 8 = ((p + 1) % 8 + 8 - 8 + i) % 8 by omega] at hd'
      rw [hdK_n hd p A (show ((p + 1) % 8 + 8 - 8 + i) % 8 ≠ p by omega)]
      refine hd'.congS (fun k hk => ?_)
      by_cases e : 52 ≤ k ∧ k < 153
      · rw [blk_in _ _ _ _ e, blk_in _ _ _ _ e, cpo s (va_cpy u u 101 0 707) 52 707 101 (101 * i + (k - 52)) (by omega), cpi u u 101 0 707 (101 * i + (k - 52)) (by omega) (by omega), show 101 + (101 * i + (k - 52) - 0) = 101 * (i + 1) + (k - 52) by omega]
      · rw [blk_out _ _ _ _ e, blk_out _ _ _ _ e]
/-- the last one is taken back -/
theorem HR.undo {hd : Nat → CY} {next size many : Int32} {u : Nat → Int32} (hH : HR b B hd next size s u many) (h : DY b d B A s) (N : Nat) (hN : 200 ≤ N) (th : Int32) : (f_X4_takeBack N next size (fun j => (hd j).minute) (fun j => (hd j).out) (fun j => (hd j).stopped) A.minute A.out A.stopped (fun j => (hd j).ahead) A.ahead (fun j => (hd j).since) A.since (fun j => (hd j).stood) A.stood (fun j => (hd j).due) A.due (fun j => (hd j).left) A.left (fun j => (hd j).came) A.came = some (-1, next, size, A.minute, A.out, A.stopped, A.ahead, A.since, A.stood, A.due, A.left, A.came) ∧ f_X12_undo N th many u s = some (-1, 0, many, s)) ∨ ∃ (v next' size' many' : Int32) (s' : Nat → Int32) (D' : CY) (d' : MD), f_X4_takeBack N next size (fun j => (hd j).minute) (fun j => (hd j).out) (fun j => (hd j).stopped) A.minute A.out A.stopped (fun j => (hd j).ahead) A.ahead (fun j => (hd j).since) A.since (fun j => (hd j).stood) A.stood (fun j => (hd j).due) A.due (fun j => (hd j).left) A.left (fun j => (hd j).came) A.came = some (v, next', size', D'.minute, D'.out, D'.stopped, D'.ahead, D'.since, D'.stood, D'.due, D'.left, D'.came) ∧ f_X12_undo N th many u s = some (v, 0, many', s') ∧ (∀ i, i < 52 ∨ 153 ≤ i → s' i = s i) ∧ DY b d' B D' s' ∧ HR b B hd next' size' s' u many' := by
  obtain ⟨p, n, h1, h2, h3, h4, h5, h6⟩ := hH
  rw [h3, h4, h5]
  cases n with
  | zero => exact Or.inl ⟨X4_takeBack_0 N p A hd, by unfold f_X12_undo; rw [if_pos (show nI 0 = 0 from rfl)]⟩
  | succ n =>
    refine Or.inr ?_
    obtain ⟨d', hd'⟩ := h6 n (by omega)
    have hs : ∀ i, i < 52 ∨ 153 ≤ i → va_cpy u s (101 * n) 52 101 i = s i := fun i hi => cpo u s (101 * n) 52 101 i (by omega)
    refine ⟨_, _, _, _, _, CY.cpy (hd ((p + 7) % 8)) A, d', X4_takeBack_ok N p n A hd h1 (by omega), X12_undo_ok N n s u th (by omega) hN, hs, ?_, ?_⟩
    · rw [show (p + 8 - (n + 1) + n) % 8 = (p + 7) % 8 by omega] at hd'
      refine (hd'.cpy A).congS (fun k hk => ?_)
      by_cases e : 52 ≤ k ∧ k < 153
      · rw [blk_in _ _ _ _ e, cpi u s (101 * n) 52 101 k (by omega) (by omega)]
      · rw [blk_out _ _ _ _ e]; exact hs k (by omega)
    · refine HR.congS (s := s) ⟨(p + 7) % 8, n, by omega, by omega, rfl, rfl, rfl, fun i hi => ?_⟩ (fun i hi => hs i (by omega))
      obtain ⟨d'', hd''⟩ := h6 i (by omega)
      rw [show (p + 8 - (n + 1) + i) % 8 = ((p + 7) % 8 + 8 - n + i) % 8 by omega] at hd''
      exact ⟨d'', hd''⟩
end HIST
