/-! ===== images ===== -/
theorem cp9_yL (f g : Nat → Int64) (dp i : Nat) : vp_updL (va_cpy f g 0 dp i) (dp + i) (f i) = va_cpy f g 0 dp (i + 1) := by
  have := cp9_sL f g 0 dp i
  rw [Nat.zero_add] at this
  exact this
theorem cp9_zL (f g : Nat → Int64) (sp i : Nat) : vp_updL (va_cpy f g sp 0 i) i (f (sp + i)) = va_cpy f g sp 0 (i + 1) := by
  have := cp9_sL f g sp 0 i
  rw [Nat.zero_add] at this
  exact this
def CB.cpy (A B : CB) : CB := CB.mk A.clocks A.masters A.meets A.patience (va_cpy A.clockName B.clockName 0 0 6) (va_cpy A.clockCorner B.clockCorner 0 0 6) (va_cpy A.clockAhead B.clockAhead 0 0 6) (va_cpy A.clockGain B.clockGain 0 0 6) (va_cpy A.masterName B.masterName 0 0 6) (va_cpy A.masterCorner B.masterCorner 0 0 6) (va_cpy A.masterLate B.masterLate 0 0 6) (va_cpy A.masterClock B.masterClock 0 0 6) (va_cpy A.masterMeets B.masterMeets 0 0 6) (va_cpy A.meetName B.meetName 0 0 6) (va_cpy A.meetDue B.meetDue 0 0 6)
theorem X10_copyFrom_ok (N : Nat) (A B : CB) (D E : CY) (l l' : Int32) (c c' : Nat → Int32) : f_X10_copyFrom N A.clocks A.masters A.meets A.patience B.clocks B.masters B.meets B.patience A.clockName B.clockName A.clockCorner B.clockCorner A.clockAhead B.clockAhead A.clockGain B.clockGain A.masterName B.masterName A.masterCorner B.masterCorner A.masterLate B.masterLate A.masterClock B.masterClock A.masterMeets B.masterMeets A.meetName B.meetName A.meetDue B.meetDue D.minute D.out D.stopped E.minute E.out E.stopped D.ahead E.ahead D.since E.since D.stood E.stood D.due E.due D.left E.left D.came E.came l l' c' c = some ((CB.cpy A B).clocks, (CB.cpy A B).masters, (CB.cpy A B).meets, (CB.cpy A B).patience, (CB.cpy A B).clockName, (CB.cpy A B).clockCorner, (CB.cpy A B).clockAhead, (CB.cpy A B).clockGain, (CB.cpy A B).masterName, (CB.cpy A B).masterCorner, (CB.cpy A B).masterLate, (CB.cpy A B).masterClock, (CB.cpy A B).masterMeets, (CB.cpy A B).meetName, (CB.cpy A B).meetDue, (CY.cpy D E).minute, (CY.cpy D E).out, (CY.cpy D E).stopped, (CY.cpy D E).ahead, (CY.cpy D E).since, (CY.cpy D E).stood, (CY.cpy D E).due, (CY.cpy D E).left, (CY.cpy D E).came, l, va_cpy c c' 0 0 40) := rfl
def ibK (ib : Nat → CB) (p : Nat) (A : CB) : Nat → CB := fun i => CB.mk (zup (fun j => (ib j).clocks) p (CB.cpy A (ib p)).clocks i) (zup (fun j => (ib j).masters) p (CB.cpy A (ib p)).masters i) (zup (fun j => (ib j).meets) p (CB.cpy A (ib p)).meets i) (zup (fun j => (ib j).patience) p (CB.cpy A (ib p)).patience i) (zup (fun j => (ib j).clockName) p (CB.cpy A (ib p)).clockName i) (zup (fun j => (ib j).clockCorner) p (CB.cpy A (ib p)).clockCorner i) (zup (fun j => (ib j).clockAhead) p (CB.cpy A (ib p)).clockAhead i) (zup (fun j => (ib j).clockGain) p (CB.cpy A (ib p)).clockGain i) (zup (fun j => (ib j).masterName) p (CB.cpy A (ib p)).masterName i) (zup (fun j => (ib j).masterCorner) p (CB.cpy A (ib p)).masterCorner i) (zup (fun j => (ib j).masterLate) p (CB.cpy A (ib p)).masterLate i) (zup (fun j => (ib j).masterClock) p (CB.cpy A (ib p)).masterClock i) (zup (fun j => (ib j).masterMeets) p (CB.cpy A (ib p)).masterMeets i) (zup (fun j => (ib j).meetName) p (CB.cpy A (ib p)).meetName i) (zup (fun j => (ib j).meetDue) p (CB.cpy A (ib p)).meetDue i)
def imK (im : Nat → CY) (p : Nat) (A : CY) : Nat → CY := fun i => CY.mk (zup (fun j => (im j).minute) p (CY.cpy A (im p)).minute i) (zup (fun j => (im j).out) p (CY.cpy A (im p)).out i) (zup (fun j => (im j).stopped) p (CY.cpy A (im p)).stopped i) (zup (fun j => (im j).ahead) p (CY.cpy A (im p)).ahead i) (zup (fun j => (im j).since) p (CY.cpy A (im p)).since i) (zup (fun j => (im j).stood) p (CY.cpy A (im p)).stood i) (zup (fun j => (im j).due) p (CY.cpy A (im p)).due i) (zup (fun j => (im j).left) p (CY.cpy A (im p)).left i) (zup (fun j => (im j).came) p (CY.cpy A (im p)).came i)
theorem ibK_s (ib : Nat → CB) (p : Nat) (A : CB) : ibK ib p A p = CB.cpy A (ib p) := by
  unfold ibK
  rw [zup_s, zup_s, zup_s, zup_s, zup_s, zup_s, zup_s, zup_s, zup_s, zup_s, zup_s, zup_s, zup_s, zup_s, zup_s]
  rfl
theorem ibK_n (ib : Nat → CB) (p : Nat) (A : CB) {j : Nat} (h : j ≠ p) : ibK ib p A j = ib j := by
  unfold ibK
  rw [zup_n _ _ _ h, zup_n _ _ _ h, zup_n _ _ _ h, zup_n _ _ _ h, zup_n _ _ _ h, zup_n _ _ _ h, zup_n _ _ _ h, zup_n _ _ _ h, zup_n _ _ _ h, zup_n _ _ _ h, zup_n _ _ _ h, zup_n _ _ _ h, zup_n _ _ _ h, zup_n _ _ _ h, zup_n _ _ _ h]
  rfl
theorem imK_s (ib : Nat → CY) (p : Nat) (A : CY) : imK ib p A p = CY.cpy A (ib p) := by
  unfold imK
  rw [zup_s, zup_s, zup_s, zup_s, zup_s, zup_s, zup_s, zup_s, zup_s]
  rfl
theorem imK_n (ib : Nat → CY) (p : Nat) (A : CY) {j : Nat} (h : j ≠ p) : imK ib p A j = ib j := by
  unfold imK
  rw [zup_n _ _ _ h, zup_n _ _ _ h, zup_n _ _ _ h, zup_n _ _ _ h, zup_n _ _ _ h, zup_n _ _ _ h, zup_n _ _ _ h, zup_n _ _ _ h, zup_n _ _ _ h]
  rfl
theorem X11_image_ok (N j : Nat) (hj : j < 2) (k : KS) : f_X11_image N (nI j) k.images_kept k.here.clocks k.here.masters k.here.meets k.here.patience (fun j => (k.ib j).clocks) (fun j => (k.ib j).masters) (fun j => (k.ib j).meets) (fun j => (k.ib j).patience) k.here.clockName (fun j => (k.ib j).clockName) k.here.clockCorner (fun j => (k.ib j).clockCorner) k.here.clockAhead (fun j => (k.ib j).clockAhead) k.here.clockGain (fun j => (k.ib j).clockGain) k.here.masterName (fun j => (k.ib j).masterName) k.here.masterCorner (fun j => (k.ib j).masterCorner) k.here.masterLate (fun j => (k.ib j).masterLate) k.here.masterClock (fun j => (k.ib j).masterClock) k.here.masterMeets (fun j => (k.ib j).masterMeets) k.here.meetName (fun j => (k.ib j).meetName) k.here.meetDue (fun j => (k.ib j).meetDue) k.day.minute k.day.out k.day.stopped (fun j => (k.im j).minute) (fun j => (k.im j).out) (fun j => (k.im j).stopped) k.day.ahead (fun j => (k.im j).ahead) k.day.since (fun j => (k.im j).since) k.day.stood (fun j => (k.im j).stood) k.day.due (fun j => (k.im j).due) k.day.left (fun j => (k.im j).left) k.day.came (fun j => (k.im j).came) k.here_sentence_length k.images_sentence_length k.images_sentence_code k.here_sentence_code = some ((1 : Int32), zup k.images_kept j 1, zup (fun i => (k.ib i).clocks) j (CB.cpy k.here (k.ib j)).clocks, zup (fun i => (k.ib i).masters) j (CB.cpy k.here (k.ib j)).masters, zup (fun i => (k.ib i).meets) j (CB.cpy k.here (k.ib j)).meets, zup (fun i => (k.ib i).patience) j (CB.cpy k.here (k.ib j)).patience, zup (fun i => (k.ib i).clockName) j (CB.cpy k.here (k.ib j)).clockName, zup (fun i => (k.ib i).clockCorner) j (CB.cpy k.here (k.ib j)).clockCorner, zup (fun i => (k.ib i).clockAhead) j (CB.cpy k.here (k.ib j)).clockAhead, zup (fun i => (k.ib i).clockGain) j (CB.cpy k.here (k.ib j)).clockGain, zup (fun i => (k.ib i).masterName) j (CB.cpy k.here (k.ib j)).masterName, zup (fun i => (k.ib i).masterCorner) j (CB.cpy k.here (k.ib j)).masterCorner, zup (fun i => (k.ib i).masterLate) j (CB.cpy k.here (k.ib j)).masterLate, zup (fun i => (k.ib i).masterClock) j (CB.cpy k.here (k.ib j)).masterClock, zup (fun i => (k.ib i).masterMeets) j (CB.cpy k.here (k.ib j)).masterMeets, zup (fun i => (k.ib i).meetName) j (CB.cpy k.here (k.ib j)).meetName, zup (fun i => (k.ib i).meetDue) j (CB.cpy k.here (k.ib j)).meetDue, zup (fun i => (k.im i).minute) j (CY.cpy k.day (k.im j)).minute, zup (fun i => (k.im i).out) j (CY.cpy k.day (k.im j)).out, zup (fun i => (k.im i).stopped) j (CY.cpy k.day (k.im j)).stopped, zup (fun i => (k.im i).ahead) j (CY.cpy k.day (k.im j)).ahead, zup (fun i => (k.im i).since) j (CY.cpy k.day (k.im j)).since, zup (fun i => (k.im i).stood) j (CY.cpy k.day (k.im j)).stood, zup (fun i => (k.im i).due) j (CY.cpy k.day (k.im j)).due, zup (fun i => (k.im i).left) j (CY.cpy k.day (k.im j)).left, zup (fun i => (k.im i).came) j (CY.cpy k.day (k.im j)).came, zup k.images_sentence_length j k.here_sentence_length, zup k.images_sentence_code j (va_cpy k.here_sentence_code (k.images_sentence_code j) 0 0 40)) := by
  have hj' : j = 0 ∨ j = 1 := by omega
  unfold f_X11_image
  rcases hj' with rfl | rfl
  · rw [if_neg (show ¬ nI 0 < 0 by decide), if_pos (show nI 0 < 2 by decide), zin_nI (show 0 < 2 by omega) (by omega), zck_t, if_pos (show nI 0 = 0 from rfl), X10_copyFrom_ok, zcl_s]
  · rw [if_neg (show ¬ nI 1 < 0 by decide), if_pos (show nI 1 < 2 by decide), zin_nI (show 1 < 2 by omega) (by omega), zck_t, if_neg (show ¬ nI 1 = 0 by decide), if_pos (show nI 1 = 1 from rfl), X10_copyFrom_ok, zcl_s]
theorem X11_restore_ok (N j : Nat) (hj : j < 2) (k : KS) (hk : k.images_kept j = 1) : f_X11_restore N (nI j) k.images_kept (fun j => (k.ib j).clocks) (fun j => (k.ib j).masters) (fun j => (k.ib j).meets) (fun j => (k.ib j).patience) k.here.clocks k.here.masters k.here.meets k.here.patience (fun j => (k.ib j).clockName) k.here.clockName (fun j => (k.ib j).clockCorner) k.here.clockCorner (fun j => (k.ib j).clockAhead) k.here.clockAhead (fun j => (k.ib j).clockGain) k.here.clockGain (fun j => (k.ib j).masterName) k.here.masterName (fun j => (k.ib j).masterCorner) k.here.masterCorner (fun j => (k.ib j).masterLate) k.here.masterLate (fun j => (k.ib j).masterClock) k.here.masterClock (fun j => (k.ib j).masterMeets) k.here.masterMeets (fun j => (k.ib j).meetName) k.here.meetName (fun j => (k.ib j).meetDue) k.here.meetDue (fun j => (k.im j).minute) (fun j => (k.im j).out) (fun j => (k.im j).stopped) k.day.minute k.day.out k.day.stopped (fun j => (k.im j).ahead) k.day.ahead (fun j => (k.im j).since) k.day.since (fun j => (k.im j).stood) k.day.stood (fun j => (k.im j).due) k.day.due (fun j => (k.im j).left) k.day.left (fun j => (k.im j).came) k.day.came k.images_sentence_length k.here_sentence_length k.here_sentence_code k.images_sentence_code k.history_size = some ((1 : Int32), (CB.cpy (k.ib j) k.here).clocks, (CB.cpy (k.ib j) k.here).masters, (CB.cpy (k.ib j) k.here).meets, (CB.cpy (k.ib j) k.here).patience, (CB.cpy (k.ib j) k.here).clockName, (CB.cpy (k.ib j) k.here).clockCorner, (CB.cpy (k.ib j) k.here).clockAhead, (CB.cpy (k.ib j) k.here).clockGain, (CB.cpy (k.ib j) k.here).masterName, (CB.cpy (k.ib j) k.here).masterCorner, (CB.cpy (k.ib j) k.here).masterLate, (CB.cpy (k.ib j) k.here).masterClock, (CB.cpy (k.ib j) k.here).masterMeets, (CB.cpy (k.ib j) k.here).meetName, (CB.cpy (k.ib j) k.here).meetDue, (CY.cpy (k.im j) k.day).minute, (CY.cpy (k.im j) k.day).out, (CY.cpy (k.im j) k.day).stopped, (CY.cpy (k.im j) k.day).ahead, (CY.cpy (k.im j) k.day).since, (CY.cpy (k.im j) k.day).stood, (CY.cpy (k.im j) k.day).due, (CY.cpy (k.im j) k.day).left, (CY.cpy (k.im j) k.day).came, k.images_sentence_length j, va_cpy (k.images_sentence_code j) k.here_sentence_code 0 0 40, 0) := by
  have hj' : j = 0 ∨ j = 1 := by omega
  unfold f_X11_restore f_X4_forget
  rcases hj' with rfl | rfl
  · rw [if_neg (show ¬ nI 0 < 0 by decide), if_neg (show ¬ 2 ≤ nI 0 by decide), zin_nI (show 0 < 2 by omega) (by omega), zck_t, if_pos (show nI 0 = 0 from rfl), hk, if_neg one0, X10_copyFrom_ok, zcl_s, zcl_s]
  · rw [if_neg (show ¬ nI 1 < 0 by decide), if_neg (show ¬ 2 ≤ nI 1 by decide), zin_nI (show 1 < 2 by omega) (by omega), zck_t, if_neg (show ¬ nI 1 = 0 by decide), if_pos (show nI 1 = 1 from rfl), hk, if_neg one0, X10_copyFrom_ok, zcl_s, zcl_s]
theorem X11_restore_no (N j : Nat) (hj : j < 2) (k : KS) (hk : k.images_kept j = 0) : f_X11_restore N (nI j) k.images_kept (fun j => (k.ib j).clocks) (fun j => (k.ib j).masters) (fun j => (k.ib j).meets) (fun j => (k.ib j).patience) k.here.clocks k.here.masters k.here.meets k.here.patience (fun j => (k.ib j).clockName) k.here.clockName (fun j => (k.ib j).clockCorner) k.here.clockCorner (fun j => (k.ib j).clockAhead) k.here.clockAhead (fun j => (k.ib j).clockGain) k.here.clockGain (fun j => (k.ib j).masterName) k.here.masterName (fun j => (k.ib j).masterCorner) k.here.masterCorner (fun j => (k.ib j).masterLate) k.here.masterLate (fun j => (k.ib j).masterClock) k.here.masterClock (fun j => (k.ib j).masterMeets) k.here.masterMeets (fun j => (k.ib j).meetName) k.here.meetName (fun j => (k.ib j).meetDue) k.here.meetDue (fun j => (k.im j).minute) (fun j => (k.im j).out) (fun j => (k.im j).stopped) k.day.minute k.day.out k.day.stopped (fun j => (k.im j).ahead) k.day.ahead (fun j => (k.im j).since) k.day.since (fun j => (k.im j).stood) k.day.stood (fun j => (k.im j).due) k.day.due (fun j => (k.im j).left) k.day.left (fun j => (k.im j).came) k.day.came k.images_sentence_length k.here_sentence_length k.here_sentence_code k.images_sentence_code k.history_size = some ((0 : Int32), k.here.clocks, k.here.masters, k.here.meets, k.here.patience, k.here.clockName, k.here.clockCorner, k.here.clockAhead, k.here.clockGain, k.here.masterName, k.here.masterCorner, k.here.masterLate, k.here.masterClock, k.here.masterMeets, k.here.meetName, k.here.meetDue, k.day.minute, k.day.out, k.day.stopped, k.day.ahead, k.day.since, k.day.stood, k.day.due, k.day.left, k.day.came, k.here_sentence_length, k.here_sentence_code, k.history_size) := by
  have hj' : j = 0 ∨ j = 1 := by omega
  unfold f_X11_restore
  rcases hj' with rfl | rfl
  · rw [if_neg (show ¬ nI 0 < 0 by decide), if_neg (show ¬ 2 ≤ nI 0 by decide), zin_nI (show 0 < 2 by omega) (by omega), zck_t, if_pos (show nI 0 = 0 from rfl), hk, if_pos rfl]
  · rw [if_neg (show ¬ nI 1 < 0 by decide), if_neg (show ¬ 2 ≤ nI 1 by decide), zin_nI (show 1 < 2 by omega) (by omega), zck_t, if_neg (show ¬ nI 1 = 0 by decide), if_pos (show nI 1 = 1 from rfl), hk, if_pos rfl]
/-! the reference's copies -/
theorem X12_image_51_ok (N j : Nat) (s : Nat → Int32) (nm nk : Nat → Int64) (im ak : Nat → Int32) (th : Int32) (hj : j < 2) (hN : 400 ≤ N) : f_X12_image_51 N s nm N (nI j) 0 th im nk ak = some (1, th, im, va_cpy nm nk 0 (18 * j) 18, upd ak j 1) := by
  have st : ∀ n i, i < 18 → f_X12_image_51 N s nm (n + 1) (nI j) (nI i) th im (va_cpy nm nk 0 (18 * j) i) ak = f_X12_image_51 N s nm n (nI j) (nI (i + 1)) th im (va_cpy nm nk 0 (18 * j) (i + 1)) ak := by
    intro n i hi
    rw [f_X12_image_51]
    simp (disch := omega) only [zcl_s, zck_t, zbn_s, lits, m1_iI, ng_n, nI_le_T, nI_le_F, nI_lt_T, nI_lt_F, nI_eq_T, nI_eq_F, nI_1, le_1, le_1r, lt_1, lt_1r, eq_1, nI_add, pk_mul, sb_1, sb_n, cl_n, zi_n, iI_le_T, iI_le_F, iI_lt_T, iI_lt_F, iI_eq_T, iI_eq_F, mx1, mx2, mx3, mx4, mx5, mx6, mx7, mx8, mx9, mx10, iI_add, iI_sub, iI_p1, bI_n0, bI_1, bI_bo, tr_f, fa_f, tr_t, fa_t, if_true, if_false, or_n0, Nat.add_zero, Int.add_zero]
    rw [cp9_yL]
  have fi : ∀ n, f_X12_image_51 N s nm (n + 1) (nI j) (nI 18) th im (va_cpy nm nk 0 (18 * j) 18) ak = some (1, th, im, va_cpy nm nk 0 (18 * j) 18, upd ak j 1) := by
    intro n
    rw [f_X12_image_51, if_pos (show (18 : Int32) ≤ nI 18 by decide), zin_nI hj (by omega), zck_t, show zbo 1 = true from rfl, zck_t, zbn_s, cl_n (show j < 2147483648 by omega)]
  have := loopV (F := fun n i z => f_X12_image_51 N s nm n (nI j) (nI i) th im z ak) (M := 18) (fun i => va_cpy nm nk 0 (18 * j) i) _ st fi N 0 (by omega) (by omega)
  rw [cp9_0] at this
  exact this
theorem X12_image_ok (N j : Nat) (s : Nat → Int32) (nm nk : Nat → Int64) (im ak : Nat → Int32) (th : Int32) (hj : j < 2) (hN : 400 ≤ N) : f_X12_image_18 N s nm N (nI j) 0 th im nk ak = some (1, th, va_cpy s im 0 (334 * j) 334, va_cpy nm nk 0 (18 * j) 18, upd ak j 1) := by
  have st : ∀ n i, i < 334 → f_X12_image_18 N s nm (n + 1) (nI j) (nI i) th (va_cpy s im 0 (334 * j) i) nk ak = f_X12_image_18 N s nm n (nI j) (nI (i + 1)) th (va_cpy s im 0 (334 * j) (i + 1)) nk ak := by
    intro n i hi
    rw [f_X12_image_18]
    simp (disch := omega) only [zcl_s, zck_t, zbn_s, lits, m1_iI, ng_n, nI_le_T, nI_le_F, nI_lt_T, nI_lt_F, nI_eq_T, nI_eq_F, nI_1, le_1, le_1r, lt_1, lt_1r, eq_1, nI_add, pk_mul, sb_1, sb_n, cl_n, zi_n, iI_le_T, iI_le_F, iI_lt_T, iI_lt_F, iI_eq_T, iI_eq_F, mx1, mx2, mx3, mx4, mx5, mx6, mx7, mx8, mx9, mx10, iI_add, iI_sub, iI_p1, bI_n0, bI_1, bI_bo, tr_f, fa_f, tr_t, fa_t, if_true, if_false, or_n0, Nat.add_zero, Int.add_zero]
    rw [cp9_y]
  have fi : ∀ n, f_X12_image_18 N s nm (n + 1) (nI j) (nI 334) th (va_cpy s im 0 (334 * j) 334) nk ak = some (1, th, va_cpy s im 0 (334 * j) 334, va_cpy nm nk 0 (18 * j) 18, upd ak j 1) := by
    intro n
    rw [f_X12_image_18, if_pos (show (334 : Int32) ≤ nI 334 by decide)]
    exact X12_image_51_ok N j s nm nk _ ak th hj hN
  have := loopV (F := fun n i z => f_X12_image_18 N s nm n (nI j) (nI i) th z nk ak) (M := 334) (fun i => va_cpy s im 0 (334 * j) i) _ st fi N 0 (by omega) (by omega)
  rw [cp9_0] at this
  exact this
theorem X12_restore_60_ok (N j : Nat) (ak im s : Nat → Int32) (nk nm : Nat → Int64) (th um : Int32) (hj : j < 2) (hN : 400 ≤ N) : f_X12_restore_60 N ak im nk N (nI j) 0 th um s nm = some (1, th, 0, s, va_cpy nk nm (18 * j) 0 18) := by
  have st : ∀ n i, i < 18 → f_X12_restore_60 N ak im nk (n + 1) (nI j) (nI i) th um s (va_cpy nk nm (18 * j) 0 i) = f_X12_restore_60 N ak im nk n (nI j) (nI (i + 1)) th um s (va_cpy nk nm (18 * j) 0 (i + 1)) := by
    intro n i hi
    rw [f_X12_restore_60]
    simp (disch := omega) only [zcl_s, zck_t, zbn_s, lits, m1_iI, ng_n, nI_le_T, nI_le_F, nI_lt_T, nI_lt_F, nI_eq_T, nI_eq_F, nI_1, le_1, le_1r, lt_1, lt_1r, eq_1, nI_add, pk_mul, sb_1, sb_n, cl_n, zi_n, iI_le_T, iI_le_F, iI_lt_T, iI_lt_F, iI_eq_T, iI_eq_F, mx1, mx2, mx3, mx4, mx5, mx6, mx7, mx8, mx9, mx10, iI_add, iI_sub, iI_p1, bI_n0, bI_1, bI_bo, tr_f, fa_f, tr_t, fa_t, if_true, if_false, or_n0, Nat.add_zero, Int.add_zero]
    rw [cp9_zL]
  have fi : ∀ n, f_X12_restore_60 N ak im nk (n + 1) (nI j) (nI 18) th um s (va_cpy nk nm (18 * j) 0 18) = some (1, th, 0, s, va_cpy nk nm (18 * j) 0 18) := by
    intro n
    rw [f_X12_restore_60, if_pos (show (18 : Int32) ≤ nI 18 by decide)]
  have := loopV (F := fun n i z => f_X12_restore_60 N ak im nk n (nI j) (nI i) th um s z) (M := 18) (fun i => va_cpy nk nm (18 * j) 0 i) _ st fi N 0 (by omega) (by omega)
  rw [cp9_0] at this
  exact this
theorem X12_restore_ok (N j : Nat) (ak im s : Nat → Int32) (nk nm : Nat → Int64) (th um : Int32) (hj : j < 2) (hN : 400 ≤ N) : f_X12_restore_27 N ak im nk N (nI j) 0 th um s nm = some (1, th, 0, va_cpy im s (334 * j) 0 334, va_cpy nk nm (18 * j) 0 18) := by
  have st : ∀ n i, i < 334 → f_X12_restore_27 N ak im nk (n + 1) (nI j) (nI i) th um (va_cpy im s (334 * j) 0 i) nm = f_X12_restore_27 N ak im nk n (nI j) (nI (i + 1)) th um (va_cpy im s (334 * j) 0 (i + 1)) nm := by
    intro n i hi
    rw [f_X12_restore_27]
    simp (disch := omega) only [zcl_s, zck_t, zbn_s, lits, m1_iI, ng_n, nI_le_T, nI_le_F, nI_lt_T, nI_lt_F, nI_eq_T, nI_eq_F, nI_1, le_1, le_1r, lt_1, lt_1r, eq_1, nI_add, pk_mul, sb_1, sb_n, cl_n, zi_n, iI_le_T, iI_le_F, iI_lt_T, iI_lt_F, iI_eq_T, iI_eq_F, mx1, mx2, mx3, mx4, mx5, mx6, mx7, mx8, mx9, mx10, iI_add, iI_sub, iI_p1, bI_n0, bI_1, bI_bo, tr_f, fa_f, tr_t, fa_t, if_true, if_false, or_n0, Nat.add_zero, Int.add_zero]
    rw [cp9_z]
  have fi : ∀ n, f_X12_restore_27 N ak im nk (n + 1) (nI j) (nI 334) th um (va_cpy im s (334 * j) 0 334) nm = some (1, th, 0, va_cpy im s (334 * j) 0 334, va_cpy nk nm (18 * j) 0 18) := by
    intro n
    rw [f_X12_restore_27, if_pos (show (334 : Int32) ≤ nI 334 by decide)]
    exact X12_restore_60_ok N j ak im _ nk nm th um hj hN
  have := loopV (F := fun n i z => f_X12_restore_27 N ak im nk n (nI j) (nI i) th um z nm) (M := 334) (fun i => va_cpy im s (334 * j) 0 i) _ st fi N 0 (by omega) (by omega)
  rw [cp9_0] at this
  exact this
section IMG
variable {b : MB} {d : MD} {B : CB} {D : CY} {s : Nat → Int32} {nm : Nat → Int64}
theorem BR.congN (h : BR b B s nm) {nm' : Nat → Int64} (hn : ∀ i, i < 18 → nm' i = nm i) : BR b B s nm' := by
  obtain ⟨⟨a1, a2, a3, a4⟩, h1, h2, h3⟩ := h
  refine ⟨⟨a1, a2, a3, a4⟩, fun c hc => ?_, fun m hm => ?_, fun e he => ?_⟩
  · rw [hn c (by omega)]; exact h1 c hc
  · rw [hn (6 + m) (by omega)]; exact h2 m hm
  · rw [hn (12 + e) (by omega)]; exact h3 e he
theorem BR.cpy (h : BR b B s nm) (A : CB) : BR b (CB.cpy B A) s nm := by
  obtain ⟨⟨a1, a2, a3, a4⟩, h1, h2, h3⟩ := h
  refine ⟨⟨a1, a2, a3, a4⟩, fun c hc => ?_, fun m hm => ?_, fun e he => ?_⟩
  · have hc6 : c < 6 := by omega
    show va_cpy B.clockCorner A.clockCorner 0 0 6 c = _ ∧ _ ∧ _ ∧ va_cpy B.clockAhead A.clockAhead 0 0 6 c = _ ∧ _ ∧ _ ∧ _ ∧ va_cpy B.clockGain A.clockGain 0 0 6 c = _ ∧ _ ∧ _ ∧ _ ∧ va_cpy B.clockName A.clockName 0 0 6 c = _ ∧ _
    rw [cp00 _ _ hc6, cp00 _ _ hc6, cp00 _ _ hc6, cp00 _ _ hc6]; exact h1 c hc
  · have hm6 : m < 6 := by omega
    show va_cpy B.masterCorner A.masterCorner 0 0 6 m = _ ∧ _ ∧ _ ∧ va_cpy B.masterLate A.masterLate 0 0 6 m = _ ∧ _ ∧ _ ∧ _ ∧ va_cpy B.masterClock A.masterClock 0 0 6 m = _ ∧ _ ∧ _ ∧ va_cpy B.masterMeets A.masterMeets 0 0 6 m = _ ∧ va_cpy B.masterName A.masterName 0 0 6 m = _
    rw [cp00 _ _ hm6, cp00 _ _ hm6, cp00 _ _ hm6, cp00 _ _ hm6, cp00 _ _ hm6]; exact h2 m hm
  · have he6 : e < 6 := by omega
    show va_cpy B.meetDue A.meetDue 0 0 6 e = _ ∧ _ ∧ _ ∧ _ ∧ _ ∧ va_cpy B.meetName A.meetName 0 0 6 e = _
    rw [cp00 _ _ he6, cp00 _ _ he6]; exact h3 e he
theorem DY.cpyB (h : DY b d B D s) (A : CB) : DY b d (CB.cpy B A) D s := by
  have c6 := h.C6
  have m6 := h.M6
  obtain ⟨⟨a, ⟨k1, k2, k3, k4, k5, k6⟩, hM, hU, hT, hG, hrest⟩, hg⟩ := h
  refine ⟨⟨a, ⟨k1, k2, k3, k4, fun c hc => ?_, k6⟩, ⟨hM.1, fun m hm => ?_⟩, hU, ⟨hT.1, hT.2.1, fun m hm e he => ?_⟩, hG, hrest⟩, hg⟩
  · have hc6 : c < 6 := by omega
    show va_cpy B.clockGain A.clockGain 0 0 6 c = _
    rw [cp00 _ _ hc6]; exact k5 c hc
  · have hm6 : m < 6 := by omega
    show va_cpy B.masterClock A.masterClock 0 0 6 m = _ ∧ _ ∧ va_cpy B.masterLate A.masterLate 0 0 6 m = _ ∧ _ ∧ _ ∧ va_cpy B.masterCorner A.masterCorner 0 0 6 m = _ ∧ _
    rw [cp00 _ _ hm6, cp00 _ _ hm6, cp00 _ _ hm6]; exact hM.2 m hm
  · have hm6 : m < 6 := by omega
    show bt (va_cpy B.masterMeets A.masterMeets 0 0 6 m) e = _
    rw [cp00 _ _ hm6]; exact hT.2.2 m hm e he
/-- a world is copied -/
theorem WR.cpy {len : Int32} {code : Nat → Int32} (h : WR b d B D len code s nm) (A : CB) (E : CY) (c' : Nat → Int32) {s' : Nat → Int32} {nm' : Nat → Int64} (hs : ∀ i, i < 334 → s' i = s i) (hn : ∀ i, i < 18 → nm' i = nm i) : WR b d (CB.cpy B A) (CY.cpy D E) len (va_cpy code c' 0 0 40) s' nm' := by
  obtain ⟨hB, hD, hS⟩ := h
  exact ⟨((hB.cpy A).congS (fun i hi => hs i (by omega))).congN hn, ((hD.cpy E).cpyB A).congS (fun i hi => hs i (by omega)), (hS.congC (fun i hi => cp00 _ _ hi)).congS (fun i _ hi => hs i hi)⟩
end IMG
theorem p_image (N : Nat) (hN : 5000 ≤ N) (x0 : Int32) : Ok9 (F_image N x0) (G_image N x0) := by
  intro k r hR
  have hR0 := hR
  obtain ⟨b, d, hW, hH, hI, hT, hf, hl, hm, ht, hv⟩ := hR
  rcases rng9 N x0 0 1 2 (lo := 0) (hi := 1) (by omega) (by omega) rfl rfl rfl with ⟨j, -, hj, rfl, g1, g2, -, g3⟩ | ⟨g1, g2⟩
  · have hj2 : j < 2 := by omega
    refine ⟨1, _, _, by unfold F_image; rw [X11_image_ok N j hj2 k, zcl_s], by unfold G_image f_X12_image; rw [g1, zcl_s, if_neg one0, X12_image_ok N j _ _ _ _ _ _ hj2 (by omega), zcl_s], ?_⟩
    refine ⟨b, d, hW, hH, ?_, hT, hf, hl, hm, ht, hv⟩
    show IR (zup k.images_kept j 1) (ibK k.ib j k.here) (imK k.im j k.day) (zup k.images_sentence_length j k.here_sentence_length) (zup k.images_sentence_code j (va_cpy k.here_sentence_code (k.images_sentence_code j) 0 0 40)) (upd r.areKept j 1) (va_cpy r.s r.imaged 0 (334 * j) 334) (va_cpy r.names r.namesKept 0 (18 * j) 18)
    intro i hi
    by_cases e : i = j
    · subst e
      right
      rw [zup_s, zup_s, zup_s, pk_us, ibK_s, imK_s]
      refine ⟨rfl, rfl, b, d, hW.cpy (k.ib i) (k.im i) _ (fun a ha => ?_) (fun a ha => ?_)⟩
      · rw [cpi r.s r.imaged 0 (334 * i) 334 (334 * i + a) (by omega) (by omega), show 0 + (334 * i + a - 334 * i) = a by omega]
      · rw [cpi r.names r.namesKept 0 (18 * i) 18 (18 * i + a) (by omega) (by omega), show 0 + (18 * i + a - 18 * i) = a by omega]
    · rw [zup_n _ _ _ e, zup_n _ _ _ e, zup_n _ _ _ e, pk_un e, ibK_n _ _ _ e, imK_n _ _ _ e]
      rcases hI i hi with hI | ⟨i1, i2, b', d', hW'⟩
      · exact Or.inl hI
      · refine Or.inr ⟨i1, i2, b', d', ?_⟩
        obtain ⟨w1, w2, w3⟩ := hW'
        have q1 : ∀ a, a < 334 → va_cpy r.s r.imaged 0 (334 * j) 334 (334 * i + a) = r.imaged (334 * i + a) := fun a ha => cpo r.s r.imaged 0 (334 * j) 334 (334 * i + a) (by omega)
        have q2 : ∀ a, a < 18 → va_cpy r.names r.namesKept 0 (18 * j) 18 (18 * i + a) = r.namesKept (18 * i + a) := fun a ha => cpo r.names r.namesKept 0 (18 * j) 18 (18 * i + a) (by omega)
        exact ⟨(w1.congS (fun a ha => q1 a (by omega))).congN q2, w2.congS (fun a ha => q1 a (by omega)), w3.congS (fun a _ ha => q1 a ha)⟩
  · refine ⟨0, k, r.thr 0, ?_, by unfold G_image f_X12_image; rw [g1, zcl_s, if_pos rfl]; rfl, hR0.th 0⟩
    unfold F_image f_X11_image
    rcases g2 with g2 | ⟨g2, -, g3⟩
    · rw [if_pos g2]; rfl
    · rw [if_neg g2, if_neg g3]; rfl
theorem p_restore (N : Nat) (hN : 5000 ≤ N) (x0 : Int32) : Ok9 (F_restore N x0) (G_restore N x0) := by
  intro k r hR
  have hR0 := hR
  obtain ⟨b, d, hW, hH, hI, hT, hf, hl, hm, ht, hv⟩ := hR
  rcases rng9 N x0 0 1 2 (lo := 0) (hi := 1) (by omega) (by omega) rfl rfl rfl with ⟨j, -, hj, rfl, g1, g2, -, g3⟩ | ⟨g1, g2⟩
  · have hj2 : j < 2 := by omega
    rcases hI j hj2 with ⟨i1, i2⟩ | ⟨i1, i2, b', d', hW'⟩
    · exact ⟨0, k, r.thr 0, by unfold F_restore; rw [X11_restore_no N j hj2 k i1, zcl_s]; rfl, by unfold G_restore f_X12_restore; rw [g1, zcl_s, if_neg one0, zin_nI hj2 (by omega), zck_t, cl_n (show j < 2147483648 by omega), if_pos i2]; rfl, hR0.th 0⟩
    · refine ⟨1, _, _, by unfold F_restore; rw [X11_restore_ok N j hj2 k i1, zcl_s], by unfold G_restore f_X12_restore; rw [g1, zcl_s, if_neg one0, zin_nI hj2 (by omega), zck_t, cl_n (show j < 2147483648 by omega), i2, if_neg one0, X12_restore_ok N j _ _ _ _ _ _ _ hj2 (by omega), zcl_s], ?_⟩
      obtain ⟨p, n, h1, -, h3, -⟩ := hH
      refine ⟨b', d', hW'.cpy k.here k.day k.here_sentence_code (fun a ha => ?_) (fun a ha => ?_), ⟨p, 0, h1, by omega, h3, rfl, rfl, fun i hi => absurd hi (by omega)⟩, hI, hT, hf, hl, hm, ht, hv⟩
      · show va_cpy r.imaged r.s (334 * j) 0 334 a = r.imaged (334 * j + a)
        rw [cpi r.imaged r.s (334 * j) 0 334 a (by omega) (by omega), Nat.sub_zero]
      · show va_cpy r.namesKept r.names (18 * j) 0 18 a = r.namesKept (18 * j + a)
        rw [cpi r.namesKept r.names (18 * j) 0 18 a (by omega) (by omega), Nat.sub_zero]
  · refine ⟨0, k, r.thr 0, ?_, by unfold G_restore f_X12_restore; rw [g1, zcl_s, if_pos rfl]; rfl, hR0.th 0⟩
    unfold F_restore f_X11_restore
    rcases g2 with g2 | ⟨g2, g3, g4⟩
    · rw [if_pos g2]; rfl
    · have h2 : (2 : Int32) ≤ x0 := by
        rcases pk_ix x0 (n := 2) (by omega) with q | q | ⟨q, q1, q2⟩
        · exact absurd q g2
        · exact q
        · subst q2
          exact absurd (show nI q < nI 2 from nI_lt q1 (by omega)) g4
      rw [if_neg g2, if_pos h2]; rfl
