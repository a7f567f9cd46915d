/-! ===== more that only ask; the tape ===== -/
/-- two loops side by side -/
theorem loop2 {β γ σ τ : Type} {F : Nat → Nat → σ → β} {G : Nat → Nat → τ → γ} {M : Nat} {Post : β → γ → Prop} (Inv : Nat → σ → τ → Prop) (step : ∀ n n' i x y, i < M → Inv i x y → (∃ x' y', F (n + 1) i x = F n (i + 1) x' ∧ G (n' + 1) i y = G n' (i + 1) y' ∧ Inv (i + 1) x' y') ∨ Post (F (n + 1) i x) (G (n' + 1) i y)) (fin : ∀ n n' x y, Inv M x y → Post (F (n + 1) M x) (G (n' + 1) M y)) : ∀ n n' i x y, i ≤ M → M - i < n → M - i < n' → Inv i x y → Post (F n i x) (G n' i y) := by
  intro n
  induction n with
  | zero => intro n' i x y _ h; omega
  | succ n ih =>
    intro n' i x y hi hn hn' hx
    cases n' with
    | zero => omega
    | succ n' =>
      by_cases he : i = M
      · subst he; exact fin n n' x y hx
      · rcases step n n' i x y (by omega) hx with ⟨x', y', h1, h2, h3⟩ | h
        · rw [h1, h2]; exact ih n' (i + 1) x' y' (by omega) (by omega) (by omega) h3
        · exact h
theorem zmin_m {a c : Int} (h1 : -2147483648 ≤ a) (h2 : a < 2147483648) (h3 : -2147483648 ≤ c) (h4 : c < 2147483648) : zmin (iI a) (iI c) = iI (min a c) := by
  rw [zmin_iI ⟨h1, h2⟩ ⟨h3, h4⟩]
  congr 1 <;> split <;> omega
theorem zmax_m {a c : Int} (h1 : -2147483648 ≤ a) (h2 : a < 2147483648) (h3 : -2147483648 ≤ c) (h4 : c < 2147483648) : zmax (iI a) (iI c) = iI (max a c) := by
  rw [zmax_iI ⟨h1, h2⟩ ⟨h3, h4⟩]
  congr 1 <;> split <;> omega
theorem grt_m (N : Nat) {a c : Int} (h1 : -2147483648 ≤ a) (h2 : a < 2147483648) (h3 : -2147483648 ≤ c) (h4 : c < 2147483648) : f_X12_greater N (iI a) (iI c) = some (iI (max a c)) := by
  rw [X12_greater_ok N ⟨h1, h2⟩ ⟨h3, h4⟩]
  congr 2 <;> split <;> omega
theorem lss_m (N : Nat) {a c : Int} (h1 : -2147483648 ≤ a) (h2 : a < 2147483648) (h3 : -2147483648 ≤ c) (h4 : c < 2147483648) : f_X12_lesser N (iI a) (iI c) = some (iI (min a c)) := by
  unfold f_X12_lesser
  by_cases h : c ≤ a
  · rw [if_pos ((iI_le ⟨h3, h4⟩ ⟨h1, h2⟩).mpr h)]; congr 2; omega
  · rw [if_neg (fun z => h ((iI_le ⟨h3, h4⟩ ⟨h1, h2⟩).mp z))]; congr 2; omega
def ab9 (a : Int) : Int := if 0 ≤ a then a else -a
theorem ab9_b (a : Int) : 0 ≤ ab9 a ∧ (ab9 a = a ∨ ab9 a = -a) := by unfold ab9; split <;> omega
theorem zab_m {a : Int} (h : -2147483648 < a) (h' : a < 2147483648) : zabs (iI a) = iI (ab9 a) := zabs_iI h h'
theorem abs_m (N : Nat) {a : Int} (h : -2147483648 < a) (h' : a < 2147483648) : f_X12_absolute N (iI a) = some (iI (ab9 a)) := by
  unfold f_X12_absolute ab9
  by_cases h0 : 0 ≤ a
  · rw [if_pos ((le0_iI (a := a) (by omega) (by omega)).mpr h0), if_pos h0]
  · rw [if_neg (fun z => h0 ((le0_iI (a := a) (by omega) (by omega)).mp z)), if_neg h0, iI_neg]
section PUB2
variable {b : MB} {d : MD} {B : CB} {D : CY} {s : Nat → Int32} {nm : Nat → Int64}
def alk (b : MB) (d : MD) (u i : Nat) : Bool := decide (∀ c, c < i → shd b d c u = shd b d 0 u)
theorem alk_1 (b : MB) (d : MD) (u : Nat) : alk b d u 1 = true := decide_eq_true (fun c hc => by rw [show c = 0 by omega])
theorem alk_s (b : MB) (d : MD) (u i : Nat) : alk b d u (i + 1) = (alk b d u i && decide (shd b d i u = shd b d 0 u)) := by
  unfold alk
  rw [Bool.eq_iff_iff, Bool.and_eq_true, decide_eq_true_iff, decide_eq_true_iff, decide_eq_true_iff]
  refine ⟨fun h => ⟨fun c hc => h c (by omega), h i (by omega)⟩, fun h c hc => ?_⟩
  by_cases e : c = i
  · rw [e]; exact h.2
  · exact h.1 c (by omega)
theorem alk_m {b : MB} {d : MD} {u i j : Nat} (h : alk b d u i = false) (hij : i ≤ j) : alk b d u j = false := by
  unfold alk at h ⊢
  rw [decide_eq_false_iff_not] at h ⊢
  exact fun z => h (fun c hc => z c (by omega))
theorem DY.alC (h : DY b d B D s) (N u : Nat) (hN : 10 ≤ N) (hC : 0 < b.C) (hu : d.t ≤ u) (hu2 : u < 100000) : f_X3_showAlike N (nI u) D.stopped B.clocks D.stood D.ahead B.clockGain D.since = some (bI (alk b d u b.C)) := by
  have c6 := h.C6
  rw [h.nC]
  refine loopP (F := fun n i (_ : Unit) => f_X3_showAlike_2 N D.stopped (nI b.C) D.stood D.ahead B.clockGain D.since n (nI u) (nI i)) (M := b.C) (Post := fun z => z = some (bI (alk b d u b.C))) (fun i _ => 1 ≤ i ∧ alk b d u i = true) ?_ ?_ N 1 () (by omega) (by omega) ⟨by omega, alk_1 b d u⟩
  · intro n i _ hi ⟨h1, h2⟩
    show (∃ x' : Unit, f_X3_showAlike_2 N D.stopped (nI b.C) D.stood D.ahead B.clockGain D.since (n + 1) (nI u) (nI i) = f_X3_showAlike_2 N D.stopped (nI b.C) D.stood D.ahead B.clockGain D.since n (nI u) (nI (i + 1)) ∧ 1 ≤ i + 1 ∧ alk b d u (i + 1) = true) ∨ f_X3_showAlike_2 N D.stopped (nI b.C) D.stood D.ahead B.clockGain D.since (n + 1) (nI u) (nI i) = some (bI (alk b d u b.C))
    have g1 := shd_lt b d i u
    have g2 := shd_lt b d 0 u
    rw [f_X3_showAlike_2]
    by_cases e : shd b d i u = shd b d 0 u
    · left
      refine ⟨(), ?_, by omega, by rw [alk_s, h2, decide_eq_true e]; rfl⟩
      simp (disch := omega) only [zcl_s, zck_t, zbn_s, lits, m1_iI, ng_n, nI_le_T, nI_le_F, nI_lt_T, nI_lt_F, nI_eq_T, nI_eq_F, nI_1, le_1, le_1r, lt_1, lt_1r, eq_1, nI_add, pk_mul, sb_1, sb_n, cl_n, zi_n, iI_le_T, iI_le_F, iI_lt_T, iI_lt_F, iI_eq_T, iI_eq_F, mx1, mx2, mx3, mx4, mx5, mx6, mx7, mx8, mx9, mx10, iI_add, iI_sub, iI_p1, bI_n0, bI_1, bI_bo, tr_f, fa_f, tr_t, fa_t, if_true, if_false, or_n0, Nat.add_zero, Int.add_zero, (h.sh N i u hi hu hu2).1, (h.sh N 0 u hC hu hu2).1]
    · right
      rw [alk_m (i := i + 1) (j := b.C) (by rw [alk_s, decide_eq_false e, Bool.and_false]) (by omega)]
      simp (disch := omega) only [zcl_s, zck_t, zbn_s, lits, m1_iI, ng_n, nI_le_T, nI_le_F, nI_lt_T, nI_lt_F, nI_eq_T, nI_eq_F, nI_1, le_1, le_1r, lt_1, lt_1r, eq_1, nI_add, pk_mul, sb_1, sb_n, cl_n, zi_n, iI_le_T, iI_le_F, iI_lt_T, iI_lt_F, iI_eq_T, iI_eq_F, mx1, mx2, mx3, mx4, mx5, mx6, mx7, mx8, mx9, mx10, iI_add, iI_sub, iI_p1, bI_n0, bI_1, bI_bo, tr_f, fa_f, tr_t, fa_t, if_true, if_false, or_n0, Nat.add_zero, Int.add_zero, (h.sh N i u hi hu hu2).1, (h.sh N 0 u hC hu hu2).1]
      rfl
  · intro n _ ⟨h1, h2⟩
    show f_X3_showAlike_2 N D.stopped (nI b.C) D.stood D.ahead B.clockGain D.since (n + 1) (nI u) (nI b.C) = some (bI (alk b d u b.C))
    rw [f_X3_showAlike_2, h2]
    simp (disch := omega) only [zcl_s, zck_t, zbn_s, lits, m1_iI, ng_n, nI_le_T, nI_le_F, nI_lt_T, nI_lt_F, nI_eq_T, nI_eq_F, nI_1, le_1, le_1r, lt_1, lt_1r, eq_1, nI_add, pk_mul, sb_1, sb_n, cl_n, zi_n, iI_le_T, iI_le_F, iI_lt_T, iI_lt_F, iI_eq_T, iI_eq_F, mx1, mx2, mx3, mx4, mx5, mx6, mx7, mx8, mx9, mx10, iI_add, iI_sub, iI_p1, bI_n0, bI_1, bI_bo, tr_f, fa_f, tr_t, fa_t, if_true, if_false, or_n0, Nat.add_zero, Int.add_zero]
    rfl
theorem DY.alR (h : DY b d B D s) (N j : Nat) (hN : 10 ≤ N) (hC : 0 < b.C) (hj : j < 2000) (k : Int32 → Int32 → Option (Int32 × Int32)) (th : Int32) : f_X12_alike_27 N s k N (nI j) 1 1 th = if alk b d (d.t + j) b.C = true then some (nI j, th) else k (nI (j + 1)) th := by
  have c6 := h.C6
  have t2 := h.t2
  have key : f_X12_alike_27 N s k N (nI j) (bI (alk b d (d.t + j) 1)) (nI 1) th = if alk b d (d.t + j) b.C = true then some (nI j, th) else k (nI (j + 1)) th := by
    refine loopV (F := fun n i v => f_X12_alike_27 N s k n (nI j) v (nI i) th) (M := b.C) (fun i => bI (alk b d (d.t + j) i)) (if alk b d (d.t + j) b.C = true then some (nI j, th) else k (nI (j + 1)) th) ?_ ?_ N 1 (by omega) (by omega)
    · intro n i hi
      show f_X12_alike_27 N s k (n + 1) (nI j) (bI (alk b d (d.t + j) i)) (nI i) th = f_X12_alike_27 N s k n (nI j) (bI (alk b d (d.t + j) (i + 1))) (nI (i + 1)) th
      have g1 := shd_lt b d i (d.t + j)
      have g2 := shd_lt b d 0 (d.t + j)
      have s1 := (h.sh N i (d.t + j) hi (by omega) (by omega)).2
      have s2 := (h.sh N 0 (d.t + j) hC (by omega) (by omega)).2
      rw [f_X12_alike_27, alk_s]
      cases ha : alk b d (d.t + j) i
      · simp (disch := omega) only [zcl_s, zck_t, zbn_s, lits, m1_iI, ng_n, nI_le_T, nI_le_F, nI_lt_T, nI_lt_F, nI_eq_T, nI_eq_F, nI_1, le_1, le_1r, lt_1, lt_1r, eq_1, nI_add, pk_mul, sb_1, sb_n, cl_n, zi_n, iI_le_T, iI_le_F, iI_lt_T, iI_lt_F, iI_eq_T, iI_eq_F, mx1, mx2, mx3, mx4, mx5, mx6, mx7, mx8, mx9, mx10, iI_add, iI_sub, iI_p1, bI_n0, bI_1, bI_bo, tr_f, fa_f, tr_t, fa_t, if_true, if_false, or_n0, Nat.add_zero, Int.add_zero, h.sC, f_X12_alike_76, Bool.false_and]
        rfl
      · by_cases e : shd b d i (d.t + j) = shd b d 0 (d.t + j)
        · simp (disch := omega) only [zcl_s, zck_t, zbn_s, lits, m1_iI, ng_n, nI_le_T, nI_le_F, nI_lt_T, nI_lt_F, nI_eq_T, nI_eq_F, nI_1, le_1, le_1r, lt_1, lt_1r, eq_1, nI_add, pk_mul, sb_1, sb_n, cl_n, zi_n, iI_le_T, iI_le_F, iI_lt_T, iI_lt_F, iI_eq_T, iI_eq_F, mx1, mx2, mx3, mx4, mx5, mx6, mx7, mx8, mx9, mx10, iI_add, iI_sub, iI_p1, bI_n0, bI_1, bI_bo, tr_f, fa_f, tr_t, fa_t, if_true, if_false, or_n0, Nat.add_zero, Int.add_zero, h.sC, h.sm, s1, s2, decide_eq_true e, Bool.true_and]
          rfl
        · simp (disch := omega) only [zcl_s, zck_t, zbn_s, lits, m1_iI, ng_n, nI_le_T, nI_le_F, nI_lt_T, nI_lt_F, nI_eq_T, nI_eq_F, nI_1, le_1, le_1r, lt_1, lt_1r, eq_1, nI_add, pk_mul, sb_1, sb_n, cl_n, zi_n, iI_le_T, iI_le_F, iI_lt_T, iI_lt_F, iI_eq_T, iI_eq_F, mx1, mx2, mx3, mx4, mx5, mx6, mx7, mx8, mx9, mx10, iI_add, iI_sub, iI_p1, bI_n0, bI_1, bI_bo, tr_f, fa_f, tr_t, fa_t, if_true, if_false, or_n0, Nat.add_zero, Int.add_zero, h.sC, h.sm, s1, s2, decide_eq_false e, Bool.true_and, f_X12_alike_76]
          rfl
    · intro n
      show f_X12_alike_27 N s k (n + 1) (nI j) (bI (alk b d (d.t + j) b.C)) (nI b.C) th = _
      rw [f_X12_alike_27]
      cases ha : alk b d (d.t + j) b.C
      · simp (disch := omega) only [zcl_s, zck_t, zbn_s, lits, m1_iI, ng_n, nI_le_T, nI_le_F, nI_lt_T, nI_lt_F, nI_eq_T, nI_eq_F, nI_1, le_1, le_1r, lt_1, lt_1r, eq_1, nI_add, pk_mul, sb_1, sb_n, cl_n, zi_n, iI_le_T, iI_le_F, iI_lt_T, iI_lt_F, iI_eq_T, iI_eq_F, mx1, mx2, mx3, mx4, mx5, mx6, mx7, mx8, mx9, mx10, iI_add, iI_sub, iI_p1, bI_n0, bI_1, bI_bo, tr_f, fa_f, tr_t, fa_t, if_true, if_false, or_n0, Nat.add_zero, Int.add_zero, h.sC]
      · simp (disch := omega) only [zcl_s, zck_t, zbn_s, lits, m1_iI, ng_n, nI_le_T, nI_le_F, nI_lt_T, nI_lt_F, nI_eq_T, nI_eq_F, nI_1, le_1, le_1r, lt_1, lt_1r, eq_1, nI_add, pk_mul, sb_1, sb_n, cl_n, zi_n, iI_le_T, iI_le_F, iI_lt_T, iI_lt_F, iI_eq_T, iI_eq_F, mx1, mx2, mx3, mx4, mx5, mx6, mx7, mx8, mx9, mx10, iI_add, iI_sub, iI_p1, bI_n0, bI_1, bI_bo, tr_f, fa_f, tr_t, fa_t, if_true, if_false, or_n0, Nat.add_zero, Int.add_zero, h.sC]
  rw [alk_1] at key
  exact key
theorem alike_ok (h : DY b d B D s) (N : Nat) (hN : 2000 ≤ N) (th : Int32) : ∃ v, f_X11_alike N B.clocks D.minute D.stopped D.stood D.ahead B.clockGain D.since = some v ∧ f_X12_alike N th s = some (v, 0) := by
  have c6 := h.C6
  have t2 := h.t2
  unfold f_X11_alike f_X12_alike
  by_cases hC : b.C = 0
  · obtain ⟨n, rfl⟩ : ∃ n, N = n + 1 := ⟨N - 1, by omega⟩
    refine ⟨-1, by rw [h.nC, hC]; rfl, ?_⟩
    rw [f_X12_alike_7]
    simp (disch := omega) only [zcl_s, zck_t, zbn_s, lits, m1_iI, ng_n, nI_le_T, nI_le_F, nI_lt_T, nI_lt_F, nI_eq_T, nI_eq_F, nI_1, le_1, le_1r, lt_1, lt_1r, eq_1, nI_add, pk_mul, sb_1, sb_n, cl_n, zi_n, iI_le_T, iI_le_F, iI_lt_T, iI_lt_F, iI_eq_T, iI_eq_F, mx1, mx2, mx3, mx4, mx5, mx6, mx7, mx8, mx9, mx10, iI_add, iI_sub, iI_p1, bI_n0, bI_1, bI_bo, tr_f, fa_f, tr_t, fa_t, if_true, if_false, or_n0, Nat.add_zero, Int.add_zero, h.sC]
  · rw [if_neg (show ¬ B.clocks = 0 by rw [h.nC]; exact nI_ne0 (by omega) (by omega))]
    refine loop2 (F := fun n i (_ : Unit) => f_X11_alike_17 N B.clocks D.minute D.stopped D.stood D.ahead B.clockGain D.since n (nI i)) (G := fun n i (_ : Unit) => f_X12_alike_7 N s n (nI i) 0) (M := 1440) (Post := fun x y => ∃ v, x = some v ∧ y = some (v, 0)) (fun _ _ _ => True) ?_ ?_ N N 0 () () (by omega) (by omega) (by omega) trivial
    · intro n n' i _ _ hi _
      show (∃ x' y' : Unit, f_X11_alike_17 N B.clocks D.minute D.stopped D.stood D.ahead B.clockGain D.since (n + 1) (nI i) = f_X11_alike_17 N B.clocks D.minute D.stopped D.stood D.ahead B.clockGain D.since n (nI (i + 1)) ∧ f_X12_alike_7 N s (n' + 1) (nI i) 0 = f_X12_alike_7 N s n' (nI (i + 1)) 0 ∧ True) ∨ ∃ v, f_X11_alike_17 N B.clocks D.minute D.stopped D.stood D.ahead B.clockGain D.since (n + 1) (nI i) = some v ∧ f_X12_alike_7 N s (n' + 1) (nI i) 0 = some (v, 0)
      have a1 := h.alC N (d.t + i) (by omega) (by omega) (by omega) (by omega)
      have a2 := h.alR N i (by omega) (by omega) (by omega) (f_X12_alike_7 N s n') 0
      rw [f_X11_alike_17, f_X12_alike_7, if_neg (show ¬ (1440 : Int32) ≤ nI i from nI_ge (b := 1440) (by omega) (by omega)), if_neg (show ¬ (1440 : Int32) ≤ nI i from nI_ge (b := 1440) (by omega) (by omega)), if_neg (show ¬ s 0 ≤ 0 by rw [h.sC]; exact nI_nle (by omega) (by omega)), a2, h.mi, nI_add, a1, zcl_s]
      cases alk b d (d.t + i) b.C
      · left
        refine ⟨(), (), ?_, if_neg (by decide), trivial⟩
        simp (disch := omega) only [zcl_s, zck_t, zbn_s, lits, m1_iI, ng_n, nI_le_T, nI_le_F, nI_lt_T, nI_lt_F, nI_eq_T, nI_eq_F, nI_1, le_1, le_1r, lt_1, lt_1r, eq_1, nI_add, pk_mul, sb_1, sb_n, cl_n, zi_n, iI_le_T, iI_le_F, iI_lt_T, iI_lt_F, iI_eq_T, iI_eq_F, mx1, mx2, mx3, mx4, mx5, mx6, mx7, mx8, mx9, mx10, iI_add, iI_sub, iI_p1, bI_n0, bI_1, bI_bo, tr_f, fa_f, tr_t, fa_t, if_true, if_false, or_n0, Nat.add_zero, Int.add_zero]
      · right
        exact ⟨_, if_neg (by decide), if_pos rfl⟩
    · intro n n' _ _ _
      show ∃ v, f_X11_alike_17 N B.clocks D.minute D.stopped D.stood D.ahead B.clockGain D.since (n + 1) (nI 1440) = some v ∧ f_X12_alike_7 N s (n' + 1) (nI 1440) 0 = some (v, 0)
      rw [f_X11_alike_17, f_X12_alike_7]
      exact ⟨-1, rfl, rfl⟩
theorem worst_ok (h : DY b d B D s) (N : Nat) (hN : 10 ≤ N) (th : Int32) : ∃ v, f_X11_worst N B.clocks D.minute D.stopped D.stood D.ahead B.clockGain D.since = some v ∧ f_X12_worst N th s = some (v, 0) := by
  have c6 := h.C6
  have t2 := h.t2
  refine loop2 (F := fun n i (x : Int32 × Int) => f_X11_worst_6 N B.clocks D.minute D.stopped D.stood D.ahead B.clockGain D.since n x.1 (iI x.2) (nI i)) (G := fun n i (x : Int32 × Int) => f_X12_worst_11 N s n x.1 (iI x.2) (nI i) 0) (M := b.C) (Post := fun x y => ∃ v, x = some v ∧ y = some (v, 0)) (fun _ x y => x = y ∧ 0 ≤ x.2 ∧ x.2 < 10000) ?_ ?_ N N 0 (-1, 0) (-1, 0) (by omega) (by omega) (by omega) ⟨rfl, by decide, by decide⟩
  · intro n n' i x y hi ⟨e, h1, h2⟩
    subst e
    left
    obtain ⟨w1, w2⟩ := h.wr N i hi
    have hr := h.rb i hi d.t (Nat.le_refl _)
    have ha := ab9_b (rdd b d i d.t - d.t)
    by_cases hc : ab9 (rdd b d i d.t - d.t) ≤ x.2
    · refine ⟨x, x, ?_, ?_, rfl, h1, h2⟩
      · show f_X11_worst_6 N B.clocks D.minute D.stopped D.stood D.ahead B.clockGain D.since (n + 1) x.1 (iI x.2) (nI i) = f_X11_worst_6 N B.clocks D.minute D.stopped D.stood D.ahead B.clockGain D.since n x.1 (iI x.2) (nI (i + 1))
        rw [f_X11_worst_6]
        simp (disch := omega) only [zcl_s, zck_t, zbn_s, lits, m1_iI, ng_n, nI_le_T, nI_le_F, nI_lt_T, nI_lt_F, nI_eq_T, nI_eq_F, nI_1, le_1, le_1r, lt_1, lt_1r, eq_1, nI_add, pk_mul, sb_1, sb_n, cl_n, zi_n, iI_le_T, iI_le_F, iI_lt_T, iI_lt_F, iI_eq_T, iI_eq_F, mx1, mx2, mx3, mx4, mx5, mx6, mx7, mx8, mx9, mx10, iI_add, iI_sub, iI_p1, bI_n0, bI_1, bI_bo, tr_f, fa_f, tr_t, fa_t, if_true, if_false, or_n0, Nat.add_zero, Int.add_zero, h.nC, w1, zab_m]
      · show f_X12_worst_11 N s (n' + 1) x.1 (iI x.2) (nI i) 0 = f_X12_worst_11 N s n' x.1 (iI x.2) (nI (i + 1)) 0
        rw [f_X12_worst_11]
        simp (disch := omega) only [zcl_s, zck_t, zbn_s, lits, m1_iI, ng_n, nI_le_T, nI_le_F, nI_lt_T, nI_lt_F, nI_eq_T, nI_eq_F, nI_1, le_1, le_1r, lt_1, lt_1r, eq_1, nI_add, pk_mul, sb_1, sb_n, cl_n, zi_n, iI_le_T, iI_le_F, iI_lt_T, iI_lt_F, iI_eq_T, iI_eq_F, mx1, mx2, mx3, mx4, mx5, mx6, mx7, mx8, mx9, mx10, iI_add, iI_sub, iI_p1, bI_n0, bI_1, bI_bo, tr_f, fa_f, tr_t, fa_t, if_true, if_false, or_n0, Nat.add_zero, Int.add_zero, h.sC, w2, abs_m]
    · refine ⟨(nI i, ab9 (rdd b d i d.t - d.t)), (nI i, ab9 (rdd b d i d.t - d.t)), ?_, ?_, rfl, by show 0 ≤ ab9 _; omega, by show ab9 _ < 10000; omega⟩
      · show f_X11_worst_6 N B.clocks D.minute D.stopped D.stood D.ahead B.clockGain D.since (n + 1) x.1 (iI x.2) (nI i) = f_X11_worst_6 N B.clocks D.minute D.stopped D.stood D.ahead B.clockGain D.since n (nI i) (iI (ab9 (rdd b d i d.t - d.t))) (nI (i + 1))
        rw [f_X11_worst_6]
        simp (disch := omega) only [zcl_s, zck_t, zbn_s, lits, m1_iI, ng_n, nI_le_T, nI_le_F, nI_lt_T, nI_lt_F, nI_eq_T, nI_eq_F, nI_1, le_1, le_1r, lt_1, lt_1r, eq_1, nI_add, pk_mul, sb_1, sb_n, cl_n, zi_n, iI_le_T, iI_le_F, iI_lt_T, iI_lt_F, iI_eq_T, iI_eq_F, mx1, mx2, mx3, mx4, mx5, mx6, mx7, mx8, mx9, mx10, iI_add, iI_sub, iI_p1, bI_n0, bI_1, bI_bo, tr_f, fa_f, tr_t, fa_t, if_true, if_false, or_n0, Nat.add_zero, Int.add_zero, h.nC, w1, zab_m]
      · show f_X12_worst_11 N s (n' + 1) x.1 (iI x.2) (nI i) 0 = f_X12_worst_11 N s n' (nI i) (iI (ab9 (rdd b d i d.t - d.t))) (nI (i + 1)) 0
        rw [f_X12_worst_11]
        simp (disch := omega) only [zcl_s, zck_t, zbn_s, lits, m1_iI, ng_n, nI_le_T, nI_le_F, nI_lt_T, nI_lt_F, nI_eq_T, nI_eq_F, nI_1, le_1, le_1r, lt_1, lt_1r, eq_1, nI_add, pk_mul, sb_1, sb_n, cl_n, zi_n, iI_le_T, iI_le_F, iI_lt_T, iI_lt_F, iI_eq_T, iI_eq_F, mx1, mx2, mx3, mx4, mx5, mx6, mx7, mx8, mx9, mx10, iI_add, iI_sub, iI_p1, bI_n0, bI_1, bI_bo, tr_f, fa_f, tr_t, fa_t, if_true, if_false, or_n0, Nat.add_zero, Int.add_zero, h.sC, w2, abs_m]
  · intro n n' x y ⟨e, h1, h2⟩
    subst e
    refine ⟨x.1, ?_, ?_⟩
    · show f_X11_worst_6 N B.clocks D.minute D.stopped D.stood D.ahead B.clockGain D.since (n + 1) x.1 (iI x.2) (nI b.C) = some x.1
      rw [f_X11_worst_6]
      simp (disch := omega) only [zcl_s, zck_t, zbn_s, lits, m1_iI, ng_n, nI_le_T, nI_le_F, nI_lt_T, nI_lt_F, nI_eq_T, nI_eq_F, nI_1, le_1, le_1r, lt_1, lt_1r, eq_1, nI_add, pk_mul, sb_1, sb_n, cl_n, zi_n, iI_le_T, iI_le_F, iI_lt_T, iI_lt_F, iI_eq_T, iI_eq_F, mx1, mx2, mx3, mx4, mx5, mx6, mx7, mx8, mx9, mx10, iI_add, iI_sub, iI_p1, bI_n0, bI_1, bI_bo, tr_f, fa_f, tr_t, fa_t, if_true, if_false, or_n0, Nat.add_zero, Int.add_zero, h.nC]
    · show f_X12_worst_11 N s (n' + 1) x.1 (iI x.2) (nI b.C) 0 = some (x.1, 0)
      rw [f_X12_worst_11]
      simp (disch := omega) only [zcl_s, zck_t, zbn_s, lits, m1_iI, ng_n, nI_le_T, nI_le_F, nI_lt_T, nI_lt_F, nI_eq_T, nI_eq_F, nI_1, le_1, le_1r, lt_1, lt_1r, eq_1, nI_add, pk_mul, sb_1, sb_n, cl_n, zi_n, iI_le_T, iI_le_F, iI_lt_T, iI_lt_F, iI_eq_T, iI_eq_F, mx1, mx2, mx3, mx4, mx5, mx6, mx7, mx8, mx9, mx10, iI_add, iI_sub, iI_p1, bI_n0, bI_1, bI_bo, tr_f, fa_f, tr_t, fa_t, if_true, if_false, or_n0, Nat.add_zero, Int.add_zero, h.sC]
end PUB2
