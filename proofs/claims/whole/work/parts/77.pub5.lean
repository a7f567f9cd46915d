/-! ===== mean; the public methods, tied ===== -/
theorem zne0_n {n : Nat} (h0 : 0 < n) (h : n < 2147483648) : zne0 (nI n) = true := by
  unfold zne0
  exact decide_eq_true (nI_ne0 h0 (by omega))
theorem zrem_n {a c : Nat} (ha : a < 2147483648) (h0 : 0 < c) (hc : c < 2147483648) : zrem (nI a) (nI c) = nI (a % c) := by
  unfold zrem
  exact pk_rem (by omega) h0 (by omega)
theorem gcd9 {x y : Nat} : Nat.gcd y (x % y) = Nat.gcd x y := by rw [Nat.gcd_comm y, ← Nat.gcd_rec, Nat.gcd_comm]
theorem gcc_ok (N : Nat) : ∀ (n x y i : Nat), y < n → i + y < 100 → x < 100000 → y < 100000 → f_X11_greatestCommon_7 N n (nI x) (nI y) (nI i) = some (nI (Nat.gcd x y)) := by
  intro n
  induction n with
  | zero => intro x y i h; omega
  | succ n ih =>
    intro x y i h1 h2 h3 h4
    rw [f_X11_greatestCommon_7]
    by_cases h0 : y = 0
    · subst h0
      simp (disch := omega) only [zcl_s, zck_t, zbn_s, lits, m1_iI, ng_n, nI_le_T, nI_le_F, nI_lt_T, nI_lt_F, nI_eq_T, nI_eq_F, nI_1, le_1, le_1r, lt_1, lt_1r, eq_1, nI_add, pk_mul, sb_1, sb_n, cl_n, zi_n, iI_le_T, iI_le_F, iI_lt_T, iI_lt_F, iI_eq_T, iI_eq_F, mx1, mx2, mx3, mx4, mx5, mx6, mx7, mx8, mx9, mx10, iI_add, iI_sub, iI_p1, bI_n0, bI_1, bI_bo, tr_f, fa_f, tr_t, fa_t, if_true, if_false, or_n0, Nat.add_zero, Int.add_zero, Nat.gcd_zero_right]
    · have hr : x % y < y := Nat.mod_lt _ (by omega)
      simp (disch := omega) only [zcl_s, zck_t, zbn_s, lits, m1_iI, ng_n, nI_le_T, nI_le_F, nI_lt_T, nI_lt_F, nI_eq_T, nI_eq_F, nI_1, le_1, le_1r, lt_1, lt_1r, eq_1, nI_add, pk_mul, sb_1, sb_n, cl_n, zi_n, iI_le_T, iI_le_F, iI_lt_T, iI_lt_F, iI_eq_T, iI_eq_F, mx1, mx2, mx3, mx4, mx5, mx6, mx7, mx8, mx9, mx10, iI_add, iI_sub, iI_p1, bI_n0, bI_1, bI_bo, tr_f, fa_f, tr_t, fa_t, if_true, if_false, or_n0, Nat.add_zero, Int.add_zero, zne0_n, zrem_n]
      rw [ih y (x % y) (i + 1) (by omega) (by omega) h4 (by omega), gcd9]
theorem gcr_ok (N : Nat) (s : Nat → Int32) (x1 th : Int32) : ∀ (n x y : Nat), y < n → x < 100000 → y < 100000 → 0 < Nat.gcd x y → f_X12_mean_49 N s n x1 (nI x) (nI y) th = if x1 = 0 then some (s 56 / nI (Nat.gcd x y), th) else some (s 55 / nI (Nat.gcd x y), th) := by
  intro n
  induction n with
  | zero => intro x y h; omega
  | succ n ih =>
    intro x y h1 h3 h4 hg
    rw [f_X12_mean_49]
    by_cases h0 : y = 0
    · subst h0
      rw [Nat.gcd_zero_right] at hg ⊢
      rw [if_pos (show nI 0 = 0 from rfl), zne0_n hg (by omega), zck_t, zck_t]
    · have hr : x % y < y := Nat.mod_lt _ (by omega)
      rw [if_neg (nI_ne0 (by omega) (by omega)), zne0_n (by omega) (by omega), zck_t, zrem_n (by omega) (by omega) (by omega), zbn_s, ih y (x % y) (by omega) h4 (by omega) (by rw [gcd9]; exact hg), gcd9]
section PUB5
variable {b : MB} {d : MD} {B : CB} {D : CY} {s : Nat → Int32} {nm : Nat → Int64}
theorem mean_ok (h : DY b d B D s) (N : Nat) (hN : 200 ≤ N) (x0 th : Int32) : (∃ v, f_X11_mean N x0 B.masters B.meets D.came D.due = some v ∧ f_X12_mean N x0 th s = some (v, 0)) ∨ ((∃ z, f_X3_howOftenCame N B.masters B.meets D.came = some z ∧ (z = 0 ∨ (¬ z = 0 ∧ (x0 < 0 ∨ (¬ x0 < 0 ∧ ¬ x0 ≤ 1))))) ∧ f_X12_mean N x0 th s = some (0, 1)) := by
  obtain ⟨n, hn, e1, -⟩ := h.cnr
  obtain ⟨l, hl, e2⟩ := h.ltr
  have hc := h.cnt N (by omega)
  have hb := h.mbh N (by omega)
  unfold f_X11_mean f_X12_mean f_X12_mean_20
  rw [hc, hb, zcl_s]
  by_cases hz : n = 0
  · right
    subst hz
    rw [e1]
    exact ⟨⟨_, rfl, Or.inl rfl⟩, by rw [if_pos (show nI 0 = 0 from rfl)]; rfl⟩
  · have hn0 : ¬ s 55 = 0 := by rw [e1]; exact nI_ne0 (by omega) (by omega)
    rw [if_neg hn0, if_neg hn0, show f_X12_isIn N x0 0 1 = some (bI (decide (((0 : Nat) : Int) ≤ x0.toInt ∧ x0.toInt ≤ (1 : Nat)))) from X12_isIn_lit N x0 (a := 0) (c := 1) (by omega) (by omega), zcl_s, zcl_s]
    rcases small x0 2 (by omega) with ⟨j, hj, rfl⟩ | ⟨h5, hne⟩
    · left
      rw [if_neg (nI_pos (by omega)), if_pos (show nI j ≤ 1 from nI_le (b := 1) (by omega) (by omega)), nI_toInt (by omega), decide_eq_true (by omega), if_neg (show ¬ bI true = 0 by decide)]
      have hg : 0 < Nat.gcd n l := Nat.gcd_pos_of_pos_left _ (by omega)
      have hgl : Nat.gcd n l ≤ n := Nat.gcd_le_left _ (by omega)
      have k1 : f_X11_greatestCommon N (s 55) (s 56) = some (nI (Nat.gcd n l)) := by
        unfold f_X11_greatestCommon
        rw [e1, e2]
        obtain ⟨N', rfl⟩ : ∃ N', N = N' + 1 := ⟨N - 1, by omega⟩
        by_cases hl0 : l = 0
        · subst hl0
          exact gcc_ok _ _ n 0 0 (by omega) (by omega) (by omega) (by omega)
        · have hr : n % l ≤ n := Nat.mod_le _ _
          rw [f_X11_greatestCommon_7, if_neg (show ¬ (100 : Int32) ≤ 0 by decide), if_neg (nI_ne0 (by omega) (by omega)), zne0_n (by omega) (by omega), zck_t, zrem_n (by omega) (by omega) (by omega), zbn_s, zbn_s, show (0 : Int32) + 1 = nI 1 from rfl, gcc_ok _ _ l (n % l) 1 (by omega) (by omega) (by omega) (by omega), gcd9]
      have k2 : f_X12_mean_49 N s N (nI j) (s 55) (s 56) 0 = if nI j = 0 then some (s 56 / nI (Nat.gcd n l), 0) else some (s 55 / nI (Nat.gcd n l), 0) := by
        have g := fun n x y h1 h2 h3 h4 => gcr_ok N s (nI j) 0 n x y h1 h2 h3 h4
        obtain ⟨N', hN'⟩ : ∃ N', N = N' + 1 := ⟨N - 1, by omega⟩
        have key : f_X12_mean_49 N s N (nI j) (nI n) (nI l) 0 = if nI j = 0 then some (s 56 / nI (Nat.gcd n l), 0) else some (s 55 / nI (Nat.gcd n l), 0) := by
          by_cases hl0 : l = 0
          · subst hl0
            exact g N n 0 (by omega) (by omega) (by omega) hg
          · have hr : n % l ≤ n := Nat.mod_le _ _
            have e3 : f_X12_mean_49 N s N (nI j) (nI n) (nI l) 0 = f_X12_mean_49 N s N' (nI j) (nI l) (nI (n % l)) 0 := by
              have : f_X12_mean_49 N s (N' + 1) (nI j) (nI n) (nI l) 0 = f_X12_mean_49 N s N' (nI j) (nI l) (nI (n % l)) 0 := by
                rw [f_X12_mean_49, if_neg (nI_ne0 (by omega) (by omega)), zne0_n (by omega) (by omega), zck_t, zrem_n (by omega) (by omega) (by omega), zbn_s]
              rw [← hN'] at this
              exact this
            rw [e3, g N' l (n % l) (by omega) (by omega) (by omega) (by rw [gcd9]; exact hg), gcd9]
        rw [← e1, ← e2] at key
        exact key
      unfold f_X12_mean_25
      rw [k1, show f_X12_throwsIf N 0 th = some (0, 0) from rfl, zcl_s, zcl_s, if_pos (show (0 : Int32) = 0 from rfl), zbn_s, zbn_s, k2, if_neg (nI_ne0 hg (by omega)), zne0_n hg (by omega), zck_t, zck_t]
      by_cases hj0 : nI j = 0
      · exact ⟨_, by rw [if_pos hj0], by rw [if_pos hj0]⟩
      · exact ⟨_, by rw [if_neg hj0], by rw [if_neg hj0]⟩
    · right
      have hz1 : ¬ (0 ≤ x0.toInt ∧ x0.toInt ≤ 1) := by
        unfold zin at h5
        rw [decide_eq_false_iff_not] at h5
        omega
      refine ⟨⟨_, rfl, Or.inr ⟨hn0, ?_⟩⟩, ?_⟩
      · by_cases hn : x0 < 0
        · exact Or.inl hn
        · refine Or.inr ⟨hn, fun z => hz1 ⟨?_, ?_⟩⟩
          · rw [Int32.lt_iff_toInt_lt] at hn
            have h0 : (0 : Int32).toInt = 0 := by decide
            omega
          · rw [Int32.le_iff_toInt_le] at z
            exact z
      · rw [decide_eq_false (by simpa using hz1), if_pos (show bI false = 0 from rfl)]
        rfl
end PUB5
section PUB5R
theorem p_alike (N : Nat) (hN : 2000 ≤ N) : Ok9 (F_alike N) (G_alike N) := by
  intro k r hR
  have hR' := hR
  obtain ⟨b, d, ⟨hB, hD, -⟩, -⟩ := hR'
  obtain ⟨v, h1, h2⟩ := alike_ok hD N hN r.thrown
  exact ⟨v, k, r.thr 0, by unfold F_alike; rw [h1]; rfl, by unfold G_alike; rw [h2]; rfl, hR.th 0⟩
theorem p_tend (N : Nat) (hN : 10 ≤ N) (x0 x1 : Int32) : Ok9 (F_tend N x0 x1) (G_tend N x0 x1) := by
  intro k r hR
  have hR' := hR
  obtain ⟨b, d, ⟨hB, hD, -⟩, -⟩ := hR'
  obtain ⟨v, h1, h2⟩ := tend_ok hB hD N hN x0 x1 r.thrown
  exact ⟨v, k, r.thr 0, by unfold F_tend; rw [h1]; rfl, by unfold G_tend; rw [h2]; rfl, hR.th 0⟩
theorem p_worst (N : Nat) (hN : 10 ≤ N) : Ok9 (F_worst N) (G_worst N) := by
  intro k r hR
  have hR' := hR
  obtain ⟨b, d, ⟨hB, hD, -⟩, -⟩ := hR'
  obtain ⟨v, h1, h2⟩ := worst_ok hD N hN r.thrown
  exact ⟨v, k, r.thr 0, by unfold F_worst; rw [h1]; rfl, by unfold G_worst; rw [h2]; rfl, hR.th 0⟩
theorem p_latest (N : Nat) (hN : 10 ≤ N) : Ok9 (F_latest N) (G_latest N) := by
  intro k r hR
  obtain ⟨b, d, hW, hH, hI, hT, hf, hl, hm, ht, hv⟩ := hR
  obtain ⟨v, l', h1, h2⟩ := latest_ok hW.2.1 N hN r.thrown r.latestMost
  refine ⟨v, _, _, by unfold F_latest; rw [hl, h1]; rfl, by unfold G_latest; rw [h2]; rfl, ?_⟩
  exact ⟨b, d, hW, hH, hI, hT, hf, rfl, hm, ht, hv⟩
theorem p_told (N : Nat) (x0 : Int32) : Ok9 (F_told N x0) (G_told N x0) := by
  intro k r hR
  have hR' := hR
  obtain ⟨b, d, hW, hH, hI, hT, hf, hl, hm, ht, hv⟩ := hR'
  obtain ⟨v, h1, h2⟩ := told_ok N ht x0 r.thrown
  exact ⟨v, k, r.thr 0, by unfold F_told; rw [h1]; rfl, by unfold G_told; rw [h2]; rfl, hR.th 0⟩
theorem p_end (N : Nat) (x0 : Int32) : Ok9 (F_end N x0) (G_end N x0) := by
  intro k r hR
  obtain ⟨b, d, hW, hH, hI, ⟨L, hL, l1, l2, l3⟩, hf, hl, hm, ht, hv⟩ := hR
  obtain ⟨v, L', h0, h1, h2⟩ := end_ok N x0 r.thrown (nI L) hL rfl
  refine ⟨v, _, _, by unfold F_end; rw [l1, h1]; rfl, by unfold G_end; rw [l2, h2]; rfl, ?_⟩
  exact ⟨b, d, hW, hH, hI, ⟨L', by omega, rfl, rfl, fun i hi => l3 i (by omega)⟩, hf, hl, hm, ht, hv⟩
theorem p_feed (N : Nat) (hN : 10 ≤ N) (x0 x1 x2 x3 x4 : Int32) : Ok9 (F_feed N x0 x1 x2 x3 x4) (G_feed N x0 x1 x2 x3 x4) := by
  intro k r hR
  obtain ⟨b, d, hW, hH, hI, ⟨L, hL, l1, l2, l3⟩, hf, hl, hm, ht, hv⟩ := hR
  obtain ⟨v, L', f', g', h0, h1, h2, h3⟩ := feed_ok N hN x0 x1 x2 x3 x4 r.thrown L hL _ _ l3
  refine ⟨v, _, _, by unfold F_feed; rw [l1, h1]; rfl, by unfold G_feed; rw [l2, h2]; rfl, ?_⟩
  exact ⟨b, d, hW, hH, hI, ⟨L', h0, rfl, rfl, h3⟩, hf, hl, hm, ht, hv⟩
/-- those that may throw: alike, or both do -/
theorem p_wrong (N : Nat) (x0 : Int32) (k : KS) (r : RS) (hR : Rel k r) : (∃ v, F_wrong N x0 k = some (v, k) ∧ G_wrong N x0 r = some (v, r.thr 0)) ∨ (f_X11_isClock N x0 k.here.clocks = some 0 ∧ G_wrong N x0 r = some (0, r.thr 1)) := by
  obtain ⟨b, d, ⟨hB, hD, -⟩, -⟩ := hR
  rcases wrong_ok hD N x0 r.thrown with ⟨v, h1, h2⟩ | ⟨h1, h2⟩
  · exact Or.inl ⟨v, by unfold F_wrong; rw [h1]; rfl, by unfold G_wrong; rw [h2]; rfl⟩
  · exact Or.inr ⟨h1, by unfold G_wrong; rw [h2]; rfl⟩
theorem p_master (N : Nat) (hN : 10 ≤ N) (x0 x1 : Int32) (k : KS) (r : RS) (hR : Rel k r) : (∃ v, F_master N x0 x1 k = some (v, k) ∧ G_master N x0 x1 r = some (v, r.thr 0)) ∨ ((f_X11_isMaster N x0 k.here.masters = some 0 ∨ (f_X11_isMaster N x0 k.here.masters = some 1 ∧ (x1 < 0 ∨ (¬ x1 < 0 ∧ ¬ x1 ≤ 6)))) ∧ G_master N x0 x1 r = some (0, r.thr 1)) := by
  obtain ⟨b, d, ⟨hB, hD, -⟩, -⟩ := hR
  rcases master_ok hB hD N hN x0 x1 r.thrown with ⟨v, h1, h2⟩ | ⟨h1, h2⟩
  · exact Or.inl ⟨v, by unfold F_master; rw [h1]; rfl, by unfold G_master; rw [h2]; rfl⟩
  · exact Or.inr ⟨h1, by unfold G_master; rw [h2]; rfl⟩
theorem p_mean (N : Nat) (hN : 200 ≤ N) (x0 : Int32) (k : KS) (r : RS) (hR : Rel k r) : (∃ v, F_mean N x0 k = some (v, k) ∧ G_mean N x0 r = some (v, r.thr 0)) ∨ ((∃ z, f_X3_howOftenCame N k.here.masters k.here.meets k.day.came = some z ∧ (z = 0 ∨ (¬ z = 0 ∧ (x0 < 0 ∨ (¬ x0 < 0 ∧ ¬ x0 ≤ 1))))) ∧ G_mean N x0 r = some (0, r.thr 1)) := by
  obtain ⟨b, d, ⟨hB, hD, -⟩, -⟩ := hR
  rcases mean_ok hD N hN x0 r.thrown with ⟨v, h1, h2⟩ | ⟨h1, h2⟩
  · exact Or.inl ⟨v, by unfold F_mean; rw [h1]; rfl, by unfold G_mean; rw [h2]; rfl⟩
  · exact Or.inr ⟨h1, by unfold G_mean; rw [h2]; rfl⟩
end PUB5R
