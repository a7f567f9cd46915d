/-! ===== a burgh is read ===== -/
section RDB
variable {tp by9 : Nat → Int32} {L lim sz : Nat} {K P V : Nat → Int32} {W : Nat → Int64} {res : Nat → Int64}
theorem rdB_ok (hE : EV tp L lim sz K P V W) (hv : RV res) (N : Nat) (hN : 2010 ≤ N) (fp fa um : Int32) (s : Nat → Int32) : ∀ (n n' c lines : Nat) (kc : KU) (rc : RU) (b : MB) (B : CB) (hh : Nat → Int32) (nm : Nat → Int64) (wt got : Int32), CQ tp L lim sz c kc → RC tp L lim c rc → HB b B hh nm → 2 * lines ≤ ps9 tp L lim c → L - ps9 tp L lim c < n → L - ps9 tp L lim c < n' → (∃ (lines' : Nat) (wt' : Int32) (b' : MB) (B' : CB) (kc' : KU) (rc' : RU) (got' : Int32) (h' : Nat → Int32) (nm' : Nat → Int64), f_X2_read_24 N (nI L) by9 n (nI lines) wt B.clocks B.masters B.meets B.patience kc.1 kc.2.1 kc.2.2.1 kc.2.2.2.1 0 fp (nI sz) kc.2.2.2.2 K P V W B.clockName B.masterName B.meetName B.clockCorner B.clockAhead B.clockGain B.masterCorner B.masterLate B.masterMeets B.masterClock B.meetDue = some (nI lines', wt', B'.clocks, B'.masters, B'.meets, B'.patience, kc'.1, kc'.2.1, kc'.2.2.1, kc'.2.2.2.1, 0, fp, nI sz, kc'.2.2.2.2, K, P, V, W, B'.clockName, B'.masterName, B'.meetName, B'.clockCorner, B'.clockAhead, B'.clockGain, B'.masterCorner, B'.masterLate, B'.masterMeets, B'.masterClock, B'.meetDue) ∧ f_X12_burgh_35 N tp res n' 0 0 (nI L) rc.1 (nI lim) rc.2.1 rc.2.2.1 rc.2.2.2.1 rc.2.2.2.2.1 0 fa rc.2.2.2.2.2 got (nI lines) wt um hh nm s = f_X12_burgh_80 N tp res N 0 0 0 (nI L) rc'.1 (nI lim) rc'.2.1 rc'.2.2.1 rc'.2.2.2.1 rc'.2.2.2.2.1 0 fa rc'.2.2.2.2.2 got' (nI lines') wt' um h' nm' s ∧ HB b' B' h' nm' ∧ ∀ i, i < 18 → nm' i = nm i) ∨ (∃ z w, f_X2_read_24 N (nI L) by9 n (nI lines) wt B.clocks B.masters B.meets B.patience kc.1 kc.2.1 kc.2.2.1 kc.2.2.2.1 0 fp (nI sz) kc.2.2.2.2 K P V W B.clockName B.masterName B.meetName B.clockCorner B.clockAhead B.clockGain B.masterCorner B.masterLate B.masterMeets B.masterClock B.meetDue = some z ∧ f_X12_burgh_35 N tp res n' 0 0 (nI L) rc.1 (nI lim) rc.2.1 rc.2.2.1 rc.2.2.2.1 rc.2.2.2.2.1 0 fa rc.2.2.2.2.2 got (nI lines) wt um hh nm s = some w ∧ ¬ z.2.2.2.2.2.2.2.2.2.2.1 = 0 ∧ w.1 = -1 - z.2.2.2.2.2.2.2.2.2.2.2.1 ∧ w.2.1 = 0 ∧ w.2.2.1 = 0 ∧ w.2.2.2.2.2.2.2.2.2.2.1 = z.2.2.2.2.2.2.2.2.2.2.1 ∧ w.2.2.2.2.2.2.2.2.2.2.2.2.2.2.2.2.1 = um ∧ (∀ i, i < 18 → w.2.2.2.2.2.2.2.2.2.2.2.2.2.2.2.2.2.2.1 i = nm i) ∧ w.2.2.2.2.2.2.2.2.2.2.2.2.2.2.2.2.2.2.2 = s) := by
  intro n
  induction n with
  | zero => intro n' c lines kc rc b B hh nm wt got _ _ _ _ hn; omega
  | succ n ih =>
    intro n' c lines kc rc b B hh nm wt got h hr H hl hn hn'
    obtain ⟨n', rfl⟩ : ∃ m, n' = m + 1 := ⟨n' - 1, by omega⟩
    have hL := hE.1
    have hps := ps9_le (tp := tp) (L := L) (lim := lim) c
    rw [f_X2_read_24, if_neg (show ¬ (900 : Int32) ≤ nI lines from nI_ge (b := 900) (show lines < 900 by omega) (by omega)), f_X12_burgh_35]
    rcases aend_ok h hr N with ⟨e1, e2⟩ | ⟨e1, e2⟩
    · left
      rw [e1, zcl_s, if_neg one0, if_pos e2]
      exact ⟨lines, wt, b, B, kc, rc, got, hh, nm, rfl, rfl, H, fun i _ => rfl⟩
    · rw [e1, zcl_s, if_pos rfl, if_neg e2]
      rcases rdL_ok hE h hr hv H N hN wt fp fa got with ⟨wt', b', B', kc', rc', c', got', h', nm', x1, x2, x3, x4, x5, x6, x7⟩ | ⟨z, w, x1, x2, x3, x4, x5, x6, x7, x8⟩
      · rw [x1, zcl_s, x2, zcl_s]
        dsimp only
        rw [if_neg one0, if_neg one0]
        have ty := tsy_ok hE x3 x4 N 59 hN fp fa
        rw [show nI 59 = (59 : Int32) from rfl] at ty
        rcases ty with ⟨k2, r2, y1, y2, y3, y4, y5⟩ | ⟨y1, y2⟩
        · rw [y1, zcl_s, y2, zcl_s]
          dsimp only
          rw [if_neg one0, if_neg one0, zbn_s, zbn_s, nI_1]
          have hps2 := ps9_le (tp := tp) (L := L) (lim := lim) (c' + 1)
          rcases ih n' (c' + 1) (lines + 1) k2 r2 b' B' h' nm' wt' got' y3 y4 x6 (by omega) (by omega) (by omega) with ⟨l2, w2, b2, B2, k3, r3, g3, h3, n3, q1, q2, q3, q4⟩ | ⟨z, w, q1, q2, q3, q4, q5, q6, q7, q8, q9, q10⟩
          · exact Or.inl ⟨l2, w2, b2, B2, k3, r3, g3, h3, n3, q1, q2, q3, fun i hi => (q4 i hi).trans (x7 i hi)⟩
          · exact Or.inr ⟨z, w, q1, q2, q3, q4, q5, q6, q7, q8, fun i hi => (q9 i hi).trans (x7 i hi), q10⟩
        · right
          rw [y1, zcl_s, y2, zcl_s]
          dsimp only
          rw [if_pos rfl, if_pos rfl]
          unfold f_X12_burgh_58
          exact ⟨_, _, rfl, rfl, one0, rfl, rfl, rfl, rfl, rfl, x7, rfl⟩
      · right
        rw [x1, zcl_s, x2, zcl_s, if_pos x3, if_pos x4]
        unfold f_X12_burgh_58
        exact ⟨_, _, rfl, rfl, x5, by show -1 - w.2.2.2.2.2.2.2.1 = -1 - z.2.2.2.2.2.2.2.1; rw [x7], rfl, rfl, x6.symm, rfl, x8, rfl⟩
end RDB
/-! ===== the reference's burgh as it is taken over ===== -/
theorem X12_clears_ok (N : Nat) (hh : Nat → Int32) (hN : 100 ≤ N) : ∃ h', f_X12_clears N hh = some h' ∧ h' 3 = 15 ∧ ∀ i, i < 52 → i ≠ 3 → h' i = 0 := by
  unfold f_X12_clears
  refine loopP (F := fun n i g => f_X12_clears_2 N n (nI i) g) (M := 52) (Post := fun z => ∃ h', z = some h' ∧ h' 3 = 15 ∧ ∀ i, i < 52 → i ≠ 3 → h' i = 0) (fun i g => ∀ k, k < i → g k = 0) ?_ ?_ N 0 hh (by omega) (by omega) (fun k hk => absurd hk (by omega))
  · intro n i g hi hI
    left
    refine ⟨upd g i 0, ?_, fun k hk => ?_⟩
    · show f_X12_clears_2 N (n + 1) (nI i) g = f_X12_clears_2 N n (nI (i + 1)) (upd g i 0)
      rw [f_X12_clears_2, if_neg (show ¬ (52 : Int32) ≤ nI i from nI_ge (b := 52) hi (by omega)), zin_nI hi (by omega), zck_t, zbn_s, zbn_s, nI_1, cl_n (show i < 2147483648 by omega)]
    · by_cases e : k = i
      · rw [e, pk_us]
      · rw [pk_un e]; exact hI k (by omega)
  · intro n g hI
    show ∃ h', f_X12_clears_2 N (n + 1) (nI 52) g = some h' ∧ h' 3 = 15 ∧ ∀ i, i < 52 → i ≠ 3 → h' i = 0
    rw [f_X12_clears_2, if_pos (show (52 : Int32) ≤ nI 52 by decide), zbn_s]
    exact ⟨_, rfl, pk_us, fun i hi h3 => by rw [pk_un h3]; exact hI i hi⟩
section TAKE
variable {tp : Nat → Int32} {res : Nat → Int64} {th len size p lim tok at_ span num flt fa got lines wt um : Int32} {word : Int64} {hh : Nat → Int32}
theorem b146_ok (N : Nat) (nm : Nat → Int64) (s : Nat → Int32) (hN : 100 ≤ N) : ∃ s', f_X12_burgh_146 N tp res N 0 th len size p lim tok at_ span num flt fa word got lines wt um hh nm s = some (lines, th, len, size, p, lim, tok, at_, span, num, flt, fa, word, got, lines, wt, 0, hh, nm, s') ∧ (∀ k, k < 6 → s' (57 + k) = s (10 + k) ∧ s' (75 + k) = s (40 + k)) ∧ ∀ i, ¬ (57 ≤ i ∧ i < 63) → ¬ (75 ≤ i ∧ i < 81) → s' i = s i := by
  refine loopP (F := fun n i g => f_X12_burgh_146 N tp res n (nI i) th len size p lim tok at_ span num flt fa word got lines wt um hh nm g) (M := 6) (Post := fun z => ∃ s', z = some (lines, th, len, size, p, lim, tok, at_, span, num, flt, fa, word, got, lines, wt, 0, hh, nm, s') ∧ (∀ k, k < 6 → s' (57 + k) = s (10 + k) ∧ s' (75 + k) = s (40 + k)) ∧ ∀ i, ¬ (57 ≤ i ∧ i < 63) → ¬ (75 ≤ i ∧ i < 81) → s' i = s i) (fun i g => (∀ k, k < i → g (57 + k) = s (10 + k) ∧ g (75 + k) = s (40 + k)) ∧ ∀ i, ¬ (57 ≤ i ∧ i < 63) → ¬ (75 ≤ i ∧ i < 81) → g i = s i) ?_ ?_ N 0 s (by omega) (by omega) ⟨fun k hk => absurd hk (by omega), fun i _ _ => rfl⟩
  · intro n i g hi ⟨hI, hO⟩
    left
    refine ⟨upd (upd g (57 + i) (g (10 + i))) (75 + i) (g (40 + i)), ?_, fun k hk => ?_, fun j j1 j2 => ?_⟩
    · show f_X12_burgh_146 N tp res (n + 1) (nI i) th len size p lim tok at_ span num flt fa word got lines wt um hh nm g = f_X12_burgh_146 N tp res n (nI (i + 1)) th len size p lim tok at_ span num flt fa word got lines wt um hh nm (upd (upd g (57 + i) (g (10 + i))) (75 + i) (g (40 + i)))
      rw [f_X12_burgh_146]
      simp (disch := omega) only [zcl_s, zck_t, zbn_s, lits, m1_iI, ng_n, nI_le_T, nI_le_F, nI_lt_T, nI_lt_F, nI_eq_T, nI_eq_F, nI_1, le_1, le_1r, lt_1, lt_1r, eq_1, nI_add, pk_mul, sb_1, sb_n, cl_n, zi_n, iI_le_T, iI_le_F, iI_lt_T, iI_lt_F, iI_eq_T, iI_eq_F, mx1, mx2, mx3, mx4, mx5, mx6, mx7, mx8, mx9, mx10, iI_add, iI_sub, iI_p1, bI_n0, bI_1, bI_bo, tr_f, fa_f, tr_t, fa_t, if_true, if_false, or_n0, Nat.add_zero, Int.add_zero, pk_un]
    · by_cases e : k = i
      · rw [e, pk_us, pk_un (by omega), pk_us, hO (10 + i) (by omega) (by omega), hO (40 + i) (by omega) (by omega)]
        exact ⟨rfl, rfl⟩
      · rw [pk_un (by omega), pk_un (by omega), pk_un (by omega), pk_un (by omega)]
        exact hI k (by omega)
    · rw [pk_un (by omega), pk_un (by omega)]
      exact hO j j1 j2
  · intro n g ⟨hI, hO⟩
    refine ⟨g, ?_, hI, hO⟩
    show f_X12_burgh_146 N tp res (n + 1) (nI 6) th len size p lim tok at_ span num flt fa word got lines wt um hh nm g = _
    rw [f_X12_burgh_146, if_pos (show (6 : Int32) ≤ nI 6 by decide)]
theorem b117_ok (N : Nat) (nm : Nat → Int64) (s : Nat → Int32) (hN : 100 ≤ N) : ∃ nm', f_X12_burgh_117 N tp res N 0 th len size p lim tok at_ span num flt fa word got lines wt um hh nm s = f_X12_burgh_146 N tp res N 0 th len size p lim tok at_ span num flt fa word got lines wt um hh nm' s ∧ (∀ k, k < 18 → nm' k = nm (18 + k)) := by
  refine loopP (F := fun n i g => f_X12_burgh_117 N tp res n (nI i) th len size p lim tok at_ span num flt fa word got lines wt um hh g s) (M := 18) (Post := fun z => ∃ nm', z = f_X12_burgh_146 N tp res N 0 th len size p lim tok at_ span num flt fa word got lines wt um hh nm' s ∧ (∀ k, k < 18 → nm' k = nm (18 + k))) (fun i g => (∀ k, k < i → g k = nm (18 + k)) ∧ ∀ k, 18 ≤ k → g k = nm k) ?_ ?_ N 0 nm (by omega) (by omega) ⟨fun k hk => absurd hk (by omega), fun k _ => rfl⟩
  · intro n i g hi ⟨hI, hO⟩
    left
    refine ⟨vp_updL g i (g (18 + i)), ?_, fun k hk => ?_, fun k hk => ?_⟩
    · show f_X12_burgh_117 N tp res (n + 1) (nI i) th len size p lim tok at_ span num flt fa word got lines wt um hh g s = f_X12_burgh_117 N tp res n (nI (i + 1)) th len size p lim tok at_ span num flt fa word got lines wt um hh (vp_updL g i (g (18 + i))) s
      rw [f_X12_burgh_117]
      simp (disch := omega) only [zcl_s, zck_t, zbn_s, lits, m1_iI, ng_n, nI_le_T, nI_le_F, nI_lt_T, nI_lt_F, nI_eq_T, nI_eq_F, nI_1, le_1, le_1r, lt_1, lt_1r, eq_1, nI_add, pk_mul, sb_1, sb_n, cl_n, zi_n, iI_le_T, iI_le_F, iI_lt_T, iI_lt_F, iI_eq_T, iI_eq_F, mx1, mx2, mx3, mx4, mx5, mx6, mx7, mx8, mx9, mx10, iI_add, iI_sub, iI_p1, bI_n0, bI_1, bI_bo, tr_f, fa_f, tr_t, fa_t, if_true, if_false, or_n0, Nat.add_zero, Int.add_zero]
    · by_cases e : k = i
      · rw [e, pk_uLs]; exact hO (18 + i) (by omega)
      · rw [pk_uLn e]; exact hI k (by omega)
    · rw [pk_uLn (by omega)]; exact hO k hk
  · intro n g ⟨hI, hO⟩
    refine ⟨g, ?_, hI⟩
    show f_X12_burgh_117 N tp res (n + 1) (nI 18) th len size p lim tok at_ span num flt fa word got lines wt um hh g s = _
    rw [f_X12_burgh_117, if_pos (show (18 : Int32) ≤ nI 18 by decide)]
theorem b80_ok (N : Nat) (nm : Nat → Int64) (s : Nat → Int32) (hN : 400 ≤ N) : ∃ s', f_X12_burgh_80 N tp res N 0 th len size p lim tok at_ span num flt fa word got lines wt um hh nm s = f_X12_burgh_117 N tp res N 0 th len size p lim tok at_ span num flt fa word got lines wt um hh nm s' ∧ (∀ k, k < 52 → s' k = hh k) ∧ ∀ k, 52 ≤ k → k < 334 → s' k = 0 := by
  refine loopP (F := fun n i g => f_X12_burgh_80 N tp res n (nI i) th len size p lim tok at_ span num flt fa word got lines wt um hh nm g) (M := 334) (Post := fun z => ∃ s', z = f_X12_burgh_117 N tp res N 0 th len size p lim tok at_ span num flt fa word got lines wt um hh nm s' ∧ (∀ k, k < 52 → s' k = hh k) ∧ ∀ k, 52 ≤ k → k < 334 → s' k = 0) (fun i g => (∀ k, k < i → k < 52 → g k = hh k) ∧ ∀ k, k < i → 52 ≤ k → g k = 0) ?_ ?_ N 0 s (by omega) (by omega) ⟨fun k hk => absurd hk (by omega), fun k hk => absurd hk (by omega)⟩
  · intro n i g hi ⟨hI, hO⟩
    left
    by_cases c : 52 ≤ i
    · refine ⟨upd g i 0, ?_, fun k hk k2 => ?_, fun k hk k2 => ?_⟩
      · show f_X12_burgh_80 N tp res (n + 1) (nI i) th len size p lim tok at_ span num flt fa word got lines wt um hh nm g = f_X12_burgh_80 N tp res n (nI (i + 1)) th len size p lim tok at_ span num flt fa word got lines wt um hh nm (upd g i 0)
        rw [f_X12_burgh_80, if_neg (show ¬ (334 : Int32) ≤ nI i from nI_ge (b := 334) hi (by omega)), if_pos (show (52 : Int32) ≤ nI i from nI_le (a := 52) c (by omega))]
        unfold f_X12_burgh_108
        rw [zin_nI hi (by omega), zck_t, zbn_s, zbn_s, nI_1, cl_n (show i < 2147483648 by omega)]
      · rw [pk_un (by omega)]; exact hI k (by omega) k2
      · by_cases e : k = i
        · rw [e, pk_us]
        · rw [pk_un e]; exact hO k (by omega) k2
    · refine ⟨upd g i (hh i), ?_, fun k hk k2 => ?_, fun k hk k2 => absurd hk (by omega)⟩
      · show f_X12_burgh_80 N tp res (n + 1) (nI i) th len size p lim tok at_ span num flt fa word got lines wt um hh nm g = f_X12_burgh_80 N tp res n (nI (i + 1)) th len size p lim tok at_ span num flt fa word got lines wt um hh nm (upd g i (hh i))
        rw [f_X12_burgh_80, if_neg (show ¬ (334 : Int32) ≤ nI i from nI_ge (b := 334) hi (by omega)), if_neg (show ¬ (52 : Int32) ≤ nI i from nI_ge (b := 52) (show i < 52 by omega) (by omega)), zin_nI (show i < 52 by omega) (by omega), zck_t]
        unfold f_X12_burgh_108
        rw [zin_nI hi (by omega), zck_t, zbn_s, zbn_s, nI_1, cl_n (show i < 2147483648 by omega)]
      · by_cases e : k = i
        · rw [e, pk_us]
        · rw [pk_un e]; exact hI k (by omega) k2
  · intro n g ⟨hI, hO⟩
    refine ⟨g, ?_, fun k hk => hI k (by omega) hk, fun k k1 k2 => hO k k2 k1⟩
    show f_X12_burgh_80 N tp res (n + 1) (nI 334) th len size p lim tok at_ span num flt fa word got lines wt um hh nm g = _
    rw [f_X12_burgh_80, if_pos (show (334 : Int32) ≤ nI 334 by decide)]
end TAKE
