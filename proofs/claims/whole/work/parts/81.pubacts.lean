/-! ===== public: set, stop, start, move, minutes, undo ===== -/
theorem one0 : ¬ (1 : Int32) = 0 := by decide
/-- a number between two -/
theorem rng9 (N : Nat) (x l h h1 : Int32) {lo hi : Nat} (hl : lo ≤ hi) (hh : hi < 99999) (el : l = nI lo) (eh : h = nI hi) (e1 : h1 = nI (hi + 1)) : (∃ j, lo ≤ j ∧ j ≤ hi ∧ x = nI j ∧ f_X12_isIn N x l h = some 1 ∧ ¬ x < l ∧ x ≤ h ∧ x < h1) ∨ (f_X12_isIn N x l h = some 0 ∧ (x < l ∨ (¬ x < l ∧ ¬ x ≤ h ∧ ¬ x < h1))) := by
  have h2 : x < l ↔ x.toInt < lo := by rw [el, Int32.lt_iff_toInt_lt, nI_toInt (by omega)]
  have h3 : x ≤ h ↔ x.toInt ≤ hi := by rw [eh, Int32.le_iff_toInt_le, nI_toInt (by omega)]
  have h4 : x < h1 ↔ x.toInt < (hi + 1 : Nat) := by rw [e1, Int32.lt_iff_toInt_lt, nI_toInt (by omega)]
  have h5 : f_X12_isIn N x l h = some (bI (decide ((lo : Int) ≤ x.toInt ∧ x.toInt ≤ hi))) := by rw [el, eh]; exact X12_isIn_lit N x (by omega) (by omega)
  by_cases c : (lo : Int) ≤ x.toInt ∧ x.toInt ≤ hi
  · left
    have hz : zin x (hi + 1) = true := by unfold zin; exact decide_eq_true (by omega)
    obtain ⟨j, hj, rfl⟩ := zin_ex hz (by omega)
    rw [nI_toInt (by omega)] at c h2 h3 h4
    exact ⟨j, by omega, by omega, rfl, by rw [h5, nI_toInt (by omega), decide_eq_true c]; rfl, fun z => by have := h2.mp z; omega, h3.mpr c.2, h4.mpr (by omega)⟩
  · right
    refine ⟨by rw [h5, decide_eq_false c]; rfl, ?_⟩
    by_cases c1 : x.toInt < lo
    · exact Or.inl (h2.mpr c1)
    · exact Or.inr ⟨fun z => c1 (h2.mp z), fun z => c ⟨by omega, h3.mp z⟩, fun z => by have := h4.mp z; omega⟩
section PUBA
variable {b : MB} {d : MD} {B : CB} {D A : CY} {s : Nat → Int32} {nm : Nat → Int64}
theorem DY.isM (h : DY b d B D s) (N : Nat) (x : Int32) : (∃ m, m < b.M ∧ x = nI m ∧ f_X11_isMaster N x B.masters = some 1 ∧ f_X12_isMaster N x s = some 1) ∨ (f_X11_isMaster N x B.masters = some 0 ∧ f_X12_isMaster N x s = some 0) := by
  have m6 := h.M6
  rw [h.nM, X11_isMaster_ok N x (n := b.M) (by omega), X12_isMaster_ok N x h.sM (by omega)]
  rcases zin_cases x (n := b.M) (by omega) with ⟨hz, m, hm, rfl⟩ | hz
  · rw [hz]; exact Or.inl ⟨m, hm, rfl, rfl, rfl⟩
  · rw [hz]; exact Or.inr ⟨rfl, rfl⟩
theorem DY.isC (h : DY b d B D s) (N : Nat) (x : Int32) : (∃ m, m < b.C ∧ x = nI m ∧ f_X11_isClock N x B.clocks = some 1 ∧ f_X12_isClock N x s = some 1) ∨ (f_X11_isClock N x B.clocks = some 0 ∧ f_X12_isClock N x s = some 0) := by
  have m6 := h.C6
  rw [h.nC, X11_isClock_ok N x (n := b.C) (by omega), X12_isClock_ok N x h.sC (by omega)]
  rcases zin_cases x (n := b.C) (by omega) with ⟨hz, m, hm, rfl⟩ | hz
  · rw [hz]; exact Or.inl ⟨m, hm, rfl, rfl, rfl⟩
  · rw [hz]; exact Or.inr ⟨rfl, rfl⟩
theorem DY.isT (h : DY b d B D s) (N : Nat) (x : Int32) : (∃ m, m < b.T ∧ x = nI m ∧ f_X11_isMeet N x B.meets = some 1 ∧ f_X12_isMeet N x s = some 1) ∨ (f_X11_isMeet N x B.meets = some 0 ∧ f_X12_isMeet N x s = some 0) := by
  have m6 := h.T6
  rw [h.nT, X11_isMeet_ok N x (n := b.T) (by omega), X12_isMeet_ok N x h.sT (by omega)]
  rcases zin_cases x (n := b.T) (by omega) with ⟨hz, m, hm, rfl⟩ | hz
  · rw [hz]; exact Or.inl ⟨m, hm, rfl, rfl, rfl⟩
  · rw [hz]; exact Or.inr ⟨rfl, rfl⟩
theorem DY.wSet (h : DY b d B D s) (N : Nat) {m c : Nat} (hm : m < b.M) (hc : c < b.C) : ∃ w : Int32, f_X3_whyNotSet N (nI m) (nI c) D.out D.stopped = some w ∧ f_X12_whySet N (nI m) (nI c) s = some w ∧ (w = 1 ∨ w = 2 ∨ (w = 0 ∧ d.stp c = false)) := by
  obtain ⟨o1, o2⟩ := h.ot N m hm
  obtain ⟨p1, p2⟩ := h.sp N c hc
  unfold f_X3_whyNotSet f_X12_whySet
  rw [o1, o2, p1, p2]
  cases d.x.1 m
  · cases hp : d.stp c
    · exact ⟨0, rfl, rfl, Or.inr (Or.inr ⟨rfl, rfl⟩)⟩
    · exact ⟨2, rfl, rfl, Or.inr (Or.inl rfl)⟩
  · exact ⟨1, rfl, rfl, Or.inl rfl⟩
end PUBA
theorem p_set (N : Nat) (hN : 5000 ≤ N) (x0 x1 : Int32) : Ok9 (F_set N x0 x1) (G_set N x0 x1) := by
  intro k r hR
  have hR0 := hR
  obtain ⟨b, d, ⟨hB, h, hS⟩, hH, hI, hT, hf, hl, hm, ht, hv⟩ := hR
  rcases h.isM N x0 with ⟨m, hm', rfl, a1, a2⟩ | ⟨a1, a2⟩
  · rcases h.isC N x1 with ⟨c, hc, rfl, c1, c2⟩ | ⟨c1, c2⟩
    · obtain ⟨w, w1, w2, hw⟩ := h.wSet N hm' hc
      by_cases w0 : w = 0
      · subst w0
        have hp : d.stp c = false := by
          rcases hw with hw | hw | hw
          · exact absurd hw (by decide)
          · exact absurd hw (by decide)
          · exact hw.2
        have m6 := h.M6
        have c6 := h.C6
        obtain ⟨p, n', z', m', u', k1, k2, hH'⟩ := hH.keep h N (by omega)
        obtain ⟨d1, d2, d', -, hD'⟩ := h.adj hB N hm' hc hp
        have e28 : (28 : Int32) + nI m = nI (28 + m) := by rw [show (28 : Int32) = nI 28 from rfl, nI_add]
        have hs : ∀ i, i < 52 ∨ 153 ≤ i → rf9 r.s c (iI (-(b.late m))) i = r.s i := fun i hi => rf9_o (by omega) (by omega) (by omega) (by omega)
        refine ⟨0, _, _, by unfold F_set f_X11_set; rw [a1, zcl_s, if_neg one0, c1, zcl_s, if_neg one0, w1, zcl_s, if_pos rfl, k1, zcl_s, d1, zcl_s, zcl_s], by unfold G_set f_X12_set; rw [a2, zcl_s, if_neg one0, c2, zcl_s, if_neg one0, w2, zcl_s, if_pos (show (0 : Int32) ≤ 0 by decide), k2, zcl_s, e28, zin_nI (show 28 + m < 334 by omega) (by omega), zck_t, cl_n (show 28 + m < 2147483648 by omega), d2, zcl_s, zcl_s], ?_⟩
        exact ⟨b, d', ⟨hB.congS (fun i hi => hs i (Or.inl hi)), hD', hS.congS (fun i hi _ => hs i (Or.inr hi))⟩, hH'.congS (fun i hi => hs i (Or.inl hi)), hI, hT, hf, hl, hm, ht, hv⟩
      · have wn : ¬ w ≤ 0 := by
          rcases hw with hw | hw | hw
          · rw [hw]; decide
          · rw [hw]; decide
          · exact absurd hw.1 w0
        exact ⟨w, k, r.thr 0, by unfold F_set f_X11_set; rw [a1, zcl_s, if_neg one0, c1, zcl_s, if_neg one0, w1, zcl_s, if_neg w0]; rfl, by unfold G_set f_X12_set; rw [a2, zcl_s, if_neg one0, c2, zcl_s, if_neg one0, w2, zcl_s, if_neg wn]; rfl, hR0.th 0⟩
    · exact ⟨-1, k, r.thr 0, by unfold F_set f_X11_set; rw [a1, zcl_s, if_neg one0, c1, zcl_s, if_pos rfl]; rfl, by unfold G_set f_X12_set; rw [a2, zcl_s, if_neg one0, c2, zcl_s, if_pos rfl]; rfl, hR0.th 0⟩
  · exact ⟨-1, k, r.thr 0, by unfold F_set f_X11_set; rw [a1, zcl_s, if_pos rfl]; rfl, by unfold G_set f_X12_set; rw [a2, zcl_s, if_pos rfl]; rfl, hR0.th 0⟩
theorem p_stop (N : Nat) (hN : 5000 ≤ N) (x0 : Int32) : Ok9 (F_stop N x0) (G_stop N x0) := by
  intro k r hR
  have hR0 := hR
  obtain ⟨b, d, ⟨hB, h, hS⟩, hH, hI, hT, hf, hl, hm, ht, hv⟩ := hR
  rcases h.isC N x0 with ⟨c, hc, rfl, c1, c2⟩ | ⟨c1, c2⟩
  · obtain ⟨p1, p2⟩ := h.sp N c hc
    have c6 := h.C6
    cases hp : d.stp c
    · rw [hp] at p1 p2
      have w1 : f_X3_whyNotStop N (nI c) k.day.stopped = some 0 := by unfold f_X3_whyNotStop; rw [p1]; rfl
      obtain ⟨p, n', z', m', u', k1, k2, hH'⟩ := hH.keep h N (by omega)
      obtain ⟨w, d1, d2, d', -, hD'⟩ := h.hlt N hc
      have hs : ∀ i, i < 52 ∨ 153 ≤ i → st9 r.s c w i = r.s i := fun i hi => by unfold st9; rw [pk_un (show i ≠ 54 by omega), pk_un (show i ≠ 69 + c by omega)]
      refine ⟨0, _, _, by unfold F_stop f_X11_stop; rw [c1, zcl_s, if_neg one0, w1, zcl_s, if_pos rfl, k1, zcl_s, d1, zcl_s, zcl_s], by unfold G_stop f_X12_stop; rw [c2, zcl_s, if_neg one0, p2, zcl_s, if_pos (show bI false = 0 from rfl), k2, zcl_s, d2, zcl_s, zcl_s], ?_⟩
      exact ⟨b, d', ⟨hB.congS (fun i hi => hs i (Or.inl hi)), hD', hS.congS (fun i hi _ => hs i (Or.inr hi))⟩, hH'.congS (fun i hi => hs i (Or.inl hi)), hI, hT, hf, hl, hm, ht, hv⟩
    · rw [hp] at p1 p2
      have w1 : f_X3_whyNotStop N (nI c) k.day.stopped = some 1 := by unfold f_X3_whyNotStop; rw [p1]; rfl
      exact ⟨1, k, r.thr 0, by unfold F_stop f_X11_stop; rw [c1, zcl_s, if_neg one0, w1, zcl_s, if_neg one0]; rfl, by unfold G_stop f_X12_stop; rw [c2, zcl_s, if_neg one0, p2, zcl_s, if_neg (show ¬ bI true = 0 by decide)]; rfl, hR0.th 0⟩
  · exact ⟨-1, k, r.thr 0, by unfold F_stop f_X11_stop; rw [c1, zcl_s, if_pos rfl]; rfl, by unfold G_stop f_X12_stop; rw [c2, zcl_s, if_pos rfl]; rfl, hR0.th 0⟩
theorem p_start (N : Nat) (hN : 5000 ≤ N) (x0 : Int32) : Ok9 (F_start N x0) (G_start N x0) := by
  intro k r hR
  have hR0 := hR
  obtain ⟨b, d, ⟨hB, h, hS⟩, hH, hI, hT, hf, hl, hm, ht, hv⟩ := hR
  rcases h.isC N x0 with ⟨c, hc, rfl, c1, c2⟩ | ⟨c1, c2⟩
  · obtain ⟨p1, p2⟩ := h.sp N c hc
    have c6 := h.C6
    cases hp : d.stp c
    · rw [hp] at p1 p2
      have w1 : f_X3_whyNotStart N (nI c) k.day.stopped = some 1 := by unfold f_X3_whyNotStart; rw [p1]; rfl
      exact ⟨1, k, r.thr 0, by unfold F_start f_X11_start; rw [c1, zcl_s, if_neg one0, w1, zcl_s, if_neg one0]; rfl, by unfold G_start f_X12_start; rw [c2, zcl_s, if_neg one0, p2, zcl_s, if_pos (show bI false = 0 from rfl)]; rfl, hR0.th 0⟩
    · rw [hp] at p1 p2
      have w1 : f_X3_whyNotStart N (nI c) k.day.stopped = some 0 := by unfold f_X3_whyNotStart; rw [p1]; rfl
      obtain ⟨p, n', z', m', u', k1, k2, hH'⟩ := hH.keep h N (by omega)
      obtain ⟨w, d1, d2, d3, d', -, hD'⟩ := h.res hB N hc
      have hs : ∀ i, i < 52 ∨ 153 ≤ i → rf9 r.s c w i = r.s i := fun i hi => rf9_o (by omega) (by omega) (by omega) (by omega)
      refine ⟨0, _, _, by unfold F_start f_X11_start; rw [c1, zcl_s, if_neg one0, w1, zcl_s, if_pos rfl, k1, zcl_s, d1, zcl_s, zcl_s], by unfold G_start f_X12_start; rw [c2, zcl_s, if_neg one0, p2, zcl_s, if_neg (show ¬ bI true = 0 by decide), k2, zcl_s, d2, zcl_s, d3, zcl_s, zcl_s], ?_⟩
      exact ⟨b, d', ⟨hB.congS (fun i hi => hs i (Or.inl hi)), hD', hS.congS (fun i hi _ => hs i (Or.inr hi))⟩, hH'.congS (fun i hi => hs i (Or.inl hi)), hI, hT, hf, hl, hm, ht, hv⟩
  · exact ⟨-1, k, r.thr 0, by unfold F_start f_X11_start; rw [c1, zcl_s, if_pos rfl]; rfl, by unfold G_start f_X12_start; rw [c2, zcl_s, if_pos rfl]; rfl, hR0.th 0⟩
section PUBB
variable {b : MB} {d : MD} {B : CB} {D A : CY} {s : Nat → Int32} {nm : Nat → Int64}
theorem DY.wMov (h : DY b d B D s) (N : Nat) (hN : 10 ≤ N) {e j : Nat} (he : e < b.T) (hj : j < 2000) : ∃ w : Int32, f_X3_whyNotMove N (nI e) (nI j) D.minute B.masters D.left = some w ∧ f_X12_whyMove N (nI e) (nI j) s = some w ∧ (w = 1 ∨ w = 2 ∨ (w = 0 ∧ ∀ m, m < b.M → d.x.2.1 m e = none)) := by
  obtain ⟨i1, -, i3, -⟩ := h.sIn N e hN he
  have m6 := h.M6
  have t2 := h.t2
  unfold f_X3_whyNotMove f_X12_whyMove
  rw [i1, show (81 : Int32) = nI 81 from rfl, i3, zcl_s, zcl_s, h.mi, h.sm]
  by_cases z : bmk (fun m => (d.x.2.1 m e).isSome) b.M = 0
  · rw [if_pos z]
    have hz : ∀ m, m < b.M → d.x.2.1 m e = none := by
      intro m hm
      have := bmk_z (by omega) z m hm
      cases hx : d.x.2.1 m e with
      | none => rfl
      | some u => rw [hx] at this; cases this
    by_cases c : d.t < j
    · rw [if_pos (nI_lt c (by omega))]
      exact ⟨0, rfl, rfl, Or.inr (Or.inr ⟨rfl, hz⟩)⟩
    · rw [if_neg (nI_nlt (by omega) (by omega))]
      exact ⟨2, rfl, rfl, Or.inr (Or.inl rfl)⟩
  · rw [if_neg z]
    exact ⟨1, rfl, rfl, Or.inl rfl⟩
end PUBB
theorem p_move (N : Nat) (hN : 5000 ≤ N) (x0 x1 : Int32) : Ok9 (F_move N x0 x1) (G_move N x0 x1) := by
  intro k r hR
  have hR0 := hR
  obtain ⟨b, d, ⟨hB, h, hS⟩, hH, hI, hT, hf, hl, hm, ht, hv⟩ := hR
  rcases h.isT N x0 with ⟨e, he, rfl, a1, a2⟩ | ⟨a1, a2⟩
  · rcases rng9 N x1 0 1999 2000 (lo := 0) (hi := 1999) (by omega) (by omega) rfl rfl rfl with ⟨j, -, hj, rfl, g1, g2, -, g3⟩ | ⟨g1, g2⟩
    · obtain ⟨w, w1, w2, hw⟩ := h.wMov N (by omega) he (show j < 2000 by omega)
      have t6 := h.T6
      by_cases w0 : w = 0
      · subst w0
        have hz : ∀ m, m < b.M → d.x.2.1 m e = none := by
          rcases hw with hw | hw | hw
          · exact absurd hw (by decide)
          · exact absurd hw (by decide)
          · exact hw.2
        obtain ⟨p, n', z', m', u', k1, k2, hH'⟩ := hH.keep h N (by omega)
        have e75 : (75 : Int32) + nI e = nI (75 + e) := by rw [show (75 : Int32) = nI 75 from rfl, nI_add]
        have hD' := h.mov he j (by omega) hz
        have hs : ∀ i, i < 52 ∨ 153 ≤ i → upd r.s (75 + e) (nI j) i = r.s i := fun i hi => pk_un (by omega)
        refine ⟨0, _, _, by unfold F_move f_X11_move; rw [a1, zcl_s, if_neg one0, if_neg g2, if_pos g3, w1, zcl_s, if_pos rfl, k1, zcl_s, zin_nI (show e < 6 by omega) (by omega), zck_t, zbn_s, cl_n (show e < 2147483648 by omega), zcl_s], by unfold G_move f_X12_move; rw [a2, zcl_s, if_neg one0, g1, zcl_s, if_neg one0, w2, zcl_s, if_pos (show (0 : Int32) ≤ 0 by decide), k2, zcl_s, e75, zin_nI (show 75 + e < 334 by omega) (by omega), zck_t, zbn_s, cl_n (show 75 + e < 2147483648 by omega), zcl_s], ?_⟩
        exact ⟨b, _, ⟨hB.congS (fun i hi => hs i (Or.inl hi)), hD', hS.congS (fun i hi _ => hs i (Or.inr hi))⟩, hH'.congS (fun i hi => hs i (Or.inl hi)), hI, hT, hf, hl, hm, ht, hv⟩
      · have wn : ¬ w ≤ 0 := by
          rcases hw with hw | hw | hw
          · rw [hw]; decide
          · rw [hw]; decide
          · exact absurd hw.1 w0
        exact ⟨w, k, r.thr 0, by unfold F_move f_X11_move; rw [a1, zcl_s, if_neg one0, if_neg g2, if_pos g3, w1, zcl_s, if_neg w0]; rfl, by unfold G_move f_X12_move; rw [a2, zcl_s, if_neg one0, g1, zcl_s, if_neg one0, w2, zcl_s, if_neg wn]; rfl, hR0.th 0⟩
    · refine ⟨-1, k, r.thr 0, ?_, by unfold G_move f_X12_move; rw [a2, zcl_s, if_neg one0, g1, zcl_s, if_pos rfl]; rfl, hR0.th 0⟩
      unfold F_move f_X11_move
      rw [a1, zcl_s, if_neg one0]
      rcases g2 with g2 | ⟨g2, -, g3⟩
      · rw [if_pos g2]; rfl
      · rw [if_neg g2, if_neg g3]; rfl
  · exact ⟨-1, k, r.thr 0, by unfold F_move f_X11_move; rw [a1, zcl_s, if_pos rfl]; rfl, by unfold G_move f_X12_move; rw [a2, zcl_s, if_pos rfl]; rfl, hR0.th 0⟩
theorem p_minutes (N : Nat) (hN : 5000 ≤ N) (x0 : Int32) : Ok9 (F_minutes N x0) (G_minutes N x0) := by
  intro k r hR
  have hR0 := hR
  obtain ⟨b, d, ⟨hB, h, hS⟩, hH, hI, hT, hf, hl, hm, ht, hv⟩ := hR
  rcases rng9 N x0 1 999 1000 (lo := 1) (hi := 999) (by omega) (by omega) rfl rfl rfl with ⟨j, hj1, hj, rfl, g1, g2, g3, -⟩ | ⟨g1, g2⟩
  · have t2 := h.t2
    obtain ⟨o', l', c', s', q1, q2, hD', hs⟩ := h.pas N j (by omega) (by omega)
    by_cases c : d.t = 2000
    · have e1 : f_X3_minutesLeft N k.day.minute = some 0 := by unfold f_X3_minutesLeft; rw [h.mi, c]; rfl
      have e2 : r.s 52 = 2000 := by rw [h.sm, c]; rfl
      have e3 : f_X12_goesOn N (nI j) r.s = some (0, r.s) := by
        unfold f_X12_goesOn
        obtain ⟨n, rfl⟩ : ∃ n, N = n + 1 := ⟨N - 1, by omega⟩
        rw [f_X12_goesOn_2, if_neg (show ¬ nI j ≤ 0 from nI_ge (show 0 < j by omega) (by omega)), if_pos (show (2000 : Int32) ≤ r.s 52 by rw [e2]; decide)]
      rw [e3] at q2
      have e4 : r.s = s' := congrArg Prod.snd (Option.some.inj q2)
      have e5 : nI (min j (2000 - d.t)) = 0 := (congrArg Prod.fst (Option.some.inj q2)).symm
      rw [← e4] at hD'
      rw [e5] at q1
      refine ⟨0, _, r.thr 0, by unfold F_minutes f_X11_minutes f_X11_minutes_41; rw [if_neg g2, if_pos g3, e1, zcl_s, if_pos (show (0 : Int32) ≤ 0 by decide), q1, zcl_s, zcl_s], by unfold G_minutes f_X12_minutes; rw [g1, zcl_s, if_neg one0, if_pos e2]; rfl, ?_⟩
      exact ⟨b, _, ⟨hB, hD', hS⟩, hH, hI, hT, hf, hl, hm, ht, hv⟩
    · have e1 : f_X3_minutesLeft N k.day.minute = some (nI (2000 - d.t)) := by unfold f_X3_minutesLeft; rw [h.mi, show (2000 : Int32) = nI 2000 from rfl, pk_sub (by omega)]
      have e2 : ¬ r.s 52 = 2000 := by rw [h.sm]; exact fun z => c ((nI_eq (a := d.t) (b := 2000) (by omega) (by omega)).mp z)
      obtain ⟨p, n', z', m', u', k1, k2, hH'⟩ := hH.keep h N (by omega)
      refine ⟨nI (min j (2000 - d.t)), _, _, by unfold F_minutes f_X11_minutes f_X11_minutes_41; rw [if_neg g2, if_pos g3, e1, zcl_s, if_neg (show ¬ nI (2000 - d.t) ≤ 0 from nI_ge (show 0 < 2000 - d.t by omega) (by omega)), k1, zcl_s, q1, zcl_s, zcl_s], by unfold G_minutes f_X12_minutes; rw [g1, zcl_s, if_neg one0, if_neg e2, k2, zcl_s, q2, zcl_s, zcl_s], ?_⟩
      exact ⟨b, _, ⟨hB.congS (fun i hi => hs i (Or.inl hi)), hD', hS.congS (fun i hi _ => hs i (Or.inr hi))⟩, hH'.congS (fun i hi => hs i (Or.inl hi)), hI, hT, hf, hl, hm, ht, hv⟩
  · refine ⟨-1, k, r.thr 0, ?_, by unfold G_minutes f_X12_minutes; rw [g1, zcl_s, if_pos rfl]; rfl, hR0.th 0⟩
    unfold F_minutes f_X11_minutes
    rcases g2 with g2 | ⟨g2, g3, -⟩
    · rw [if_pos g2]; rfl
    · rw [if_neg g2, if_neg g3]; rfl
theorem p_undo (N : Nat) (hN : 5000 ≤ N) : Ok9 (F_undo N) (G_undo N) := by
  intro k r hR
  have hR0 := hR
  obtain ⟨b, d, ⟨hB, h, hS⟩, hH, hI, hT, hf, hl, hm, ht, hv⟩ := hR
  rcases hH.undo h N (by omega) r.thrown with ⟨u1, u2⟩ | ⟨v, n', z', m', s', D', d', u1, u2, hs, hD', hH'⟩
  · exact ⟨-1, k, r.thr 0, by unfold F_undo f_X11_undo; rw [u1]; rfl, by unfold G_undo; rw [u2]; rfl, hR0.th 0⟩
  · refine ⟨v, _, _, by unfold F_undo f_X11_undo; rw [u1, zcl_s, zcl_s], by unfold G_undo; rw [u2, zcl_s], ?_⟩
    exact ⟨b, d', ⟨hB.congS (fun i hi => hs i (Or.inl hi)), hD', hS.congS (fun i hi _ => hs i (Or.inr hi))⟩, hH', hI, hT, hf, hl, hm, ht, hv⟩
