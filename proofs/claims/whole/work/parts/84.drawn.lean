/-! ===== hours that are drawn ===== -/
theorem nneg9 (z : Int32) (h : 0 ≤ z) : ∃ q, q < 2147483648 ∧ z = nI q := by
  have h1 : 0 ≤ z.toInt := by rw [Int32.le_iff_toInt_le] at h; exact h
  have h2 : z.toInt < 2147483648 := Int32.toInt_lt z
  refine ⟨z.toInt.toNat, by omega, Int32.toInt_inj.mp ?_⟩
  rw [nI_toInt (show z.toInt.toNat < 2147483648 by omega)]
  omega
theorem ush8 (y : Int32) : ∃ q, q < 2147483648 ∧ zushr y 8 = nI q := by
  apply nneg9
  rw [neg_bt]
  exact (b_ushr 8 (by omega) y 31).trans (b_big (by omega))
theorem drE (y : Int32) (c : Nat) (hc : 0 < c) (h6 : c ≤ 6) : ∃ j, j < c ∧ zrem (zushr y 8) (nI c) = nI j := by
  obtain ⟨q, hq, e⟩ := ush8 y
  refine ⟨q % c, Nat.mod_lt _ hc, ?_⟩
  rw [e]
  exact pk_rem (by omega) hc (by omega)
theorem ne9 {c : Nat} (hc : 0 < c) (h6 : c ≤ 6) : ¬ nI c = 0 := fun z => by have := (nI_eq (a := c) (b := 0) (by omega) (by omega)).mp z; omega
theorem zne9 {c : Nat} (hc : 0 < c) (h6 : c ≤ 6) : zne0 (nI c) = true := decide_eq_true (ne9 hc h6)
theorem nxS (N : Nat) (x : Int32) : f_X3_nextSeed N x = some (x * 1103515245 + 12345) := rfl
theorem drC (N : Nat) (y : Int32) {c : Nat} (hc : 0 < c) (h6 : c ≤ 6) : f_X3_drawOf N y (nI c) = some (zrem (zushr y 8) (nI c)) := by
  unfold f_X3_drawOf
  rw [if_neg (show ¬ nI c ≤ 0 from nI_ge hc (by omega)), zne9 hc h6, zck_t]
theorem drR (N : Nat) (x : Int32) {c : Nat} (hc : 0 < c) (h6 : c ≤ 6) : f_X12_draw N (nI c) x = some (zrem (zushr (x * 1103515245 + 12345) 8) (nI c), x * 1103515245 + 12345) := by
  unfold f_X12_draw
  rw [zbn_s, zne9 hc h6, zck_t]
section DRAW
variable {b : MB} {d : MD} {B : CB} {D : CY} {s : Nat → Int32} {nm : Nat → Int64}
theorem DY.hour (hB : BR b B s nm) (h : DY b d B D s) (N n : Nat) (x1 x3 x x5 : Int32) (hx : ¬ x1 ≤ x5) (ht : d.t < 2000) : ∃ (x' : Int32) (D' : CY) (s' : Nat → Int32) (d' : MD), f_X3_passDrawn_8 N B.clocks B.masters B.meets B.clockGain B.masterMeets B.masterCorner B.masterClock D.due B.masterLate (n + 1) x1 x3 x x5 D.minute D.out D.stopped D.stood D.ahead D.since D.came D.left = f_X3_passDrawn_164 N B.clocks B.masters B.meets B.clockGain B.masterMeets B.masterCorner B.masterClock D.due B.masterLate (f_X3_passDrawn_8 N B.clocks B.masters B.meets B.clockGain B.masterMeets B.masterCorner B.masterClock D.due B.masterLate n) x1 x3 x' x5 D'.minute D'.out D'.stopped D'.stood D'.ahead D'.since D'.came D'.left ∧ f_X12_drawHour N x s = some (x', s') ∧ D'.due = D.due ∧ d'.t = d.t ∧ DY b d' B D' s' ∧ ∀ i, i < 52 ∨ 153 ≤ i → s' i = s i := by
  have c6 := h.C6
  have m6 := h.M6
  have hml : f_X3_minutesLeft N D.minute = some (nI (2000 - d.t)) := by unfold f_X3_minutesLeft; rw [h.mi, show (2000 : Int32) = nI 2000 from rfl, pk_sub (by omega)]
  obtain ⟨j, hj, ej⟩ := drE (x * 1103515245 + 12345) 4 (by omega) (by omega)
  have e4 : f_X3_drawOf N (x * 1103515245 + 12345) 4 = some (nI j) := by rw [← ej]; exact drC N _ (c := 4) (by omega) (by omega)
  have r4 : f_X12_draw N 4 x = some (nI j, x * 1103515245 + 12345) := by rw [← ej]; exact drR N x (c := 4) (by omega) (by omega)
  have g0 : ∀ y, f_X12_drawHour_56 N (nI 0) y s = some (y, s) := fun y => by unfold f_X12_drawHour_56; rw [if_neg (show ¬ nI 0 = 1 by decide)]
  unfold f_X12_drawHour
  rw [f_X3_passDrawn_8, if_neg hx, hml, zcl_s, if_neg (show ¬ nI (2000 - d.t) ≤ 0 from nI_ge (show 0 < 2000 - d.t by omega) (by omega)), nxS, zcl_s, e4, zcl_s, r4, zcl_s]
  dsimp only
  by_cases j0 : j = 0
  · subst j0
    rw [if_pos (show nI 0 = 0 from rfl), if_pos (show nI 0 = 0 from rfl)]
    by_cases hC : b.C = 0
    · rw [if_pos (show B.clocks ≤ 0 by rw [h.nC, hC]; decide), if_pos (show s 0 ≤ 0 by rw [h.sC, hC]; decide), g0]
      unfold f_X3_passDrawn_77
      rw [if_neg (show ¬ nI 0 = 1 by decide)]
      exact ⟨_, D, s, d, rfl, rfl, rfl, rfl, h, fun i _ => rfl⟩
    · obtain ⟨c, hc, ec⟩ := drE ((x * 1103515245 + 12345) * 1103515245 + 12345) b.C (by omega) (by omega)
      have e5 : f_X3_drawOf N ((x * 1103515245 + 12345) * 1103515245 + 12345) B.clocks = some (nI c) := by rw [h.nC, ← ec]; exact drC N _ (by omega) (by omega)
      have r5 : f_X12_draw N (s 0) (x * 1103515245 + 12345) = some (nI c, (x * 1103515245 + 12345) * 1103515245 + 12345) := by rw [h.sC, ← ec]; exact drR N _ (by omega) (by omega)
      rw [if_neg (show ¬ B.clocks ≤ 0 by rw [h.nC]; exact nI_ge (show 0 < b.C by omega) (by omega)), if_neg (show ¬ s 0 ≤ 0 by rw [h.sC]; exact nI_ge (show 0 < b.C by omega) (by omega)), nxS, zcl_s, e5, zcl_s, r5, zcl_s]
      dsimp only
      obtain ⟨p1, p2⟩ := h.sp N c hc
      unfold f_X3_toggle
      rw [p1, zcl_s, p2, zcl_s]
      cases hp : d.stp c
      · obtain ⟨w, d1, d2, d', dt, hD'⟩ := h.hlt N hc
        rw [if_pos (show bI false = 0 from rfl), if_pos (show bI false = 0 from rfl), d1, zcl_s, zcl_s, d2, zcl_s]
        unfold f_X12_drawHour_56
        rw [if_neg (show ¬ nI 0 = 1 by decide)]
        exact ⟨_, CY.mk D.minute D.out (D.stopped ||| ((1 : Int32) <<< (nI c &&& 31))) D.ahead D.since (upd D.stood c w) D.due D.left D.came, _, d', rfl, rfl, rfl, dt, hD', fun i hi => by unfold st9; rw [pk_un (show i ≠ 54 by omega), pk_un (show i ≠ 69 + c by omega)]⟩
      · obtain ⟨w, d1, d2, d3, d', dt, hD'⟩ := h.res hB N hc
        rw [if_neg (show ¬ bI true = 0 by decide), if_neg (show ¬ bI true = 0 by decide), d1, zcl_s, zcl_s, d2, zcl_s, d3, zcl_s]
        unfold f_X12_drawHour_56
        rw [if_neg (show ¬ nI 0 = 1 by decide)]
        exact ⟨_, CY.mk D.minute D.out (D.stopped &&& (((1 : Int32) <<< (nI c &&& 31)) ^^^ (-1))) (upd D.ahead c w) (upd D.since c D.minute) D.stood D.due D.left D.came, _, d', rfl, rfl, rfl, dt, hD', fun i hi => rf9_o (by omega) (by omega) (by omega) (by omega)⟩
  · have nj : ¬ nI j = 0 := fun z => by have := (nI_eq (a := j) (b := 0) (by omega) (by omega)).mp z; omega
    rw [if_neg nj, if_neg nj]
    unfold f_X3_passDrawn_77 f_X12_drawHour_56
    by_cases j1 : j = 1
    · subst j1
      rw [if_pos (show nI 1 = 1 from rfl), if_pos (show nI 1 = 1 from rfl)]
      by_cases hC : b.C = 0
      · rw [if_pos (show B.clocks ≤ 0 by rw [h.nC, hC]; decide), if_pos (show s 0 = 0 by rw [h.sC, hC]; rfl)]
        exact ⟨_, D, s, d, rfl, rfl, rfl, rfl, h, fun i _ => rfl⟩
      · rw [if_neg (show ¬ B.clocks ≤ 0 by rw [h.nC]; exact nI_ge (show 0 < b.C by omega) (by omega)), if_neg (show ¬ s 0 = 0 by rw [h.sC]; exact ne9 (by omega) (by omega))]
        by_cases hM : b.M = 0
        · rw [if_pos (show B.masters ≤ 0 by rw [h.nM, hM]; decide), if_pos (show s 1 = 0 by rw [h.sM, hM]; rfl)]
          exact ⟨_, D, s, d, rfl, rfl, rfl, rfl, h, fun i _ => rfl⟩
        · rw [if_neg (show ¬ B.masters ≤ 0 by rw [h.nM]; exact nI_ge (show 0 < b.M by omega) (by omega)), if_neg (show ¬ s 1 = 0 by rw [h.sM]; exact ne9 (by omega) (by omega))]
          obtain ⟨m, hm, em⟩ := drE ((x * 1103515245 + 12345) * 1103515245 + 12345) b.M (by omega) (by omega)
          obtain ⟨c, hc, ec⟩ := drE (((x * 1103515245 + 12345) * 1103515245 + 12345) * 1103515245 + 12345) b.C (by omega) (by omega)
          have e5 : f_X3_drawOf N ((x * 1103515245 + 12345) * 1103515245 + 12345) B.masters = some (nI m) := by rw [h.nM, ← em]; exact drC N _ (by omega) (by omega)
          have r5 : f_X12_draw N (s 1) (x * 1103515245 + 12345) = some (nI m, (x * 1103515245 + 12345) * 1103515245 + 12345) := by rw [h.sM, ← em]; exact drR N _ (by omega) (by omega)
          have e6 : f_X3_drawOf N (((x * 1103515245 + 12345) * 1103515245 + 12345) * 1103515245 + 12345) B.clocks = some (nI c) := by rw [h.nC, ← ec]; exact drC N _ (by omega) (by omega)
          have r6 : f_X12_draw N (s 0) ((x * 1103515245 + 12345) * 1103515245 + 12345) = some (nI c, ((x * 1103515245 + 12345) * 1103515245 + 12345) * 1103515245 + 12345) := by rw [h.sC, ← ec]; exact drR N _ (by omega) (by omega)
          obtain ⟨w, w1, w2, hw⟩ := h.wSet N hm hc
          rw [nxS, zcl_s, e5, zcl_s, nxS, zcl_s, e6, zcl_s, w1, zcl_s, r5, zcl_s]
          dsimp only
          rw [r6, zcl_s]
          dsimp only
          rw [w2, zcl_s]
          by_cases w0 : w = 0
          · subst w0
            have hp : d.stp c = false := by
              rcases hw with hw | hw | hw
              · exact absurd hw (by decide)
              · exact absurd hw (by decide)
              · exact hw.2
            obtain ⟨d1, d2, d', dt, hD'⟩ := h.adj hB N hm hc hp
            rw [if_pos rfl, if_pos rfl, d1, zcl_s, show (28 : Int32) + nI m = nI (28 + m) by rw [show (28 : Int32) = nI 28 from rfl, nI_add], zin_nI (show 28 + m < 334 by omega) (by omega), zck_t, cl_n (show 28 + m < 2147483648 by omega), d2, zcl_s]
            exact ⟨_, CY.mk D.minute D.out D.stopped (upd D.ahead c (iI (-(b.late m)))) (upd D.since c D.minute) D.stood D.due D.left D.came, _, d', rfl, rfl, rfl, dt, hD', fun i hi => rf9_o (by omega) (by omega) (by omega) (by omega)⟩
          · rw [if_neg w0, if_neg w0]
            exact ⟨_, D, s, d, rfl, rfl, rfl, rfl, h, fun i _ => rfl⟩
    · have nj1 : ¬ nI j = 1 := fun z => j1 ((nI_eq (a := j) (b := 1) (by omega) (by omega)).mp z)
      rw [if_neg nj1, if_neg nj1]
      exact ⟨_, D, s, d, rfl, rfl, rfl, rfl, h, fun i _ => rfl⟩
/-- so many hours -/
theorem DY.drw (hB : BR b B s nm) (h : DY b d B D s) (N k : Nat) (hN : 2010 ≤ N) (hk : k ≤ 24) (x : Int32) : ∃ (v x' : Int32) (D' : CY) (s' : Nat → Int32) (d' : MD), f_X3_passDrawn N (nI k) x D.minute D.out D.stopped B.clocks B.masters B.meets D.stood D.ahead B.clockGain D.since B.masterMeets D.came D.left B.masterCorner B.masterClock D.due B.masterLate = some (v, D'.minute, D'.out, D'.stopped, D'.stood, D'.ahead, D'.since, D'.came, D'.left) ∧ (∀ z, f_X12_draws N (nI k) x z s = some (v, x', s')) ∧ D'.due = D.due ∧ DY b d' B D' s' ∧ ∀ i, i < 52 ∨ 153 ≤ i → s' i = s i := by
  have key := loop2 (F := fun n i (y : Int32 × Int32 × CY) => f_X3_passDrawn_8 N B.clocks B.masters B.meets B.clockGain B.masterMeets B.masterCorner B.masterClock D.due B.masterLate n (nI k) y.1 y.2.1 (nI i) y.2.2.minute y.2.2.out y.2.2.stopped y.2.2.stood y.2.2.ahead y.2.2.since y.2.2.came y.2.2.left) (G := fun n i (y : Int32 × Int32 × (Nat → Int32)) => f_X12_draws_10 N n (nI k) y.1 (nI i) y.2.1 y.2.2) (M := k) (Post := fun p q => ∃ (v x' : Int32) (D' : CY) (s' : Nat → Int32) (d' : MD), p = some (v, D'.minute, D'.out, D'.stopped, D'.stood, D'.ahead, D'.since, D'.came, D'.left) ∧ q = some (v, x', s') ∧ D'.due = D.due ∧ DY b d' B D' s' ∧ ∀ i, i < 52 ∨ 153 ≤ i → s' i = s i) (fun i y z => y.1 = z.1 ∧ y.2.1 = z.2.1 ∧ y.2.2.due = D.due ∧ ∃ d', DY b d' B y.2.2 z.2.2 ∧ ∀ i, i < 52 ∨ 153 ≤ i → z.2.2 i = s i) ?_ ?_ N N 0 (0, x, D) (0, x, s) (by omega) (by omega) (by omega) ⟨rfl, rfl, rfl, d, h, fun i _ => rfl⟩
  · obtain ⟨v, x', D', s', d', h1, h2, h3, h4, h5⟩ := key
    exact ⟨v, x', D', s', d', h1, fun z => h2, h3, h4, h5⟩
  · intro n n' i ⟨w, sd, E⟩ ⟨w', sd', s1⟩ hi ⟨e1, e2, e3, d1, hE, hs1⟩
    dsimp only at e1 e2 e3 hE hs1
    subst e1
    subst e2
    dsimp only
    by_cases ht : d1.t < 2000
    · left
      have hB1 : BR b B s1 nm := hB.congS (fun i hi => hs1 i (Or.inl hi))
      have hx : ¬ nI k ≤ nI i := nI_ge hi (by omega)
      obtain ⟨x', D', s2, d2, g1, g2, g3, g4, hD2, hs2⟩ := hE.hour hB1 N n (nI k) w sd (nI i) hx ht
      obtain ⟨o', l', c', s3, q1, q2, hD3, hs3⟩ := hD2.pas N 60 hN (by omega)
      rw [e3] at g1
      refine ⟨(w + nI (min 60 (2000 - d2.t)), x', CY.mk (nI (d2.t + min 60 (2000 - d2.t))) o' D'.stopped D'.ahead D'.since D'.stood D'.due l' c'), (w + nI (min 60 (2000 - d2.t)), x', s3), ?_, ?_, rfl, rfl, g3.trans e3, _, hD3, fun i hi => (hs3 i hi).trans ((hs2 i hi).trans (hs1 i hi))⟩
      · rw [g1]
        unfold f_X3_passDrawn_164
        rw [show (60 : Int32) = nI 60 from rfl, ← e3, ← g3, q1, zcl_s, zbn_s, zbn_s, nI_1]
        rfl
      · rw [f_X12_draws_10, if_neg hx, if_neg (show ¬ (2000 : Int32) ≤ s1 52 by rw [hE.sm]; exact nI_ge (b := 2000) (show d1.t < 2000 by omega) (by omega)), g2, zcl_s, show (60 : Int32) = nI 60 from rfl, q2, zcl_s, zbn_s, zbn_s, nI_1]
    · right
      have t2 := hE.t2
      have t0 : d1.t = 2000 := by omega
      have hx : ¬ nI k ≤ nI i := nI_ge hi (by omega)
      refine ⟨w, sd, E, s1, d1, ?_, ?_, e3, hE, hs1⟩
      · have hml : f_X3_minutesLeft N E.minute = some 0 := by unfold f_X3_minutesLeft; rw [hE.mi, t0]; rfl
        rw [f_X3_passDrawn_8, if_neg hx, hml, zcl_s, if_pos (show (0 : Int32) ≤ 0 by decide)]
      · rw [f_X12_draws_10, if_neg hx, if_pos (show (2000 : Int32) ≤ s1 52 by rw [hE.sm, t0]; decide)]
  · intro n n' ⟨w, sd, E⟩ ⟨w', sd', s1⟩ ⟨e1, e2, e3, d1, hE, hs1⟩
    dsimp only at e1 e2 e3 hE hs1
    subst e1
    subst e2
    dsimp only
    refine ⟨w, sd, E, s1, d1, ?_, ?_, e3, hE, hs1⟩
    · rw [f_X3_passDrawn_8, if_pos (nI_le (Nat.le_refl _) (by omega))]
    · rw [f_X12_draws_10, if_pos (nI_le (Nat.le_refl _) (by omega))]
end DRAW
theorem p_drawn (N : Nat) (hN : 5000 ≤ N) (x0 x1 : Int32) : Ok9 (F_drawn N x0 x1) (G_drawn N x0 x1) := by
  intro k r hR
  have hR0 := hR
  obtain ⟨b, d, ⟨hB, h, hS⟩, hH, hI, hT, hf, hl, hm, ht, hv⟩ := hR
  rcases rng9 N x0 1 24 25 (lo := 1) (hi := 24) (by omega) (by omega) rfl rfl rfl with ⟨j, hj1, hj, rfl, g1, g2, g3, -⟩ | ⟨g1, g2⟩
  · have t2 := h.t2
    obtain ⟨v, x', D', s', d', q1, q2, q3, hD', hs⟩ := h.drw hB N j (by omega) hj x1
    have hD2 : DY b d' k.here (CY.mk D'.minute D'.out D'.stopped D'.ahead D'.since D'.stood k.day.due D'.left D'.came) s' := hD'.cong rfl rfl rfl (fun _ _ => rfl) (fun _ _ => rfl) (fun _ _ => rfl) (fun i _ => by rw [q3]; rfl) (fun _ _ => rfl) (fun _ _ => rfl)
    by_cases c : d.t = 2000
    · have e1 : f_X3_minutesLeft N k.day.minute = some 0 := by unfold f_X3_minutesLeft; rw [h.mi, c]; rfl
      have e2 : (2000 : Int32) ≤ r.s 52 := by rw [h.sm, c]; decide
      refine ⟨v, _, _, by unfold F_drawn f_X11_drawn f_X11_drawn_40; rw [if_neg g2, if_pos g3, e1, zcl_s, if_pos (show (0 : Int32) ≤ 0 by decide), q1, zcl_s, zcl_s], by unfold G_drawn f_X12_drawn f_X12_drawn_34; rw [g1, zcl_s, if_neg one0, if_pos e2, q2, zcl_s, zcl_s], ?_⟩
      exact ⟨b, d', ⟨hB.congS (fun i hi => hs i (Or.inl hi)), hD2, hS.congS (fun i hi _ => hs i (Or.inr hi))⟩, hH.congS (fun i hi => hs i (Or.inl hi)), hI, hT, hf, hl, hm, ht, hv⟩
    · have e1 : f_X3_minutesLeft N k.day.minute = some (nI (2000 - d.t)) := by unfold f_X3_minutesLeft; rw [h.mi, show (2000 : Int32) = nI 2000 from rfl, pk_sub (by omega)]
      have e2 : ¬ (2000 : Int32) ≤ r.s 52 := by rw [h.sm]; exact nI_ge (b := 2000) (show d.t < 2000 by omega) (by omega)
      obtain ⟨p, n', z', m', u', k1, k2, hH'⟩ := hH.keep h N (by omega)
      refine ⟨v, _, _, by unfold F_drawn f_X11_drawn f_X11_drawn_40; rw [if_neg g2, if_pos g3, e1, zcl_s, if_neg (show ¬ nI (2000 - d.t) ≤ 0 from nI_ge (show 0 < 2000 - d.t by omega) (by omega)), k1, zcl_s, q1, zcl_s, zcl_s], by unfold G_drawn f_X12_drawn f_X12_drawn_34; rw [g1, zcl_s, if_neg one0, if_neg e2, k2, zcl_s, q2, zcl_s, zcl_s], ?_⟩
      exact ⟨b, d', ⟨hB.congS (fun i hi => hs i (Or.inl hi)), hD2, hS.congS (fun i hi _ => hs i (Or.inr hi))⟩, hH'.congS (fun i hi => hs i (Or.inl hi)), hI, hT, hf, hl, hm, ht, hv⟩
  · refine ⟨-1, k, r.thr 0, ?_, by unfold G_drawn f_X12_drawn; rw [g1, zcl_s, if_pos rfl]; rfl, hR0.th 0⟩
    unfold F_drawn f_X11_drawn
    rcases g2 with g2 | ⟨g2, g3, -⟩
    · rw [if_pos g2]; rfl
    · rw [if_neg g2, if_neg g3]; rfl
theorem p_odds (N : Nat) (hN : 5000 ≤ N) (x0 x1 x2 : Int32) : Ok9 (F_odds N x0 x1 x2) (G_odds N x0 x1 x2) := by
  intro k r hR
  have hR0 := hR
  obtain ⟨b, d, ⟨hB, h, hS⟩, hH, hI, hT, hf, hl, hm, ht, hv⟩ := hR
  rcases h.isM N x0 with ⟨m, hm', rfl, a1, a2⟩ | ⟨a1, a2⟩
  · rcases rng9 N x1 1 20 21 (lo := 1) (hi := 20) (by omega) (by omega) rfl rfl rfl with ⟨j, hj1, hj, rfl, g1, g2, g3, -⟩ | ⟨g1, g2⟩
    · have key := loop2 (F := fun n i (y : Int32 × CY) => f_X11_odds_27 N k.here.clocks k.here.masters k.here.meets k.day.minute k.day.out k.day.stopped k.day.ahead k.day.since k.day.stood k.day.due k.day.left k.day.came k.here.clockGain k.here.masterMeets k.here.masterCorner k.here.masterClock k.here.masterLate n (nI m) (nI j) x2 y.1 (nI i) y.2.minute y.2.out y.2.stopped y.2.ahead y.2.since y.2.stood y.2.due y.2.left y.2.came) (G := fun n i (y : Int32 × Int32 × (Nat → Int32)) => f_X12_odds_35 N n (nI m) (nI j) x2 y.1 (nI i) 0 y.2.1 y.2.2 (va_cpy r.s r.before 52 0 101)) (M := j) (Post := fun p q => ∃ (v x' : Int32) (E' : CY), p = some (v, E'.minute, E'.out, E'.stopped, E'.ahead, E'.since, E'.stood, E'.due, E'.left, E'.came) ∧ q = some (v, 0, x', r.s, va_cpy r.s r.before 52 0 101)) (fun i y z => y.1 = z.1 ∧ z.2.2 = r.s) ?_ ?_ N N 0 (0, k.trial) (0, r.seed, r.s) (by omega) (by omega) (by omega) ⟨rfl, rfl⟩
      · obtain ⟨v, x', E', h1, h2⟩ := key
        dsimp only at h1 h2
        rw [show nI 0 = (0 : Int32) from rfl] at h1 h2
        refine ⟨v, _, _, by unfold F_odds f_X11_odds; rw [a1, zcl_s, if_neg one0, if_neg g2, if_pos g3, h1, zcl_s], by unfold G_odds f_X12_odds; rw [a2, zcl_s, if_neg one0, g1, zcl_s, if_neg one0, X12_tries_ok N _ _ (by omega), zcl_s, h2, zcl_s], ?_⟩
        exact ⟨b, d, ⟨hB, h, hS⟩, hH, hI, hT, hf, hl, hm, ht, hv⟩
      · intro n n' i ⟨w, E⟩ ⟨w', sd, s1⟩ hi ⟨e1, e2⟩
        dsimp only at e1 e2
        subst e1
        subst e2
        dsimp only
        left
        have hx : ¬ nI j ≤ nI i := nI_ge hi (by omega)
        obtain ⟨v, x', D', s', d', q1, q2, q3, hD', hs⟩ := (h.cpy E).drw hB N 6 (by omega) (by omega) (x2 + nI i)
        obtain ⟨o1, o2⟩ := hD'.ot N m hm'
        have hb := X12_back_ok N s' (va_cpy r.s r.before 52 0 101) (by omega)
        rw [back9 r.s r.before s' hs] at hb
        rw [f_X11_odds_27, if_neg hx, X3_copyFrom_ok, zcl_s]
        dsimp only
        rw [show (6 : Int32) = nI 6 from rfl, q1, zcl_s]
        dsimp only
        rw [o1, zcl_s, f_X12_odds_35, if_neg hx, show (6 : Int32) = nI 6 from rfl, q2, zcl_s]
        dsimp only
        rw [o2, zcl_s]
        unfold f_X12_odds_67
        cases d'.x.1 m
        · rw [if_pos (show bI false = 0 from rfl), if_pos (show bI false = 0 from rfl), zbn_s, nI_1, zbn_s, hb, zcl_s, zbn_s, Int32.add_zero]
          exact ⟨(w, CY.mk D'.minute D'.out D'.stopped D'.ahead D'.since D'.stood (CY.cpy k.day E).due D'.left D'.came), (w, x', r.s), rfl, rfl, rfl, rfl⟩
        · rw [if_neg (show ¬ bI true = 0 by decide), if_neg (show ¬ bI true = 0 by decide), zbn_s, zbn_s, nI_1, zbn_s, hb, zcl_s, zbn_s]
          exact ⟨(w + 1, CY.mk D'.minute D'.out D'.stopped D'.ahead D'.since D'.stood (CY.cpy k.day E).due D'.left D'.came), (w + 1, x', r.s), rfl, rfl, rfl, rfl⟩
      · intro n n' ⟨w, E⟩ ⟨w', sd, s1⟩ ⟨e1, e2⟩
        dsimp only at e1 e2
        subst e1
        subst e2
        dsimp only
        refine ⟨w, sd, E, ?_, ?_⟩
        · rw [f_X11_odds_27, if_pos (nI_le (Nat.le_refl _) (by omega))]
        · rw [f_X12_odds_35, if_pos (nI_le (Nat.le_refl _) (by omega))]
    · refine ⟨-1, k, r.thr 0, ?_, by unfold G_odds f_X12_odds; rw [a2, zcl_s, if_neg one0, g1, zcl_s, if_pos rfl]; rfl, hR0.th 0⟩
      unfold F_odds f_X11_odds
      rw [a1, zcl_s, if_neg one0]
      rcases g2 with g2 | ⟨g2, g3, -⟩
      · rw [if_pos g2]; rfl
      · rw [if_neg g2, if_neg g3]; rfl
  · exact ⟨-1, k, r.thr 0, by unfold F_odds f_X11_odds; rw [a1, zcl_s, if_pos rfl]; rfl, by unfold G_odds f_X12_odds; rw [a2, zcl_s, if_pos rfl]; rfl, hR0.th 0⟩
