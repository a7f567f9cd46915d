/-! ===== a line of a book is judged and lived ===== -/
section DOL
variable {b : MB} {d : MD} {B : CB} {D : CY} {s : Nat → Int32} {nm : Nat → Int64} {i : Nat} {vb wh wt : Nat → Int32} {r0 r1 r2 : Int32}
theorem doL_ok (hB : BR b B s nm) (h : DY b d B D s) (N : Nat) (hN : 2010 ≤ N) (hi : i < 40) (hL : LB b (vb i) (wh i) (wt i) r0 r1 r2) : (∃ (D' : CY) (d' : MD) (s' : Nat → Int32), f_X0_whyNot N (nI i) wh wt vb D.minute D.out D.stopped B.masters D.left = some 0 ∧ f_X0_live N (nI i) wh wt vb D.minute D.out D.stopped B.masters B.meets B.masterLate D.ahead D.since B.masterMeets D.came D.left B.masterCorner B.masterClock D.due D.stood B.clockGain = some (D'.minute, D'.out, D'.stopped, D'.ahead, D'.since, D'.came, D'.left, D'.due, D'.stood) ∧ f_X12_does N r0 r1 r2 s = some (0, s') ∧ DY b d' B D' s' ∧ ∀ j, j < 52 ∨ 153 ≤ j → s' j = s j) ∨ (∃ w : Int32, ¬ w ≤ 0 ∧ ¬ w = 0 ∧ f_X0_whyNot N (nI i) wh wt vb D.minute D.out D.stopped B.masters D.left = some w ∧ f_X12_does N r0 r1 r2 s = some (w, s)) := by
  have m6 := h.M6
  have c6 := h.C6
  have t6 := h.T6
  rcases hL with ⟨m, c, m0, c0, e1, e2, e3, q0, q1, q2⟩ | ⟨c, c0, e1, e2, q0, q1⟩ | ⟨c, c0, e1, e2, q0, q1⟩ | ⟨e, u, e0, u0, e1, e2, e3, q0, q1, q2⟩ | ⟨n, n1, n9, e1, e3, q0, q1⟩
  · rw [q0, q1, q2]
    obtain ⟨w, w1, w2, hw⟩ := h.wSet N m0 c0
    have hW : f_X0_whyNot N (nI i) wh wt vb D.minute D.out D.stopped B.masters D.left = some w := by
      unfold f_X0_whyNot
      rw [zin_nI hi (by omega), zck_t, zbn_s, zbn_s, zbn_s, cl_n (show i < 2147483648 by omega), e1, e2, e3, if_pos rfl, w1, zcl_s]
    by_cases w0 : w = 0
    · subst w0
      have hp : d.stp c = false := by
        rcases hw with hw | hw | hw
        · exact absurd hw (by decide)
        · exact absurd hw (by decide)
        · exact hw.2
      obtain ⟨d1, d2, d', -, hD'⟩ := h.adj hB N m0 c0 hp
      have e28 : (28 : Int32) + nI m = nI (28 + m) := by rw [show (28 : Int32) = nI 28 from rfl, nI_add]
      left
      refine ⟨_, d', _, hW, ?_, ?_, hD', fun j hj => rf9_o (by omega) (by omega) (by omega) (by omega)⟩
      · unfold f_X0_live
        rw [zin_nI hi (by omega), zck_t, zbn_s, zbn_s, zbn_s, cl_n (show i < 2147483648 by omega), e1, e2, e3, if_pos rfl, d1, zcl_s]
        rfl
      · unfold f_X12_does f_X12_does_187
        rw [if_pos rfl, w2, zcl_s, if_pos rfl, e28, zin_nI (show 28 + m < 334 by omega) (by omega), zck_t, cl_n (show 28 + m < 2147483648 by omega), d2, zcl_s, if_pos (show (0 : Int32) ≤ 0 by decide)]
    · have wn : ¬ w ≤ 0 := by
        rcases hw with hw | hw | hw
        · rw [hw]; decide
        · rw [hw]; decide
        · exact absurd hw.1 w0
      right
      refine ⟨w, wn, w0, hW, ?_⟩
      unfold f_X12_does f_X12_does_187
      rw [if_pos rfl, w2, zcl_s, if_neg w0, if_neg wn, show (10 : Int32) * 0 = 0 from rfl, Int32.zero_add]
  · rw [q0, q1]
    obtain ⟨p1, p2⟩ := h.sp N c c0
    cases hp : d.stp c
    · rw [hp] at p1 p2
      have w1 : f_X3_whyNotStop N (nI c) D.stopped = some 0 := by unfold f_X3_whyNotStop; rw [p1]; rfl
      obtain ⟨w, d1, d2, d', -, hD'⟩ := h.hlt N c0
      left
      refine ⟨_, d', _, ?_, ?_, ?_, hD', fun j hj => ?_⟩
      · unfold f_X0_whyNot
        rw [zin_nI hi (by omega), zck_t, zbn_s, zbn_s, zbn_s, cl_n (show i < 2147483648 by omega), e1, e2, if_neg (show ¬ (10 : Int32) = 9 by decide), if_pos rfl, w1, zcl_s, if_pos rfl]
      · unfold f_X0_live
        rw [zin_nI hi (by omega), zck_t, zbn_s, zbn_s, zbn_s, cl_n (show i < 2147483648 by omega), e1, e2, if_neg (show ¬ (10 : Int32) = 9 by decide), if_pos rfl, d1, zcl_s]
        rfl
      · unfold f_X12_does f_X12_does_80
        rw [if_neg one0, if_pos rfl, p2, zcl_s, if_pos (show bI false = 0 from rfl), if_pos rfl, d2, zcl_s]
        unfold f_X12_does_187
        rw [if_pos (show (0 : Int32) ≤ 0 by decide)]
      · unfold st9
        rw [pk_un (show j ≠ 54 by omega), pk_un (show j ≠ 69 + c by omega)]
    · rw [hp] at p1 p2
      have w1 : f_X3_whyNotStop N (nI c) D.stopped = some 1 := by unfold f_X3_whyNotStop; rw [p1]; rfl
      right
      refine ⟨11, by decide, by decide, ?_, ?_⟩
      · unfold f_X0_whyNot
        rw [zin_nI hi (by omega), zck_t, zbn_s, zbn_s, zbn_s, cl_n (show i < 2147483648 by omega), e1, e2, if_neg (show ¬ (10 : Int32) = 9 by decide), if_pos rfl, w1, zcl_s, if_neg one0]
      · unfold f_X12_does f_X12_does_80
        rw [if_neg one0, if_pos rfl, p2, zcl_s, if_neg (show ¬ bI true = 0 by decide), if_neg one0]
        rfl
  · rw [q0, q1]
    obtain ⟨p1, p2⟩ := h.sp N c c0
    cases hp : d.stp c
    · rw [hp] at p1 p2
      have w1 : f_X3_whyNotStart N (nI c) D.stopped = some 1 := by unfold f_X3_whyNotStart; rw [p1]; rfl
      right
      refine ⟨21, by decide, by decide, ?_, ?_⟩
      · unfold f_X0_whyNot
        rw [zin_nI hi (by omega), zck_t, zbn_s, zbn_s, zbn_s, cl_n (show i < 2147483648 by omega), e1, e2, if_neg (show ¬ (11 : Int32) = 9 by decide), if_neg (show ¬ (11 : Int32) = 10 by decide), if_pos rfl, w1, zcl_s, if_neg one0]
      · unfold f_X12_does f_X12_does_108
        rw [if_neg (show ¬ (2 : Int32) = 0 by decide), if_neg (show ¬ (2 : Int32) = 1 by decide), if_pos rfl, p2, zcl_s, if_pos (show bI false = 0 from rfl), if_neg one0]
        rfl
    · rw [hp] at p1 p2
      have w1 : f_X3_whyNotStart N (nI c) D.stopped = some 0 := by unfold f_X3_whyNotStart; rw [p1]; rfl
      obtain ⟨w, d1, d2, d3, d', -, hD'⟩ := h.res hB N c0
      left
      refine ⟨_, d', _, ?_, ?_, ?_, hD', fun j hj => rf9_o (by omega) (by omega) (by omega) (by omega)⟩
      · unfold f_X0_whyNot
        rw [zin_nI hi (by omega), zck_t, zbn_s, zbn_s, zbn_s, cl_n (show i < 2147483648 by omega), e1, e2, if_neg (show ¬ (11 : Int32) = 9 by decide), if_neg (show ¬ (11 : Int32) = 10 by decide), if_pos rfl, w1, zcl_s, if_pos rfl]
      · unfold f_X0_live
        rw [zin_nI hi (by omega), zck_t, zbn_s, zbn_s, zbn_s, cl_n (show i < 2147483648 by omega), e1, e2, if_neg (show ¬ (11 : Int32) = 9 by decide), if_neg (show ¬ (11 : Int32) = 10 by decide), if_pos rfl, d1, zcl_s]
        rfl
      · unfold f_X12_does f_X12_does_108
        rw [if_neg (show ¬ (2 : Int32) = 0 by decide), if_neg (show ¬ (2 : Int32) = 1 by decide), if_pos rfl, p2, zcl_s, if_neg (show ¬ bI true = 0 by decide), if_pos rfl, d2, zcl_s, d3, zcl_s]
        unfold f_X12_does_187
        rw [if_pos (show (0 : Int32) ≤ 0 by decide)]
  · rw [q0, q1, q2]
    obtain ⟨w, w1, w2, hw⟩ := h.wMov N (by omega) e0 (show u < 2000 by omega)
    by_cases w0 : w = 0
    · subst w0
      have hz : ∀ m, m < b.M → d.x.2.1 m e = none := by
        rcases hw with hw | hw | hw
        · exact absurd hw (by decide)
        · exact absurd hw (by decide)
        · exact hw.2
      have e75 : (75 : Int32) + nI e = nI (75 + e) := by rw [show (75 : Int32) = nI 75 from rfl, nI_add]
      have hD' := h.mov e0 u (by omega) hz
      left
      refine ⟨_, _, _, ?_, ?_, ?_, hD', fun j hj => pk_un (by omega)⟩
      · unfold f_X0_whyNot
        rw [zin_nI hi (by omega), zck_t, zbn_s, zbn_s, zbn_s, cl_n (show i < 2147483648 by omega), e1, e2, e3, if_neg (show ¬ (12 : Int32) = 9 by decide), if_neg (show ¬ (12 : Int32) = 10 by decide), if_neg (show ¬ (12 : Int32) = 11 by decide), if_pos rfl, w1, zcl_s, if_pos rfl]
      · unfold f_X0_live
        rw [zin_nI hi (by omega), zck_t, zbn_s, zbn_s, zbn_s, cl_n (show i < 2147483648 by omega), e1, e2, e3, if_neg (show ¬ (12 : Int32) = 9 by decide), if_neg (show ¬ (12 : Int32) = 10 by decide), if_neg (show ¬ (12 : Int32) = 11 by decide), if_pos rfl, zin_nI (show e < 6 by omega) (by omega), zck_t, zbn_s, cl_n (show e < 2147483648 by omega)]
        rfl
      · unfold f_X12_does f_X12_does_187
        rw [if_neg (show ¬ (3 : Int32) = 0 by decide), if_neg (show ¬ (3 : Int32) = 1 by decide), if_neg (show ¬ (3 : Int32) = 2 by decide), if_pos rfl, w2, zcl_s, if_pos rfl, e75, zin_nI (show 75 + e < 334 by omega) (by omega), zck_t, zbn_s, cl_n (show 75 + e < 2147483648 by omega), if_pos (show (0 : Int32) ≤ 0 by decide)]
    · have wn : ¬ w ≤ 0 ∧ ¬ 30 + w ≤ 0 ∧ ¬ 30 + w = 0 := by
        rcases hw with hw | hw | hw
        · rw [hw]; decide
        · rw [hw]; decide
        · exact absurd hw.1 w0
      right
      refine ⟨30 + w, wn.2.1, wn.2.2, ?_, ?_⟩
      · unfold f_X0_whyNot
        rw [zin_nI hi (by omega), zck_t, zbn_s, zbn_s, zbn_s, cl_n (show i < 2147483648 by omega), e1, e2, e3, if_neg (show ¬ (12 : Int32) = 9 by decide), if_neg (show ¬ (12 : Int32) = 10 by decide), if_neg (show ¬ (12 : Int32) = 11 by decide), if_pos rfl, w1, zcl_s, if_neg w0]
      · unfold f_X12_does f_X12_does_187
        rw [if_neg (show ¬ (3 : Int32) = 0 by decide), if_neg (show ¬ (3 : Int32) = 1 by decide), if_neg (show ¬ (3 : Int32) = 2 by decide), if_pos rfl, w2, zcl_s, if_neg w0, if_neg wn.1, show (10 : Int32) * 3 = 30 from rfl]
  · rw [q0, q1]
    have t2 := h.t2
    have ml : f_X3_minutesLeft N D.minute = some (nI (2000 - d.t)) := by unfold f_X3_minutesLeft; rw [h.mi, show (2000 : Int32) = nI 2000 from rfl, pk_sub (by omega)]
    have es : s 52 + nI n = nI (d.t + n) := by rw [h.sm, nI_add]
    by_cases cc : d.t + n ≤ 2000
    · obtain ⟨o', l', c', s', p1, p2, hD', hs⟩ := h.pas N n (by omega) (by omega)
      left
      refine ⟨_, _, s', ?_, ?_, ?_, hD', hs⟩
      · unfold f_X0_whyNot
        rw [zin_nI hi (by omega), zck_t, zbn_s, zbn_s, zbn_s, cl_n (show i < 2147483648 by omega), e1, e3, if_neg (show ¬ (13 : Int32) = 9 by decide), if_neg (show ¬ (13 : Int32) = 10 by decide), if_neg (show ¬ (13 : Int32) = 11 by decide), if_neg (show ¬ (13 : Int32) = 12 by decide), ml, zcl_s, if_pos (nI_le (show n ≤ 2000 - d.t by omega) (by omega))]
      · unfold f_X0_live
        rw [zin_nI hi (by omega), zck_t, zbn_s, zbn_s, zbn_s, cl_n (show i < 2147483648 by omega), e1, e3, if_neg (show ¬ (13 : Int32) = 9 by decide), if_neg (show ¬ (13 : Int32) = 10 by decide), if_neg (show ¬ (13 : Int32) = 11 by decide), if_neg (show ¬ (13 : Int32) = 12 by decide), p1, zcl_s]
        rfl
      · unfold f_X12_does f_X12_does_174
        rw [if_neg (show ¬ (4 : Int32) = 0 by decide), if_neg (show ¬ (4 : Int32) = 1 by decide), if_neg (show ¬ (4 : Int32) = 2 by decide), if_neg (show ¬ (4 : Int32) = 3 by decide), es, if_pos (show nI (d.t + n) ≤ 2000 from nI_le (b := 2000) cc (by omega)), if_pos rfl, p2, zcl_s]
        unfold f_X12_does_187
        rw [if_pos (show (0 : Int32) ≤ 0 by decide)]
    · right
      refine ⟨41, by decide, by decide, ?_, ?_⟩
      · unfold f_X0_whyNot
        rw [zin_nI hi (by omega), zck_t, zbn_s, zbn_s, zbn_s, cl_n (show i < 2147483648 by omega), e1, e3, if_neg (show ¬ (13 : Int32) = 9 by decide), if_neg (show ¬ (13 : Int32) = 10 by decide), if_neg (show ¬ (13 : Int32) = 11 by decide), if_neg (show ¬ (13 : Int32) = 12 by decide), ml, zcl_s, if_neg (nI_ge (show 2000 - d.t < n by omega) (by omega))]
      · unfold f_X12_does f_X12_does_174
        rw [if_neg (show ¬ (4 : Int32) = 0 by decide), if_neg (show ¬ (4 : Int32) = 1 by decide), if_neg (show ¬ (4 : Int32) = 2 by decide), if_neg (show ¬ (4 : Int32) = 3 by decide), es, if_neg (show ¬ nI (d.t + n) ≤ 2000 from nI_ge (a := 2000) (by omega) (by omega)), if_neg one0]
        rfl
end DOL
section JDG
variable {b : MB} {B : CB} {s0 : Nat → Int32} {nm : Nat → Int64} {vb wh wt rd tp bf ud : Nat → Int32} {res : Nat → Int64} {lines : Nat} {mt ot x1 th len size p lim tok at_ span num flt fa got um ht : Int32} {word : Int64}
theorem jdg_ok (hB0 : BR b B s0 nm) (N : Nat) (hN : 2010 ≤ N) (hl : lines ≤ 40) (hK : BK b lines vb wh wt rd) : ∀ (n n' i : Nat) (D : CY) (d : MD) (s ta : Nat → Int32), i ≤ lines → lines - i + 1 < n → lines - i + 1 < n' → DY b d B D s → (∀ j, j < 52 ∨ 153 ≤ j → s j = s0 j) → (i = 0 → s = s0) → ta 0 = 0 → ta 1 = nI i → ∃ (g : Nat) (w x2 : Int32) (D' : CY) (d' : MD) (s' ta' : Nat → Int32), f_X0_judge_15 N (nI lines) wh wt vb B.masters B.meets B.masterLate B.masterMeets B.masterCorner B.masterClock B.clockGain n 1 0 (nI i) mt ot D.minute D.out D.stopped D.left D.ahead D.since D.came D.due D.stood = some (1, w, nI g, D'.minute, D'.out, D'.minute, D'.out, D'.stopped, D'.left, D'.ahead, D'.since, D'.came, D'.due, D'.stood) ∧ f_X12_book_111 N tp res nm n' x1 (-1) (nI i) th len size p lim tok at_ span num flt fa word got um (nI lines) ht s rd bf ta ud = f_X12_book_191 N tp res nm x1 x2 th len size p lim tok at_ span num flt fa word got um (nI lines) ht s' rd bf ta' ud ∧ DY b d' B D' s' ∧ (∀ j, j < 52 ∨ 153 ≤ j → s' j = s0 j) ∧ (g = 0 → s' = s0) ∧ g ≤ 40 ∧ ta' 0 = w ∧ ta' 1 = nI g ∧ ((w = 0 ∧ x2 = -1) ∨ (¬ w = 0 ∧ x2 = nI g)) := by
  intro n
  induction n with
  | zero => intro n' i D d s ta _ hn; omega
  | succ n ih =>
    intro n' i D d s ta hi hn hn' h hs h0 t0 t1
    obtain ⟨n', rfl⟩ : ∃ m, n' = m + 1 := ⟨n' - 1, by omega⟩
    rw [f_X0_judge_15, f_X12_book_111]
    by_cases c : i = lines
    · rw [if_pos (show nI lines ≤ nI i from nI_le (by omega) (by omega)), if_pos (show nI lines ≤ nI i from nI_le (by omega) (by omega))]
      exact ⟨i, 0, -1, D, d, s, ta, rfl, rfl, h, hs, h0, by omega, t0, t1, Or.inl ⟨rfl, rfl⟩⟩
    · have i4 : i < 40 := by omega
      have e3 : (3 : Int32) * nI i = nI (3 * i) := by rw [show (3 : Int32) = nI 3 from rfl, pk_mul]
      have e32 : nI (3 * i) + 2 = nI (3 * i + 2) := by rw [show (2 : Int32) = nI 2 from rfl, nI_add]
      rw [if_neg (show ¬ nI lines ≤ nI i from nI_ge (by omega) (by omega)), if_pos rfl, if_neg (show ¬ nI lines ≤ nI i from nI_ge (by omega) (by omega)), if_neg (show ¬ (0 : Int32) ≤ -1 by decide), e3, zin_nI (show 3 * i < 135 by omega) (by omega), zck_t, nI_1 (3 * i), zin_nI (show 3 * i + 1 < 135 by omega) (by omega), zck_t, e32, zin_nI (show 3 * i + 2 < 135 by omega) (by omega), zck_t, cl_n (show 3 * i < 2147483648 by omega), cl_n (show 3 * i + 1 < 2147483648 by omega), cl_n (show 3 * i + 2 < 2147483648 by omega)]
      have hB : BR b B s nm := hB0.congS (fun j hj => hs j (Or.inl hj))
      rcases doL_ok hB h N hN i4 (hK i (by omega)) with ⟨D', d', s', w1, l1, o1, hD', hs'⟩ | ⟨w, wn, w0, w1, o1⟩
      · rw [w1, zcl_s, if_pos rfl, l1, zcl_s, zbn_s, nI_1 i, o1, zcl_s, zbn_s, pk_us, if_pos (show (0 : Int32) ≤ 0 by decide), zbn_s, zbn_s, zbn_s]
        exact ih n' (i + 1) D' d' s' (upd (upd ta 0 0) 1 (upd ta 0 0 1 + 1)) (by omega) (by omega) (by omega) hD' (fun j hj => (hs' j hj).trans (hs j hj)) (fun z => absurd z (by omega)) (by rw [pk_un (by omega), pk_us]) (by rw [pk_us, pk_un (by omega), t1, nI_1])
      · obtain ⟨n, rfl⟩ : ∃ m, n = m + 1 := ⟨n - 1, by omega⟩
        obtain ⟨n', rfl⟩ : ∃ m, n' = m + 1 := ⟨n' - 1, by omega⟩
        have ref : ∀ ta2 : Nat → Int32, f_X12_book_111 N tp res nm (n' + 1) x1 (nI i) (nI (i + 1)) th len size p lim tok at_ span num flt fa word got um (nI lines) ht s rd bf ta2 ud = f_X12_book_191 N tp res nm x1 (nI i) th len size p lim tok at_ span num flt fa word got um (nI lines) ht s rd bf ta2 ud := by
          intro ta2
          rw [f_X12_book_111]
          by_cases c2 : lines ≤ i + 1
          · rw [if_pos (nI_le c2 (by omega))]
          · rw [if_neg (nI_ge (by omega) (by omega)), if_pos (show (0 : Int32) ≤ nI i from nI_le (a := 0) (Nat.zero_le _) (by omega))]
        rw [w1, zcl_s, if_neg w0, o1, zcl_s, zbn_s, pk_us, if_neg wn, zbn_s, nI_1 i, ref, f_X0_judge_15, if_neg (show ¬ nI lines ≤ nI i from nI_ge (by omega) (by omega)), if_neg w0]
        exact ⟨i, w, nI i, D, d, s, upd ta 0 w, rfl, rfl, h, hs, h0, by omega, pk_us, by rw [pk_un (by omega)]; exact t1, Or.inr ⟨w0, rfl⟩⟩
end JDG
