/-! ===== what may be said of which master ===== -/
theorem bits_fuel : ∀ (n N N' k : Nat) (x1 x2 r : Int32), f_X12_bits_4 N n x1 x2 = some r → f_X12_bits_4 N' (n + k) x1 x2 = some r := by
  intro n
  induction n with
  | zero => intro N N' k x1 x2 r h; cases h
  | succ n ih =>
    intro N N' k x1 x2 r h
    rw [show n + 1 + k = (n + k) + 1 by omega, f_X12_bits_4]
    rw [f_X12_bits_4] at h
    by_cases c : x2 = 0
    · rw [if_pos c] at h ⊢; exact h
    · rw [if_neg c, zbn_s, zbn_s] at h
      rw [if_neg c, zbn_s, zbn_s]
      exact ih N N' k _ _ _ h
theorem bits_ok (N : Nat) (hN : 10 ≤ N) (P : Nat → Bool) {n : Nat} (hn : n ≤ 6) : f_X12_bits N (bmk P n) = some (nI (cn9 P n)) := by
  have key : ∀ p0 p1 p2 p3 p4 p5 : Bool, ∀ n, n < 7 → f_X12_bits_4 0 10 0 (bmk (fun i => if i = 0 then p0 else if i = 1 then p1 else if i = 2 then p2 else if i = 3 then p3 else if i = 4 then p4 else p5) n) = some (nI (cn9 (fun i => if i = 0 then p0 else if i = 1 then p1 else if i = 2 then p2 else if i = 3 then p3 else if i = 4 then p4 else p5) n)) := by decide +kernel
  have e : ∀ i, i < n → P i = (fun i => if i = 0 then P 0 else if i = 1 then P 1 else if i = 2 then P 2 else if i = 3 then P 3 else if i = 4 then P 4 else P 5) i := by
    intro i hi
    have : i = 0 ∨ i = 1 ∨ i = 2 ∨ i = 3 ∨ i = 4 ∨ i = 5 := by omega
    rcases this with rfl | rfl | rfl | rfl | rfl | rfl <;> rfl
  unfold f_X12_bits
  rw [bmk_congr e, cn9_congr e]
  have := bits_fuel 10 0 N (N - 10) _ _ _ (key (P 0) (P 1) (P 2) (P 3) (P 4) (P 5) n (by omega))
  rw [show 10 + (N - 10) = N by omega] at this
  exact this
def cmp9 (a : Int) (sg n : Nat) : Bool := if sg = 60 then decide (a < n) else if sg = 61 then decide (a = n) else decide ((n : Int) < a)
/-- what is so of one -/
def lv9 (b : MB) (d : MD) (m : Nat) (x : Nat × Nat × Nat) : Bool := if x.1 = 0 then d.x.1 m else if x.1 = 1 then !decide (bmk (fun e => (d.x.2.1 m e).isSome) b.T = bmk (fun e => (d.x.2.2 m e).isSome) b.T) else if x.1 = 2 then decide (rdd b d (b.clk m) d.t = d.t) else if x.1 = 3 then decide (b.clk m = x.2.2) else if x.1 = 4 then b.toC m x.2.2 else if x.1 = 5 then cmp9 (b.late m) x.2.1 x.2.2 else if x.1 = 6 then cmp9 (b.cor m) x.2.1 x.2.2 else if x.1 = 7 then cmp9 (cn9 (fun e => (d.x.2.2 m e).isSome) b.T) x.2.1 x.2.2 else cmp9 m x.2.1 x.2.2
theorem cmpC (N : Nat) (a : Int) (sg n : Nat) (ha : -100000 < a) (ha2 : a < 100000) (hn : n ≤ 999) (hs : sg < 100) : f_X5_compares N (iI a) (nI sg) (nI n) = some (bI (cmp9 a sg n)) := by
  unfold f_X5_compares cmp9
  by_cases c : sg = 60
  · rw [c, if_pos (show nI 60 = 60 from rfl), if_pos (show 60 = 60 from rfl)]
    by_cases q : a < n
    · rw [if_neg (show ¬ nI n ≤ iI a by rw [iI_nat, iI_le ⟨by omega, by omega⟩ ⟨by omega, by omega⟩]; omega), decide_eq_true q]; rfl
    · rw [if_pos (show nI n ≤ iI a by rw [iI_nat, iI_le ⟨by omega, by omega⟩ ⟨by omega, by omega⟩]; omega), decide_eq_false q]; rfl
  · rw [if_neg (show ¬ nI sg = 60 from fun z => c ((nI_eq (b := 60) (by omega) (by omega)).mp z)), if_neg c]
    by_cases c1 : sg = 61
    · rw [c1, if_pos (show nI 61 = 61 from rfl), if_pos (show 61 = 61 from rfl)]
      by_cases q : a = n
      · rw [if_pos (show iI a = nI n by rw [iI_nat, q]), decide_eq_true q]; rfl
      · rw [if_neg (show ¬ iI a = nI n by rw [iI_nat, iI_eq ⟨by omega, by omega⟩ ⟨by omega, by omega⟩]; exact q), decide_eq_false q]; rfl
    · rw [if_neg (show ¬ nI sg = 61 from fun z => c1 ((nI_eq (b := 61) (by omega) (by omega)).mp z)), if_neg c1]
      by_cases q : (n : Int) < a
      · rw [if_neg (show ¬ iI a ≤ nI n by rw [iI_nat, iI_le ⟨by omega, by omega⟩ ⟨by omega, by omega⟩]; omega), decide_eq_true q]; rfl
      · rw [if_pos (show iI a ≤ nI n by rw [iI_nat, iI_le ⟨by omega, by omega⟩ ⟨by omega, by omega⟩]; omega), decide_eq_false q]; rfl
theorem cmpR (N : Nat) (s : Nat → Int32) (a : Int) (sg n : Nat) (ha : -100000 < a) (ha2 : a < 100000) (hn : n ≤ 999) (hs : sg < 100) : f_X12_isLeaf_170 N s (nI sg) (nI n) (iI a) = some (bI (cmp9 a sg n)) := cmpC N a sg n ha ha2 hn hs
section SAID
variable {b : MB} {d : MD} {B : CB} {D : CY} {s : Nat → Int32} {nm : Nat → Int64}
theorem DY.lvC (h : DY b d B D s) (N m : Nat) (hN : 10 ≤ N) (hm : m < b.M) (x : Nat × Nat × Nat) (hx : wf9 b x) (hx8 : x.1 ≤ 8) : f_X5_holds N (nI (en9 x)) (nI m) D.minute D.out D.stopped B.meets D.came B.masterCorner B.masterLate B.masterMeets B.masterClock D.stood D.ahead B.clockGain D.since D.left = some (bI (lv9 b d m x)) := by
  obtain ⟨w, sg, n⟩ := x
  obtain ⟨-, x2, x3, x4, x5, x6⟩ := hx
  dsimp only at x2 x3 x4 x5 x6 hx8
  have m6 := h.M6
  have c6 := h.C6
  have t6 := h.T6
  have t2 := h.t2
  have kw : kw9 w = 17 + w := by unfold kw9; rw [if_neg (by omega), if_neg (by omega), if_neg (by omega)]
  have hsg : sg - 60 ≤ 2 := by
    by_cases c : 5 ≤ w ∧ w ≤ 8
    · have := x2 c; omega
    · have := x3 c; omega
  have ee : en9 (w, sg, n) = (17 + w) * 8192 + (sg - 60) * 1024 + n := by unfold en9; dsimp only; rw [kw]
  have e1 : zrem (nI (en9 (w, sg, n))) 1024 = nI n := by
    rw [show (1024 : Int32) = nI 1024 from rfl, ee]
    refine (pk_rem (by omega) (by omega) (by omega)).trans (congrArg nI ?_)
    omega
  have e2 : zrem (nI (en9 (w, sg, n))) 8192 / 1024 + 60 = nI ((sg - 60) + 60) := by
    have : zrem (nI (en9 (w, sg, n))) 8192 = nI ((sg - 60) * 1024 + n) := by
      rw [show (8192 : Int32) = nI 8192 from rfl, ee]
      refine (pk_rem (by omega) (by omega) (by omega)).trans (congrArg nI ?_)
      omega
    rw [this, show (1024 : Int32) = nI 1024 from rfl, pk_div (by omega) (by omega) (by omega), show (60 : Int32) = nI 60 from rfl, nI_add]
    congr 1
    omega
  have e3 : nI (en9 (w, sg, n)) / 8192 = nI (17 + w) := by
    rw [show (8192 : Int32) = nI 8192 from rfl, pk_div (by rw [ee]; omega) (by omega) (by omega), ee]
    congr 1
    omega
  obtain ⟨k1, k2, k3, k4, k5, k6, k7⟩ := h.cm.2 m hm
  obtain ⟨i1, i2, -, -⟩ := h.mIn N m hN hm
  unfold f_X5_holds
  rw [zbn_s, zbn_s, zbn_s, e1, e2, e3]
  have hw : w = 0 ∨ w = 1 ∨ w = 2 ∨ w = 3 ∨ w = 4 ∨ w = 5 ∨ w = 6 ∨ w = 7 ∨ w = 8 := by omega
  rcases hw with rfl | rfl | rfl | rfl | rfl | rfl | rfl | rfl | rfl
  · rw [if_pos (show nI (17 + 0) = 17 from rfl), (h.ot N m hm).1, zcl_s, bI_bo, zck_t]
    rfl
  · rw [if_neg (show ¬ nI (17 + 1) = 17 by decide), if_pos (show nI (17 + 1) = 18 from rfl), i1, zcl_s, i2, zcl_s]
    rw [show lv9 b d m (1, sg, n) = !decide (bmk (fun e => (d.x.2.1 m e).isSome) b.T = bmk (fun e => (d.x.2.2 m e).isSome) b.T) from rfl]
    by_cases c : bmk (fun e => (d.x.2.1 m e).isSome) b.T = bmk (fun e => (d.x.2.2 m e).isSome) b.T
    · rw [if_pos c, decide_eq_true c]; rfl
    · rw [if_neg c, decide_eq_false c]; rfl
  · obtain ⟨r1, r2⟩ := h.rb (b.clk m) k2 d.t (Nat.le_refl _)
    rw [if_neg (show ¬ nI (17 + 2) = 17 by decide), if_neg (show ¬ nI (17 + 2) = 18 by decide), if_pos (show nI (17 + 2) = 19 from rfl), zin_nI (show m < 6 by omega) (by omega), zck_t, cl_n (show m < 2147483648 by omega), k1, (h.wr N (b.clk m) k2).1, zcl_s]
    rw [show lv9 b d m (2, sg, n) = decide (rdd b d (b.clk m) d.t = d.t) from rfl]
    by_cases c : rdd b d (b.clk m) d.t = d.t
    · rw [if_pos (show iI (rdd b d (b.clk m) d.t - d.t) = 0 by rw [c, Int.sub_self]; rfl), decide_eq_true c]; rfl
    · rw [if_neg (show ¬ iI (rdd b d (b.clk m) d.t - d.t) = 0 from fun z => by have := (iI_eq (b := 0) ⟨by omega, by omega⟩ ⟨by omega, by omega⟩).mp z; omega), decide_eq_false c]; rfl
  · rw [if_neg (show ¬ nI (17 + 3) = 17 by decide), if_neg (show ¬ nI (17 + 3) = 18 by decide), if_neg (show ¬ nI (17 + 3) = 19 by decide), if_pos (show nI (17 + 3) = 20 from rfl), zin_nI (show m < 6 by omega) (by omega), zck_t, cl_n (show m < 2147483648 by omega), k1]
    rw [show lv9 b d m (3, sg, n) = decide (b.clk m = n) from rfl]
    by_cases c : b.clk m = n
    · rw [if_pos (show nI (b.clk m) = nI n by rw [c]), decide_eq_true c]; rfl
    · rw [if_neg (show ¬ nI (b.clk m) = nI n from fun z => c ((nI_eq (by omega) (by omega)).mp z)), decide_eq_false c]; rfl
  · rw [if_neg (show ¬ nI (17 + 4) = 17 by decide), if_neg (show ¬ nI (17 + 4) = 18 by decide), if_neg (show ¬ nI (17 + 4) = 19 by decide), if_neg (show ¬ nI (17 + 4) = 20 by decide), if_pos (show nI (17 + 4) = 21 from rfl), (h.tc N m n hm (x6 rfl)).1, zcl_s, bI_bo, zck_t]
    rfl
  · have s2 := x2 (by omega)
    rw [if_neg (show ¬ nI (17 + 5) = 17 by decide), if_neg (show ¬ nI (17 + 5) = 18 by decide), if_neg (show ¬ nI (17 + 5) = 19 by decide), if_neg (show ¬ nI (17 + 5) = 20 by decide), if_neg (show ¬ nI (17 + 5) = 21 by decide), if_pos (show nI (17 + 5) = 22 from rfl), zin_nI (show m < 6 by omega) (by omega), zck_t, cl_n (show m < 2147483648 by omega), k3, show sg - 60 + 60 = sg by omega, cmpC N (b.late m) sg n (by omega) (by omega) x4 (by omega), zcl_s, bI_bo, zck_t]
    rfl
  · have s2 := x2 (by omega)
    rw [if_neg (show ¬ nI (17 + 6) = 17 by decide), if_neg (show ¬ nI (17 + 6) = 18 by decide), if_neg (show ¬ nI (17 + 6) = 19 by decide), if_neg (show ¬ nI (17 + 6) = 20 by decide), if_neg (show ¬ nI (17 + 6) = 21 by decide), if_neg (show ¬ nI (17 + 6) = 22 by decide), if_pos (show nI (17 + 6) = 23 from rfl), zin_nI (show m < 6 by omega) (by omega), zck_t, cl_n (show m < 2147483648 by omega), k6, iI_nat (b.cor m), show sg - 60 + 60 = sg by omega, cmpC N (b.cor m) sg n (by omega) (by omega) x4 (by omega), zcl_s, bI_bo, zck_t]
    rfl
  · have s2 := x2 (by omega)
    have cl := cn9_le (fun e => (d.x.2.2 m e).isSome) b.T
    rw [if_neg (show ¬ nI (17 + 7) = 17 by decide), if_neg (show ¬ nI (17 + 7) = 18 by decide), if_neg (show ¬ nI (17 + 7) = 19 by decide), if_neg (show ¬ nI (17 + 7) = 20 by decide), if_neg (show ¬ nI (17 + 7) = 21 by decide), if_neg (show ¬ nI (17 + 7) = 22 by decide), if_neg (show ¬ nI (17 + 7) = 23 by decide), if_pos (show nI (17 + 7) = 24 from rfl), i2, zcl_s, bc_ok N (fun e => (d.x.2.2 m e).isSome) t6, zcl_s, iI_nat (cn9 (fun e => (d.x.2.2 m e).isSome) b.T), show sg - 60 + 60 = sg by omega, cmpC N _ sg n (by omega) (by omega) x4 (by omega), zcl_s, bI_bo, zck_t]
    rfl
  · have s2 := x2 (by omega)
    rw [if_neg (show ¬ nI (17 + 8) = 17 by decide), if_neg (show ¬ nI (17 + 8) = 18 by decide), if_neg (show ¬ nI (17 + 8) = 19 by decide), if_neg (show ¬ nI (17 + 8) = 20 by decide), if_neg (show ¬ nI (17 + 8) = 21 by decide), if_neg (show ¬ nI (17 + 8) = 22 by decide), if_neg (show ¬ nI (17 + 8) = 23 by decide), if_neg (show ¬ nI (17 + 8) = 24 by decide), iI_nat m, show sg - 60 + 60 = sg by omega, cmpC N (m : Int) sg n (by omega) (by omega) x4 (by omega), zcl_s, bI_bo, zck_t]
    rfl
theorem DY.lvR (h : DY b d B D s) (N m : Nat) (hN : 10 ≤ N) (hm : m < b.M) (x : Nat × Nat × Nat) (hx : wf9 b x) (hx8 : x.1 ≤ 8) : f_X12_isLeaf N (nI m) (nI x.1) (nI x.2.1) (nI x.2.2) s = some (bI (lv9 b d m x)) := by
  obtain ⟨w, sg, n⟩ := x
  obtain ⟨-, x2, x3, x4, x5, x6⟩ := hx
  dsimp only at x2 x3 x4 x5 x6 hx8
  have m6 := h.M6
  have c6 := h.C6
  have t6 := h.T6
  have t2 := h.t2
  obtain ⟨k1, k2, k3, k4, k5, k6, k7⟩ := h.rk.2.2.1 m hm
  obtain ⟨-, -, i1, i2⟩ := h.mIn N m hN hm
  rw [show nI 81 = (81 : Int32) from rfl] at i1
  rw [show nI 117 = (117 : Int32) from rfl] at i2
  have e34 : (34 : Int32) + nI m = nI (34 + m) := by rw [show (34 : Int32) = nI 34 from rfl, nI_add]
  have e28 : (28 : Int32) + nI m = nI (28 + m) := by rw [show (28 : Int32) = nI 28 from rfl, nI_add]
  have e22 : (22 : Int32) + nI m = nI (22 + m) := by rw [show (22 : Int32) = nI 22 from rfl, nI_add]
  unfold f_X12_isLeaf
  dsimp only
  have hw : w = 0 ∨ w = 1 ∨ w = 2 ∨ w = 3 ∨ w = 4 ∨ w = 5 ∨ w = 6 ∨ w = 7 ∨ w = 8 := by omega
  rcases hw with rfl | rfl | rfl | rfl | rfl | rfl | rfl | rfl | rfl
  · rw [if_pos (show nI 0 = 0 from rfl), (h.ot N m hm).2, zcl_s, bI_bo, zck_t]
    rfl
  · rw [if_neg (show ¬ nI 1 = 0 by decide), if_pos (show nI 1 = 1 from rfl), i1, zcl_s, i2, zcl_s]
    rw [show lv9 b d m (1, sg, n) = !decide (bmk (fun e => (d.x.2.1 m e).isSome) b.T = bmk (fun e => (d.x.2.2 m e).isSome) b.T) from rfl]
    by_cases c : bmk (fun e => (d.x.2.1 m e).isSome) b.T = bmk (fun e => (d.x.2.2 m e).isSome) b.T
    · rw [if_pos c, decide_eq_true c]; rfl
    · rw [if_neg c, decide_eq_false c]; rfl
  · obtain ⟨r1, r2⟩ := h.rb (b.clk m) k2 d.t (Nat.le_refl _)
    rw [if_neg (show ¬ nI 2 = 0 by decide), if_neg (show ¬ nI 2 = 1 by decide), if_pos (show nI 2 = 2 from rfl), e34, zin_nI (show 34 + m < 334 by omega) (by omega), zck_t, cl_n (show 34 + m < 2147483648 by omega), k1, (h.wr N (b.clk m) k2).2, zcl_s]
    rw [show lv9 b d m (2, sg, n) = decide (rdd b d (b.clk m) d.t = d.t) from rfl]
    by_cases c : rdd b d (b.clk m) d.t = d.t
    · rw [if_pos (show iI (rdd b d (b.clk m) d.t - d.t) = 0 by rw [c, Int.sub_self]; rfl), decide_eq_true c]; rfl
    · rw [if_neg (show ¬ iI (rdd b d (b.clk m) d.t - d.t) = 0 from fun z => by have := (iI_eq (b := 0) ⟨by omega, by omega⟩ ⟨by omega, by omega⟩).mp z; omega), decide_eq_false c]; rfl
  · rw [if_neg (show ¬ nI 3 = 0 by decide), if_neg (show ¬ nI 3 = 1 by decide), if_neg (show ¬ nI 3 = 2 by decide), if_pos (show nI 3 = 3 from rfl), e34, zin_nI (show 34 + m < 334 by omega) (by omega), zck_t, cl_n (show 34 + m < 2147483648 by omega), k1]
    rw [show lv9 b d m (3, sg, n) = decide (b.clk m = n) from rfl]
    by_cases c : b.clk m = n
    · rw [if_pos (show nI (b.clk m) = nI n by rw [c]), decide_eq_true c]; rfl
    · rw [if_neg (show ¬ nI (b.clk m) = nI n from fun z => c ((nI_eq (by omega) (by omega)).mp z)), decide_eq_false c]; rfl
  · rw [if_neg (show ¬ nI 4 = 0 by decide), if_neg (show ¬ nI 4 = 1 by decide), if_neg (show ¬ nI 4 = 2 by decide), if_neg (show ¬ nI 4 = 3 by decide), if_pos (show nI 4 = 4 from rfl), (h.tc N m n hm (x6 rfl)).2, zcl_s, bI_bo, zck_t]
    rfl
  · have s2 := x2 (by omega)
    rw [if_neg (show ¬ nI 5 = 0 by decide), if_neg (show ¬ nI 5 = 1 by decide), if_neg (show ¬ nI 5 = 2 by decide), if_neg (show ¬ nI 5 = 3 by decide), if_neg (show ¬ nI 5 = 4 by decide), if_pos (show nI 5 = 5 from rfl), e28, zin_nI (show 28 + m < 334 by omega) (by omega), zck_t, cl_n (show 28 + m < 2147483648 by omega), k3, cmpR N s (b.late m) sg n (by omega) (by omega) x4 (by omega)]
    rfl
  · have s2 := x2 (by omega)
    rw [if_neg (show ¬ nI 6 = 0 by decide), if_neg (show ¬ nI 6 = 1 by decide), if_neg (show ¬ nI 6 = 2 by decide), if_neg (show ¬ nI 6 = 3 by decide), if_neg (show ¬ nI 6 = 4 by decide), if_neg (show ¬ nI 6 = 5 by decide), if_pos (show nI 6 = 6 from rfl), e22, zin_nI (show 22 + m < 334 by omega) (by omega), zck_t, cl_n (show 22 + m < 2147483648 by omega), k6, iI_nat (b.cor m), cmpR N s (b.cor m) sg n (by omega) (by omega) x4 (by omega)]
    rfl
  · have s2 := x2 (by omega)
    have cl := cn9_le (fun e => (d.x.2.2 m e).isSome) b.T
    rw [if_neg (show ¬ nI 7 = 0 by decide), if_neg (show ¬ nI 7 = 1 by decide), if_neg (show ¬ nI 7 = 2 by decide), if_neg (show ¬ nI 7 = 3 by decide), if_neg (show ¬ nI 7 = 4 by decide), if_neg (show ¬ nI 7 = 5 by decide), if_neg (show ¬ nI 7 = 6 by decide), if_pos (show nI 7 = 7 from rfl), i2, zcl_s, bits_ok N hN (fun e => (d.x.2.2 m e).isSome) t6, zcl_s, iI_nat (cn9 (fun e => (d.x.2.2 m e).isSome) b.T), cmpR N s _ sg n (by omega) (by omega) x4 (by omega)]
    rfl
  · have s2 := x2 (by omega)
    rw [if_neg (show ¬ nI 8 = 0 by decide), if_neg (show ¬ nI 8 = 1 by decide), if_neg (show ¬ nI 8 = 2 by decide), if_neg (show ¬ nI 8 = 3 by decide), if_neg (show ¬ nI 8 = 4 by decide), if_neg (show ¬ nI 8 = 5 by decide), if_neg (show ¬ nI 8 = 6 by decide), if_neg (show ¬ nI 8 = 7 by decide), iI_nat m, cmpR N s (m : Int) sg n (by omega) (by omega) x4 (by omega)]
    rfl
/-- of all at once -/
theorem DY.mfC (h : DY b d B D s) (N : Nat) (hN : 10 ≤ N) (x : Nat × Nat × Nat) (hx : wf9 b x) (hx8 : x.1 ≤ 8) : f_X5_mastersFor N (nI (en9 x)) D.minute D.out D.stopped B.masters B.meets D.came B.masterCorner B.masterLate B.masterMeets B.masterClock D.stood D.ahead B.clockGain D.since D.left = some (bmk (fun m => lv9 b d m x) b.M) := by
  have m6 := h.M6
  unfold f_X5_mastersFor
  rw [h.nM]
  refine loopV (F := fun n i v => f_X5_mastersFor_4 N D.minute D.out D.stopped (nI b.M) B.meets D.came B.masterCorner B.masterLate B.masterMeets B.masterClock D.stood D.ahead B.clockGain D.since D.left n (nI (en9 x)) v (nI i)) (M := b.M) (fun i => bmk (fun m => lv9 b d m x) i) _ ?_ ?_ N 0 (by omega) (by omega)
  · intro n i hi
    show f_X5_mastersFor_4 N D.minute D.out D.stopped (nI b.M) B.meets D.came B.masterCorner B.masterLate B.masterMeets B.masterClock D.stood D.ahead B.clockGain D.since D.left (n + 1) (nI (en9 x)) (bmk (fun m => lv9 b d m x) i) (nI i) = f_X5_mastersFor_4 N D.minute D.out D.stopped (nI b.M) B.meets D.came B.masterCorner B.masterLate B.masterMeets B.masterClock D.stood D.ahead B.clockGain D.since D.left n (nI (en9 x)) (bmk (fun m => lv9 b d m x) (i + 1)) (nI (i + 1))
    rw [f_X5_mastersFor_4, if_neg (nI_ge hi (by omega)), h.lvC N i hN hi x hx hx8, zcl_s]
    cases hP : lv9 b d i x
    · rw [if_pos (show bI false = 0 from rfl), zbn_s, nI_1, bmk_f (P := fun m => lv9 b d m x) (n := i) hP]
    · rw [if_neg (show ¬ bI true = 0 by decide), zbn_s, zbn_s, nI_1, bmk_t (P := fun m => lv9 b d m x) (n := i) hP]
  · intro n
    show f_X5_mastersFor_4 N D.minute D.out D.stopped (nI b.M) B.meets D.came B.masterCorner B.masterLate B.masterMeets B.masterClock D.stood D.ahead B.clockGain D.since D.left (n + 1) (nI (en9 x)) (bmk (fun m => lv9 b d m x) b.M) (nI b.M) = _
    rw [f_X5_mastersFor_4, if_pos (nI_le (Nat.le_refl _) (by omega))]
end SAID
