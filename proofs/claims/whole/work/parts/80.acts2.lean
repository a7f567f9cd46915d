/-! ===== acts that change a day ===== -/
theorem gk9 {g k : Int} (h1 : -9 ≤ g) (h2 : g ≤ 9) (h3 : 0 ≤ k) : -(9 * k) ≤ g * k ∧ g * k ≤ 9 * k := by
  have a := Int.mul_le_mul_of_nonneg_right h1 h3
  have c := Int.mul_le_mul_of_nonneg_right h2 h3
  omega
theorem up9_id {α : Type} (f : Nat → α) (c : Nat) : up9 f c (f c) = f := by
  funext i
  by_cases h : i = c
  · rw [h, up9_s]
  · rw [up9_n h]
theorem bt_clr (x : Int32) {k : Nat} (hk : k < 32) (i : Nat) : bt (x &&& (((1 : Int32) <<< (nI k &&& 31)) ^^^ (-1))) i = if i = k then false else bt x i := by
  by_cases hi : i < 32
  · rw [b_and, b_xor, bt_shl1 hk hi, b_m1 i hi]
    by_cases e : i = k
    · rw [if_pos e, decide_eq_true e]; simp
    · rw [if_neg e, decide_eq_false e]; simp
  · have h32 : 32 ≤ i := by omega
    rw [b_big h32]
    by_cases e : i = k
    · rw [if_pos e]
    · rw [if_neg e, b_big h32]
theorem clr_id (x : Int32) {k : Nat} (hk : k < 32) (h : bt x k = false) : x &&& (((1 : Int32) <<< (nI k &&& 31)) ^^^ (-1)) = x := by
  apply b_ext
  intro i _
  rw [bt_clr x hk i]
  by_cases e : i = k
  · rw [if_pos e, e, h]
  · rw [if_neg e]
theorem bt_set9 (x : Int32) {k : Nat} (hk : k < 32) (i : Nat) : bt (x ||| ((1 : Int32) <<< (nI k &&& 31))) i = if i = k then true else bt x i := by
  rw [bt_or1 x hk]
  by_cases e : i = k
  · rw [if_pos e, decide_eq_true e]; simp
  · rw [if_neg e, decide_eq_false e]; simp
theorem bmk_z {P : Nat → Bool} {n : Nat} (hn : n ≤ 32) (h : bmk P n = 0) : ∀ i, i < n → P i = false := by
  intro i hi
  have := bmk_bit (P := P) hn i
  rw [h, b_0, decide_eq_true hi, Bool.true_and] at this
  exact this.symm
def rf9 (s : Nat → Int32) (c : Nat) (a : Int32) : Nat → Int32 := upd (upd (upd (upd s (57 + c) a) (63 + c) (s 52)) 54 (s 54 &&& (((1 : Int32) <<< (nI c &&& 31)) ^^^ (-1)))) (69 + c) 0
theorem X12_runsFrom_ok (N c : Nat) (hc : c < 6) (a : Int32) (s : Nat → Int32) : f_X12_runsFrom N (nI c) a s = some (rf9 s c a) := by
  unfold f_X12_runsFrom rf9
  simp (disch := omega) only [zcl_s, zck_t, zbn_s, lits, m1_iI, ng_n, nI_le_T, nI_le_F, nI_lt_T, nI_lt_F, nI_eq_T, nI_eq_F, nI_1, le_1, le_1r, lt_1, lt_1r, eq_1, nI_add, pk_mul, sb_1, sb_n, cl_n, zi_n, iI_le_T, iI_le_F, iI_lt_T, iI_lt_F, iI_eq_T, iI_eq_F, mx1, mx2, mx3, mx4, mx5, mx6, mx7, mx8, mx9, mx10, iI_add, iI_sub, iI_p1, bI_n0, bI_1, bI_bo, tr_f, fa_f, tr_t, fa_t, if_true, if_false, or_n0, Nat.add_zero, Int.add_zero, pk_un]
theorem rf9_o {s : Nat → Int32} {c : Nat} {a : Int32} {i : Nat} (h1 : i ≠ 54) (h2 : i ≠ 57 + c) (h3 : i ≠ 63 + c) (h4 : i ≠ 69 + c) : rf9 s c a i = s i := by
  unfold rf9
  rw [pk_un h4, pk_un h1, pk_un h3, pk_un h2]
theorem rf9_54 (s : Nat → Int32) (c : Nat) (a : Int32) : rf9 s c a 54 = s 54 &&& (((1 : Int32) <<< (nI c &&& 31)) ^^^ (-1)) := by
  unfold rf9
  rw [pk_un (show 54 ≠ 69 + c by omega), pk_us]
theorem rf9_57 (s : Nat → Int32) {c : Nat} (hc : c < 6) (a : Int32) : rf9 s c a (57 + c) = a := by
  unfold rf9
  rw [pk_un (show 57 + c ≠ 69 + c by omega), pk_un (show 57 + c ≠ 54 by omega), pk_un (show 57 + c ≠ 63 + c by omega), pk_us]
theorem rf9_63 (s : Nat → Int32) {c : Nat} (hc : c < 6) (a : Int32) : rf9 s c a (63 + c) = s 52 := by
  unfold rf9
  rw [pk_un (show 63 + c ≠ 69 + c by omega), pk_un (show 63 + c ≠ 54 by omega), pk_us]
section ACTS2
variable {b : MB} {d : MD} {B : CB} {D A : CY} {s : Nat → Int32} {nm : Nat → Int64}
/-- a clock runs from here on -/
theorem DY.runs (hB : BR b B s nm) (h : DY b d B D s) {c : Nat} (hc : c < b.C) (a : Int) (h1 : ∀ u : Nat, d.t ≤ u → -99 ≤ (u : Int) + a + b.gn c * (((u : Int) - d.t) / 60) ∧ (u : Int) + a + b.gn c * (((u : Int) - d.t) / 60) ≤ 99 + 2 * u) (st : Int32) (hst : st = D.stopped &&& (((1 : Int32) <<< (nI c &&& 31)) ^^^ (-1))) : DY b (MD.mk d.t (up9 d.si c d.t) d.du (up9 d.so c (d.so c)) (up9 d.ah c a) (up9 d.stp c false) d.x) B (CY.mk D.minute D.out st (upd D.ahead c (iI a)) (upd D.since c D.minute) D.stood D.due D.left D.came) (rf9 s c (iI a)) := by
  have c6 := h.C6
  refine h.clk hc a d.t (d.so c) false rfl rfl rfl rfl rfl ?_ (upd_up9 _ _ _) ?_ (fun z => by cases z) (fun i _ => rfl) (fun i _ i1 i2 i3 i4 => rf9_o i1 i2 i3 i4) ?_ (rf9_57 s (by omega) _) ?_ (fun z => by cases z) (Nat.le_refl _) ?_
  · intro i
    show bt st i = _
    rw [hst, bt_clr D.stopped (by omega) i]
  · show upd D.since c D.minute = _
    rw [upd_up9, h.mi]
  · show rf9 s c (iI a) 54 = st
    rw [rf9_54, hst, h.st]
  · rw [rf9_63 s (by omega), h.sm]
  · intro u hu
    rw [if_neg (by decide)]
    exact h1 u hu
theorem DY.gnb (hB : BR b B s nm) {c : Nat} (hc : c < b.C) (k : Int) (hk : 0 ≤ k) : -(9 * k) ≤ b.gn c * k ∧ b.gn c * k ≤ 9 * k := by
  obtain ⟨-, -, -, -, -, -, -, -, -, g1, g2, -⟩ := hB.2.1 c hc
  exact gk9 g1 g2 hk
theorem DY.adj (hB : BR b B s nm) (h : DY b d B D s) (N : Nat) {m c : Nat} (hm : m < b.M) (hc : c < b.C) (hs : d.stp c = false) : f_X3_adjust N (nI m) (nI c) D.minute B.masterLate D.ahead D.since = some (upd D.ahead c (iI (-(b.late m))), upd D.since c D.minute) ∧ f_X12_runsFrom N (nI c) (-(s (28 + m))) s = some (rf9 s c (iI (-(b.late m)))) ∧ ∃ d', d'.t = d.t ∧ DY b d' B (CY.mk D.minute D.out D.stopped (upd D.ahead c (iI (-(b.late m)))) (upd D.since c D.minute) D.stood D.due D.left D.came) (rf9 s c (iI (-(b.late m)))) := by
  have c6 := h.C6
  have m6 := h.M6
  obtain ⟨-, -, l1, l2, l3, -, -⟩ := h.cm.2 m hm
  obtain ⟨-, -, l4, -, -, -, -⟩ := h.rk.2.2.1 m hm
  refine ⟨?_, ?_, _, ?_, h.runs hB hc (-(b.late m)) ?_ D.stopped ?_⟩
  · unfold f_X3_adjust
    rw [zin_nI (show m < 6 by omega) (by omega), zck_t, zbn_s, zin_nI (show c < 6 by omega) (by omega), zck_t, zbn_s, zbn_s, cl_n (show m < 2147483648 by omega), cl_n (show c < 2147483648 by omega), l1, iI_neg]
  · rw [l4, iI_neg]
    exact X12_runsFrom_ok N c (by omega) _ s
  · rfl
  · intro u hu
    have := DY.gnb hB hc (((u : Int) - d.t) / 60) (by omega)
    omega
  · rw [clr_id D.stopped (by omega) (by rw [h.cc.2.1 c hc, hs])]
theorem DY.res (hB : BR b B s nm) (h : DY b d B D s) (N : Nat) {c : Nat} (hc : c < b.C) : ∃ w, f_X3_resume N (nI c) D.minute D.stopped D.stood D.ahead B.clockGain D.since = some (D.stopped &&& (((1 : Int32) <<< (nI c &&& 31)) ^^^ (-1)), upd D.ahead c w, upd D.since c D.minute) ∧ f_X12_wrongBy N (nI c) s = some w ∧ f_X12_runsFrom N (nI c) w s = some (rf9 s c w) ∧ ∃ d', d'.t = d.t ∧ DY b d' B (CY.mk D.minute D.out (D.stopped &&& (((1 : Int32) <<< (nI c &&& 31)) ^^^ (-1))) (upd D.ahead c w) (upd D.since c D.minute) D.stood D.due D.left D.came) (rf9 s c w) := by
  have c6 := h.C6
  obtain ⟨w1, w2⟩ := h.wr N c hc
  obtain ⟨r1, r2⟩ := h.rb c hc d.t (Nat.le_refl _)
  refine ⟨_, ?_, w2, X12_runsFrom_ok N c (by omega) _ s, _, ?_, h.runs hB hc (rdd b d c d.t - d.t) ?_ _ rfl⟩
  · unfold f_X3_resume
    rw [w1, zcl_s, zin_nI (show c < 6 by omega) (by omega), zck_t, zbn_s, zbn_s, zbn_s, cl_n (show c < 2147483648 by omega)]
  · rfl
  · intro u hu
    have := DY.gnb hB hc (((u : Int) - d.t) / 60) (by omega)
    omega
def st9 (s : Nat → Int32) (c : Nat) (w : Int32) : Nat → Int32 := upd (upd s (69 + c) w) 54 (s 54 ||| ((1 : Int32) <<< (nI c &&& 31)))
theorem DY.hlt (h : DY b d B D s) (N : Nat) {c : Nat} (hc : c < b.C) : ∃ w, f_X3_halt N (nI c) D.minute D.stopped D.stood D.ahead B.clockGain D.since = some (D.stopped ||| ((1 : Int32) <<< (nI c &&& 31)), upd D.stood c w) ∧ f_X12_stops N (nI c) s = some (st9 s c w) ∧ ∃ d', d'.t = d.t ∧ DY b d' B (CY.mk D.minute D.out (D.stopped ||| ((1 : Int32) <<< (nI c &&& 31))) D.ahead D.since (upd D.stood c w) D.due D.left D.came) (st9 s c w) := by
  have c6 := h.C6
  have t2 := h.t2
  obtain ⟨w1, w2⟩ := h.rd N c d.t hc (Nat.le_refl _) (by omega)
  obtain ⟨r1, r2⟩ := h.rb c hc d.t (Nat.le_refl _)
  refine ⟨iI (rdd b d c d.t), ?_, ?_, MD.mk d.t (up9 d.si c (d.si c)) d.du (up9 d.so c (rdd b d c d.t)) (up9 d.ah c (d.ah c)) (up9 d.stp c true) d.x, rfl, h.clk hc (d.ah c) (d.si c) (rdd b d c d.t) true rfl rfl rfl rfl rfl ?_ ?_ ?_ (fun _ => pk_us) (fun i hi => pk_un hi) ?_ ?_ ?_ ?_ ?_ (h.sl c hc) ?_⟩
  · unfold f_X3_halt
    rw [h.mi, w1, zcl_s, zin_nI (show c < 6 by omega) (by omega), zck_t, zbn_s, zbn_s, cl_n (show c < 2147483648 by omega)]
  · unfold f_X12_stops st9
    rw [h.sm, w2, zcl_s]
    simp (disch := omega) only [zcl_s, zck_t, zbn_s, lits, m1_iI, ng_n, nI_le_T, nI_le_F, nI_lt_T, nI_lt_F, nI_eq_T, nI_eq_F, nI_1, le_1, le_1r, lt_1, lt_1r, eq_1, nI_add, pk_mul, sb_1, sb_n, cl_n, zi_n, iI_le_T, iI_le_F, iI_lt_T, iI_lt_F, iI_eq_T, iI_eq_F, mx1, mx2, mx3, mx4, mx5, mx6, mx7, mx8, mx9, mx10, iI_add, iI_sub, iI_p1, bI_n0, bI_1, bI_bo, tr_f, fa_f, tr_t, fa_t, if_true, if_false, or_n0, Nat.add_zero, Int.add_zero, pk_un]
  · intro i
    exact bt_set9 D.stopped (by omega) i
  · show D.ahead = _
    rw [← h.cc.2.2.2.1 c hc, up9_id]
  · show D.since = _
    rw [← (h.cc.2.2.2.2.2 c hc).1, up9_id]
  · intro i _ i1 i2 i3 i4
    unfold st9
    rw [pk_un i1, pk_un i4]
  · unfold st9
    rw [pk_us, h.st]
    rfl
  · unfold st9
    rw [pk_un (show 57 + c ≠ 54 by omega), pk_un (show 57 + c ≠ 69 + c by omega)]
    exact (h.rk.2.1 c hc).2.2.1
  · unfold st9
    rw [pk_un (show 63 + c ≠ 54 by omega), pk_un (show 63 + c ≠ 69 + c by omega)]
    exact (h.rk.2.1 c hc).2.2.2.2.1
  · intro _
    unfold st9
    rw [pk_un (show 69 + c ≠ 54 by omega), pk_us]
  · intro u hu
    rw [if_pos rfl]
    omega
/-! minutes go by: what is not to come stays so -/
theorem goM_n {rd : Nat → Nat → Int} {du late : Nat → Int} {cor : Nat → Nat} {t m e a c : Nat} {x : GM} (h : ¬ (a = m ∧ c = e)) : (goM rd du late cor t m e x).2.1 a c = x.2.1 a c ∧ (goM rd du late cor t m e x).2.2 a c = x.2.2 a c := by
  unfold goM
  split
  · exact ⟨if_neg h, if_neg h⟩
  · exact ⟨if_neg h, rfl⟩
theorem rowM_n {toC : Nat → Nat → Bool} {rd : Nat → Nat → Int} {du late : Nat → Int} {cor : Nat → Nat} {t e a c : Nat} (h : toC a c = false) : ∀ k m x, (rowM toC rd du late cor t e k m x).2.1 a c = x.2.1 a c ∧ (rowM toC rd du late cor t e k m x).2.2 a c = x.2.2 a c := by
  intro k
  induction k with
  | zero => intro m x; exact ⟨rfl, rfl⟩
  | succ k ih =>
    intro m x
    rw [rowM]
    obtain ⟨i1, i2⟩ := ih (m + 1) (if toC m e then goM rd du late cor t m e x else x)
    rw [i1, i2]
    by_cases ht : toC m e = true
    · rw [if_pos ht]
      exact goM_n (fun z => by rw [z.1, z.2, ht] at h; cases h)
    · rw [if_neg ht]
      exact ⟨rfl, rfl⟩
theorem colM_n {toC : Nat → Nat → Bool} {rd : Nat → Nat → Int} {du late : Nat → Int} {cor : Nat → Nat} {M t a c : Nat} (h : toC a c = false) : ∀ k e x, (colM toC rd du late cor M t k e x).2.1 a c = x.2.1 a c ∧ (colM toC rd du late cor M t k e x).2.2 a c = x.2.2 a c := by
  intro k
  induction k with
  | zero => intro e x; exact ⟨rfl, rfl⟩
  | succ k ih =>
    intro e x
    rw [colM]
    obtain ⟨i1, i2⟩ := ih (e + 1) (rowM toC rd du late cor t e M 0 x)
    rw [i1, i2]
    exact rowM_n h M 0 x
theorem pasM_n {toC : Nat → Nat → Bool} {rd : Nat → Nat → Int} {du late : Nat → Int} {cor : Nat → Nat} {M T a c : Nat} (h : toC a c = false) : ∀ n t x, (pasM toC rd du late cor M T n t x).2.1 a c = x.2.1 a c ∧ (pasM toC rd du late cor M T n t x).2.2 a c = x.2.2 a c := by
  intro n
  induction n with
  | zero => intro t x; exact ⟨rfl, rfl⟩
  | succ n ih =>
    intro t x
    rw [pasM]
    obtain ⟨i1, i2⟩ := ih (t + 1) (minM toC rd du late cor M T t x)
    rw [i1, i2]
    exact colM_n h T 0 x
/-- the day, n minutes on -/
def pasD (b : MB) (d : MD) (n : Nat) : MD := MD.mk (d.t + n) d.si d.du d.so d.ah d.stp (pasM b.toC (fun m u => rdd b d (b.clk m) u) d.du b.late b.cor b.M b.T n d.t d.x)
theorem DY.pas (h : DY b d B D s) (N k : Nat) (hN : 2010 ≤ N) (hk : k < 100000) : ∃ (out' : Int32) (left' came' s' : Nat → Int32), f_X3_pass N (nI k) D.minute D.out D.stopped B.masters B.meets B.masterMeets D.came D.left B.masterCorner B.masterClock D.due B.masterLate D.stood D.ahead B.clockGain D.since = some (nI (min k (2000 - d.t)), nI (d.t + min k (2000 - d.t)), out', came', left') ∧ f_X12_goesOn N (nI k) s = some (nI (min k (2000 - d.t)), s') ∧ DY b (pasD b d (min k (2000 - d.t))) B (CY.mk (nI (d.t + min k (2000 - d.t))) out' D.stopped D.ahead D.since D.stood D.due left' came') s' ∧ ∀ i, i < 52 ∨ 153 ≤ i → s' i = s i := by
  obtain ⟨o, l, c, s', h1, h2, h3, h4⟩ := DR_pass h.1 N k hN hk
  refine ⟨o, l, c, s', h1, h2, ⟨h3, fun m hm e he ht => ?_⟩, fun i hi => h4 i (by unfold kq; omega)⟩
  obtain ⟨g1, g2⟩ := h.2 m hm e he ht
  obtain ⟨p1, p2⟩ := pasM_n (rd := fun m u => rdd b d (b.clk m) u) (du := d.du) (late := b.late) (cor := b.cor) (M := b.M) (T := b.T) ht (min k (2000 - d.t)) d.t d.x
  exact ⟨p1.trans g1, p2.trans g2⟩
end ACTS2
