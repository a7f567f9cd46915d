/-! ===== what a burgh and a day are, as numbers; how class and reference hold them ===== -/
def MB : Type := Nat × Nat × Nat × Nat × (Nat → Nat) × (Nat → Nat) × (Nat → Nat) × (Nat → Int) × (Nat → Int) × (Nat → Int) × (Nat → Int) × (Nat → Nat → Bool)
def MB.C (k : MB) : Nat := k.1
def MB.M (k : MB) : Nat := k.2.1
def MB.T (k : MB) : Nat := k.2.2.1
def MB.pat (k : MB) : Nat := k.2.2.2.1
def MB.clk (k : MB) : Nat → Nat := k.2.2.2.2.1
def MB.cor (k : MB) : Nat → Nat := k.2.2.2.2.2.1
def MB.ccor (k : MB) : Nat → Nat := k.2.2.2.2.2.2.1
def MB.late (k : MB) : Nat → Int := k.2.2.2.2.2.2.2.1
def MB.gn (k : MB) : Nat → Int := k.2.2.2.2.2.2.2.2.1
def MB.ah0 (k : MB) : Nat → Int := k.2.2.2.2.2.2.2.2.2.1
def MB.du0 (k : MB) : Nat → Int := k.2.2.2.2.2.2.2.2.2.2.1
def MB.toC (k : MB) : Nat → Nat → Bool := k.2.2.2.2.2.2.2.2.2.2.2
def MB.mk (C : Nat) (M : Nat) (T : Nat) (pat : Nat) (clk : Nat → Nat) (cor : Nat → Nat) (ccor : Nat → Nat) (late : Nat → Int) (gn : Nat → Int) (ah0 : Nat → Int) (du0 : Nat → Int) (toC : Nat → Nat → Bool) : MB := (C, M, T, pat, clk, cor, ccor, late, gn, ah0, du0, toC)
def MD : Type := Nat × (Nat → Nat) × (Nat → Int) × (Nat → Int) × (Nat → Int) × (Nat → Bool) × GM
def MD.t (k : MD) : Nat := k.1
def MD.si (k : MD) : Nat → Nat := k.2.1
def MD.du (k : MD) : Nat → Int := k.2.2.1
def MD.so (k : MD) : Nat → Int := k.2.2.2.1
def MD.ah (k : MD) : Nat → Int := k.2.2.2.2.1
def MD.stp (k : MD) : Nat → Bool := k.2.2.2.2.2.1
def MD.x (k : MD) : GM := k.2.2.2.2.2.2
def MD.mk (t : Nat) (si : Nat → Nat) (du : Nat → Int) (so : Nat → Int) (ah : Nat → Int) (stp : Nat → Bool) (x : GM) : MD := (t, si, du, so, ah, stp, x)
def rdd (b : MB) (d : MD) (c u : Nat) : Int := rdM d.stp d.so d.ah b.gn d.si c u
def GT (toC : Nat → Nat → Bool) (M T : Nat) (x : GM) : Prop := ∀ m, m < M → ∀ e, e < T → toC m e = false → x.2.1 m e = none ∧ x.2.2 m e = none
def DY (b : MB) (d : MD) (B : CB) (D : CY) (s : Nat → Int32) : Prop := DR b.C b.M b.T d.t b.clk b.cor d.si b.late d.du d.so d.ah b.gn d.stp b.toC d.x B.clocks B.masters B.meets B.clockGain B.masterCorner B.masterLate B.masterClock B.masterMeets D.minute D.out D.stopped D.ahead D.since D.stood D.due D.left D.came s ∧ GT b.toC b.M b.T d.x
/-- a word of at most seven letters, each of them less than 128 -/
def wd9 (w : Int64) : Prop := w.toBitVec.toNat < 2 ^ 56 ∧ ∀ k, k < 7 → w.toBitVec.toNat / 2 ^ (8 * k) % 256 < 128
/-- a burgh -/
def BR (b : MB) (B : CB) (s : Nat → Int32) (nm : Nat → Int64) : Prop :=
  (b.C ≤ 6 ∧ b.M ≤ 6 ∧ b.T ≤ 6 ∧ B.clocks = nI b.C ∧ s 0 = nI b.C ∧ B.masters = nI b.M ∧ s 1 = nI b.M ∧ B.meets = nI b.T ∧ s 2 = nI b.T ∧ B.patience = nI b.pat ∧ s 3 = nI b.pat ∧ b.pat ≤ 99) ∧
  (∀ c, c < b.C → B.clockCorner c = nI (b.ccor c) ∧ s (4 + c) = nI (b.ccor c) ∧ b.ccor c ≤ 30 ∧ B.clockAhead c = iI (b.ah0 c) ∧ s (10 + c) = iI (b.ah0 c) ∧ -99 ≤ b.ah0 c ∧ b.ah0 c ≤ 99 ∧ B.clockGain c = iI (b.gn c) ∧ s (16 + c) = iI (b.gn c) ∧ -9 ≤ b.gn c ∧ b.gn c ≤ 9 ∧ B.clockName c = nm c ∧ wd9 (nm c)) ∧
  (∀ m, m < b.M → B.masterCorner m = nI (b.cor m) ∧ s (22 + m) = nI (b.cor m) ∧ b.cor m ≤ 30 ∧ B.masterLate m = iI (b.late m) ∧ s (28 + m) = iI (b.late m) ∧ 1 ≤ b.late m ∧ b.late m ≤ 60 ∧ B.masterClock m = nI (b.clk m) ∧ s (34 + m) = nI (b.clk m) ∧ b.clk m < b.C ∧ B.masterMeets m = bmk (fun e => b.toC m e) b.T ∧ B.masterName m = nm (6 + m)) ∧
  (∀ e, e < b.T → B.meetDue e = iI (b.du0 e) ∧ s (40 + e) = iI (b.du0 e) ∧ 0 ≤ b.du0 e ∧ b.du0 e ≤ 999 ∧ s (46 + e) = bmk (fun m => b.toC m e) b.M ∧ B.meetName e = nm (12 + e))
section ACC
variable {b : MB} {d : MD} {B : CB} {D : CY} {s : Nat → Int32}
theorem DY.C6 (h : DY b d B D s) : b.C ≤ 6 := h.1.2.1.1
theorem DY.M6 (h : DY b d B D s) : b.M ≤ 6 := h.1.2.2.1.1
theorem DY.T6 (h : DY b d B D s) : b.T ≤ 6 := h.1.2.2.2.1.1
theorem DY.nC (h : DY b d B D s) : B.clocks = nI b.C := h.1.1.1
theorem DY.sC (h : DY b d B D s) : s 0 = nI b.C := h.1.1.2.1
theorem DY.mi (h : DY b d B D s) : D.minute = nI d.t := h.1.1.2.2.1
theorem DY.t2 (h : DY b d B D s) : d.t ≤ 2000 := h.1.1.2.2.2.1
theorem DY.ou (h : DY b d B D s) : D.out = s 53 := h.1.1.2.2.2.2.1
theorem DY.st (h : DY b d B D s) : D.stopped = s 54 := h.1.1.2.2.2.2.2.1
theorem DY.sb (h : DY b d B D s) : ∀ i, b.C ≤ i → bt D.stopped i = false := h.1.1.2.2.2.2.2.2
theorem DY.cc (h : DY b d B D s) : CC b.C d.stp d.so d.ah b.gn d.si D.stopped D.stood D.ahead B.clockGain D.since := h.1.2.1
theorem DY.cm (h : DY b d B D s) : CM b.C b.M b.clk b.cor b.late B.masterClock B.masterLate B.masterCorner := h.1.2.2.1
theorem DY.cu (h : DY b d B D s) : CU b.T d.du D.due := h.1.2.2.2.1
theorem DY.ct (h : DY b d B D s) : CT b.M b.T b.toC B.masters B.meets B.masterMeets := h.1.2.2.2.2.1
theorem DY.cg (h : DY b d B D s) : CG b.M b.T d.x D.out D.left D.came := h.1.2.2.2.2.2.1
theorem DY.rk (h : DY b d B D s) : RK b.C b.M b.T d.t b.clk b.cor d.si b.late d.du d.so d.ah b.gn d.stp b.toC s := h.1.2.2.2.2.2.2.1
theorem DY.rg (h : DY b d B D s) : RG b.M b.T d.du d.x s := h.1.2.2.2.2.2.2.2.1
theorem DY.gb (h : DY b d B D s) : GB d.t d.x := h.1.2.2.2.2.2.2.2.2.1
theorem DY.gi (h : DY b d B D s) : GI b.toC b.cor b.M b.T d.t d.x := h.1.2.2.2.2.2.2.2.2.2.1
theorem DY.sl (h : DY b d B D s) : ∀ c, c < b.C → d.si c ≤ d.t := h.1.2.2.2.2.2.2.2.2.2.2.1
theorem DY.rb (h : DY b d B D s) : ∀ c, c < b.C → ∀ u : Nat, d.t ≤ u → -99 ≤ rdd b d c u ∧ rdd b d c u ≤ 99 + 2 * u := h.1.2.2.2.2.2.2.2.2.2.2.2
theorem DY.gt (h : DY b d B D s) : GT b.toC b.M b.T d.x := h.2
theorem DY.nM (h : DY b d B D s) : B.masters = nI b.M := h.ct.1
theorem DY.nT (h : DY b d B D s) : B.meets = nI b.T := h.ct.2.1
theorem DY.sM (h : DY b d B D s) : s 1 = nI b.M := h.rk.1.1
theorem DY.sT (h : DY b d B D s) : s 2 = nI b.T := h.rk.1.2.1
theorem DY.sm (h : DY b d B D s) : s 52 = nI d.t := h.rk.1.2.2.1
theorem DY.du9 (h : DY b d B D s) {e : Nat} (he : e < b.T) : D.due e = iI (d.du e) ∧ s (75 + e) = iI (d.du e) ∧ 0 ≤ d.du e ∧ d.du e < 2000 := ⟨(h.cu.2 e he).1, (h.rk.2.2.2.1 e he).1, (h.cu.2 e he).2⟩
theorem DY.lf (h : DY b d B D s) {m e : Nat} (hm : m < b.M) (he : e < b.T) : D.left (m * 6 + e) = oI (d.x.2.1 m e) ∧ s (81 + (6 * e + m)) = oJ (d.x.2.1 m e) ∧ ∀ u, d.x.2.1 m e = some u → u < 2000 := ⟨(h.cg.2 m hm e he).1, (h.rg.2.1 m hm e he).1, fun u hu => by have := h.gb m e u hu; have := h.t2; omega⟩
theorem DY.cb (h : DY b d B D s) {m e : Nat} (hm : m < b.M) (he : e < b.T) (u : Nat) (hu : d.x.2.2 m e = some u) : u < d.t ∧ b.toC m e = true ∧ (d.x.2.1 m e).isSome = true := by
  cases ht : b.toC m e with
  | false => rw [(h.gt m hm e he ht).2] at hu; cases hu
  | true =>
    obtain ⟨v, h1, h2, h3⟩ := (h.gi m e hm he ht).2 u hu
    exact ⟨h3, rfl, by rw [h1]; rfl⟩
theorem DY.cf (h : DY b d B D s) {m e : Nat} (hm : m < b.M) (he : e < b.T) : D.came (m * 6 + e) = oI (d.x.2.2 m e) ∧ s (117 + (6 * e + m)) = oJ (d.x.2.2 m e) ∧ ∀ u, d.x.2.2 m e = some u → u < 2000 := ⟨(h.cg.2 m hm e he).2, (h.rg.2.1 m hm e he).2, fun u hu => by have := (h.cb hm he u hu).1; have := h.t2; omega⟩
/-- what is read -/
theorem DY.rd (h : DY b d B D s) (N c u : Nat) (hc : c < b.C) (hu : d.t ≤ u) (hu2 : u < 100000) : f_X3_reads N (nI c) (nI u) D.stopped D.stood D.ahead B.clockGain D.since = some (iI (rdd b d c u)) ∧ f_X12_readsAt N (nI c) (nI u) s = some (iI (rdd b d c u)) := by
  have h1 := h.sl c hc
  exact ⟨X3_reads_ok h.cc N c u hc (by omega) hu2, X12_readsAt_ok h.rk N c u hc (by omega) hu2⟩
def shd (b : MB) (d : MD) (c u : Nat) : Nat := (rdd b d c u % 720).toNat
theorem shd_lt (b : MB) (d : MD) (c u : Nat) : shd b d c u < 720 := by unfold shd; omega
theorem DY.sh (h : DY b d B D s) (N c u : Nat) (hc : c < b.C) (hu : d.t ≤ u) (hu2 : u < 100000) : f_X3_shows N (nI c) (nI u) D.stopped D.stood D.ahead B.clockGain D.since = some (nI (shd b d c u)) ∧ f_X12_showsAt N (nI c) (nI u) s = some (nI (shd b d c u)) := by
  obtain ⟨h1, h2⟩ := h.rd N c u hc hu hu2
  obtain ⟨h3, h4⟩ := h.rb c hc u hu
  have e : iI (rdd b d c u % 720) = nI (shd b d c u) := by
    unfold shd
    rw [iI_nat]
    congr 1
    omega
  constructor
  · unfold f_X3_shows
    rw [h1, zcl_s, show (720 : Int32) = nI 720 from rfl, J9_floorMod_ok N (by omega) (by omega), zcl_s, e]
  · unfold f_X12_showsAt
    rw [h2, zcl_s, show (720 : Int32) = nI 720 from rfl, X12_face_ok (by omega) (by omega), e]
theorem DY.wr (h : DY b d B D s) (N c : Nat) (hc : c < b.C) : f_X3_wrongBy N (nI c) D.minute D.stopped D.stood D.ahead B.clockGain D.since = some (iI (rdd b d c d.t - d.t)) ∧ f_X12_wrongBy N (nI c) s = some (iI (rdd b d c d.t - d.t)) := by
  have ht := h.t2
  obtain ⟨h1, h2⟩ := h.rd N c d.t hc (Nat.le_refl _) (by omega)
  unfold f_X3_wrongBy f_X12_wrongBy
  rw [h.mi, h.sm, h1, h2]
  constructor
  · simp (disch := omega) only [zcl_s, zck_t, zbn_s, lits, m1_iI, ng_n, nI_le_T, nI_le_F, nI_lt_T, nI_lt_F, nI_eq_T, nI_eq_F, nI_1, le_1, le_1r, lt_1, lt_1r, eq_1, nI_add, pk_mul, sb_1, sb_n, cl_n, zi_n, iI_le_T, iI_le_F, iI_lt_T, iI_lt_F, iI_eq_T, iI_eq_F, mx1, mx2, mx3, mx4, mx5, mx6, mx7, mx8, mx9, mx10, iI_add, iI_sub, iI_p1, bI_n0, bI_1, bI_bo, tr_f, fa_f, tr_t, fa_t, if_true, if_false, or_n0, Nat.add_zero, Int.add_zero]
  · simp (disch := omega) only [zcl_s, zck_t, zbn_s, lits, m1_iI, ng_n, nI_le_T, nI_le_F, nI_lt_T, nI_lt_F, nI_eq_T, nI_eq_F, nI_1, le_1, le_1r, lt_1, lt_1r, eq_1, nI_add, pk_mul, sb_1, sb_n, cl_n, zi_n, iI_le_T, iI_le_F, iI_lt_T, iI_lt_F, iI_eq_T, iI_eq_F, mx1, mx2, mx3, mx4, mx5, mx6, mx7, mx8, mx9, mx10, iI_add, iI_sub, iI_p1, bI_n0, bI_1, bI_bo, tr_f, fa_f, tr_t, fa_t, if_true, if_false, or_n0, Nat.add_zero, Int.add_zero]
theorem DY.sp (h : DY b d B D s) (N c : Nat) (hc : c < b.C) : f_X3_isStopped N (nI c) D.stopped = some (bI (d.stp c)) ∧ f_X12_isStopped N (nI c) s = some (bI (d.stp c)) := ⟨X3_isStopped_ok h.cc N c hc, X12_isStopped_ok h.rk N c hc⟩
theorem DY.ot (h : DY b d B D s) (N m : Nat) (hm : m < b.M) : f_X3_isOut N (nI m) D.out = some (bI (d.x.1 m)) ∧ f_X12_isOut N (nI m) s = some (bI (d.x.1 m)) := ⟨X3_isOut_ok h.cg N m hm h.M6, X12_isOut_ok h.rk h.rg N m hm⟩
theorem DY.tc (h : DY b d B D s) (N m e : Nat) (hm : m < b.M) (he : e < b.T) : f_X1_isToCome N (nI m) (nI e) B.masterMeets = some (bI (b.toC m e)) ∧ f_X12_isDueTo N (nI m) (nI e) s = some (bI (b.toC m e)) := ⟨X1_isToCome_ok h.ct N m e hm he h.M6 h.T6, X12_isDueTo_ok h.rk N m e hm he⟩
end ACC
