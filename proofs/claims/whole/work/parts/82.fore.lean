/-! ===== what would go on: comes, all, missed, caught ===== -/
theorem oJ_m1 (o : Option Nat) : oJ o - 1 = oI o := by
  cases o with
  | none => rfl
  | some u => rw [oJ_s, oI_s, sb_1 (by omega), Nat.add_sub_cancel]
theorem cp9_x (f g : Nat → Int32) (i : Nat) : upd (va_cpy f g 0 0 i) i (f i) = va_cpy f g 0 0 (i + 1) := by
  have := cp9_s f g 0 0 i
  rw [Nat.zero_add] at this
  exact this
theorem oI_sn {u : Nat} (hu : u < 100000) : ¬ oI (some u) = -1 := fun z => by
  have := (oI_none (o := some u) (fun v hv => by cases hv; omega)).mp z
  cases this
/-- the last of those that come; -1: not all do -/
def ls9 (P : Nat → Bool) (o : Nat → Option Nat) : Nat → Nat → Int → Int
  | 0, _, l => l
  | k + 1, m, l => if P m = true then (match o m with | none => -1 | some u => ls9 P o k (m + 1) (max l u)) else ls9 P o k (m + 1) l
theorem ls9_f {P : Nat → Bool} {o : Nat → Option Nat} {k m : Nat} {l : Int} (h : P m = false) : ls9 P o (k + 1) m l = ls9 P o k (m + 1) l := by rw [ls9, if_neg (by rw [h]; decide)]
theorem ls9_n {P : Nat → Bool} {o : Nat → Option Nat} {k m : Nat} {l : Int} (h : P m = true) (ho : o m = none) : ls9 P o (k + 1) m l = -1 := by rw [ls9, if_pos h, ho]
theorem ls9_s {P : Nat → Bool} {o : Nat → Option Nat} {k m u : Nat} {l : Int} (h : P m = true) (ho : o m = some u) : ls9 P o (k + 1) m l = ls9 P o k (m + 1) (max l u) := by rw [ls9, if_pos h, ho]
def cb9 (o : Option Nat) (last : Int) : Bool := match o with
  | none => false
  | some u => decide ((u : Int) ≤ last)
theorem cb9_s (u : Nat) (last : Int) : cb9 (some u) last = decide ((u : Int) ≤ last) := rfl
section FORE
variable {b : MB} {d : MD} {B : CB} {D E : CY} {s : Nat → Int32} {nm : Nat → Int64}
theorem X12_laysCome_12_ok (N e : Nat) (s w cr : Nat → Int32) (hN : 200 ≤ N) (he : e < 6) : f_X12_laysCome_12 N N (nI e) 0 s w cr = some (va_cpy w s 0 52 101, w, va_cpy (fun m => s (117 + 6 * e + m) - 1) cr 0 0 6) := by
  have st : ∀ n i, i < 6 → f_X12_laysCome_12 N (n + 1) (nI e) (nI i) s w (va_cpy (fun m => s (117 + 6 * e + m) - 1) cr 0 0 i) = f_X12_laysCome_12 N n (nI e) (nI (i + 1)) s w (va_cpy (fun m => s (117 + 6 * e + m) - 1) cr 0 0 (i + 1)) := by
    intro n i hi
    rw [f_X12_laysCome_12]
    simp (disch := omega) only [zcl_s, zck_t, zbn_s, lits, m1_iI, ng_n, nI_le_T, nI_le_F, nI_lt_T, nI_lt_F, nI_eq_T, nI_eq_F, nI_1, le_1, le_1r, lt_1, lt_1r, eq_1, nI_add, pk_mul, sb_1, sb_n, cl_n, zi_n, iI_le_T, iI_le_F, iI_lt_T, iI_lt_F, iI_eq_T, iI_eq_F, mx1, mx2, mx3, mx4, mx5, mx6, mx7, mx8, mx9, mx10, iI_add, iI_sub, iI_p1, bI_n0, bI_1, bI_bo, tr_f, fa_f, tr_t, fa_t, if_true, if_false, or_n0, Nat.add_zero, Int.add_zero]
    rw [← cp9_x]
  have fi : ∀ n, f_X12_laysCome_12 N (n + 1) (nI e) (nI 6) s w (va_cpy (fun m => s (117 + 6 * e + m) - 1) cr 0 0 6) = some (va_cpy w s 0 52 101, w, va_cpy (fun m => s (117 + 6 * e + m) - 1) cr 0 0 6) := by
    intro n
    rw [f_X12_laysCome_12, if_pos (show (6 : Int32) ≤ nI 6 by decide), X12_back_ok N s w hN, zcl_s]
  have := loopV (F := fun n i z => f_X12_laysCome_12 N n (nI e) (nI i) s w z) (M := 6) (fun i => va_cpy (fun m => s (117 + 6 * e + m) - 1) cr 0 0 i) _ st fi N 0 (by omega) (by omega)
  rw [cp9_0] at this
  exact this
theorem DY.lays (h : DY b d B D s) (N n e : Nat) (hN : 2010 ≤ N) (hn : n < 100000) (he : e < b.T) (w cr : Nat → Int32) : ∃ w' cr', f_X12_laysCome N (nI e) (nI n) s w cr = some (s, w', cr') ∧ ∀ m, m < b.M → cr' m = oI ((pasD b d (min n (2000 - d.t))).x.2.2 m e) := by
  have t6 := h.T6
  have m6 := h.M6
  obtain ⟨o', l', c', s', q1, q2, hD', hs⟩ := h.pas N n hN hn
  refine ⟨va_cpy s w 52 0 101, va_cpy (fun m => s' (117 + 6 * e + m) - 1) cr 0 0 6, ?_, fun m hm => ?_⟩
  · unfold f_X12_laysCome
    rw [X12_tries_ok N s w (by omega), zcl_s, q2, zcl_s, X12_laysCome_12_ok N e s' (va_cpy s w 52 0 101) cr (by omega) (by omega), back9 s w s' hs]
  · rw [cp00 (fun m => s' (117 + 6 * e + m) - 1) cr (show m < 6 by omega)]
    rw [Nat.add_assoc, (hD'.cf hm he).2.1, oJ_m1]
theorem DY.fore (h : DY b d B D s) (E : CY) (N : Nat) (hN : 2010 ≤ N) : ∃ E' : CY, f_X11_foresee N D.minute D.out D.stopped E.minute E.out E.stopped D.ahead E.ahead D.since E.since D.stood E.stood D.due E.due D.left E.left D.came E.came B.masters B.meets B.masterMeets B.masterCorner B.masterClock B.masterLate B.clockGain = some (E'.minute, E'.out, E'.stopped, E'.ahead, E'.since, E'.stood, E'.due, E'.left, E'.came) ∧ ∃ s', DY b (pasD b d (min 2000 (2000 - d.t))) B E' s' := by
  obtain ⟨o', l', c', s', q1, q2, hD', hs⟩ := (h.cpy E).pas N 2000 hN (by omega)
  refine ⟨_, ?_, s', hD'⟩
  unfold f_X11_foresee
  rw [X3_copyFrom_ok N D E, zcl_s]
  dsimp only
  rw [show (2000 : Int32) = nI 2000 from rfl, q1, zcl_s]
  rfl
theorem DY.lasC (h : DY b d B E s) (N e : Nat) (hN : 10 ≤ N) (he : e < b.T) : f_X3_lastComes N (nI e) B.masters B.masterMeets E.came = some (iI (ls9 (fun m => b.toC m e) (fun m => d.x.2.2 m e) b.M 0 (-1))) := by
  have m6 := h.M6
  have t6 := h.T6
  unfold f_X3_lastComes
  rw [h.nM]
  refine loopP (F := fun n i v => f_X3_lastComes_4 N (nI b.M) B.masterMeets E.came n (nI e) v (nI i)) (M := b.M) (Post := fun z => z = some (iI (ls9 (fun m => b.toC m e) (fun m => d.x.2.2 m e) b.M 0 (-1)))) (fun i v => ∃ l : Int, v = iI l ∧ -1 ≤ l ∧ l < 2000 ∧ ls9 (fun m => b.toC m e) (fun m => d.x.2.2 m e) (b.M - i) i l = ls9 (fun m => b.toC m e) (fun m => d.x.2.2 m e) b.M 0 (-1)) ?_ ?_ N 0 (-1) (by omega) (by omega) ⟨-1, rfl, by omega, by omega, rfl⟩
  · intro n i v hi ⟨l, hv, l1, l2, l3⟩
    subst hv
    show (∃ x', f_X3_lastComes_4 N (nI b.M) B.masterMeets E.came (n + 1) (nI e) (iI l) (nI i) = f_X3_lastComes_4 N (nI b.M) B.masterMeets E.came n (nI e) x' (nI (i + 1)) ∧ ∃ l : Int, x' = iI l ∧ -1 ≤ l ∧ l < 2000 ∧ ls9 (fun m => b.toC m e) (fun m => d.x.2.2 m e) (b.M - (i + 1)) (i + 1) l = ls9 (fun m => b.toC m e) (fun m => d.x.2.2 m e) b.M 0 (-1)) ∨ f_X3_lastComes_4 N (nI b.M) B.masterMeets E.came (n + 1) (nI e) (iI l) (nI i) = some (iI (ls9 (fun m => b.toC m e) (fun m => d.x.2.2 m e) b.M 0 (-1)))
    rw [show b.M - i = (b.M - (i + 1)) + 1 by omega] at l3
    have tc := (h.tc N i e hi he).1
    have cf := (h.cf hi he).1
    have cu := (h.cf hi he).2.2
    rw [f_X3_lastComes_4, if_neg (nI_ge hi (by omega)), tc, zcl_s]
    cases hP : b.toC i e
    · left
      refine ⟨iI l, ?_, l, rfl, l1, l2, ?_⟩
      · rw [if_pos (show bI false = 0 from rfl), zbn_s, nI_1]
      · rw [ls9_f (P := fun m => b.toC m e) (m := i) hP] at l3; exact l3
    · rw [if_neg (show ¬ bI true = 0 by decide), X11_slot_ok, zcl_s, zin_nI (show i * 6 + e < 36 by omega) (by omega), zck_t, zbn_s, cl_n (show i * 6 + e < 2147483648 by omega), cf]
      cases ho : d.x.2.2 i e with
      | none =>
        right
        rw [if_pos (show oI none = -1 from rfl)]
        rw [ls9_n (P := fun m => b.toC m e) (o := fun m => d.x.2.2 m e) (m := i) hP ho] at l3
        rw [← l3]; rfl
      | some u =>
        have hu := cu u ho
        left
        refine ⟨iI (max l u), ?_, max l u, rfl, by omega, by omega, ?_⟩
        · rw [if_neg (oI_sn (by omega)), zbn_s, zbn_s, oI_s, iI_nat u, zmax_m (by omega) (by omega) (by omega) (by omega), nI_1]
        · rw [ls9_s (P := fun m => b.toC m e) (o := fun m => d.x.2.2 m e) (m := i) hP ho] at l3; exact l3
  · intro n v ⟨l, hv, l1, l2, l3⟩
    subst hv
    show f_X3_lastComes_4 N (nI b.M) B.masterMeets E.came (n + 1) (nI e) (iI l) (nI b.M) = some (iI (ls9 (fun m => b.toC m e) (fun m => d.x.2.2 m e) b.M 0 (-1)))
    rw [f_X3_lastComes_4, if_pos (nI_le (Nat.le_refl _) (by omega)), ← l3, Nat.sub_self]
    rfl
theorem DY.lasR (h : DY b d B D s) (N e : Nat) (hN : 10 ≤ N) (he : e < b.T) (cr : Nat → Int32) (o : Nat → Option Nat) (hcr : ∀ m, m < b.M → cr m = oI (o m)) (hu : ∀ m, m < b.M → ∀ u, o m = some u → u < 2000) : f_X12_lastOf N (nI e) s cr = some (iI (ls9 (fun m => b.toC m e) o b.M 0 (-1))) := by
  have m6 := h.M6
  have t6 := h.T6
  unfold f_X12_lastOf
  refine loopP (F := fun n i v => f_X12_lastOf_4 N s cr n (nI e) v (nI i)) (M := b.M) (Post := fun z => z = some (iI (ls9 (fun m => b.toC m e) o b.M 0 (-1)))) (fun i v => ∃ l : Int, v = iI l ∧ -1 ≤ l ∧ l < 2000 ∧ ls9 (fun m => b.toC m e) o (b.M - i) i l = ls9 (fun m => b.toC m e) o b.M 0 (-1)) ?_ ?_ N 0 (-1) (by omega) (by omega) ⟨-1, rfl, by omega, by omega, rfl⟩
  · intro n i v hi ⟨l, hv, l1, l2, l3⟩
    subst hv
    show (∃ x', f_X12_lastOf_4 N s cr (n + 1) (nI e) (iI l) (nI i) = f_X12_lastOf_4 N s cr n (nI e) x' (nI (i + 1)) ∧ ∃ l : Int, x' = iI l ∧ -1 ≤ l ∧ l < 2000 ∧ ls9 (fun m => b.toC m e) o (b.M - (i + 1)) (i + 1) l = ls9 (fun m => b.toC m e) o b.M 0 (-1)) ∨ f_X12_lastOf_4 N s cr (n + 1) (nI e) (iI l) (nI i) = some (iI (ls9 (fun m => b.toC m e) o b.M 0 (-1)))
    rw [show b.M - i = (b.M - (i + 1)) + 1 by omega] at l3
    have tc := (h.tc N i e hi he).2
    rw [f_X12_lastOf_4, h.sM, if_neg (nI_ge hi (by omega)), tc, zcl_s]
    cases hP : b.toC i e
    · left
      refine ⟨iI l, ?_, l, rfl, l1, l2, ?_⟩
      · rw [if_pos (show bI false = 0 from rfl), zbn_s, nI_1]
      · rw [ls9_f (P := fun m => b.toC m e) (m := i) hP] at l3; exact l3
    · rw [if_neg (show ¬ bI true = 0 by decide), zin_nI (show i < 6 by omega) (by omega), zck_t, cl_n (show i < 2147483648 by omega), hcr i hi]
      cases ho : o i with
      | none =>
        right
        rw [if_neg (show ¬ 0 ≤ oI none by decide)]
        rw [ls9_n (P := fun m => b.toC m e) (o := o) (m := i) hP ho] at l3
        rw [← l3]; rfl
      | some u =>
        have hu := hu i hi u ho
        left
        refine ⟨iI (max l u), ?_, max l u, rfl, by omega, by omega, ?_⟩
        · rw [oI_s, if_pos (show (0 : Int32) ≤ nI u from nI_le (Nat.zero_le u) (by omega)), iI_nat u, grt_m N (by omega) (by omega) (by omega) (by omega), zcl_s, zbn_s, nI_1]
        · rw [ls9_s (P := fun m => b.toC m e) (o := o) (m := i) hP ho] at l3; exact l3
  · intro n v ⟨l, hv, l1, l2, l3⟩
    subst hv
    show f_X12_lastOf_4 N s cr (n + 1) (nI e) (iI l) (nI b.M) = some (iI (ls9 (fun m => b.toC m e) o b.M 0 (-1)))
    rw [f_X12_lastOf_4, h.sM, if_pos (nI_le (Nat.le_refl _) (by omega)), ← l3, Nat.sub_self]
    rfl
theorem DY.cmb (h : DY b d B E s) (N e : Nat) (hN : 10 ≤ N) (he : e < b.T) (last : Int) (hl : 0 ≤ last) (hl2 : last < 100000) : f_X3_cameBy N (nI e) (iI last) B.masters E.came = some (bmk (fun m => cb9 (d.x.2.2 m e) last) b.M) := by
  have m6 := h.M6
  have t6 := h.T6
  unfold f_X3_cameBy
  rw [h.nM]
  refine loopV (F := fun n i v => f_X3_cameBy_5 N (nI b.M) E.came n (nI e) (iI last) v (nI i)) (M := b.M) (fun i => bmk (fun m => cb9 (d.x.2.2 m e) last) i) _ ?_ ?_ N 0 (by omega) (by omega)
  · intro n i hi
    have cf := (h.cf hi he).1
    have cu := (h.cf hi he).2.2
    show f_X3_cameBy_5 N (nI b.M) E.came (n + 1) (nI e) (iI last) (bmk (fun m => cb9 (d.x.2.2 m e) last) i) (nI i) = f_X3_cameBy_5 N (nI b.M) E.came n (nI e) (iI last) (bmk (fun m => cb9 (d.x.2.2 m e) last) (i + 1)) (nI (i + 1))
    rw [f_X3_cameBy_5, if_neg (nI_ge hi (by omega)), X11_slot_ok, zcl_s, zin_nI (show i * 6 + e < 36 by omega) (by omega), zck_t, zbn_s, cl_n (show i * 6 + e < 2147483648 by omega), cf]
    cases ho : d.x.2.2 i e with
    | none => rw [if_pos (show oI none = -1 from rfl), zbn_s, nI_1, bmk_f (P := fun m => cb9 (d.x.2.2 m e) last) (n := i) (show cb9 (d.x.2.2 i e) last = false by rw [ho]; rfl)]
    | some u =>
      have hu := cu u ho
      rw [if_neg (oI_sn (by omega)), oI_s]
      by_cases c : (u : Int) ≤ last
      · rw [if_neg (show ¬ iI last < nI u by rw [iI_nat, iI_lt ⟨by omega, by omega⟩ ⟨by omega, by omega⟩]; omega), zbn_s, zbn_s, nI_1, bmk_t (P := fun m => cb9 (d.x.2.2 m e) last) (n := i) (show cb9 (d.x.2.2 i e) last = true by rw [ho]; exact decide_eq_true c)]
      · rw [if_pos (show iI last < nI u by rw [iI_nat, iI_lt ⟨by omega, by omega⟩ ⟨by omega, by omega⟩]; omega), zbn_s, nI_1, bmk_f (P := fun m => cb9 (d.x.2.2 m e) last) (n := i) (show cb9 (d.x.2.2 i e) last = false by rw [ho]; exact decide_eq_false c)]
  · intro n
    show f_X3_cameBy_5 N (nI b.M) E.came (n + 1) (nI e) (iI last) (bmk (fun m => cb9 (d.x.2.2 m e) last) b.M) (nI b.M) = _
    rw [f_X3_cameBy_5, if_pos (nI_le (Nat.le_refl _) (by omega))]
theorem bmk_andn {P Q : Nat → Bool} {n : Nat} (hn : n ≤ 32) : bmk P n &&& (bmk Q n ^^^ (-1)) = bmk (fun m => P m && !Q m) n := by
  apply b_ext
  intro i hi
  rw [b_and, b_xor, bmk_bit hn, bmk_bit hn, bmk_bit hn, b_m1 i hi]
  by_cases c : i < n
  · rw [decide_eq_true c]; simp
  · rw [decide_eq_false c]; simp
theorem DY.misR (h : DY b d B D s) (hB : BR b B s nm) (N e : Nat) (hN : 10 ≤ N) (he : e < b.T) (w cr : Nat → Int32) (o : Nat → Option Nat) (hcr : ∀ m, m < b.M → cr m = oI (o m)) (hu : ∀ m, m < b.M → ∀ u, o m = some u → u < 2000) : f_X12_missed_27 N N (nI e) 0 0 0 s w cr = some (bmk (fun m => b.toC m e && !cb9 (o m) (d.du e + b.pat)) b.M, 0, s, w, cr) := by
  have m6 := h.M6
  have t6 := h.T6
  obtain ⟨-, u2, u3, u4⟩ := h.du9 he
  have p3 : s 3 = iI b.pat := by rw [hB.1.2.2.2.2.2.2.2.2.2.2.1, iI_nat]
  have p4 : b.pat ≤ 99 := hB.1.2.2.2.2.2.2.2.2.2.2.2
  refine loopV (F := fun n i v => f_X12_missed_27 N n (nI e) v (nI i) 0 s w cr) (M := b.M) (fun i => bmk (fun m => b.toC m e && !cb9 (o m) (d.du e + b.pat)) i) _ ?_ ?_ N 0 (by omega) (by omega)
  · intro n i hi
    have tc := (h.tc N i e hi he).2
    show f_X12_missed_27 N (n + 1) (nI e) (bmk (fun m => b.toC m e && !cb9 (o m) (d.du e + b.pat)) i) (nI i) 0 s w cr = f_X12_missed_27 N n (nI e) (bmk (fun m => b.toC m e && !cb9 (o m) (d.du e + b.pat)) (i + 1)) (nI (i + 1)) 0 s w cr
    rw [f_X12_missed_27, h.sM, if_neg (nI_ge hi (by omega)), tc, zcl_s]
    cases hP : b.toC i e
    · rw [if_pos (show bI false = 0 from rfl), bmk_f (P := fun m => b.toC m e && !cb9 (o m) (d.du e + b.pat)) (n := i) (show (b.toC i e && !cb9 (o i) (d.du e + b.pat)) = false by rw [hP]; rfl)]
      unfold f_X12_missed_87 f_X12_missed_88
      rw [zbn_s, zbn_s, int32_or0, nI_1]
    · rw [if_neg (show ¬ bI true = 0 by decide), zin_nI (show i < 6 by omega) (by omega), zck_t, cl_n (show i < 2147483648 by omega), hcr i hi]
      cases ho : o i with
      | none =>
        rw [if_pos (show oI none < 0 by decide), bmk_t (P := fun m => b.toC m e && !cb9 (o m) (d.du e + b.pat)) (n := i) (show (b.toC i e && !cb9 (o i) (d.du e + b.pat)) = true by rw [hP, ho]; rfl)]
        unfold f_X12_missed_81 f_X12_missed_88
        rw [zbn_s, zbn_s, nI_1]
      | some u =>
        have hu := hu i hi u ho
        rw [oI_s, if_neg (show ¬ nI u < 0 from nI_nlt (Nat.zero_le u) (by omega)), show (75 : Int32) + nI e = nI (75 + e) by rw [show (75 : Int32) = nI 75 from rfl, nI_add], zin_nI (show 75 + e < 334 by omega) (by omega), zck_t, cl_n (show 75 + e < 2147483648 by omega), u2, p3, iI_add]
        by_cases c : (u : Int) ≤ d.du e + b.pat
        · rw [if_pos (show nI u ≤ iI (d.du e + b.pat) by rw [iI_nat, iI_le ⟨by omega, by omega⟩ ⟨by omega, by omega⟩]; exact c), bmk_f (P := fun m => b.toC m e && !cb9 (o m) (d.du e + b.pat)) (n := i) (show (b.toC i e && !cb9 (o i) (d.du e + b.pat)) = false by rw [hP, ho]; rw [cb9_s, decide_eq_true c]; rfl)]
          unfold f_X12_missed_87 f_X12_missed_88
          rw [zbn_s, zbn_s, int32_or0, nI_1]
        · rw [if_neg (show ¬ nI u ≤ iI (d.du e + b.pat) by rw [iI_nat, iI_le ⟨by omega, by omega⟩ ⟨by omega, by omega⟩]; exact c), bmk_t (P := fun m => b.toC m e && !cb9 (o m) (d.du e + b.pat)) (n := i) (show (b.toC i e && !cb9 (o i) (d.du e + b.pat)) = true by rw [hP, ho]; rw [cb9_s, decide_eq_false c]; rfl)]
          unfold f_X12_missed_81 f_X12_missed_88
          rw [zbn_s, zbn_s, nI_1]
  · intro n
    show f_X12_missed_27 N (n + 1) (nI e) (bmk (fun m => b.toC m e && !cb9 (o m) (d.du e + b.pat)) b.M) (nI b.M) 0 s w cr = _
    rw [f_X12_missed_27, h.sM, if_pos (nI_le (Nat.le_refl _) (by omega))]
theorem DY.cauR (h : DY b d B D s) (N e : Nat) (hN : 10 ≤ N) (he : e < b.T) (w cr : Nat → Int32) (o : Nat → Option Nat) (hcr : ∀ m, m < b.M → cr m = oI (o m)) (hu : ∀ m, m < b.M → ∀ u, o m = some u → u < 2000 ∧ b.toC m e = true) : f_X12_caught_27 N N (nI e) 0 0 0 s w cr = some (bmk (fun m => cb9 (o m) (d.du e)) b.M, 0, s, w, cr) := by
  have m6 := h.M6
  have t6 := h.T6
  obtain ⟨-, u2, u3, u4⟩ := h.du9 he
  refine loopV (F := fun n i v => f_X12_caught_27 N n (nI e) v (nI i) 0 s w cr) (M := b.M) (fun i => bmk (fun m => cb9 (o m) (d.du e)) i) _ ?_ ?_ N 0 (by omega) (by omega)
  · intro n i hi
    have tc := (h.tc N i e hi he).2
    show f_X12_caught_27 N (n + 1) (nI e) (bmk (fun m => cb9 (o m) (d.du e)) i) (nI i) 0 s w cr = f_X12_caught_27 N n (nI e) (bmk (fun m => cb9 (o m) (d.du e)) (i + 1)) (nI (i + 1)) 0 s w cr
    rw [f_X12_caught_27, h.sM, if_neg (nI_ge hi (by omega)), tc, zcl_s]
    cases hP : b.toC i e
    · have ho : o i = none := by
        cases ho : o i with
        | none => rfl
        | some u => have := (hu i hi u ho).2; rw [hP] at this; cases this
      rw [if_pos (show bI false = 0 from rfl), bmk_f (P := fun m => cb9 (o m) (d.du e)) (n := i) (show cb9 (o i) (d.du e) = false by rw [ho]; rfl)]
      unfold f_X12_caught_75 f_X12_caught_76
      rw [zbn_s, zbn_s, int32_or0, nI_1]
    · rw [if_neg (show ¬ bI true = 0 by decide), zin_nI (show i < 6 by omega) (by omega), zck_t, cl_n (show i < 2147483648 by omega), hcr i hi, show (75 : Int32) + nI e = nI (75 + e) by rw [show (75 : Int32) = nI 75 from rfl, nI_add], zin_nI (show 75 + e < 334 by omega) (by omega), zck_t, cl_n (show 75 + e < 2147483648 by omega), u2]
      cases ho : o i with
      | none =>
        have e1 : f_X12_isIn N (oI none) 0 (iI (d.du e)) = some 0 := by unfold f_X12_isIn; rw [if_pos (show oI none < 0 by decide)]
        rw [e1, zcl_s, if_pos rfl, bmk_f (P := fun m => cb9 (o m) (d.du e)) (n := i) (show cb9 (o i) (d.du e) = false by rw [ho]; rfl)]
        unfold f_X12_caught_75 f_X12_caught_76
        rw [zbn_s, zbn_s, int32_or0, nI_1]
      | some u =>
        have hu := (hu i hi u ho).1
        have e1 : f_X12_isIn N (oI (some u)) 0 (iI (d.du e)) = some (bI (decide ((u : Int) ≤ d.du e))) := by
          unfold f_X12_isIn
          rw [oI_s, if_neg (show ¬ nI u < 0 from nI_nlt (Nat.zero_le u) (by omega))]
          by_cases c : (u : Int) ≤ d.du e
          · rw [if_neg (show ¬ iI (d.du e) < nI u by rw [iI_nat, iI_lt ⟨by omega, by omega⟩ ⟨by omega, by omega⟩]; omega), decide_eq_true c]; rfl
          · rw [if_pos (show iI (d.du e) < nI u by rw [iI_nat, iI_lt ⟨by omega, by omega⟩ ⟨by omega, by omega⟩]; omega), decide_eq_false c]; rfl
        rw [e1, zcl_s]
        by_cases c : (u : Int) ≤ d.du e
        · rw [decide_eq_true c, if_neg (show ¬ bI true = 0 by decide), bmk_t (P := fun m => cb9 (o m) (d.du e)) (n := i) (show cb9 (o i) (d.du e) = true by rw [ho]; exact decide_eq_true c)]
          unfold f_X12_caught_76
          rw [zbn_s, zbn_s, nI_1]
        · rw [decide_eq_false c, if_pos (show bI false = 0 from rfl), bmk_f (P := fun m => cb9 (o m) (d.du e)) (n := i) (show cb9 (o i) (d.du e) = false by rw [ho]; exact decide_eq_false c)]
          unfold f_X12_caught_75 f_X12_caught_76
          rw [zbn_s, zbn_s, int32_or0, nI_1]
  · intro n
    show f_X12_caught_27 N (n + 1) (nI e) (bmk (fun m => cb9 (o m) (d.du e)) b.M) (nI b.M) 0 s w cr = _
    rw [f_X12_caught_27, h.sM, if_pos (nI_le (Nat.le_refl _) (by omega))]
end FORE
theorem p_comes (N : Nat) (hN : 5000 ≤ N) (x0 x1 : Int32) : Ok9 (F_comes N x0 x1) (G_comes N x0 x1) := by
  intro k r hR
  have hR0 := hR
  obtain ⟨b, d, ⟨hB, h, hS⟩, hH, hI, hT, hf, hl, hm, ht, hv⟩ := hR
  rcases h.isM N x0 with ⟨m, hm', rfl, a1, a2⟩ | ⟨a1, a2⟩
  · rcases h.isT N x1 with ⟨e, he, rfl, c1, c2⟩ | ⟨c1, c2⟩
    · have m6 := h.M6
      have t6 := h.T6
      obtain ⟨E', f1, s', hE⟩ := h.fore k.trial N (by omega)
      obtain ⟨w', cr', l1, l2⟩ := h.lays N 2000 e (by omega) (by omega) he r.before r.comeRow
      have i1 : f_X11_comes N (nI m) (nI e) k.here.masters k.here.meets k.day.minute k.day.out k.day.stopped k.trial.minute k.trial.out k.trial.stopped k.day.ahead k.trial.ahead k.day.since k.trial.since k.day.stood k.trial.stood k.day.due k.trial.due k.day.left k.trial.left k.day.came k.trial.came k.here.masterMeets k.here.masterCorner k.here.masterClock k.here.masterLate k.here.clockGain = some (oI ((pasD b d (min 2000 (2000 - d.t))).x.2.2 m e), E'.minute, E'.out, E'.stopped, E'.ahead, E'.since, E'.stood, E'.due, E'.left, E'.came) := by
        unfold f_X11_comes
        rw [a1, zcl_s, if_neg one0, c1, zcl_s, if_neg one0, f1, zcl_s, X11_slot_ok, zcl_s, zin_nI (show m * 6 + e < 36 by omega) (by omega), zck_t, cl_n (show m * 6 + e < 2147483648 by omega)]
        show some (E'.came (m * 6 + e), _) = _
        rw [(hE.cf hm' he).1]
      have i2 : f_X12_comes N (nI m) (nI e) r.thrown r.s r.before r.comeRow = some (oI ((pasD b d (min 2000 (2000 - d.t))).x.2.2 m e), 0, r.s, w', cr') := by
        unfold f_X12_comes
        rw [a2, zcl_s, if_neg one0, c2, zcl_s, if_neg one0, show (2000 : Int32) = nI 2000 from rfl, l1, zcl_s, zin_nI (show m < 6 by omega) (by omega), zck_t, cl_n (show m < 2147483648 by omega)]
        show some (cr' m, _) = _
        rw [l2 m hm']
      refine ⟨_, _, _, by unfold F_comes; rw [i1, zcl_s], by unfold G_comes; rw [i2, zcl_s], ?_⟩
      exact ⟨b, d, ⟨hB, h, hS⟩, hH, hI, hT, hf, hl, hm, ht, hv⟩
    · exact ⟨-1, k, r.thr 0, by unfold F_comes f_X11_comes; rw [a1, zcl_s, if_neg one0, c1, zcl_s, if_pos rfl]; rfl, by unfold G_comes f_X12_comes; rw [a2, zcl_s, if_neg one0, c2, zcl_s, if_pos rfl]; rfl, hR0.th 0⟩
  · exact ⟨-1, k, r.thr 0, by unfold F_comes f_X11_comes; rw [a1, zcl_s, if_pos rfl]; rfl, by unfold G_comes f_X12_comes; rw [a2, zcl_s, if_pos rfl]; rfl, hR0.th 0⟩
theorem p_all (N : Nat) (hN : 5000 ≤ N) (x0 : Int32) : Ok9 (F_all N x0) (G_all N x0) := by
  intro k r hR
  have hR0 := hR
  obtain ⟨b, d, ⟨hB, h, hS⟩, hH, hI, hT, hf, hl, hm, ht, hv⟩ := hR
  rcases h.isT N x0 with ⟨e, he, rfl, c1, c2⟩ | ⟨c1, c2⟩
  · obtain ⟨E', f1, s', hE⟩ := h.fore k.trial N (by omega)
    obtain ⟨w', cr', l1, l2⟩ := h.lays N 2000 e (by omega) (by omega) he r.before r.comeRow
    have g1 := hE.lasC N e (by omega) he
    have g2 := h.lasR N e (by omega) he cr' _ l2 (fun m hm' u hu => (hE.cf hm' he).2.2 u hu)
    refine ⟨_, _, _, by unfold F_all f_X11_all; rw [c1, zcl_s, if_neg one0, f1, zcl_s, g1, zcl_s, zcl_s], by unfold G_all f_X12_all; rw [c2, zcl_s, if_neg one0, show (2000 : Int32) = nI 2000 from rfl, l1, zcl_s, g2, zcl_s, zcl_s], ?_⟩
    exact ⟨b, d, ⟨hB, h, hS⟩, hH, hI, hT, hf, hl, hm, ht, hv⟩
  · exact ⟨-1, k, r.thr 0, by unfold F_all f_X11_all; rw [c1, zcl_s, if_pos rfl]; rfl, by unfold G_all f_X12_all; rw [c2, zcl_s, if_pos rfl]; rfl, hR0.th 0⟩
theorem p_missed (N : Nat) (hN : 5000 ≤ N) (x0 : Int32) : Ok9 (F_missed N x0) (G_missed N x0) := by
  intro k r hR
  have hR0 := hR
  obtain ⟨b, d, ⟨hB, h, hS⟩, hH, hI, hT, hf, hl, hm, ht, hv⟩ := hR
  rcases h.isT N x0 with ⟨e, he, rfl, c1, c2⟩ | ⟨c1, c2⟩
  · have t6 := h.T6
    have m6 := h.M6
    obtain ⟨E', f1, s', hE⟩ := h.fore k.trial N (by omega)
    obtain ⟨w', cr', l1, l2⟩ := h.lays N 2000 e (by omega) (by omega) he r.before r.comeRow
    obtain ⟨-, -, u3, u4⟩ := h.du9 he
    have p2 : k.here.patience = iI b.pat := by rw [hB.1.2.2.2.2.2.2.2.2.2.1, iI_nat]
    have p4 : b.pat ≤ 99 := hB.1.2.2.2.2.2.2.2.2.2.2.2
    have ed : E'.due e = iI (d.du e) := (hE.du9 he).1
    have g1 := hE.cmb N e (by omega) he (d.du e + b.pat) (by omega) (by omega)
    have g2 := h.misR hB N e (by omega) he w' cr' _ l2 (fun m hm' u hu => (hE.cf hm' he).2.2 u hu)
    have g3 := h.sTo N e (by omega) he
    have i1 : f_X11_missed N (nI e) k.here.masters k.here.meets k.here.patience k.day.minute k.day.out k.day.stopped k.trial.minute k.trial.out k.trial.stopped k.day.ahead k.trial.ahead k.day.since k.trial.since k.day.stood k.trial.stood k.day.due k.trial.due k.day.left k.trial.left k.day.came k.trial.came k.here.masterMeets k.here.masterCorner k.here.masterClock k.here.masterLate k.here.clockGain = some (bmk (fun m => b.toC m e && !cb9 ((pasD b d (min 2000 (2000 - d.t))).x.2.2 m e) (d.du e + b.pat)) b.M, E'.minute, E'.out, E'.stopped, E'.ahead, E'.since, E'.stood, E'.due, E'.left, E'.came) := by
      unfold f_X11_missed
      rw [c1, zcl_s, if_neg one0, f1, zcl_s, g3, zcl_s, zin_nI (show e < 6 by omega) (by omega), zck_t, cl_n (show e < 2147483648 by omega)]
      dsimp only
      rw [ed, p2, iI_add, g1, zcl_s, bmk_andn (by omega)]
    refine ⟨_, _, _, by unfold F_missed; rw [i1, zcl_s], by unfold G_missed f_X12_missed; rw [c2, zcl_s, if_neg one0, show (2000 : Int32) = nI 2000 from rfl, l1, zcl_s, g2, zcl_s], ?_⟩
    exact ⟨b, d, ⟨hB, h, hS⟩, hH, hI, hT, hf, hl, hm, ht, hv⟩
  · exact ⟨-1, k, r.thr 0, by unfold F_missed f_X11_missed; rw [c1, zcl_s, if_pos rfl]; rfl, by unfold G_missed f_X12_missed; rw [c2, zcl_s, if_pos rfl]; rfl, hR0.th 0⟩
theorem p_caught (N : Nat) (hN : 5000 ≤ N) (x0 : Int32) : Ok9 (F_caught N x0) (G_caught N x0) := by
  intro k r hR
  have hR0 := hR
  obtain ⟨b, d, ⟨hB, h, hS⟩, hH, hI, hT, hf, hl, hm, ht, hv⟩ := hR
  rcases h.isT N x0 with ⟨e, he, rfl, c1, c2⟩ | ⟨c1, c2⟩
  · have t6 := h.T6
    obtain ⟨E', f1, s', hE⟩ := h.fore k.trial N (by omega)
    obtain ⟨w', cr', l1, l2⟩ := h.lays N 2000 e (by omega) (by omega) he r.before r.comeRow
    obtain ⟨-, -, u3, u4⟩ := h.du9 he
    have ed : E'.due e = iI (d.du e) := (hE.du9 he).1
    have g1 := hE.cmb N e (by omega) he (d.du e) (by omega) (by omega)
    have g2 := h.cauR N e (by omega) he w' cr' _ l2 (fun m hm' u hu => ⟨(hE.cf hm' he).2.2 u hu, (hE.cb hm' he u hu).2.1⟩)
    have i1 : f_X11_caught N (nI e) k.here.masters k.here.meets k.day.minute k.day.out k.day.stopped k.trial.minute k.trial.out k.trial.stopped k.day.ahead k.trial.ahead k.day.since k.trial.since k.day.stood k.trial.stood k.day.due k.trial.due k.day.left k.trial.left k.day.came k.trial.came k.here.masterMeets k.here.masterCorner k.here.masterClock k.here.masterLate k.here.clockGain = some (bmk (fun m => cb9 ((pasD b d (min 2000 (2000 - d.t))).x.2.2 m e) (d.du e)) b.M, E'.minute, E'.out, E'.stopped, E'.ahead, E'.since, E'.stood, E'.due, E'.left, E'.came) := by
      unfold f_X11_caught
      rw [c1, zcl_s, if_neg one0, f1, zcl_s, zin_nI (show e < 6 by omega) (by omega), zck_t, cl_n (show e < 2147483648 by omega)]
      dsimp only
      rw [ed, g1, zcl_s]
    refine ⟨_, _, _, by unfold F_caught; rw [i1, zcl_s], by unfold G_caught f_X12_caught; rw [c2, zcl_s, if_neg one0, show (2000 : Int32) = nI 2000 from rfl, l1, zcl_s, g2, zcl_s], ?_⟩
    exact ⟨b, d, ⟨hB, h, hS⟩, hH, hI, hT, hf, hl, hm, ht, hv⟩
  · exact ⟨-1, k, r.thr 0, by unfold F_caught f_X11_caught; rw [c1, zcl_s, if_pos rfl]; rfl, by unfold G_caught f_X12_caught; rw [c2, zcl_s, if_pos rfl]; rfl, hR0.th 0⟩
