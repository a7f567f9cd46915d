/-! ===== the dial's text, and the reference's ===== -/
def spS (k : Nat) : Int32 := nI (8 * k) + Int32.ofInt (-8)
theorem spS_e : ∀ k, k < 8 → spS (k + 1) = nI (8 * k) := by decide +kernel
theorem spS_7 : spS 7 = 48 := by decide +kernel
theorem spS_8 : spS 8 = 56 := by decide +kernel
theorem spS_0 : spS 0 < 0 := by decide +kernel
/-- the letter at k -/
def lt9 (w : Int64) (k : Nat) : Nat := ob (Int64.toInt32 (zlshr w (nI (8 * k))))
/-- the letters of a word, from the one at k - 1 down, behind a text -/
def sy9 (w : Int64) : Nat → (Nat → Nat) × Nat → (Nat → Nat) × Nat
  | 0, a => a
  | k + 1, a => if lt9 w k = 0 then sy9 w k a else sy9 w k (sb_cat a.1 a.2 (fun _ => lt9 w k), a.2 + 1)
/-- n letters behind a text -/
def fa9 (a : (Nat → Nat) × Nat) (n : Nat) (s : Nat → Nat) : (Nat → Nat) × Nat := (sb_cat a.1 a.2 s, a.2 + n)
def fc9h (v : Nat) (a : (Nat → Nat) × Nat) : (Nat → Nat) × Nat := if v / 60 < 10 then fa9 a 1 (fun _ => 48 + v / 60) else fa9 a 2 (fun i => if i = 0 then 48 + v / 60 / 10 else 48 + v / 60 % 10)
def fc9m (v : Nat) (a : (Nat → Nat) × Nat) : (Nat → Nat) × Nat := fa9 (fa9 (fa9 a 1 (fun _ => 46)) 1 (fun _ => 48 + v % 60 / 10)) 1 (fun _ => 48 + v % 10)
def fc9e (b : Bool) (a : (Nat → Nat) × Nat) : (Nat → Nat) × Nat := if b = true then fa9 a 8 (fun j => (zch 2 j).toInt.toNat) else a
/-- what face lays on the dial -/
def fc9 (w : Int64) (v : Nat) (b : Bool) : (Nat → Nat) × Nat := fc9e b (fc9m v (fc9h v (fa9 (sy9 w 7 ((fun _ => 0), 0)) 7 (fun j => (zch 1 j).toInt.toNat))))
theorem sy9_le (w : Int64) : ∀ (k : Nat) (a : (Nat → Nat) × Nat), (sy9 w k a).2 ≤ a.2 + k
  | 0, _ => Nat.le_refl _
  | k + 1, a => by
    rw [sy9]
    split
    · have := sy9_le w k a; omega
    · exact Nat.le_trans (sy9_le w k _) (show a.2 + 1 + k ≤ a.2 + (k + 1) by omega)
theorem fc_num : ∀ v, v < 720 → nI v / 60 = nI (v / 60) ∧ (48 : Int32) + zrem (nI v) 60 / (10 : Int32) = nI (48 + v % 60 / 10) ∧ (48 : Int32) + zrem (nI v) 10 = nI (48 + v % 10) ∧ (48 : Int32) + zrem (zrem (nI v) 60) 10 = nI (48 + v % 10) ∧ (48 : Int32) + zrem (nI v / 60) 10 = nI (48 + v / 60 % 10) := by decide +kernel
/-- the reference's text -/
def TX (a : (Nat → Nat) × Nat) (tm : Int32) (tx : Nat → Int32) : Prop := tm = nI a.2 ∧ ∀ i, i < a.2 → a.1 i < 128 ∧ tx i = nI (a.1 i)
theorem TX.cong {a a' : (Nat → Nat) × Nat} {tm : Int32} {tx : Nat → Int32} (h : TX a tm tx) (e : a'.2 = a.2) (h1 : ∀ i, i < a.2 → a'.1 i = a.1 i) : TX a' tm tx := by
  refine ⟨by rw [e]; exact h.1, fun i hi => ?_⟩
  rw [e] at hi
  rw [h1 i hi]
  exact h.2 i hi
theorem b8_n : ∀ c, c < 128 → Int8.toInt32 (Int32.toInt8 (nI c)) = nI c := by decide +kernel
theorem cat_lo {t : Nat → Nat} {n i : Nat} {s : Nat → Nat} (h : i < n) : sb_cat t n s i = t i := if_pos h
theorem cat_hi {t : Nat → Nat} {n i : Nat} {s : Nat → Nat} : sb_cat t n s (n + i) = s i := by
  unfold sb_cat
  rw [if_neg (by omega), Nat.add_sub_cancel_left]
theorem lay_ok {a : (Nat → Nat) × Nat} {n : Nat} {s : Nat → Nat} {tm : Int32} {tx : Nat → Int32} (N : Nat) (h : TX (fa9 a n s) tm tx) (hs : s n < 128) (hl : a.2 + n < 40) : ∃ tm' tx', f_X12_lays N (nI (s n)) tm tx = some (tm', tx') ∧ TX (fa9 a (n + 1) s) tm' tx' := by
  unfold f_X12_lays
  have h1 : tm = nI (a.2 + n) := h.1
  rw [zbn_s, b8_n _ hs, h1, zin_nI hl (by omega), zck_t, zbn_s, zbn_s, b8_n _ hs, cl_n (show a.2 + n < 2147483648 by omega), nI_1]
  refine ⟨_, _, rfl, rfl, fun i hi => ?_⟩
  have hi' : i < a.2 + (n + 1) := hi
  show sb_cat a.1 a.2 s i < 128 ∧ upd tx (a.2 + n) (nI (s n)) i = nI (sb_cat a.1 a.2 s i)
  by_cases e : i = a.2 + n
  · subst e
    rw [cat_hi, pk_us]
    exact ⟨hs, rfl⟩
  · rw [pk_un e]
    exact h.2 i (show i < a.2 + n by omega)
theorem TX.z {a : (Nat → Nat) × Nat} {tm : Int32} {tx : Nat → Int32} (h : TX a tm tx) (s : Nat → Nat) : TX (fa9 a 0 s) tm tx := h.cong rfl (fun _ hi => cat_lo hi)
theorem lay1_ok {a : (Nat → Nat) × Nat} {c : Nat} {tm : Int32} {tx : Nat → Int32} (N : Nat) (h : TX a tm tx) (hs : c < 128) (hl : a.2 < 40) : ∃ tm' tx', f_X12_lays N (nI c) tm tx = some (tm', tx') ∧ TX (fa9 a 1 (fun _ => c)) tm' tx' := lay_ok (a := a) (n := 0) (s := fun _ => c) N (h.z (fun _ => c)) hs hl
theorem o64 (x : Int64) : ob (Int64.toInt32 x) = x.toBitVec.toNat % 256 := by
  unfold ob
  rw [Int64.toBitVec_toInt32, BitVec.signExtend_eq_setWidth_of_le _ (by decide), BitVec.toNat_setWidth]
  omega
theorem o64_n (x : Int64) : (x &&& 255).toBitVec.toNat = x.toBitVec.toNat % 256 := by
  show (x.toBitVec &&& 255#64).toNat = _
  rw [BitVec.toNat_and]
  exact Nat.and_two_pow_sub_one_eq_mod x.toBitVec.toNat 8
theorem o64_i (x : Int64) : Int64.toInt32 (x &&& 255) = nI (ob (Int64.toInt32 x)) := by
  rw [← ob_e]
  apply Int32.toBitVec_inj.mp
  show (x.toBitVec &&& 255#64).signExtend 32 = (x.toBitVec.signExtend 32) &&& 255#32
  rw [BitVec.signExtend_eq_setWidth_of_le _ (by decide), BitVec.signExtend_eq_setWidth_of_le _ (by decide), BitVec.setWidth_and]
  rfl
theorem o64_z (x : Int64) : (lg_cmp (x &&& 255) 0 = 0) ↔ ob (Int64.toInt32 x) = 0 := by
  rw [o64, ← o64_n]
  constructor
  · intro h
    have : x &&& 255 = 0 := lgc.mp h
    rw [this]; rfl
  · intro h
    have : x &&& 255 = 0 := by
      apply Int64.toBitVec_inj.mp
      apply BitVec.eq_of_toNat_eq
      rw [h]; rfl
    rw [this]; rfl
theorem spl_ok (N : Nat) (w : Int64) : ∀ (k n : Nat) (a : (Nat → Nat) × Nat) (tm : Int32) (tx : Nat → Int32), k ≤ 8 → k < n → (∀ j, j < k → lt9 w j < 128) → a.2 + k ≤ 40 → TX a tm tx → ∃ tm' tx', f_X12_spells_3 N n w (spS k) tm tx = some (tm', tx') ∧ TX (sy9 w k a) tm' tx' := by
  intro k
  induction k with
  | zero =>
    intro n a tm tx _ hn _ _ h
    obtain ⟨n, rfl⟩ : ∃ q, n = q + 1 := ⟨n - 1, by omega⟩
    rw [f_X12_spells_3, if_pos spS_0]
    exact ⟨_, _, rfl, h⟩
  | succ k ih =>
    intro n a tm tx hk hn hl h4 h
    obtain ⟨n, rfl⟩ : ∃ q, n = q + 1 := ⟨n - 1, by omega⟩
    have es : nI (8 * k) + (-8) = spS k := by unfold spS; rfl
    rw [f_X12_spells_3, spS_e k (by omega), if_neg (show ¬ nI (8 * k) < 0 from nI_nlt (b := 0) (Nat.zero_le _) (by omega)), sy9]
    by_cases c : lt9 w k = 0
    · rw [if_pos ((o64_z _).mpr c), if_pos c, zbn_s, es]
      exact ih n a tm tx (by omega) (by omega) (fun j hj => hl j (by omega)) (by omega) h
    · rw [if_neg (fun z => c ((o64_z _).mp z)), if_neg c, o64_i]
      obtain ⟨tm1, tx1, e1, e2⟩ := lay1_ok N h (hl k (by omega)) (by omega)
      rw [show nI (ob (Int64.toInt32 (zlshr w (nI (8 * k))))) = nI (lt9 w k) from rfl, e1, zcl_s, zbn_s, es]
      exact ih n _ tm1 tx1 (by omega) (by omega) (fun j hj => hl j (by omega)) (by show a.2 + 1 + k ≤ 40; omega) e2
theorem splA_ok (N : Nat) (hN : 10 ≤ N) (w : Int64) (a : (Nat → Nat) × Nat) (tm : Int32) (tx : Nat → Int32) (hl : ∀ j, j < 8 → lt9 w j < 128) (h4 : a.2 + 8 ≤ 40) (h : TX a tm tx) : ∃ tm' tx', f_X12_spells N w tm tx = some (tm', tx') ∧ TX (sy9 w 8 a) tm' tx' := by
  unfold f_X12_spells
  rw [← spS_8]
  exact spl_ok N w 8 N a tm tx (by omega) (by omega) hl h4 h
/-- a name is spelt alike by both -/
theorem wd_lt {w : Int64} (h : wd9 w) : (∀ j, j < 8 → lt9 w j < 128) ∧ lt9 w 7 = 0 := by
  have m : w.toBitVec.msb = false := by
    rw [BitVec.msb_eq_decide]
    exact decide_eq_false (by have := h.1; omega)
  have sm : ∀ k, k < 8 → (((nI (8 * k)).toInt64 &&& 63).toBitVec.smod 64).toNat = 8 * k := by decide +kernel
  have e : ∀ k, k < 8 → lt9 w k = w.toBitVec.toNat / 2 ^ (8 * k) % 256 := by
    intro k hk
    unfold lt9
    rw [o64]
    have : (zlshr w (nI (8 * k))).toBitVec.toNat = w.toBitVec.toNat / 2 ^ (8 * k) := by
      show (w.toBitVec.sshiftRight (((nI (8 * k)).toInt64 &&& 63).toBitVec.smod 64).toNat).toNat = _
      rw [sm k hk, BitVec.sshiftRight_eq_of_msb_false m, BitVec.toNat_ushiftRight, Nat.shiftRight_eq_div_pow]
    rw [this]
  have z : lt9 w 7 = 0 := by
    rw [e 7 (by omega), Nat.div_eq_of_lt (show w.toBitVec.toNat < 2 ^ (8 * 7) from h.1)]
  refine ⟨fun j hj => ?_, z⟩
  by_cases c : j = 7
  · subst c; rw [z]; decide
  · rw [e j hj]; exact h.2 j (by omega)
theorem spl_z (N : Nat) (w : Int64) : ∀ (d k n : Nat) (tm : Int32) (tx : Nat → Int32), k + d ≤ 8 → (∀ j, k ≤ j → j < k + d → lt9 w j = 0) → f_X12_spells_3 N (n + d) w (spS (k + d)) tm tx = f_X12_spells_3 N n w (spS k) tm tx := by
  intro d
  induction d with
  | zero => intro k n tm tx _ _; rfl
  | succ d ih =>
    intro k n tm tx h8 hz
    have es : nI (8 * (k + d)) + (-8) = spS (k + d) := by unfold spS; rfl
    have e1 : f_X12_spells_3 N (n + (d + 1)) w (spS (k + (d + 1))) tm tx = f_X12_spells_3 N (n + d) w (spS (k + d)) tm tx := by
      show f_X12_spells_3 N (n + d + 1) w (spS (k + d + 1)) tm tx = _
      rw [f_X12_spells_3, spS_e (k + d) (by omega), if_neg (show ¬ nI (8 * (k + d)) < 0 from nI_nlt (b := 0) (Nat.zero_le _) (by omega)), if_pos ((o64_z _).mpr (hz (k + d) (by omega) (by omega))), zbn_s, es]
    rw [e1]
    exact ih k n tm tx (by omega) (fun j h1 h2 => hz j h1 (by omega))
theorem spl_s (N : Nat) (w : Int64) (s : Nat → Nat) (a : (Nat → Nat) × Nat) : ∀ (k n q : Nat) (tm : Int32) (tx : Nat → Int32), k ≤ 8 → k < q → (∀ i, i < k → lt9 w (k - 1 - i) = s (n + i) ∧ s (n + i) < 128 ∧ s (n + i) ≠ 0) → a.2 + n + k ≤ 40 → TX (fa9 a n s) tm tx → ∃ tm' tx', f_X12_spells_3 N q w (spS k) tm tx = some (tm', tx') ∧ TX (fa9 a (n + k) s) tm' tx' := by
  intro k
  induction k with
  | zero =>
    intro n q tm tx _ hn _ _ h
    obtain ⟨q, rfl⟩ : ∃ z, q = z + 1 := ⟨q - 1, by omega⟩
    rw [f_X12_spells_3, if_pos spS_0]
    exact ⟨_, _, rfl, h⟩
  | succ k ih =>
    intro n q tm tx hk hn hl h4 h
    obtain ⟨q, rfl⟩ : ∃ z, q = z + 1 := ⟨q - 1, by omega⟩
    have es : nI (8 * k) + (-8) = spS k := by unfold spS; rfl
    obtain ⟨l1, l2, l3⟩ := hl 0 (by omega)
    have l1' : lt9 w k = s n := l1
    have l2' : s n < 128 := l2
    have l3' : s n ≠ 0 := l3
    have c : ¬ lt9 w k = 0 := by rw [l1']; exact l3'
    obtain ⟨tm1, tx1, e1, e2⟩ := lay_ok N h l2' (by omega)
    rw [f_X12_spells_3, spS_e k (by omega), if_neg (show ¬ nI (8 * k) < 0 from nI_nlt (b := 0) (Nat.zero_le _) (by omega)), if_neg (fun z => c ((o64_z _).mp z)), o64_i, show nI (ob (Int64.toInt32 (zlshr w (nI (8 * k))))) = nI (s n) from by rw [← l1']; rfl, e1, zcl_s, zbn_s, es]
    obtain ⟨tm2, tx2, e3, e4⟩ := ih (n + 1) q tm1 tx1 (by omega) (by omega) (fun i hi => by
      have := hl (i + 1) (by omega)
      rw [show k + 1 - 1 - (i + 1) = k - 1 - i by omega, show n + (i + 1) = n + 1 + i by omega] at this
      exact this) (by omega) e2
    exact ⟨tm2, tx2, e3, by rw [show n + (k + 1) = n + 1 + k by omega]; exact e4⟩
theorem say_ok {a : (Nat → Nat) × Nat} {tm : Int32} {tx : Nat → Int32} (N : Nat) (hN : 20 ≤ N) (s : Nat → Nat) (L : Nat) (w : Int64) (hL : L ≤ 8) (h0 : s 0 = 32) (hz : ∀ j, j < 8 → L ≤ j → lt9 w j = 0) (hs : ∀ i, i < L → lt9 w (L - 1 - i) = s (1 + i) ∧ s (1 + i) < 128 ∧ s (1 + i) ≠ 0) (h4 : a.2 + 1 + L ≤ 40) (h : TX a tm tx) : ∃ tm' tx', f_X12_says N w tm tx = some (tm', tx') ∧ TX (fa9 a (1 + L) s) tm' tx' := by
  unfold f_X12_says f_X12_spells
  obtain ⟨tm1, tx1, e1, e2⟩ := lay_ok N (h.z s) (by rw [h0]; decide) (by omega)
  have ez := spl_z N w (8 - L) L (N - (8 - L)) tm1 tx1 (by omega) (fun j h1 h2 => hz j (by omega) h1)
  rw [show L + (8 - L) = 8 by omega, show N - (8 - L) + (8 - L) = N by omega, spS_8] at ez
  obtain ⟨tm2, tx2, e3, e4⟩ := spl_s N w s a L 1 (N - (8 - L)) tm1 tx1 hL (by omega) hs (by omega) e2
  rw [show (32 : Int32) = nI (s 0) by rw [h0]; rfl, e1, zcl_s, ez, e3, zcl_s]
  exact ⟨tm2, tx2, rfl, e4⟩
theorem shw_ok {a : (Nat → Nat) × Nat} {tm : Int32} {tx : Nat → Int32} (N : Nat) (hN : 20 ≤ N) (h4 : a.2 ≤ 30) (h : TX a tm tx) : ∃ tm' tx', f_X12_says N 495673374579 tm tx = some (tm', tx') ∧ TX (fa9 a 6 (fun j => (zch 1 j).toInt.toNat)) tm' tx' :=
  say_ok N hN (fun j => (zch 1 j).toInt.toNat) 5 495673374579 (by decide) (by decide +kernel) (by decide +kernel) (by decide +kernel) (by omega) h
theorem stp_ok {a : (Nat → Nat) × Nat} {tm : Int32} {tx : Nat → Int32} (N : Nat) (hN : 20 ≤ N) (h4 : a.2 ≤ 30) (h : TX a tm tx) : ∃ tm' tx', f_X12_says N 32497644298331492 tm tx = some (tm', tx') ∧ TX (fa9 a 8 (fun j => (zch 2 j).toInt.toNat)) tm' tx' :=
  say_ok N hN (fun j => (zch 2 j).toInt.toNat) 7 32497644298331492 (by decide) (by decide +kernel) (by decide +kernel) (by decide +kernel) (by omega) h
section FACE
variable {b : MB} {d : MD} {B : CB} {D : CY} {s : Nat → Int32} {nm : Nat → Int64}
theorem f69_ok (h : DY b d B D s) (N : Nat) (hN : 20 ≤ N) (k v : Nat) (hk : k < b.C) (hv : v < 720) (a : (Nat → Nat) × Nat) (ha : a.2 ≤ 16) (tm : Int32) (tx : Nat → Int32) (h0 : TX a tm tx) : ∃ tm' tx', f_X12_face_69 N s nm (nI k) (nI v) 0 tm tx = some (tm', 0, tm', tx') ∧ TX (fc9e (d.stp k) (fc9m v (fa9 a 1 (fun _ => 48 + v / 60 % 10)))) tm' tx' := by
  obtain ⟨-, f2, -, f4, f5⟩ := fc_num v hv
  unfold f_X12_face_69
  obtain ⟨m1, x1, p1, q1⟩ := lay1_ok N h0 (show 48 + v / 60 % 10 < 128 by omega) (by omega)
  rw [f5, p1, zcl_s]
  obtain ⟨m2, x2, p2, q2⟩ := lay1_ok N q1 (show 46 < 128 by omega) (show a.2 + 1 < 40 by omega)
  rw [show (46 : Int32) = nI 46 from rfl, p2, zcl_s, f2]
  obtain ⟨m3, x3, p3, q3⟩ := lay1_ok N q2 (show 48 + v % 60 / 10 < 128 by omega) (show a.2 + 1 + 1 < 40 by omega)
  rw [p3, zcl_s, f4]
  obtain ⟨m4, x4, p4, q4⟩ := lay1_ok N q3 (show 48 + v % 10 < 128 by omega) (show a.2 + 1 + 1 + 1 < 40 by omega)
  rw [p4, zcl_s, (h.sp N k hk).2, zcl_s]
  cases d.stp k
  · rw [if_pos (show bI false = 0 from rfl)]
    exact ⟨_, _, rfl, q4⟩
  · obtain ⟨m5, x5, p5, q5⟩ := stp_ok N hN (show a.2 + 1 + 1 + 1 + 1 ≤ 30 by omega) q4
    rw [if_neg (show ¬ bI true = 0 by decide), p5, zcl_s]
    exact ⟨_, _, rfl, q5⟩
theorem fac_ok (hB : BR b B s nm) (h : DY b d B D s) (N : Nat) (hN : 20 ≤ N) (x0 th tm : Int32) (tx : Nat → Int32) : (f_X11_isClock N x0 B.clocks = some 0 ∧ f_X12_face N x0 th tm s nm tx = some (-1, 0, tm, tx)) ∨ (∃ (k v : Nat) (bs : Bool) (tm' : Int32) (tx' : Nat → Int32), x0 = nI k ∧ k < 6 ∧ v < 720 ∧ f_X11_isClock N x0 B.clocks = some 1 ∧ f_X3_shows N x0 D.minute D.stopped D.stood D.ahead B.clockGain D.since = some (nI v) ∧ f_X3_isStopped N x0 D.stopped = some (if bs = true then 1 else 0) ∧ f_X12_face N x0 th tm s nm tx = some (nI (fc9 (B.clockName k) v bs).2, 0, nI (fc9 (B.clockName k) v bs).2, tx') ∧ TX (fc9 (B.clockName k) v bs) (nI (fc9 (B.clockName k) v bs).2) tx') := by
  have c6 := h.C6
  have ht := h.t2
  unfold f_X12_face
  rw [h.nC, X11_isClock_ok N x0 (n := b.C) (by omega), X12_isClock_ok N x0 h.sC (by omega), zcl_s]
  rcases zin_cases x0 (n := b.C) (by omega) with ⟨hz, k, hk, rfl⟩ | hz
  · right
    obtain ⟨s1, s2⟩ := h.sh N k d.t hk (Nat.le_refl _) (by omega)
    have hv := shd_lt b d k d.t
    obtain ⟨-, hcl, -⟩ := hB
    obtain ⟨en, hw⟩ := (hcl k hk).2.2.2.2.2.2.2.2.2.2.2
    obtain ⟨w1, w2⟩ := wd_lt hw
    obtain ⟨m1, x1, p1, q1⟩ := splA_ok N (by omega) (nm k) ((fun _ => 0), 0) 0 tx w1 (by decide) ⟨rfl, fun i hi => absurd hi (Nat.not_lt_zero _)⟩
    have e8 : sy9 (nm k) 8 ((fun _ => 0), 0) = sy9 (nm k) 7 ((fun _ => 0), 0) := by rw [sy9, if_pos w2]
    rw [e8] at q1
    have l1 : (sy9 (nm k) 7 ((fun _ => 0), 0)).2 ≤ 0 + 7 := sy9_le _ _ _
    obtain ⟨m2, x2, p2, q2⟩ := shw_ok N hN (by omega) q1
    obtain ⟨m3, x3, p3, q3⟩ := lay_ok N q2 (by decide +kernel) (by omega)
    have z6 : nI ((fun j => (zch 1 j).toInt.toNat) 6) = 32 := by decide +kernel
    rw [z6] at p3
    rw [hz, if_neg (show ¬ bI true = 0 by decide), zin_nI (show k < 36 by omega) (by omega), zck_t, cl_n (show k < 2147483648 by omega), p1, zcl_s, p2, zcl_s, p3, zcl_s, h.sm, s2, zcl_s]
    generalize shd b d k d.t = v at s1 s2 hv ⊢
    by_cases h10 : v / 60 < 10
    · obtain ⟨m4, x4, p4, q4⟩ := f69_ok (nm := nm) h N hN k v hk hv _ (show (sy9 (nm k) 7 ((fun _ => 0), 0)).2 + 7 ≤ 16 by omega) m3 x3 q3
      rw [if_pos (show nI v < 600 from nI_lt (b := 600) (by omega) (by omega)), p4]
      have e : fc9 (nm k) v (d.stp k) = fc9e (d.stp k) (fc9m v (fa9 (fa9 (sy9 (nm k) 7 ((fun _ => 0), 0)) 7 (fun j => (zch 1 j).toInt.toNat)) 1 (fun _ => 48 + v / 60 % 10))) := by
        rw [fc9, fc9h, if_pos h10, Nat.mod_eq_of_lt h10]
      rw [← e] at q4
      obtain rfl : m4 = nI (fc9 (nm k) v (d.stp k)).2 := q4.1
      exact ⟨k, v, d.stp k, 0, x4, rfl, by omega, hv, rfl, by rw [h.mi]; exact s1, by rw [(h.sp N k hk).1, ← b01], by rw [en], by rw [en]; exact q4⟩
    · obtain ⟨m4, x4, p4, q4⟩ := lay1_ok N q3 (show 49 < 128 by omega) (show (sy9 (nm k) 7 ((fun _ => 0), 0)).2 + 7 < 40 by omega)
      obtain ⟨m5, x5, p5, q5⟩ := f69_ok (nm := nm) h N hN k v hk hv _ (show (sy9 (nm k) 7 ((fun _ => 0), 0)).2 + 7 + 1 ≤ 16 by omega) m4 x4 q4
      rw [if_neg (show ¬ nI v < 600 from nI_nlt (b := 600) (by omega) (by omega)), show (49 : Int32) = nI 49 from rfl, p4, zcl_s, p5]
      have q6 : TX (fc9 (nm k) v (d.stp k)) m5 x5 := by
        refine q5.cong ?_ ?_
        · rw [fc9, fc9h, if_neg h10]
          unfold fc9e fc9m fa9
          cases d.stp k <;> rfl
        · intro i hi
          rw [fc9, fc9h, if_neg h10]
          generalize fa9 (sy9 (nm k) 7 ((fun _ => 0), 0)) 7 (fun j => (zch 1 j).toInt.toNat) = a
          have h12 : v / 60 / 10 = 1 := by omega
          have e2 : ∀ i, (fa9 a 2 (fun i => if i = 0 then 48 + v / 60 / 10 else 48 + v / 60 % 10)).1 i = (fa9 (fa9 a 1 (fun _ => 49)) 1 (fun _ => 48 + v / 60 % 10)).1 i := by
            intro i
            unfold fa9 sb_cat
            dsimp only
            by_cases c1 : i < a.2
            · rw [if_pos c1, if_pos (show i < a.2 + 1 by omega), if_pos c1]
            · by_cases c2 : i = a.2
              · rw [if_neg c1, if_pos (show i < a.2 + 1 by omega), if_neg c1, if_pos (show i - a.2 = 0 by omega), h12]
              · rw [if_neg c1, if_neg (show ¬ i < a.2 + 1 by omega), if_neg (show ¬ i - a.2 = 0 by omega)]
          have e3 : fa9 a 2 (fun i => if i = 0 then 48 + v / 60 / 10 else 48 + v / 60 % 10) = fa9 (fa9 a 1 (fun _ => 49)) 1 (fun _ => 48 + v / 60 % 10) := by
            refine Prod.ext (funext e2) ?_
            rfl
          rw [e3]
      obtain rfl : m5 = nI (fc9 (nm k) v (d.stp k)).2 := q6.1
      exact ⟨k, v, d.stp k, 0, x5, rfl, by omega, hv, rfl, by rw [h.mi]; exact s1, by rw [(h.sp N k hk).1, ← b01], by rw [en], by rw [en]; exact q6⟩
  · left
    rw [hz, if_pos (show bI false = 0 from rfl)]
    exact ⟨rfl, rfl⟩
theorem nI_ex {x : Int32} (h : ¬ x < 0) : ∃ k, k < 2147483648 ∧ x = nI k := by
  have h1 : x < 0 ↔ x.toInt < 0 := by rw [Int32.lt_iff_toInt_lt]; rfl
  have h2 := Int32.toInt_lt x
  have h3 : ¬ x.toInt < 0 := fun z => h (h1.mpr z)
  refine ⟨x.toInt.toNat, by omega, ?_⟩
  apply Int32.toInt_inj.mp
  rw [nI_toInt (by omega)]
  omega
theorem byt_ok {a : (Nat → Nat) × Nat} {tm : Int32} {tx : Nat → Int32} (N : Nat) (h : TX a tm tx) (ha : a.2 ≤ 34) (x0 th : Int32) : ∃ v, f_X12_byteAt N x0 th tm tx = some (v, 0) ∧ ((x0 < 0 ∧ -1 = v) ∨ (∃ k : Nat, x0 = nI k ∧ a.2 ≤ k ∧ k < 2147483648 ∧ -1 = v) ∨ (∃ k : Nat, x0 = nI k ∧ k < a.2 ∧ nI (a.1 k) = v)) := by
  unfold f_X12_byteAt
  rw [h.1, X12_isIn_ok N x0 (by omega), b01, zcl_s]
  rcases zin_cases x0 (n := a.2) (by omega) with ⟨hz, k, hk, rfl⟩ | hz
  · rw [hz, if_neg (show ¬ bI true = 0 by decide), zin_nI (show k < 40 by omega) (by omega), zck_t, cl_n (show k < 2147483648 by omega), (h.2 k hk).2]
    exact ⟨_, rfl, Or.inr (Or.inr ⟨k, rfl, hk, rfl⟩)⟩
  · rw [hz, if_pos (show bI false = 0 from rfl)]
    refine ⟨_, rfl, ?_⟩
    by_cases c : x0 < 0
    · exact Or.inl ⟨c, rfl⟩
    · obtain ⟨k, hk, rfl⟩ := nI_ex c
      refine Or.inr (Or.inl ⟨k, rfl, ?_, hk, rfl⟩)
      rcases Nat.lt_or_ge k a.2 with c2 | c2
      · rw [zin_nI c2 (by omega)] at hz; exact absurd hz (by decide)
      · exact c2
end FACE
