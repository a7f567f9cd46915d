/-! ===== loops that gather bits, and sums ===== -/
def bmk (P : Nat → Bool) : Nat → Int32
  | 0 => 0
  | n + 1 => if P n then bmk P n ||| (1 <<< (nI n &&& 31)) else bmk P n
theorem bmk_congr {P Q : Nat → Bool} : ∀ {n : Nat}, (∀ i, i < n → P i = Q i) → bmk P n = bmk Q n := by
  intro n
  induction n with
  | zero => intro _; rfl
  | succ n ih => intro h; rw [bmk, bmk, ih (fun i hi => h i (by omega)), h n (by omega)]
theorem bmk_bit {P : Nat → Bool} : ∀ {n : Nat}, n ≤ 32 → ∀ i, bt (bmk P n) i = (decide (i < n) && P i) := by
  intro n
  induction n with
  | zero => intro _ i; rw [bmk, b_0]; simp
  | succ n ih =>
    intro hn i
    rw [bmk]
    have h0 := ih (by omega) i
    cases hp : P n
    · rw [if_neg (by decide), h0]
      by_cases hi : i = n
      · subst hi; simp [hp]
      · by_cases hl : i < n
        · simp [hl, show i < n + 1 by omega]
        · simp [hl, show ¬ i < n + 1 by omega]
    · rw [if_pos rfl, bt_or1 _ (by omega), h0]
      by_cases hi : i = n
      · subst hi; simp [hp]
      · by_cases hl : i < n
        · simp [hl, hi, show i < n + 1 by omega]
        · simp [hl, hi, show ¬ i < n + 1 by omega]
/-- an Int32 is its bits -/
theorem bmk_of {x : Int32} {n : Nat} (hn : n ≤ 32) (h : ∀ i, n ≤ i → bt x i = false) : x = bmk (fun i => bt x i) n := by
  apply b_ext
  intro i _
  rw [bmk_bit hn i]
  by_cases hi : i < n
  · simp [hi]
  · rw [h i (by omega)]; simp [hi]
theorem int32_or0 (x : Int32) : x ||| 0 = x := by
  apply b_ext
  intro i _
  rw [b_or, b_0]
  simp
section LOOPS
variable {M T C : Nat}
/-- is it one of n -/
theorem isin_ok (x : Int32) {n : Nat} (hn : n < 100000) : (if x < 0 then (some 0) else (if nI n ≤ x then (some 0) else (some 1)) : Option Int32) = some (if zin x n then 1 else 0) := by
  have h1 : x < 0 ↔ x.toInt < 0 := by
    rw [Int32.lt_iff_toInt_lt]; rfl
  have h2 : nI n ≤ x ↔ (n : Int) ≤ x.toInt := by rw [Int32.le_iff_toInt_le, nI_toInt (by omega)]
  unfold zin
  by_cases h3 : x.toInt < 0
  · rw [if_pos (h1.mpr h3), decide_eq_false (by omega)]
    rfl
  · rw [if_neg (fun z => h3 (h1.mp z))]
    by_cases h4 : (n : Int) ≤ x.toInt
    · rw [if_pos (h2.mpr h4), decide_eq_false (by omega)]
      rfl
    · rw [if_neg (fun z => h4 (h2.mp z)), decide_eq_true (by omega)]
      rfl
theorem X12_isIn_ok (N : Nat) (x : Int32) {n : Nat} (hn : n < 100000) : f_X12_isIn N x 0 (nI n - 1) = some (if zin x n then 1 else 0) := by
  unfold f_X12_isIn
  have h1 : x < 0 ↔ x.toInt < 0 := by
    rw [Int32.lt_iff_toInt_lt]; rfl
  have h2 : nI n - 1 < x ↔ (n : Int) ≤ x.toInt := by
    rw [iI_nat, show (1 : Int32) = iI 1 from rfl, iI_sub, Int32.lt_iff_toInt_lt, iI_toInt ⟨by omega, by omega⟩]
    omega
  unfold zin
  by_cases h3 : x.toInt < 0
  · rw [if_pos (h1.mpr h3), decide_eq_false (by omega)]
    rfl
  · rw [if_neg (fun z => h3 (h1.mp z))]
    by_cases h4 : (n : Int) ≤ x.toInt
    · rw [if_pos (h2.mpr h4), decide_eq_false (by omega)]
      rfl
    · rw [if_neg (fun z => h4 (h2.mp z)), decide_eq_true (by omega)]
      rfl
theorem zin_ex {x : Int32} {n : Nat} (h : zin x n = true) (hn : n < 100000) : ∃ j, j < n ∧ x = nI j := vp_in_of (zin_e h) (by omega)
theorem X3_mastersIn_ok (N e : Nat) (r : Nat → Int32) (o : Nat → Option Nat) (hN : 10 ≤ N) (hM : M ≤ 6) (he : e < 6) (hb : ∀ m, m < M → ∀ u, o m = some u → u < 100000) (h : ∀ m, m < M → r (m * 6 + e) = oI (o m)) : f_X3_mastersIn N (nI e) (nI M) r = some (bmk (fun m => (o m).isSome) M) := by
  have key : ∀ n m, m ≤ M → M - m < n → f_X3_mastersIn_5 N (nI M) r n (nI e) (bmk (fun m => (o m).isSome) m) (nI m) = some (bmk (fun m => (o m).isSome) M) := by
    intro n
    induction n with
    | zero => intro m _ h2; omega
    | succ n ih =>
      intro m h1 h2
      rw [f_X3_mastersIn_5]
      by_cases hm : m = M
      · subst hm
        rw [if_pos (nI_le (Nat.le_refl _) (by omega))]
      · have hlt : m < M := by omega
        rw [if_neg (nI_ge hlt (by omega)), X11_slot_ok, zcl_s, zin_nI (show m * 6 + e < 36 by omega) (by omega), zck_t, nI_clamp' (show m * 6 + e < 2147483648 by omega), h m hlt]
        have ih' := ih (m + 1) hlt (by omega)
        rw [bmk] at ih'
        cases ho : o m with
        | none =>
          rw [ho, if_neg (show ¬ ((none : Option Nat).isSome = true) by decide)] at ih'
          rw [if_pos (show oI none = -1 from rfl), zbn_s, nI_1]
          exact ih'
        | some u =>
          rw [ho, if_pos (show (some u).isSome = true from rfl)] at ih'
          rw [if_neg (fun z => by have := (oI_none (o := some u) (fun v hv => by cases hv; exact hb m hlt u ho)).mp z; cases this), zbn_s, zbn_s, nI_1]
          exact ih'
  exact key N 0 (Nat.zero_le _) (by omega)
theorem X12_rowOf_ok (N row e : Nat) (s : Nat → Int32) (o : Nat → Option Nat) (hN : 10 ≤ N) (hM : M ≤ 6) (he : e < 6) (hrow : row + 36 ≤ 334) (hb : ∀ m, m < M → ∀ u, o m = some u → u < 100000) (hs : s 1 = nI M) (h : ∀ m, m < M → s (row + (6 * e + m)) = oJ (o m)) : f_X12_rowOf N (nI row) (nI e) s = some (bmk (fun m => (o m).isSome) M) := by
  have key : ∀ n m, m ≤ M → M - m < n → f_X12_rowOf_5 N s n (nI row) (nI e) (bmk (fun m => (o m).isSome) m) (nI m) = some (bmk (fun m => (o m).isSome) M) := by
    intro n
    induction n with
    | zero => intro m _ h2; omega
    | succ n ih =>
      intro m h1 h2
      rw [f_X12_rowOf_5, hs]
      by_cases hm : m = M
      · subst hm
        rw [if_pos (nI_le (Nat.le_refl _) (by omega))]
      · have hlt : m < M := by omega
        have e1 : nI row + 6 * nI e + nI m = nI (row + (6 * e + m)) := by
          rw [show (6 : Int32) = nI 6 from rfl, pk_mul, nI_add, nI_add, Nat.add_assoc]
        rw [if_neg (nI_ge hlt (by omega)), e1, zin_nI (show row + (6 * e + m) < 334 by omega) (by omega), zck_t, nI_clamp' (show row + (6 * e + m) < 2147483648 by omega), h m hlt]
        have ih' := ih (m + 1) hlt (by omega)
        rw [bmk] at ih'
        unfold f_X12_rowOf_42
        cases ho : o m with
        | none =>
          rw [ho, if_neg (show ¬ ((none : Option Nat).isSome = true) by decide)] at ih'
          rw [if_pos (show oJ none ≤ 0 by decide), zbn_s, zbn_s, nI_1, int32_or0]
          exact ih'
        | some u =>
          have hu := hb m hlt u ho
          rw [ho, if_pos (show (some u).isSome = true from rfl)] at ih'
          rw [if_neg (show ¬ oJ (some u) ≤ 0 from nI_nle (by omega) (by omega)), zbn_s, zbn_s, nI_1]
          exact ih'
  exact key N 0 (Nat.zero_le _) (by omega)
end LOOPS
