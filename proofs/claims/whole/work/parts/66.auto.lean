/-! ===== a set of rows by which simp walks through a model; side goals by omega ===== -/
theorem nI_le_T {a b : Nat} (h : a ≤ b) (hb : b < 2147483648) : (nI a ≤ nI b) = True := eq_true (nI_le h (by omega))
theorem nI_le_F {a b : Nat} (h : b < a) (ha : a < 2147483648) : (nI a ≤ nI b) = False := eq_false (nI_ge h (by omega))
theorem nI_lt_T {a b : Nat} (h : a < b) (hb : b < 2147483648) : (nI a < nI b) = True := eq_true (nI_lt h (by omega))
theorem nI_lt_F {a b : Nat} (h : b ≤ a) (ha : a < 2147483648) : (nI a < nI b) = False := eq_false (nI_nlt h (by omega))
theorem nI_eq_T {a b : Nat} (h : a = b) : (nI a = nI b) = True := eq_true (by rw [h])
theorem nI_eq_F {a b : Nat} (h : a ≠ b) (ha : a < 2147483648) (hb : b < 2147483648) : (nI a = nI b) = False := eq_false (fun z => h ((nI_eq (by omega) (by omega)).mp z))
theorem lits : (0 : Int32) = nI 0 ∧ (2 : Int32) = nI 2 ∧ (3 : Int32) = nI 3 ∧ (4 : Int32) = nI 4 ∧ (5 : Int32) = nI 5 ∧ (6 : Int32) = nI 6 ∧ (7 : Int32) = nI 7 ∧ (8 : Int32) = nI 8 ∧ (9 : Int32) = nI 9 ∧ (10 : Int32) = nI 10 ∧ (11 : Int32) = nI 11 ∧ (12 : Int32) = nI 12 ∧ (13 : Int32) = nI 13 ∧ (14 : Int32) = nI 14 ∧ (15 : Int32) = nI 15 ∧ (16 : Int32) = nI 16 ∧ (17 : Int32) = nI 17 ∧ (18 : Int32) = nI 18 ∧ (19 : Int32) = nI 19 ∧ (20 : Int32) = nI 20 ∧ (21 : Int32) = nI 21 ∧ (22 : Int32) = nI 22 ∧ (23 : Int32) = nI 23 ∧ (24 : Int32) = nI 24 ∧ (25 : Int32) = nI 25 ∧ (26 : Int32) = nI 26 ∧ (28 : Int32) = nI 28 ∧ (30 : Int32) = nI 30 ∧ (32 : Int32) = nI 32 ∧ (34 : Int32) = nI 34 ∧ (36 : Int32) = nI 36 ∧ (40 : Int32) = nI 40 ∧ (41 : Int32) = nI 41 ∧ (45 : Int32) = nI 45 ∧ (46 : Int32) = nI 46 ∧ (48 : Int32) = nI 48 ∧ (49 : Int32) = nI 49 ∧ (52 : Int32) = nI 52 ∧ (53 : Int32) = nI 53 ∧ (54 : Int32) = nI 54 ∧ (55 : Int32) = nI 55 ∧ (56 : Int32) = nI 56 ∧ (57 : Int32) = nI 57 ∧ (59 : Int32) = nI 59 ∧ (60 : Int32) = nI 60 ∧ (61 : Int32) = nI 61 ∧ (62 : Int32) = nI 62 ∧ (63 : Int32) = nI 63 ∧ (69 : Int32) = nI 69 ∧ (75 : Int32) = nI 75 ∧ (81 : Int32) = nI 81 ∧ (97 : Int32) = nI 97 ∧ (99 : Int32) = nI 99 ∧ (100 : Int32) = nI 100 ∧ (101 : Int32) = nI 101 ∧ (117 : Int32) = nI 117 ∧ (122 : Int32) = nI 122 ∧ (135 : Int32) = nI 135 ∧ (136 : Int32) = nI 136 ∧ (153 : Int32) = nI 153 ∧ (154 : Int32) = nI 154 ∧ (200 : Int32) = nI 200 ∧ (240 : Int32) = nI 240 ∧ (334 : Int32) = nI 334 ∧ (400 : Int32) = nI 400 ∧ (600 : Int32) = nI 600 ∧ (668 : Int32) = nI 668 ∧ (707 : Int32) = nI 707 ∧ (720 : Int32) = nI 720 ∧ (808 : Int32) = nI 808 ∧ (900 : Int32) = nI 900 ∧ (901 : Int32) = nI 901 ∧ (940 : Int32) = nI 940 ∧ (999 : Int32) = nI 999 ∧ (1000 : Int32) = nI 1000 ∧ (1024 : Int32) = nI 1024 ∧ (1439 : Int32) = nI 1439 ∧ (1440 : Int32) = nI 1440 ∧ (1441 : Int32) = nI 1441 ∧ (1999 : Int32) = nI 1999 ∧ (2000 : Int32) = nI 2000 ∧ (8192 : Int32) = nI 8192 ∧ (1000000 : Int32) = nI 1000000 := ⟨rfl, rfl, rfl, rfl, rfl, rfl, rfl, rfl, rfl, rfl, rfl, rfl, rfl, rfl, rfl, rfl, rfl, rfl, rfl, rfl, rfl, rfl, rfl, rfl, rfl, rfl, rfl, rfl, rfl, rfl, rfl, rfl, rfl, rfl, rfl, rfl, rfl, rfl, rfl, rfl, rfl, rfl, rfl, rfl, rfl, rfl, rfl, rfl, rfl, rfl, rfl, rfl, rfl, rfl, rfl, rfl, rfl, rfl, rfl, rfl, rfl, rfl, rfl, rfl, rfl, rfl, rfl, rfl, rfl, rfl, rfl, rfl, rfl, rfl, rfl, rfl, rfl, rfl, rfl, rfl, rfl, rfl, rfl⟩
theorem ng_n (k : Nat) : -(nI k) = iI (-k) := by rw [iI_nat, iI_neg]
theorem le_1 (x : Int32) : ((1 : Int32) ≤ x) = (nI 1 ≤ x) := rfl
theorem le_1r (x : Int32) : (x ≤ (1 : Int32)) = (x ≤ nI 1) := rfl
theorem lt_1 (x : Int32) : ((1 : Int32) < x) = (nI 1 < x) := rfl
theorem lt_1r (x : Int32) : (x < (1 : Int32)) = (x < nI 1) := rfl
theorem eq_1 (n : Nat) : (nI n = (1 : Int32)) = (nI n = nI 1) := rfl
theorem sb_1 {n : Nat} (h : 1 ≤ n) : nI n - 1 = nI (n - 1) := pk_sub h
theorem sb_n {a b : Nat} (h : b ≤ a) : nI a - nI b = nI (a - b) := pk_sub h
theorem or_n0 (x : Int32) : x ||| nI 0 = x := int32_or0 x
theorem cl_n {n : Nat} (h : n < 2147483648) : (nI n).toNatClampNeg = n := nI_clamp (by omega)
theorem zi_n {j n : Nat} (h : j < n) (hn : n < 2147483648) : zin (nI j) n = true := zin_nI h hn
theorem iI_le_T {a b : Int} (h : a ≤ b) (ha : -2147483648 ≤ a) (ha' : a < 2147483648) (hb : -2147483648 ≤ b) (hb' : b < 2147483648) : (iI a ≤ iI b) = True := eq_true ((iI_le ⟨ha, ha'⟩ ⟨hb, hb'⟩).mpr h)
theorem iI_le_F {a b : Int} (h : b < a) (ha : -2147483648 ≤ a) (ha' : a < 2147483648) (hb : -2147483648 ≤ b) (hb' : b < 2147483648) : (iI a ≤ iI b) = False := eq_false (fun z => by have := (iI_le ⟨ha, ha'⟩ ⟨hb, hb'⟩).mp z; omega)
theorem iI_lt_T {a b : Int} (h : a < b) (ha : -2147483648 ≤ a) (ha' : a < 2147483648) (hb : -2147483648 ≤ b) (hb' : b < 2147483648) : (iI a < iI b) = True := eq_true ((iI_lt ⟨ha, ha'⟩ ⟨hb, hb'⟩).mpr h)
theorem iI_lt_F {a b : Int} (h : b ≤ a) (ha : -2147483648 ≤ a) (ha' : a < 2147483648) (hb : -2147483648 ≤ b) (hb' : b < 2147483648) : (iI a < iI b) = False := eq_false (fun z => by have := (iI_lt ⟨ha, ha'⟩ ⟨hb, hb'⟩).mp z; omega)
theorem iI_eq_T {a b : Int} (h : a = b) : (iI a = iI b) = True := eq_true (by rw [h])
theorem iI_eq_F {a b : Int} (h : a ≠ b) (ha : -2147483648 ≤ a) (ha' : a < 2147483648) (hb : -2147483648 ≤ b) (hb' : b < 2147483648) : (iI a = iI b) = False := eq_false (fun z => h ((iI_eq ⟨ha, ha'⟩ ⟨hb, hb'⟩).mp z))
theorem mx1 (n : Nat) (b : Int) : (nI n ≤ iI b) = (iI n ≤ iI b) := by rw [iI_nat]
theorem mx2 (n : Nat) (b : Int) : (iI b ≤ nI n) = (iI b ≤ iI n) := by rw [iI_nat]
theorem mx3 (n : Nat) (b : Int) : (nI n < iI b) = (iI n < iI b) := by rw [iI_nat]
theorem mx4 (n : Nat) (b : Int) : (iI b < nI n) = (iI b < iI n) := by rw [iI_nat]
theorem mx5 (n : Nat) (b : Int) : (nI n = iI b) = (iI n = iI b) := by rw [iI_nat]
theorem mx6 (n : Nat) (b : Int) : (iI b = nI n) = (iI b = iI n) := by rw [iI_nat]
theorem mx7 (n : Nat) (b : Int) : nI n + iI b = iI (n + b) := by rw [iI_nat, iI_add]
theorem mx8 (n : Nat) (b : Int) : iI b + nI n = iI (b + n) := by rw [iI_nat, iI_add]
theorem mx9 (n : Nat) (b : Int) : nI n - iI b = iI (n - b) := by rw [iI_nat, iI_sub]
theorem mx10 (n : Nat) (b : Int) : iI b - nI n = iI (b - n) := by rw [iI_nat, iI_sub]
theorem iI_p1 (z : Int) : iI z + 1 = iI (z + 1) := mx8 1 z
theorem m1_iI : (-1 : Int32) = iI (-1) := rfl
theorem bI_0 (b : Bool) : (bI b = 0) = (b = false) := by cases b <;> simp [bI]
theorem bI_1 (b : Bool) : (bI b = 1) = (b = true) := by cases b <;> simp [bI]
theorem bI_n0 (b : Bool) : (bI b = nI 0) = (b = false) := bI_0 b
theorem tr_f : (true = false) = False := by simp
theorem fa_f : (false = false) = True := by simp
theorem tr_t : (true = true) = True := by simp
theorem fa_t : (false = true) = False := by simp
/-- a loop over i below M, with what stays so, and how it ends -/
theorem loopP {β σ : Type} {F : Nat → Nat → σ → β} {M : Nat} {Post : β → Prop} (Inv : Nat → σ → Prop) (step : ∀ n i x, i < M → Inv i x → (∃ x', F (n + 1) i x = F n (i + 1) x' ∧ Inv (i + 1) x') ∨ Post (F (n + 1) i x)) (fin : ∀ n x, Inv M x → Post (F (n + 1) M x)) : ∀ n i x, i ≤ M → M - i < n → Inv i x → Post (F n i x) := by
  intro n
  induction n with
  | zero => intro i x _ h; omega
  | succ n ih =>
    intro i x hi hn hx
    by_cases he : i = M
    · subst he; exact fin n x hx
    · rcases step n i x (by omega) hx with ⟨x', h1, h2⟩ | h
      · rw [h1]; exact ih (i + 1) x' (by omega) (by omega) h2
      · exact h
/-- a loop that carries a value that is known at each step -/
theorem loopV {β σ : Type} {F : Nat → Nat → σ → β} {M : Nat} (v : Nat → σ) (r : β) (step : ∀ n i, i < M → F (n + 1) i (v i) = F n (i + 1) (v (i + 1))) (fin : ∀ n, F (n + 1) M (v M) = r) : ∀ n i, i ≤ M → M - i < n → F n i (v i) = r := by
  intro n
  induction n with
  | zero => intro i _ h; omega
  | succ n ih =>
    intro i hi hn
    by_cases he : i = M
    · subst he; exact fin n
    · rw [step n i (by omega)]; exact ih (i + 1) (by omega) (by omega)
