/-! ===== more of numbers: remainders of both signs ===== -/
theorem iI_tdiv {a b : Int} (ha : -2147483648 < a) (ha' : a < 2147483648) (hb : 0 < b) (hb' : b < 2147483648) : iI a / iI b = iI (a.tdiv b) := by
  apply Int32.toInt_inj.1
  have hb1 : iI b ≠ -1 := by
    intro h
    have h1 := congrArg Int32.toInt h
    rw [iI_toInt ⟨by omega, hb'⟩] at h1
    have h2 : (-1 : Int32).toInt = -1 := by decide
    omega
  have h3 : (a.tdiv b).natAbs ≤ a.natAbs := Int.natAbs_tdiv_le_natAbs a b
  rw [Int32.toInt_div_of_ne_right _ _ hb1, iI_toInt ⟨by omega, ha'⟩, iI_toInt ⟨by omega, hb'⟩, iI_toInt ⟨by omega, by omega⟩]
theorem zrem_iI {a b : Int} (ha : -2147483648 < a) (ha' : a < 2147483648) (hb : 0 < b) (hb' : b < 2147483648) : zrem (iI a) (iI b) = iI (a.tmod b) := by
  unfold zrem
  rw [iI_tdiv ha ha' hb hb', iI_mul, iI_sub, Int.tmod_def, Int.mul_comm b]
theorem tmod720 (a : Int) : (0 ≤ a → a.tmod 720 = a % 720) ∧ (a < 0 → a % 720 = 0 → a.tmod 720 = 0) ∧ (a < 0 → ¬ a % 720 = 0 → a.tmod 720 = a % 720 - 720) := by
  have h := Int.tmod_eq_emod (a := a) (b := 720)
  refine ⟨fun h0 => ?_, fun h0 h1 => ?_, fun h0 h1 => ?_⟩
  · rw [h, if_pos (Or.inl h0)]; omega
  · rw [h, if_pos (Or.inr (by omega))]; omega
  · rw [h, if_neg (by omega)]; rfl
theorem neg_bt (x : Int32) : 0 ≤ x ↔ bt x 31 = false := by
  rw [Int32.le_iff_toInt_le]
  have h : x.toBitVec.msb = decide (x.toBitVec.toInt < 0) := BitVec.msb_eq_toInt
  have h2 : x.toBitVec.msb = bt x 31 := BitVec.msb_eq_getLsbD_last _
  rw [← h2, h, decide_eq_false_iff_not]
  show (0 : Int32).toInt ≤ x.toBitVec.toInt ↔ _
  have h0 : (0 : Int32).toInt = 0 := by decide
  omega
theorem le0_iI {a : Int} (h : -2147483648 ≤ a) (h' : a < 2147483648) : 0 ≤ iI a ↔ 0 ≤ a := iI_le (a := 0) ⟨by omega, by omega⟩ ⟨h, h'⟩
theorem neg_iI {a : Int} (h : -2147483648 ≤ a) (h' : a < 2147483648) : bt (iI a) 31 = decide (a < 0) := by
  have h1 := neg_bt (iI a)
  have h2 : (0 ≤ iI a) ↔ 0 ≤ a := iI_le (a := 0) ⟨by omega, by omega⟩ ⟨h, h'⟩
  rw [h2] at h1
  by_cases h0 : a < 0
  · rw [decide_eq_true h0]
    cases hb : bt (iI a) 31
    · have := h1.mpr hb; omega
    · rfl
  · rw [decide_eq_false h0]
    exact h1.mp (by omega)
theorem J9_floorMod_ok (N : Nat) {a : Int} (h : -1000000 < a) (h' : a < 1000000) : f_J9_floorMod_7cf53 N (iI a) (nI 720) = some (iI (a % 720)) := by
  unfold f_J9_floorMod_7cf53
  obtain ⟨t1, t2, t3⟩ := tmod720 a
  have hz : zne0 (nI 720) = true := by decide
  have hr : zrem (iI a) (nI 720) = iI (a.tmod 720) := by rw [iI_nat]; exact zrem_iI (by omega) (by omega) (by decide) (by decide)
  have hx : (0 ≤ iI a ^^^ nI 720) ↔ 0 ≤ a := by
    rw [neg_bt, b_xor, neg_iI (by omega) (by omega), show bt (nI 720) 31 = false by decide +kernel]
    simp
  rw [hz, zck_t, hr, zbn_s]
  by_cases h0 : 0 ≤ a
  · rw [if_pos (hx.mpr h0), t1 h0]
  · rw [if_neg (fun z => h0 (hx.mp z))]
    by_cases h1 : a % 720 = 0
    · rw [t2 (by omega) h1, if_pos (show iI 0 = 0 from rfl), h1]
    · rw [t3 (by omega) h1, if_neg (fun z => by have := (iI_eq (b := 0) ⟨by omega, by omega⟩ ⟨by omega, by omega⟩).mp z; omega)]
      rw [iI_nat, iI_add]
      congr 2
      omega
theorem X12_face_ok {a : Int} (h : -1000000 < a) (h' : a < 1000000) : (zbn (zrem (iI a) (nI 720)) fun y1 => if 0 ≤ y1 then (some y1) else (some (y1 + nI 720)) : Option Int32) = some (iI (a % 720)) := by
  obtain ⟨t1, t2, t3⟩ := tmod720 a
  have hr : zrem (iI a) (nI 720) = iI (a.tmod 720) := by rw [iI_nat]; exact zrem_iI (by omega) (by omega) (by decide) (by decide)
  rw [hr, zbn_s]
  by_cases h0 : 0 ≤ a
  · rw [t1 h0, if_pos ((le0_iI (a := a % 720) (by omega) (by omega)).mpr (by omega))]
  · by_cases h1 : a % 720 = 0
    · rw [t2 (by omega) h1, if_pos (show 0 ≤ iI 0 by decide), h1]
    · rw [t3 (by omega) h1, if_neg (fun z => by have := (le0_iI (a := a % 720 - 720) (by omega) (by omega)).mp z; omega), iI_nat, iI_add]
      congr 2
      omega
theorem zabs_iI {a : Int} (h : -2147483648 < a) (h' : a < 2147483648) : zabs (iI a) = iI (if 0 ≤ a then a else -a) := by
  unfold zabs
  by_cases h0 : 0 ≤ a
  · rw [if_pos ((le0_iI (a := a) (by omega) (by omega)).mpr h0), if_pos h0]
  · rw [if_neg (fun z => h0 ((le0_iI (a := a) (by omega) (by omega)).mp z)), if_neg h0, show (0 : Int32) = iI 0 from rfl, iI_sub]
    congr 1
    omega
