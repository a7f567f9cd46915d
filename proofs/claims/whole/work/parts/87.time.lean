/-! ===== time: which minutes it may be, and which clock to look at ===== -/
def ob (x : Int32) : Nat := x.toBitVec.toNat % 256
theorem ob_lt (x : Int32) : ob x < 256 := Nat.mod_lt _ (by omega)
theorem ob_e (x : Int32) : x &&& 255 = nI (ob x) := by
  have := pk_and x (m := 255) 8 (by decide)
  rw [this]; rfl
theorem at_ok (N i L : Nat) (by9 : Nat → Int32) (hi : i < L) (hL : L ≤ 940) : f_X7_at N (nI i) (nI L) by9 = some (nI (ob (by9 i))) := by
  unfold f_X7_at
  rw [if_neg (show ¬ nI i < 0 from nI_nlt (Nat.zero_le _) (by omega)), if_pos (nI_lt hi (by omega)), zin_nI (show i < 940 by omega) (by omega), zck_t, cl_n (show i < 2147483648 by omega), ob_e]
theorem oc_ok (N i : Nat) (tp : Nat → Int32) (hi : i < 940) : f_X12_octet N (nI i) tp = some (nI (ob (tp i))) := by
  unfold f_X12_octet
  rw [zin_nI hi (by omega), zck_t, cl_n (show i < 2147483648 by omega), ob_e]
def sg9 (b : MB) (d : MD) (tp : Nat → Int32) (u q : Nat) : Prop := shd b d (ob (tp (3 * q))) u = 60 * ob (tp (3 * q + 1)) + ob (tp (3 * q + 2))
/-- so many of the clocks told of show as told -/
def tm9 (b : MB) (d : MD) (tp : Nat → Int32) (u g : Nat) : Bool := decide (∀ q, q < g → shd b d (ob (tp (3 * q))) u = 60 * ob (tp (3 * q + 1)) + ob (tp (3 * q + 2)))
theorem tm9_0 (b : MB) (d : MD) (tp : Nat → Int32) (u : Nat) : tm9 b d tp u 0 = true := decide_eq_true (fun q hq => absurd hq (by omega))
theorem tm9_t {b : MB} {d : MD} {tp : Nat → Int32} {u g : Nat} (h : tm9 b d tp u g = true) (hs : sg9 b d tp u g) : tm9 b d tp u (g + 1) = true := by
  unfold tm9 at h ⊢
  rw [decide_eq_true_iff] at h ⊢
  intro q hq
  by_cases e : q = g
  · rw [e]; exact hs
  · exact h q (by omega)
theorem tm9_f {b : MB} {d : MD} {tp : Nat → Int32} {u q g : Nat} (hq : q < g) (hs : ¬ sg9 b d tp u q) : tm9 b d tp u g = false := by
  unfold tm9
  rw [decide_eq_false_iff_not]
  exact fun z => hs (z q hq)
theorem tm9_m {b : MB} {d : MD} {tp : Nat → Int32} {u i j : Nat} (h : tm9 b d tp u i = false) (hij : i ≤ j) : tm9 b d tp u j = false := by
  unfold tm9 at h ⊢
  rw [decide_eq_false_iff_not] at h ⊢
  exact fun z => h (fun c hc => z c (by omega))
theorem p3_1 (q : Nat) : nI (3 * q) + 1 = nI (3 * q + 1) := nI_1 _
theorem p3_2 (q : Nat) : nI (3 * q) + 2 = nI (3 * q + 2) := nI_add (3 * q) 2
theorem p3_3 (q : Nat) : nI (3 * q) + 3 = nI (3 * (q + 1)) := nI_add (3 * q) 3
section TIME
variable {b : MB} {d : MD} {B : CB} {D : CY} {s : Nat → Int32} {nm : Nat → Int64} {tp by9 : Nat → Int32} {g : Nat}
theorem DY.asC (h : DY b d B D s) (N u : Nat) (hN : 10 ≤ N) (hg : g ≤ 5) (hok : ∀ q, q < g → ob (tp (3 * q)) < b.C) (hby : ∀ i, i < 3 * g → by9 i = tp i) (hu : d.t ≤ u) (hu2 : u < 100000) : f_X9_allShow N (nI u) (nI (3 * g)) by9 D.stopped D.stood D.ahead B.clockGain D.since = some (bI (tm9 b d tp u g)) := by
  unfold f_X9_allShow
  refine loopP (F := fun n q (_ : Unit) => f_X9_allShow_2 N (nI (3 * g)) by9 D.stopped D.stood D.ahead B.clockGain D.since n (nI u) (nI (3 * q))) (M := g) (Post := fun z => z = some (bI (tm9 b d tp u g))) (fun q _ => tm9 b d tp u q = true) ?_ ?_ N 0 () (by omega) (by omega) (tm9_0 b d tp u)
  · intro n q _ hq ht
    show (∃ x' : Unit, f_X9_allShow_2 N (nI (3 * g)) by9 D.stopped D.stood D.ahead B.clockGain D.since (n + 1) (nI u) (nI (3 * q)) = f_X9_allShow_2 N (nI (3 * g)) by9 D.stopped D.stood D.ahead B.clockGain D.since n (nI u) (nI (3 * (q + 1))) ∧ tm9 b d tp u (q + 1) = true) ∨ f_X9_allShow_2 N (nI (3 * g)) by9 D.stopped D.stood D.ahead B.clockGain D.since (n + 1) (nI u) (nI (3 * q)) = some (bI (tm9 b d tp u g))
    have b0 := ob_lt (tp (3 * q + 1))
    have b1 := ob_lt (tp (3 * q + 2))
    have b2 := shd_lt b d (ob (tp (3 * q))) u
    have ev : nI (ob (tp (3 * q + 1))) * 60 + nI (ob (tp (3 * q + 2))) = nI (60 * ob (tp (3 * q + 1)) + ob (tp (3 * q + 2))) := by rw [show (60 : Int32) = nI 60 from rfl, pk_mul, nI_add, Nat.mul_comm]
    rw [f_X9_allShow_2, if_neg (nI_ge (show 3 * q < 3 * g by omega) (by omega)), at_ok N (3 * q) (3 * g) by9 (by omega) (by omega), zcl_s, hby (3 * q) (by omega), (h.sh N (ob (tp (3 * q))) u (hok q hq) hu hu2).1, zcl_s, p3_1, at_ok N (3 * q + 1) (3 * g) by9 (by omega) (by omega), zcl_s, hby (3 * q + 1) (by omega), p3_2, at_ok N (3 * q + 2) (3 * g) by9 (by omega) (by omega), zcl_s, hby (3 * q + 2) (by omega), ev]
    by_cases c : sg9 b d tp u q
    · left
      refine ⟨(), ?_, tm9_t ht c⟩
      rw [if_pos (show nI (shd b d (ob (tp (3 * q))) u) = nI (60 * ob (tp (3 * q + 1)) + ob (tp (3 * q + 2))) from congrArg nI c), zbn_s, p3_3]
    · right
      rw [if_neg (show ¬ nI (shd b d (ob (tp (3 * q))) u) = nI (60 * ob (tp (3 * q + 1)) + ob (tp (3 * q + 2))) from fun z => c ((nI_eq (by omega) (by omega)).mp z)), tm9_f hq c]
      rfl
  · intro n _ ht
    show f_X9_allShow_2 N (nI (3 * g)) by9 D.stopped D.stood D.ahead B.clockGain D.since (n + 1) (nI u) (nI (3 * g)) = some (bI (tm9 b d tp u g))
    rw [f_X9_allShow_2, if_pos (nI_le (Nat.le_refl _) (by omega)), ht]
    rfl
theorem DY.isR (h : DY b d B D s) (N u : Nat) (hN : 10 ≤ N) (hg : g ≤ 5) (hok : ∀ q, q < g → ob (tp (3 * q)) < b.C) (hu : d.t ≤ u) (hu2 : u < 100000) : f_X12_isTime N (nI u) (nI (3 * g)) tp s = some (bI (tm9 b d tp u g)) := by
  unfold f_X12_isTime
  refine loopV (F := fun n q v => f_X12_isTime_4 N (nI (3 * g)) tp s n (nI u) v (nI (3 * q))) (M := g) (fun q => bI (tm9 b d tp u q)) _ ?_ ?_ N 0 (by omega) (by omega)
  · intro n q hq
    show f_X12_isTime_4 N (nI (3 * g)) tp s (n + 1) (nI u) (bI (tm9 b d tp u q)) (nI (3 * q)) = f_X12_isTime_4 N (nI (3 * g)) tp s n (nI u) (bI (tm9 b d tp u (q + 1))) (nI (3 * (q + 1)))
    rw [f_X12_isTime_4, if_neg (nI_ge (show 3 * q < 3 * g by omega) (by omega))]
    have b0 := ob_lt (tp (3 * q + 1))
    have b1 := ob_lt (tp (3 * q + 2))
    have b2 := shd_lt b d (ob (tp (3 * q))) u
    cases ht : tm9 b d tp u q
    · rw [if_pos (show bI false = 0 from rfl), tm9_m ht (show q ≤ q + 1 by omega)]
      unfold f_X12_isTime_51
      rw [zbn_s, p3_3]
      rfl
    · have ev : (60 : Int32) * nI (ob (tp (3 * q + 1))) + nI (ob (tp (3 * q + 2))) = nI (60 * ob (tp (3 * q + 1)) + ob (tp (3 * q + 2))) := by rw [show (60 : Int32) = nI 60 from rfl, pk_mul, nI_add]
      rw [if_neg (show ¬ bI true = 0 by decide), oc_ok N (3 * q) tp (by omega), zcl_s, (h.sh N (ob (tp (3 * q))) u (hok q hq) hu hu2).2, zcl_s, p3_1, oc_ok N (3 * q + 1) tp (by omega), zcl_s, p3_2, oc_ok N (3 * q + 2) tp (by omega), zcl_s, ev]
      by_cases c : sg9 b d tp u q
      · rw [if_pos (show nI (shd b d (ob (tp (3 * q))) u) = nI (60 * ob (tp (3 * q + 1)) + ob (tp (3 * q + 2))) from congrArg nI c), zbn_s, p3_3, tm9_t ht c]
        rfl
      · rw [if_neg (show ¬ nI (shd b d (ob (tp (3 * q))) u) = nI (60 * ob (tp (3 * q + 1)) + ob (tp (3 * q + 2))) from fun z => c ((nI_eq (by omega) (by omega)).mp z)), tm9_f (show q < q + 1 by omega) c]
        unfold f_X12_isTime_51
        rw [zbn_s, p3_3]
        rfl
  · intro n
    show f_X12_isTime_4 N (nI (3 * g)) tp s (n + 1) (nI u) (bI (tm9 b d tp u g)) (nI (3 * g)) = _
    rw [f_X12_isTime_4, if_pos (nI_le (Nat.le_refl _) (by omega)), bI_bo, zck_t]
/-- is all as told -/
theorem DY.ast (h : DY b d B D s) (N : Nat) (hN : 10 ≤ N) (hg : g ≤ 5) (hby : ∀ i, i < 3 * g → by9 i = tp i) (fm lc ht : Int32) (sh : Nat → Int32) : (f_X9_isAsTold_30 N (nI (3 * g)) by9 B.clocks N 0 = some 1 ∧ f_X12_time_38 N tp s N 0 0 0 (nI (3 * g)) 0 940 fm lc ht sh = f_X12_time_98 N tp s N 0 0 1439 0 0 (nI (3 * g)) 0 940 fm lc ht sh ∧ ∀ q, q < g → ob (tp (3 * q)) < b.C) ∨ (f_X9_isAsTold_30 N (nI (3 * g)) by9 B.clocks N 0 = some 0 ∧ f_X12_time_38 N tp s N 0 0 0 (nI (3 * g)) 0 940 fm lc ht sh = some (-1, 0, 0, nI (3 * g), 0, 940, fm, lc, ht, sh)) := by
  have c6 := h.C6
  refine loop2 (F := fun n q (_ : Unit) => f_X9_isAsTold_30 N (nI (3 * g)) by9 B.clocks n (nI (3 * q))) (G := fun n q (_ : Unit) => f_X12_time_38 N tp s n (nI (3 * q)) 0 0 (nI (3 * g)) 0 940 fm lc ht sh) (M := g) (Post := fun p r => (p = some 1 ∧ r = f_X12_time_98 N tp s N 0 0 1439 0 0 (nI (3 * g)) 0 940 fm lc ht sh ∧ ∀ q, q < g → ob (tp (3 * q)) < b.C) ∨ (p = some 0 ∧ r = some (-1, 0, 0, nI (3 * g), 0, 940, fm, lc, ht, sh))) (fun q _ _ => ∀ i, i < q → ob (tp (3 * i)) < b.C) ?_ ?_ N N 0 () () (by omega) (by omega) (by omega) (fun i hi => absurd hi (by omega))
  · intro n n' q _ _ hq hI
    show (∃ x' y' : Unit, f_X9_isAsTold_30 N (nI (3 * g)) by9 B.clocks (n + 1) (nI (3 * q)) = f_X9_isAsTold_30 N (nI (3 * g)) by9 B.clocks n (nI (3 * (q + 1))) ∧ f_X12_time_38 N tp s (n' + 1) (nI (3 * q)) 0 0 (nI (3 * g)) 0 940 fm lc ht sh = f_X12_time_38 N tp s n' (nI (3 * (q + 1))) 0 0 (nI (3 * g)) 0 940 fm lc ht sh ∧ ∀ i, i < q + 1 → ob (tp (3 * i)) < b.C) ∨ ((f_X9_isAsTold_30 N (nI (3 * g)) by9 B.clocks (n + 1) (nI (3 * q)) = some 1 ∧ f_X12_time_38 N tp s (n' + 1) (nI (3 * q)) 0 0 (nI (3 * g)) 0 940 fm lc ht sh = f_X12_time_98 N tp s N 0 0 1439 0 0 (nI (3 * g)) 0 940 fm lc ht sh ∧ ∀ q, q < g → ob (tp (3 * q)) < b.C) ∨ (f_X9_isAsTold_30 N (nI (3 * g)) by9 B.clocks (n + 1) (nI (3 * q)) = some 0 ∧ f_X12_time_38 N tp s (n' + 1) (nI (3 * q)) 0 0 (nI (3 * g)) 0 940 fm lc ht sh = some (-1, 0, 0, nI (3 * g), 0, 940, fm, lc, ht, sh)))
    have b0 := ob_lt (tp (3 * q))
    have b1 := ob_lt (tp (3 * q + 1))
    have b2 := ob_lt (tp (3 * q + 2))
    rw [f_X9_isAsTold_30, if_neg (nI_ge (show 3 * q < 3 * g by omega) (by omega)), at_ok N (3 * q) (3 * g) by9 (by omega) (by omega), zcl_s, hby (3 * q) (by omega), h.nC, f_X12_time_38, if_neg (nI_ge (show 3 * q < 3 * g by omega) (by omega)), oc_ok N (3 * q) tp (by omega), zcl_s, X12_isClock_ok N _ h.sC (by omega), zcl_s]
    by_cases c0 : ob (tp (3 * q)) < b.C
    · rw [if_neg (nI_ge c0 (by omega)), zin_nI c0 (by omega), if_neg (show ¬ bI true = 0 by decide), p3_1, at_ok N (3 * q + 1) (3 * g) by9 (by omega) (by omega), zcl_s, hby (3 * q + 1) (by omega), oc_ok N (3 * q + 1) tp (by omega), zcl_s, show (11 : Int32) = nI 11 from rfl]
      by_cases c1 : 11 < ob (tp (3 * q + 1))
      · rw [if_pos (nI_lt c1 (by omega)), if_pos (nI_lt c1 (by omega))]
        exact Or.inr (Or.inr ⟨rfl, rfl⟩)
      · rw [if_neg (nI_nlt (show ob (tp (3 * q + 1)) ≤ 11 by omega) (by omega)), if_neg (nI_nlt (show ob (tp (3 * q + 1)) ≤ 11 by omega) (by omega)), p3_2, at_ok N (3 * q + 2) (3 * g) by9 (by omega) (by omega), zcl_s, hby (3 * q + 2) (by omega), oc_ok N (3 * q + 2) tp (by omega), zcl_s, show (59 : Int32) = nI 59 from rfl]
        by_cases c2 : ob (tp (3 * q + 2)) ≤ 59
        · rw [if_pos (nI_le c2 (by omega)), if_pos (nI_le c2 (by omega)), zbn_s, zbn_s, p3_3]
          refine Or.inl ⟨(), (), rfl, rfl, fun i hi => ?_⟩
          by_cases e : i = q
          · rw [e]; exact c0
          · exact hI i (by omega)
        · rw [if_neg (nI_ge (show 59 < ob (tp (3 * q + 2)) by omega) (by omega)), if_neg (nI_ge (show 59 < ob (tp (3 * q + 2)) by omega) (by omega))]
          exact Or.inr (Or.inr ⟨rfl, rfl⟩)
    · have hz : zin (nI (ob (tp (3 * q)))) b.C = false := by
        unfold zin
        rw [nI_toInt (by omega), decide_eq_false_iff_not]
        omega
      rw [if_pos (nI_le (show b.C ≤ ob (tp (3 * q)) by omega) (by omega)), hz, if_pos (show bI false = 0 from rfl)]
      exact Or.inr (Or.inr ⟨rfl, rfl⟩)
  · intro n n' _ _ hI
    left
    refine ⟨?_, ?_, hI⟩
    · show f_X9_isAsTold_30 N (nI (3 * g)) by9 B.clocks (n + 1) (nI (3 * g)) = some 1
      rw [f_X9_isAsTold_30, if_pos (nI_le (Nat.le_refl _) (by omega))]
    · show f_X12_time_38 N tp s (n' + 1) (nI (3 * g)) 0 0 (nI (3 * g)) 0 940 fm lc ht sh = _
      rw [f_X12_time_38, if_pos (nI_le (Nat.le_refl _) (by omega))]
end TIME
/-! counts and tallies -/
theorem cn9_mono {P : Nat → Bool} : ∀ {i j : Nat}, i ≤ j → cn9 P i ≤ cn9 P j := by
  intro i j hij
  induction j with
  | zero => rw [show i = 0 by omega]; exact Nat.le_refl _
  | succ j ih =>
    by_cases e : i = j + 1
    · rw [e]; exact Nat.le_refl _
    · have := ih (by omega)
      cases hP : P j
      · rw [cn9_f hP]; exact this
      · rw [cn9_t hP]; omega
theorem cn9_lt {P : Nat → Bool} {i j : Nat} (hij : i < j) (hP : P i = true) : cn9 P i < cn9 P j := by
  have := cn9_mono (P := P) (show i + 1 ≤ j by omega)
  rw [cn9_t hP] at this
  omega
def ta9 (P : Nat → Bool) (v : Nat → Nat) : Nat → (Nat → Nat) × Nat
  | 0 => (fun _ => 0, 0)
  | k + 1 => if P k = true then (up9 (ta9 P v k).1 (v k) ((ta9 P v k).1 (v k) + 1), max (ta9 P v k).2 ((ta9 P v k).1 (v k) + 1)) else ta9 P v k
theorem ta9_f {P : Nat → Bool} {v : Nat → Nat} {k : Nat} (h : P k = false) : ta9 P v (k + 1) = ta9 P v k := by rw [ta9, if_neg (by rw [h]; decide)]
theorem ta9_t {P : Nat → Bool} {v : Nat → Nat} {k : Nat} (h : P k = true) : ta9 P v (k + 1) = (up9 (ta9 P v k).1 (v k) ((ta9 P v k).1 (v k) + 1), max (ta9 P v k).2 ((ta9 P v k).1 (v k) + 1)) := by rw [ta9, if_pos h]
theorem ta9_b (P : Nat → Bool) (v : Nat → Nat) : ∀ k, (∀ x, (ta9 P v k).1 x ≤ k) ∧ (ta9 P v k).2 ≤ k := by
  intro k
  induction k with
  | zero => exact ⟨fun _ => Nat.le_refl _, Nat.le_refl _⟩
  | succ k ih =>
    cases hP : P k
    · rw [ta9_f hP]
      exact ⟨fun x => Nat.le_succ_of_le (ih.1 x), Nat.le_succ_of_le ih.2⟩
    · rw [ta9_t hP]
      have := ih.1 (v k)
      refine ⟨fun x => ?_, ?_⟩
      · show up9 (ta9 P v k).1 (v k) ((ta9 P v k).1 (v k) + 1) x ≤ k + 1
        by_cases e : x = v k
        · rw [e, up9_s]; omega
        · rw [up9_n e]; have := ih.1 x; omega
      · show max (ta9 P v k).2 ((ta9 P v k).1 (v k) + 1) ≤ k + 1
        have := ih.2; omega
/-- one more is told, on either side -/
theorem tal9 {P : Nat → Bool} {v : Nat → Nat} {k : Nat} {gg : Nat → Int32} (hk : k < 1440) (hv : v k < 720) (hP : P k = true) (hg : ∀ x, x < 720 → gg x = nI ((ta9 P v k).1 x)) : gg (v k) + 1 = nI ((ta9 P v k).1 (v k) + 1) ∧ (∀ x, x < 720 → upd gg (v k) (nI ((ta9 P v k).1 (v k) + 1)) x = nI ((ta9 P v (k + 1)).1 x)) ∧ (ta9 P v (k + 1)).2 = max (ta9 P v k).2 ((ta9 P v k).1 (v k) + 1) := by
  refine ⟨by rw [hg _ hv, nI_1], fun x hx => ?_, by rw [ta9_t hP]⟩
  rw [ta9_t hP]
  show upd gg (v k) (nI ((ta9 P v k).1 (v k) + 1)) x = nI (up9 (ta9 P v k).1 (v k) ((ta9 P v k).1 (v k) + 1) x)
  by_cases e : x = v k
  · rw [e, pk_us, up9_s]
  · rw [pk_un e, up9_n e]; exact hg x hx
theorem zmax_n {a c : Nat} (ha : a < 2147483648) (hc : c < 2147483648) : zmax (nI a) (nI c) = nI (max a c) := by
  rw [iI_nat, iI_nat, iI_nat, zmax_m (by omega) (by omega) (by omega) (by omega)]
  congr 1
  omega
theorem grt_n (N : Nat) {a c : Nat} (ha : a < 2147483648) (hc : c < 2147483648) : f_X12_greater N (nI a) (nI c) = some (nI (max a c)) := by
  rw [iI_nat, iI_nat, iI_nat, grt_m N (by omega) (by omega) (by omega) (by omega)]
  congr 2
  omega
theorem fil720 (N : Nat) (tl : Nat → Int32) (hN : 800 ≤ N) : ∃ gg, f_J7_fill_53178_n720 N 0 tl = some gg ∧ ∀ x, x < 720 → gg x = nI 0 := by
  unfold f_J7_fill_53178_n720
  refine loopP (F := fun n i gg => f_J7_fill_53178_n720_5 N n 0 (nI i) 720 gg) (M := 720) (Post := fun z => ∃ gg, z = some gg ∧ ∀ x, x < 720 → gg x = nI 0) (fun i gg => ∀ x, x < i → gg x = nI 0) ?_ ?_ N 0 tl (by omega) (by omega) (fun x hx => absurd hx (by omega))
  · intro n i gg hi hI
    left
    refine ⟨upd gg i 0, ?_, fun x hx => ?_⟩
    · show f_J7_fill_53178_n720_5 N (n + 1) 0 (nI i) 720 gg = f_J7_fill_53178_n720_5 N n 0 (nI (i + 1)) 720 (upd gg i 0)
      rw [f_J7_fill_53178_n720_5, if_neg (show ¬ (720 : Int32) ≤ nI i from nI_ge (b := 720) hi (by omega)), zin_nI hi (by omega), zck_t, zbn_s, zbn_s, nI_1, cl_n (show i < 2147483648 by omega)]
    · by_cases e : x = i
      · rw [e, pk_us]; rfl
      · rw [pk_un e]; exact hI x (by omega)
  · intro n gg hI
    refine ⟨gg, ?_, hI⟩
    show f_J7_fill_53178_n720_5 N (n + 1) 0 (nI 720) 720 gg = some gg
    rw [f_J7_fill_53178_n720_5, if_pos (show (720 : Int32) ≤ nI 720 by decide)]
