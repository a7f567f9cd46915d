/-! ===== tokens: the class's row of them, and the reference's next, side by side ===== -/
section TOK4
variable {tp by9 : Nat → Int32} {L lim : Nat}
theorem bl9_0 {k p : Nat} (h : wb9 (ob (tp p)) = false) : bl9 tp k p = 0 := by
  cases k with
  | zero => rfl
  | succ k => rw [bl9, if_neg (by rw [h]; decide)]
theorem sk9_nb {p : Nat} (h : wb9 (ob (tp p)) = false) : sk9 tp L p = p := by
  unfold sk9; rw [bl9_0 h, Nat.add_zero]
theorem sk9_b {p : Nat} (hp : p < L) (h : wb9 (ob (tp p)) = true) : sk9 tp L (p + 1) = sk9 tp L p := by
  unfold sk9
  rw [show L - p = (L - (p + 1)) + 1 by omega, bl9, if_pos h]
  omega
theorem sk9_sk {p : Nat} (hp : p ≤ L) : sk9 tp L (sk9 tp L p) = sk9 tp L p := by
  rcases bl9_end tp (L - p) p with h | h
  · have : sk9 tp L p = L := by unfold sk9; omega
    rw [this]
    unfold sk9
    rw [Nat.sub_self]; rfl
  · exact sk9_nb h
theorem tk9_sk {p p' : Nat} (h : sk9 tp L p' = sk9 tp L p) : tk9 tp L lim p' = tk9 tp L lim p := by
  unfold tk9; rw [h]
theorem isMk (N : Nat) {c : Nat} (hc : c < 256) : f_X8_isMark N (nI c) = some (bI (mk9 c)) := by
  unfold f_X8_isMark mk9
  have ne : ∀ q : Nat, q < 256 → ¬ c = q → ¬ nI c = nI q := fun q hq h z => h ((nI_eq (by omega) (by omega)).mp z)
  by_cases c1 : c = 59
  · subst c1; rfl
  · rw [if_neg (show ¬ nI c = 59 from ne 59 (by omega) c1), decide_eq_false c1, Bool.false_or]
    by_cases c2 : c = 40
    · subst c2; rfl
    · rw [if_neg (show ¬ nI c = 40 from ne 40 (by omega) c2), decide_eq_false c2, Bool.false_or]
      by_cases c3 : c = 41
      · subst c3; rfl
      · rw [if_neg (show ¬ nI c = 41 from ne 41 (by omega) c3), decide_eq_false c3, Bool.false_or]
        by_cases c4 : c = 60
        · subst c4; rfl
        · rw [if_neg (show ¬ nI c = 60 from ne 60 (by omega) c4)]
          by_cases c5 : c = 61
          · subst c5; rfl
          · rw [if_neg (show ¬ nI c = 61 from ne 61 (by omega) c5)]
            by_cases c6 : c = 62
            · subst c6; rfl
            · rw [if_neg (show ¬ nI c = 62 from ne 62 (by omega) c6)]
              by_cases c7 : 60 ≤ c
              · rw [decide_eq_false (show ¬ c ≤ 62 by omega), Bool.and_false]; rfl
              · rw [decide_eq_false c7]; rfl
theorem rat_b (N p j : Nat) (hL : L ≤ 940) (hp : p < L) (hby : ∀ i, i < L → by9 i = tp i) (K P V : Nat → Int32) (W : Nat → Int64) (hw : wb9 (ob (tp p)) = true) : f_X8_readAt N (nI p) (nI j) (nI L) by9 K P V W = some (1, nI j, K, P, V, W) := by
  have hb := ob_lt (tp p)
  unfold f_X8_readAt
  unfold wb9 at hw
  rw [Bool.or_eq_true, decide_eq_true_iff, decide_eq_true_iff] at hw
  rw [at_ok N p L by9 hp hL, hby p hp, zcl_s, isL_ok N hb, zcl_s, isD_ok N hb, zcl_s]
  rcases hw with hw | hw
  · rw [hw]; rfl
  · rw [hw]; rfl
theorem rat_t (N p j : Nat) (hN : 2010 ≤ N) (hL : L ≤ 940) (hp : p < L) (hlim : p < lim) (hj : j < 901) (hby : ∀ i, i < L → by9 i = tp i) (K P V : Nat → Int32) (W : Nat → Int64) (hw : wb9 (ob (tp p)) = false) : ∃ kd vl wd n, f_X8_readAt N (nI p) (nI j) (nI L) by9 K P V W = some (nI n, nI (j + 1), upd K j kd, upd P j (nI p), upd V j vl, vp_updL W j wd) ∧ CE (tk9 tp L lim p) kd (nI p) vl wd ∧ 1 ≤ n ∧ p + n ≤ L ∧ (tk9 tp L lim p).2.2.1 = p + n := by
  have hb := ob_lt (tp p)
  have hs := sk9_nb (L := L) hw
  unfold f_X8_readAt
  rw [at_ok N p L by9 hp hL, hby p hp, zcl_s, isL_ok N hb, zcl_s, isD_ok N hb, zcl_s]
  cases hld : ld9 (ob (tp p))
  · have ht : tk9 tp L lim p = (if mk9 (ob (tp p)) = true then 3 else 4, p, p + 1, nI (ob (tp p)), 0) := by
      unfold tk9
      rw [hs, if_neg (by omega), if_neg (by omega), hld]; rfl
    unfold ld9 at hld
    rw [Bool.or_eq_false_iff] at hld
    unfold wb9 at hw
    rw [Bool.or_eq_false_iff, decide_eq_false_iff_not, decide_eq_false_iff_not] at hw
    unfold f_X8_readAt_54
    rw [hld.1, hld.2, if_pos (show bI false = 0 from rfl), if_pos (show bI false = 0 from rfl), if_neg (show ¬ nI (ob (tp p)) = 32 from fun z => hw.1 ((nI_eq (b := 32) (by omega) (by omega)).mp z)), if_neg (show ¬ nI (ob (tp p)) = 10 from fun z => hw.2 ((nI_eq (b := 10) (by omega) (by omega)).mp z)), isMk N hb, zcl_s, put9 N j hj, zcl_s, put9 N j hj, zcl_s, ht]
    cases hm : mk9 (ob (tp p))
    · exact ⟨_, _, _, 1, rfl, ⟨rfl, Or.inr (Or.inl ⟨rfl, rfl⟩)⟩, by omega, by omega, rfl⟩
    · exact ⟨_, _, _, 1, rfl, ⟨rfl, Or.inr (Or.inr (Or.inr (Or.inr ⟨rfl, rfl, rfl, ob (tp p), hb, rfl, hm⟩)))⟩, by omega, by omega, rfl⟩
  · have ht : tk9 tp L lim p = (kd9 tp p (rn9 tp (L - p) p), p, p + rn9 tp (L - p) p, nu9 tp p (rn9 tp (L - p) p), sp9 tp p (rn9 tp (L - p) p)) := by
      unfold tk9
      rw [hs, if_neg (by omega), if_neg (by omega), hld]; rfl
    have hle := rn9_le tp (L - p) p
    have n0 : 0 < rn9 tp (L - p) p := by
      rw [show L - p = (L - p - 1) + 1 by omega, rn9, if_pos hld]; omega
    obtain ⟨kd, vl, wd, r1, r2⟩ := rrun (tp := tp) (by9 := by9) N p _ j hN hL hp rfl hld hj hby K P V W
    have e23 : f_X8_readAt_23 N (nI L) by9 (nI p) (nI j) K P V W = some (nI (rn9 tp (L - p) p), nI (j + 1), upd K j kd, upd P j (nI p), upd V j vl, vp_updL W j wd) := by
      unfold f_X8_readAt_23
      rw [r1, zcl_s]
    rw [e23, ht]
    refine ⟨kd, vl, wd, rn9 tp (L - p) p, ?_, r2, by omega, by omega, rfl⟩
    unfold ld9 at hld
    cases h1 : sl9 (ob (tp p))
    · rw [h1, Bool.false_or] at hld
      rw [hld]; rfl
    · rfl
/-- where the i-th token is looked for -/
def ps9 (tp : Nat → Int32) (L lim : Nat) : Nat → Nat
  | 0 => 0
  | i + 1 => (tk9 tp L lim (ps9 tp L lim i)).2.2.1
theorem tk9_nx {p : Nat} (hp : p ≤ L) : p ≤ (tk9 tp L lim p).2.2.1 ∧ (tk9 tp L lim p).2.2.1 ≤ L ∧ ((tk9 tp L lim p).1 = 1 ∨ (tk9 tp L lim p).1 = 2 ∨ (tk9 tp L lim p).1 = 3 → p + 1 ≤ (tk9 tp L lim p).2.2.1) ∧ (tk9 tp L lim p).1 ≤ 4 := by
  obtain ⟨q1, q2⟩ := sk9_le (tp := tp) (L := L) p hp
  unfold tk9
  by_cases c : lim < L ∧ lim ≤ sk9 tp L p
  · rw [if_pos c]; exact ⟨q1, q2, fun h => absurd (show 4 = 1 ∨ 4 = 2 ∨ 4 = 3 from h) (by decide), Nat.le_refl _⟩
  · rw [if_neg c]
    by_cases c2 : L ≤ sk9 tp L p
    · rw [if_pos c2]; exact ⟨q1, q2, fun h => absurd (show 0 = 1 ∨ 0 = 2 ∨ 0 = 3 from h) (by decide), Nat.zero_le _⟩
    · rw [if_neg c2]
      cases hld : ld9 (ob (tp (sk9 tp L p)))
      · rw [if_neg (by decide)]
        refine ⟨?_, ?_, fun _ => ?_, ?_⟩
        · show p ≤ sk9 tp L p + 1; omega
        · show sk9 tp L p + 1 ≤ L; omega
        · show p + 1 ≤ sk9 tp L p + 1; omega
        · show (if mk9 (ob (tp (sk9 tp L p))) = true then 3 else 4) ≤ 4
          split <;> omega
      · rw [if_pos rfl]
        have hle := rn9_le tp (L - sk9 tp L p) (sk9 tp L p)
        have n0 : 0 < rn9 tp (L - sk9 tp L p) (sk9 tp L p) := by
          rw [show L - sk9 tp L p = (L - sk9 tp L p - 1) + 1 by omega, rn9, if_pos hld]; omega
        refine ⟨?_, ?_, fun _ => ?_, ?_⟩
        · show p ≤ sk9 tp L p + rn9 tp (L - sk9 tp L p) (sk9 tp L p); omega
        · show sk9 tp L p + rn9 tp (L - sk9 tp L p) (sk9 tp L p) ≤ L; omega
        · show p + 1 ≤ sk9 tp L p + rn9 tp (L - sk9 tp L p) (sk9 tp L p); omega
        · show kd9 tp (sk9 tp L p) (rn9 tp (L - sk9 tp L p) (sk9 tp L p)) ≤ 4
          unfold kd9
          split
          · split
            · split <;> omega
            · split <;> omega
          · omega
theorem ps9_le : ∀ i, ps9 tp L lim i ≤ L := by
  intro i
  induction i with
  | zero => exact Nat.zero_le _
  | succ i ih => rw [ps9]; exact (tk9_nx ih).2.1
/-- all the tokens are read -/
def TS (tp : Nat → Int32) (L lim sz : Nat) (K P V : Nat → Int32) (W : Nat → Int64) : Prop := 1 ≤ sz ∧ sz ≤ 901 ∧ (∀ i, i < sz → CE (tk9 tp L lim (ps9 tp L lim i)) (K i) (P i) (V i) (W i)) ∧ ∀ i, sz ≤ i + 1 → tk9 tp L lim (ps9 tp L lim i) = tk9 tp L lim (ps9 tp L lim (sz - 1))
theorem opn19 (N : Nat) (hN : 2010 ≤ N) (hL : L ≤ 940) (hlim : lim ≤ 900) (hby : ∀ i, i < L → by9 i = tp i) (kind place value : Int32) (word : Int64) (fault faultPlace taken : Int32) : ∀ (n p j : Nat) (K P V : Nat → Int32) (W : Nat → Int64), p ≤ L → j ≤ p → j ≤ lim → L - p < n → (∀ i, i < j → CE (tk9 tp L lim (ps9 tp L lim i)) (K i) (P i) (V i) (W i)) → tk9 tp L lim (ps9 tp L lim j) = tk9 tp L lim p → ∃ (sz : Nat) (K' P' V' : Nat → Int32) (W' : Nat → Int64), f_X8_open_19 N (nI L) by9 n (nI lim) (nI (min L lim)) (nI p) kind place value word fault faultPlace (nI j) taken K P V W = some (K' 0, P' 0, V' 0, W' 0, 0, 0, nI sz, 1, K', P', V', W') ∧ TS tp L lim sz K' P' V' W' := by
  intro n
  induction n with
  | zero => intro p j K P V W _ _ _ hn; omega
  | succ n ih =>
    intro p j K P V W hp hjp hjl hn hI he
    rw [f_X8_open_19]
    by_cases c : min L lim ≤ p
    · have hadv : ∀ (K' P' V' : Nat → Int32) (W' : Nat → Int64) (sz : Nat), 1 ≤ sz → sz ≤ 901 → f_X8_advance N kind place value word (nI sz) 0 K' P' V' W' = some (K' 0, P' 0, V' 0, W' 0, 1) := by
        intro K' P' V' W' sz h1 h2
        unfold f_X8_advance
        rw [if_neg (show ¬ nI sz ≤ 0 from nI_ge h1 (by omega))]
        rfl
      have fin : ∀ kd : Int32, CE (tk9 tp L lim p) kd (nI (min L lim)) 0 0 → (∀ i, j + 1 ≤ i + 1 → tk9 tp L lim (ps9 tp L lim i) = tk9 tp L lim (ps9 tp L lim (j + 1 - 1))) → ∃ (sz : Nat) (K' P' V' : Nat → Int32) (W' : Nat → Int64), f_X8_open_56 N (nI L) by9 (nI (min L lim)) kd kind place value word fault faultPlace (nI j) taken K P V W = some (K' 0, P' 0, V' 0, W' 0, 0, 0, nI sz, 1, K', P', V', W') ∧ TS tp L lim sz K' P' V' W' := by
        intro kd hce hst
        unfold f_X8_open_56
        rw [put9 N j (by omega), zcl_s]
        dsimp only
        rw [hadv _ _ _ _ (j + 1) (by omega) (by omega), zcl_s]
        refine ⟨j + 1, upd K j kd, upd P j (nI (min L lim)), upd V j 0, vp_updL W j 0, rfl, by omega, by omega, fun i hi => ?_, hst⟩
        by_cases ei : i = j
        · rw [ei, pk_us, pk_us, pk_us, pk_uLs, he]; exact hce
        · rw [pk_un ei, pk_un ei, pk_un ei, pk_uLn ei]; exact hI i (by omega)
      have hq := sk9_le (tp := tp) (L := L) p hp
      have hst : (tk9 tp L lim p).2.2.1 = sk9 tp L p → ∀ i, j + 1 ≤ i + 1 → tk9 tp L lim (ps9 tp L lim i) = tk9 tp L lim (ps9 tp L lim (j + 1 - 1)) := by
        intro hnx i
        rw [Nat.add_sub_cancel]
        induction i with
        | zero => intro h; rw [show j = 0 by omega]
        | succ i ih2 =>
          intro h
          by_cases ei : i + 1 = j
          · rw [ei]
          · have e1 := ih2 (by omega)
            rw [ps9, e1, he, hnx]
            exact tk9_sk (sk9_sk hp)
      rw [if_pos (nI_le c (by omega))]
      by_cases c2 : L ≤ lim
      · have hpL : p = L := by omega
        have ht : tk9 tp L lim p = (0, L, L, 0, 0) := by
          have : sk9 tp L p = L := by omega
          unfold tk9
          rw [this, if_neg (by omega), if_pos (by omega)]
        rw [if_pos (nI_le c2 (by omega))]
        refine fin 0 ?_ (hst (by rw [ht]; show L = sk9 tp L p; omega))
        rw [ht, show min L lim = L by omega]
        exact ⟨rfl, Or.inl ⟨rfl, rfl⟩⟩
      · have ht : tk9 tp L lim p = (4, lim, sk9 tp L p, 0, 0) := by
          unfold tk9
          rw [if_pos (by omega)]
        rw [if_neg (nI_ge (by omega) (by omega))]
        refine fin 1 ?_ (hst (by rw [ht]))
        rw [ht, show min L lim = lim by omega]
        exact ⟨rfl, Or.inr (Or.inl ⟨rfl, rfl⟩)⟩
    · rw [if_neg (nI_ge (by omega) (by omega))]
      cases hw : wb9 (ob (tp p))
      · obtain ⟨kd, vl, wd, m, r1, r2, r3, r4, r5⟩ := rat_t (tp := tp) (by9 := by9) (lim := lim) N p j hN hL (by omega) (by omega) (by omega) hby K P V W hw
        rw [r1, zcl_s, zbn_s, show zmax 1 (nI m) = nI m by rw [show (1 : Int32) = nI 1 from rfl, zmax_n (by omega) (by omega)]; congr 1; omega, nI_add]
        dsimp only
        refine ih (p + m) (j + 1) _ _ _ _ (by omega) (by omega) (by omega) (by omega) (fun i hi => ?_) (by rw [ps9, he, r5])
        by_cases ei : i = j
        · rw [ei, pk_us, pk_us, pk_us, pk_uLs, he]; exact r2
        · rw [pk_un ei, pk_un ei, pk_un ei, pk_uLn ei]; exact hI i (by omega)
      · rw [rat_b (tp := tp) (by9 := by9) N p j hL (by omega) hby K P V W hw, zcl_s, zbn_s]
        dsimp only
        rw [show nI p + zmax 1 1 = nI (p + 1) from nI_1 p]
        exact ih (p + 1) j K P V W (by omega) (by omega) hjl (by omega) hI (he.trans (tk9_sk (sk9_b (by omega) hw)).symm)
end TOK4
