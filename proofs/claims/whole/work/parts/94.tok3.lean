/-! ===== tokens: how the class reads them all ===== -/
def CE (t : Nat × Nat × Nat × Int32 × Int64) (kd pl vl : Int32) (wd : Int64) : Prop := pl = nI t.2.1 ∧ ((t.1 = 0 ∧ kd = 0) ∨ (t.1 = 4 ∧ kd = 1) ∨ (t.1 = 1 ∧ wd = t.2.2.2.2 ∧ ((kd = 2 ∧ ∀ j : Nat, kwL[j]? ≠ some wd) ∨ (kd = 3 ∧ ∃ j, j < 26 ∧ kwL[j]? = some wd ∧ vl = nI j))) ∨ (t.1 = 2 ∧ kd = 4 ∧ vl = t.2.2.2.1 ∧ ∃ v, v ≤ 999 ∧ vl = nI v) ∨ (t.1 = 3 ∧ kd = 5 ∧ vl = t.2.2.2.1 ∧ ∃ c, c < 256 ∧ vl = nI c ∧ mk9 c = true))
theorem cn_all {P : Nat → Bool} : ∀ {n : Nat}, (∀ i, i < n → P i = true) → cn9 P n = n := by
  intro n
  induction n with
  | zero => intro _; rfl
  | succ n ih => intro h; rw [cn9_t (h n (by omega)), ih (fun i hi => h i (by omega))]
theorem cn_none {P : Nat → Bool} : ∀ {n : Nat}, (∀ i, i < n → P i = false) → cn9 P n = 0 := by
  intro n
  induction n with
  | zero => intro _; rfl
  | succ n ih => intro h; rw [cn9_f (h n (by omega)), ih (fun i hi => h i (by omega))]
theorem cn_full {P : Nat → Bool} : ∀ {n : Nat}, cn9 P n = n → ∀ i, i < n → P i = true := by
  intro n
  induction n with
  | zero => intro _ i hi; omega
  | succ n ih =>
    intro h i hi
    cases hP : P n
    · rw [cn9_f hP] at h; have := cn9_le P n; omega
    · rw [cn9_t hP] at h
      by_cases e : i = n
      · rw [e]; exact hP
      · exact ih (by omega) i (by omega)
section TOK3
variable {tp by9 : Nat → Int32} {L lim : Nat}
theorem al_t {p : Nat} : ∀ {n : Nat}, al9 tp p n = true → ∀ i, i < n → sl9 (ob (tp (p + i))) = sl9 (ob (tp p)) := by
  intro n
  induction n with
  | zero => intro _ i hi; omega
  | succ n ih =>
    intro h i hi
    rw [al9, Bool.and_eq_true, beq_iff_eq] at h
    by_cases e : i = n
    · rw [e]; exact h.2
    · exact ih h.1 i (by omega)
theorem al_f {p : Nat} : ∀ {n : Nat}, al9 tp p n = false → ∃ i, i < n ∧ sl9 (ob (tp (p + i))) ≠ sl9 (ob (tp p)) := by
  intro n
  induction n with
  | zero => intro h; cases h
  | succ n ih =>
    intro h
    rw [al9, Bool.and_eq_false_iff] at h
    rcases h with h | h
    · obtain ⟨i, h1, h2⟩ := ih h
      exact ⟨i, by omega, h2⟩
    · exact ⟨n, by omega, fun z => by rw [z] at h; simp at h⟩
theorem al_cn {p n : Nat} (hn : 0 < n) : (al9 tp p n = true → (sl9 (ob (tp p)) = true → cn9 (fun i => sl9 (ob (tp (p + i)))) n = n) ∧ (sl9 (ob (tp p)) = false → cn9 (fun i => sl9 (ob (tp (p + i)))) n = 0)) ∧ (al9 tp p n = false → cn9 (fun i => sl9 (ob (tp (p + i)))) n ≠ n ∧ cn9 (fun i => sl9 (ob (tp (p + i)))) n ≠ 0) := by
  refine ⟨fun h => ⟨fun h0 => cn_all (fun i hi => (al_t h i hi).trans h0), fun h0 => cn_none (fun i hi => (al_t h i hi).trans h0)⟩, fun h => ?_⟩
  obtain ⟨i, hi, hne⟩ := al_f h
  refine ⟨fun z => ?_, fun z => ?_⟩
  · have a := cn_full z i hi
    have c := cn_full z 0 hn
    exact hne (a.trans c.symm)
  · cases h0 : sl9 (ob (tp p))
    · cases h1 : sl9 (ob (tp (p + i)))
      · exact hne (h1.trans h0.symm)
      · have := cn9_lt (P := fun i => sl9 (ob (tp (p + i)))) hi h1
        omega
    · have := cn9_lt (P := fun i => sl9 (ob (tp (p + i)))) hn h0
      omega
theorem nu_dig {p : Nat} : ∀ {n : Nat}, n ≤ 3 → (∀ i, i < n → dg9 (ob (tp (p + i))) = true) → ∃ v, v < 10 ^ n ∧ nu9 tp p n = nI v := by
  intro n
  induction n with
  | zero => intro _ _; exact ⟨0, by decide, rfl⟩
  | succ n ih =>
    intro hn h
    obtain ⟨v, h1, h2⟩ := ih (by omega) (fun i hi => h i (by omega))
    have hd := h n (by omega)
    unfold dg9 at hd
    rw [Bool.and_eq_true, decide_eq_true_iff, decide_eq_true_iff] at hd
    have hv : v < 1000 := by
      have : n = 0 ∨ n = 1 ∨ n = 2 := by omega
      rcases this with rfl | rfl | rfl <;> omega
    refine ⟨v * 10 + ob (tp (p + n)) - 48, ?_, ?_⟩
    · rw [Nat.pow_succ]; omega
    · rw [nu9, h2, show (10 : Int32) = nI 10 from rfl, pk_mul, nI_add, show (48 : Int32) = nI 48 from rfl, sb_n (by omega)]
theorem put9 (N j : Nat) (hj : j < 901) (kd pl vl : Int32) (wd : Int64) (K P V : Nat → Int32) (W : Nat → Int64) : f_X8_put N kd pl vl wd (nI j) K P V W = some (nI (j + 1), upd K j kd, upd P j pl, upd V j vl, vp_updL W j wd) := by
  unfold f_X8_put
  rw [if_neg (show ¬ (901 : Int32) ≤ nI j from nI_ge (b := 901) hj (by omega)), zin_nI hj (by omega), zck_t, zbn_s, zbn_s, zbn_s, zbn_s, zbn_s, cl_n (show j < 2147483648 by omega), nI_1]
theorem rrun (N p n j : Nat) (hN : 2010 ≤ N) (hL : L ≤ 940) (hp : p < L) (hn : rn9 tp (L - p) p = n) (hld : ld9 (ob (tp p)) = true) (hj : j < 901) (hby : ∀ i, i < L → by9 i = tp i) (K P V : Nat → Int32) (W : Nat → Int64) : ∃ kd vl wd, f_X8_readRun N (nI p) (nI j) (nI L) by9 K P V W = some (nI n, nI (j + 1), upd K j kd, upd P j (nI p), upd V j vl, vp_updL W j wd) ∧ CE (kd9 tp p n, p, p + n, nu9 tp p n, sp9 tp p n) kd (nI p) vl wd := by
  have hle := rn9_le tp (L - p) p
  rw [hn] at hle
  have n0 : 0 < n := by
    rw [← hn, show L - p = (L - p - 1) + 1 by omega, rn9, if_pos hld]; omega
  unfold f_X8_readRun
  refine loopP (F := fun k i (_ : Unit) => f_X8_readRun_10 N (nI L) by9 k (nI p) (nI (cn9 (fun i => sl9 (ob (tp (p + i)))) i)) (nu9 tp p i) (sp9 tp p i) (nI (p + i)) (nI j) K P V W) (M := n) (Post := fun z => ∃ kd vl wd, z = some (nI n, nI (j + 1), upd K j kd, upd P j (nI p), upd V j vl, vp_updL W j wd) ∧ CE (kd9 tp p n, p, p + n, nu9 tp p n, sp9 tp p n) kd (nI p) vl wd) (fun _ _ => True) ?_ ?_ N 0 () (by omega) (by omega) trivial
  · intro k i _ hi _
    left
    refine ⟨(), ?_, trivial⟩
    show f_X8_readRun_10 N (nI L) by9 (k + 1) (nI p) (nI (cn9 (fun i => sl9 (ob (tp (p + i)))) i)) (nu9 tp p i) (sp9 tp p i) (nI (p + i)) (nI j) K P V W = f_X8_readRun_10 N (nI L) by9 k (nI p) (nI (cn9 (fun i => sl9 (ob (tp (p + i)))) (i + 1))) (nu9 tp p (i + 1)) (sp9 tp p (i + 1)) (nI (p + (i + 1))) (nI j) K P V W
    have hb := ob_lt (tp (p + i))
    have hl1 := rn9_in tp (L - p) p i (by omega)
    have pk : f_X7_at N (nI (p + i)) (nI L) by9 = some (nI (ob (tp (p + i)))) := by rw [at_ok N (p + i) L by9 (by omega) hL, hby (p + i) (by omega)]
    have k52 : f_X8_readRun_52 N (nI L) by9 (f_X8_readRun_10 N (nI L) by9 k) (nI p) (nI (cn9 (fun i => sl9 (ob (tp (p + i)))) i)) (nu9 tp p i) (sp9 tp p i) (nI (p + i)) (nI j) K P V W = f_X8_readRun_10 N (nI L) by9 k (nI p) (nI (cn9 (fun i => sl9 (ob (tp (p + i)))) (i + 1))) (nu9 tp p (i + 1)) (sp9 tp p (i + 1)) (nI (p + (i + 1))) (nI j) K P V W := by
      unfold f_X8_readRun_52 f_X8_readRun_77
      rw [pk, zcl_s, isL_ok N hb, zcl_s]
      cases h1 : sl9 (ob (tp (p + i)))
      · rw [if_pos (show bI false = 0 from rfl), zbn_s, zbn_s, zbn_s, zbn_s, nI_1, cn9_f (P := fun i => sl9 (ob (tp (p + i)))) (n := i) h1, Int32.add_zero]; rfl
      · rw [if_neg (show ¬ bI true = 0 by decide), zbn_s, zbn_s, zbn_s, zbn_s, nI_1, nI_1, cn9_t (P := fun i => sl9 (ob (tp (p + i)))) (n := i) h1]; rfl
    rw [f_X8_readRun_10, if_neg (nI_ge (show p + i < L by omega) (by omega)), pk, zcl_s, isL_ok N hb, zcl_s, zcl_s, isD_ok N hb, zcl_s, k52]
    unfold ld9 at hl1
    cases h1 : sl9 (ob (tp (p + i)))
    · rw [h1, Bool.false_or] at hl1
      rw [hl1]; rfl
    · rfl
  · intro k _ _
    show ∃ kd vl wd, f_X8_readRun_10 N (nI L) by9 (k + 1) (nI p) (nI (cn9 (fun i => sl9 (ob (tp (p + i)))) n)) (nu9 tp p n) (sp9 tp p n) (nI (p + n)) (nI j) K P V W = some (nI n, nI (j + 1), upd K j kd, upd P j (nI p), upd V j vl, vp_updL W j wd) ∧ CE (kd9 tp p n, p, p + n, nu9 tp p n, sp9 tp p n) kd (nI p) vl wd
    have e107 : f_X8_readRun_10 N (nI L) by9 (k + 1) (nI p) (nI (cn9 (fun i => sl9 (ob (tp (p + i)))) n)) (nu9 tp p n) (sp9 tp p n) (nI (p + n)) (nI j) K P V W = f_X8_readRun_107 N (nI L) by9 (nI p) (nI (cn9 (fun i => sl9 (ob (tp (p + i)))) n)) (nu9 tp p n) (sp9 tp p n) (nI (p + n)) (nI j) K P V W := by
      rw [f_X8_readRun_10]
      by_cases c : p + n < L
      · have hb := ob_lt (tp (p + n))
        have pk : f_X7_at N (nI (p + n)) (nI L) by9 = some (nI (ob (tp (p + n)))) := by rw [at_ok N (p + n) L by9 c hL, hby (p + n) c]
        have hend : ld9 (ob (tp (p + n))) = false := by
          rcases rn9_end tp (L - p) p with h | h
          · omega
          · rw [hn] at h; exact h
        unfold ld9 at hend
        rw [Bool.or_eq_false_iff] at hend
        rw [if_neg (nI_ge c (by omega)), pk, zcl_s, isL_ok N hb, zcl_s, hend.1, if_pos (show bI false = 0 from rfl), zcl_s, isD_ok N hb, zcl_s, hend.2, if_pos (show bI false = 0 from rfl)]
      · rw [if_pos (nI_le (show L ≤ p + n by omega) (by omega))]
    have cl := cn9_le (fun i => sl9 (ob (tp (p + i)))) n
    obtain ⟨a1, a2⟩ := al_cn (tp := tp) (p := p) n0
    rw [e107]
    unfold f_X8_readRun_107 f_X8_readRun_156 f_X8_readRun_171 f_X8_readRun_172 f_X8_readRun_145
    rw [zbn_s, sb_n (show p ≤ p + n by omega), Nat.add_sub_cancel_left, put9 N j hj, zcl_s, put9 N j hj, zcl_s]
    have nz : ∀ m : Nat, m ≤ 940 → ∀ q : Nat, q ≤ 940 → (nI m = nI q ↔ m = q) := fun m hm q hq => nI_eq (by omega) (by omega)
    have kdo : ∀ {t : Nat}, kd9 tp p n = t → CE (kd9 tp p n, p, p + n, nu9 tp p n, sp9 tp p n) = CE (t, p, p + n, nu9 tp p n, sp9 tp p n) := fun h => by rw [h]
    cases hal : al9 tp p n
    · obtain ⟨b1, b2⟩ := a2 hal
      have hk : kd9 tp p n = 4 := by unfold kd9; rw [hal]; rfl
      rw [if_neg (fun z => b1 ((nz _ (by omega) _ (by omega)).mp z)), if_neg (show ¬ nI (cn9 (fun i => sl9 (ob (tp (p + i)))) n) = 0 from fun z => b2 ((nz _ (by omega) 0 (by omega)).mp z)), kdo hk]
      exact ⟨_, _, _, rfl, rfl, Or.inr (Or.inl ⟨rfl, rfl⟩)⟩
    · cases hs : sl9 (ob (tp p))
      · have b1 := (a1 hal).2 hs
        rw [b1, if_neg (show ¬ nI 0 = nI n from fun z => by have := (nz _ (by omega) _ (by omega)).mp z; omega), if_pos (show nI 0 = 0 from rfl)]
        by_cases c3 : n ≤ 3
        · have hk : kd9 tp p n = 2 := by unfold kd9; rw [hal, hs, if_pos rfl, if_neg (by decide), if_pos c3]
          have hdg : ∀ i, i < n → dg9 (ob (tp (p + i))) = true := by
            intro i hi
            have h1 := rn9_in tp (L - p) p i (by omega)
            unfold ld9 at h1
            rw [(al_t hal i hi).trans hs, Bool.false_or] at h1
            exact h1
          obtain ⟨v, v1, v2⟩ := nu_dig (tp := tp) c3 hdg
          have hv : v ≤ 999 := by
            have : n = 1 ∨ n = 2 ∨ n = 3 := by omega
            rcases this with rfl | rfl | rfl <;> omega
          rw [if_neg (show ¬ (3 : Int32) < nI n from nI_nlt (a := 3) c3 (by omega)), kdo hk]
          exact ⟨_, _, _, rfl, rfl, Or.inr (Or.inr (Or.inr (Or.inl ⟨rfl, rfl, rfl, v, hv, v2⟩)))⟩
        · have hk : kd9 tp p n = 4 := by unfold kd9; rw [hal, hs, if_pos rfl, if_neg (by decide), if_neg c3]
          rw [if_pos (show (3 : Int32) < nI n from nI_lt (a := 3) (by omega) (by omega)), kdo hk]
          exact ⟨_, _, _, rfl, rfl, Or.inr (Or.inl ⟨rfl, rfl⟩)⟩
      · have b1 := (a1 hal).1 hs
        rw [b1, if_pos rfl]
        by_cases c7 : n ≤ 7
        · have hk : kd9 tp p n = 1 := by unfold kd9; rw [hal, hs, if_pos rfl, if_pos rfl, if_pos c7]
          obtain ⟨v, k1, k2⟩ := kw_ok N (sp9 tp p n) (by omega)
          rw [if_neg (show ¬ (7 : Int32) < nI n from nI_nlt (a := 7) c7 (by omega)), k1, zcl_s, put9 N j hj, zcl_s, put9 N j hj, zcl_s, kdo hk]
          rcases k2 with ⟨k2, k3⟩ | ⟨i, k2, k3, k4⟩
          · rw [if_pos k2]
            exact ⟨_, _, _, rfl, rfl, Or.inr (Or.inr (Or.inl ⟨rfl, rfl, Or.inl ⟨rfl, k3⟩⟩))⟩
          · rw [if_neg (show ¬ v = -1 by rw [k4]; exact oI_sn (u := i) (by omega))]
            exact ⟨_, _, _, rfl, rfl, Or.inr (Or.inr (Or.inl ⟨rfl, rfl, Or.inr ⟨rfl, i, k2, k3, k4⟩⟩))⟩
        · have hk : kd9 tp p n = 4 := by unfold kd9; rw [hal, hs, if_pos rfl, if_pos rfl, if_neg c7]
          rw [if_pos (show (7 : Int32) < nI n from nI_lt (a := 7) (by omega) (by omega)), if_neg (show ¬ nI n = 0 from fun z => by have := (nz _ (by omega) 0 (by omega)).mp z; omega), kdo hk]
          exact ⟨_, _, _, rfl, rfl, Or.inr (Or.inl ⟨rfl, rfl⟩)⟩
end TOK3
