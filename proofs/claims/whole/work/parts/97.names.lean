/-! ===== names ===== -/
theorem rvk : (∀ i, i < 26 → ∃ j, j < 26 ∧ kwL[j]? = rv9[i]?) ∧ (∀ j, j < 26 → ∃ i, i < 26 ∧ rv9[i]? = kwL[j]?) := by decide +kernel
theorem rv_len : ∀ i, i < 26 → ∃ w, rv9[i]? = some w := fun i hi => ⟨rv9[i]'(show i < rv9.length from hi), List.getElem?_eq_getElem (show i < rv9.length from hi)⟩
def rs9 (res : Nat → Int64) (w : Int64) : Nat → Bool
  | 0 => true
  | n + 1 => rs9 res w n && !decide (lg_cmp w (res n) = 0)
theorem rs9_iff (res : Nat → Int64) (w : Int64) : ∀ n, rs9 res w n = true ↔ ∀ k, k < n → ¬ w = res k := by
  intro n
  induction n with
  | zero => exact ⟨fun _ k hk => absurd hk (by omega), fun _ => rfl⟩
  | succ n ih =>
    rw [rs9, Bool.and_eq_true, ih, Bool.not_eq_true', decide_eq_false_iff_not, lgc]
    refine ⟨fun h k hk => ?_, fun h => ⟨fun k hk => h k (by omega), h n (by omega)⟩⟩
    by_cases e : k = n
    · rw [e]; exact h.2
    · exact h.1 k (by omega)
section NAM
variable {tp : Nat → Int32} {L lim sz c : Nat} {K P V : Nat → Int32} {W : Nat → Int64} {kc : KU} {rc : RU} {res : Nat → Int64}
theorem isn16 (N : Nat) (tok : Int32) (w : Int64) (hN : 100 ≤ N) (sk : Bool) : f_X12_isName_16 N tok w res N (bI sk) 0 = some (bI (sk && rs9 res w 26)) := by
  have := loopV (F := fun n i v => f_X12_isName_16 N tok w res n v (nI i)) (M := 26) (fun i => bI (sk && rs9 res w i)) (some (bI (sk && rs9 res w 26))) ?_ ?_ N 0 (by omega) (by omega)
  · have e : (sk && rs9 res w 0) = sk := Bool.and_true sk
    rw [e] at this
    exact this
  · intro n i hi
    show f_X12_isName_16 N tok w res (n + 1) (bI (sk && rs9 res w i)) (nI i) = f_X12_isName_16 N tok w res n (bI (sk && rs9 res w (i + 1))) (nI (i + 1))
    rw [f_X12_isName_16, if_neg (show ¬ (26 : Int32) ≤ nI i from nI_ge (b := 26) hi (by omega))]
    unfold f_X12_isName_44
    rw [zbn_s, nI_1, rs9, ← Bool.and_assoc]
    cases hv : (sk && rs9 res w i)
    · rfl
    · rw [if_neg (show ¬ bI true = 0 by decide), zin_nI hi (by omega), zck_t, cl_n (show i < 2147483648 by omega), Bool.true_and]
      by_cases e : lg_cmp w (res i) = 0
      · rw [if_pos e, decide_eq_true e]; rfl
      · rw [if_neg e, decide_eq_false e, zbn_s]; rfl
  · intro n
    show f_X12_isName_16 N tok w res (n + 1) (bI (sk && rs9 res w 26)) (nI 26) = _
    rw [f_X12_isName_16, if_pos (show (26 : Int32) ≤ nI 26 by decide), bI_bo, zck_t]
theorem nam_ok (h : CQ tp L lim sz c kc) (hr : RC tp L lim c rc) (hv : RV res) (N : Nat) (hN : 100 ≤ N) : (kc.1 = 2 ∧ f_X12_isName N rc.2.1 rc.2.2.2.2.2 res = some 1 ∧ (tk9 tp L lim (ps9 tp L lim c)).1 = 1 ∧ kc.2.2.2.1 = rc.2.2.2.2.2) ∨ (¬ kc.1 = 2 ∧ f_X12_isName N rc.2.1 rc.2.2.2.2.2 res = some 0) := by
  obtain ⟨-, r2, -, r4, -⟩ := hr
  unfold f_X12_isName f_X12_isName_13
  have k1 := isn16 (res := res) N rc.2.1 rc.2.2.2.2.2 hN true
  have k0 := isn16 (res := res) N rc.2.1 rc.2.2.2.2.2 hN false
  rw [show bI true = 1 from rfl] at k1
  rw [show bI false = 0 from rfl, Bool.false_and] at k0
  rw [k1, k0, r2, Bool.true_and]
  have aux : ∀ {n : Nat}, (tk9 tp L lim (ps9 tp L lim c)).1 = n → n ≠ 1 → n ≤ 4 → ∀ kd : Int32, kc.1 = kd → ¬ kd = 2 → (¬ kc.1 = 2 ∧ (if nI (tk9 tp L lim (ps9 tp L lim c)).1 = 1 then some (bI (rs9 res rc.2.2.2.2.2 26)) else some (bI false)) = some 0) := by
    intro n hn hne hn4 kd hkd hk3
    rw [hkd, hn, if_neg (show ¬ nI n = 1 from nk9 (b := 1) (by omega) (by omega) hne)]
    exact ⟨hk3, rfl⟩
  rcases h.1.2 with ⟨q1, q2⟩ | ⟨q1, q2⟩ | ⟨q1, q2, q3⟩ | ⟨q1, q2, -⟩ | ⟨q1, q2, q3, -⟩
  · exact Or.inr (aux q1 (by decide) (by decide) 0 q2 (by decide))
  · exact Or.inr (aux q1 (by decide) (by decide) 1 q2 (by decide))
  · have hw : kc.2.2.2.1 = rc.2.2.2.2.2 := q2.trans (r4 q1).symm
    rw [q1, if_pos (show nI 1 = 1 from rfl)]
    rcases q3 with ⟨q3, q4⟩ | ⟨q3, i, q4, q5, q6⟩
    · left
      refine ⟨q3, ?_, rfl, hw⟩
      rw [(rs9_iff res rc.2.2.2.2.2 26).mpr (fun k hk z => by
        obtain ⟨j, j1, j2⟩ := rvk.1 k hk
        obtain ⟨x, hx⟩ := rv_len k hk
        refine q4 j ?_
        rw [j2, hx, ← hv k x hx, ← z, hw])]
      rfl
    · right
      refine ⟨by rw [q3]; decide, ?_⟩
      obtain ⟨j, j1, j2⟩ := rvk.2 i q4
      have hf : rs9 res rc.2.2.2.2.2 26 = false := by
        cases hh : rs9 res rc.2.2.2.2.2 26
        · rfl
        · rw [q5] at j2
          exact absurd (show rc.2.2.2.2.2 = res j by rw [hv j _ j2, hw]) ((rs9_iff res rc.2.2.2.2.2 26).mp hh j j1)
      rw [hf]
      rfl
  · exact Or.inr (aux q1 (by decide) (by decide) 4 q2 (by decide))
  · exact Or.inr (aux q1 (by decide) (by decide) 5 q2 (by decide))
/-- which of so many names -/
theorem sek_ok (N from_ cnt : Nat) (nmC names : Nat → Int64) (w : Int64) (hN : 100 ≤ N) (hc : cnt ≤ 6) (hf : from_ + 6 ≤ 36) (hn : ∀ i, i < cnt → nmC i = names (from_ + i)) : ∃ v, f_X1_indexOf N (nI cnt) w nmC = some v ∧ f_X12_seek N (nI from_) (nI cnt) w names = some v ∧ (v = -1 ∨ ∃ i, i < cnt ∧ v = nI i) := by
  unfold f_X1_indexOf f_X12_seek
  refine loop2 (F := fun n i (_ : Unit) => f_X1_indexOf_3 N nmC n (nI cnt) w (nI i)) (G := fun n i (_ : Unit) => f_X12_seek_2 N w names n (nI from_) (nI cnt) (nI i)) (M := cnt) (Post := fun p q => ∃ v, p = some v ∧ q = some v ∧ (v = -1 ∨ ∃ i, i < cnt ∧ v = nI i)) (fun _ _ _ => True) ?_ ?_ N N 0 () () (by omega) (by omega) (by omega) trivial
  · intro n n' i _ _ hi _
    show (∃ x' y' : Unit, f_X1_indexOf_3 N nmC (n + 1) (nI cnt) w (nI i) = f_X1_indexOf_3 N nmC n (nI cnt) w (nI (i + 1)) ∧ f_X12_seek_2 N w names (n' + 1) (nI from_) (nI cnt) (nI i) = f_X12_seek_2 N w names n' (nI from_) (nI cnt) (nI (i + 1)) ∧ True) ∨ ∃ v, f_X1_indexOf_3 N nmC (n + 1) (nI cnt) w (nI i) = some v ∧ f_X12_seek_2 N w names (n' + 1) (nI from_) (nI cnt) (nI i) = some v ∧ (v = -1 ∨ ∃ i, i < cnt ∧ v = nI i)
    rw [f_X1_indexOf_3, if_neg (nI_ge hi (by omega)), if_neg (show ¬ (6 : Int32) ≤ nI i from nI_ge (b := 6) (show i < 6 by omega) (by omega)), zin_nI (show i < 6 by omega) (by omega), zck_t, cl_n (show i < 2147483648 by omega), hn i hi, f_X12_seek_2, if_neg (nI_ge hi (by omega)), nI_add, zin_nI (show from_ + i < 36 by omega) (by omega), zck_t, cl_n (show from_ + i < 2147483648 by omega)]
    by_cases e : names (from_ + i) = w
    · rw [if_pos (lgc.mpr e), if_pos (lgc.mpr e)]
      exact Or.inr ⟨_, rfl, rfl, Or.inr ⟨i, hi, rfl⟩⟩
    · rw [if_neg (fun z => e (lgc.mp z)), if_neg (fun z => e (lgc.mp z)), zbn_s, zbn_s, nI_1]
      exact Or.inl ⟨(), (), rfl, rfl, trivial⟩
  · intro n n' _ _ _
    refine ⟨-1, ?_, ?_, Or.inl rfl⟩
    · show f_X1_indexOf_3 N nmC (n + 1) (nI cnt) w (nI cnt) = some (-1)
      rw [f_X1_indexOf_3, if_pos (nI_le (Nat.le_refl _) (by omega))]
    · show f_X12_seek_2 N w names (n' + 1) (nI from_) (nI cnt) (nI cnt) = some (-1)
      rw [f_X12_seek_2, if_pos (nI_le (Nat.le_refl _) (by omega))]
theorem fnm_ok (h : CQ tp L lim sz c kc) (hr : RC tp L lim c rc) (hv : RV res) (N from_ cnt : Nat) (nmC names : Nat → Int64) (hN : 2010 ≤ N) (hc : cnt ≤ 6) (hf : from_ + 6 ≤ 36) (hn : ∀ i, i < cnt → nmC i = names (from_ + i)) (fp fa got : Int32) : (∃ i, i < cnt ∧ f_X8_findName N (nI cnt) kc.1 kc.2.1 kc.2.2.2.1 0 fp nmC = some (nI i, 0, fp) ∧ f_X12_looksAt N (nI from_) (nI cnt) rc.2.1 rc.2.2.1 0 fa rc.2.2.2.2.2 got res names = some (1, 0, fa, nI i) ∧ ps9 tp L lim c + 1 ≤ ps9 tp L lim (c + 1)) ∨ (∃ k g : Int32, ¬ k = 0 ∧ f_X8_findName N (nI cnt) kc.1 kc.2.1 kc.2.2.2.1 0 fp nmC = some (-1, k, rc.2.2.1) ∧ f_X12_looksAt N (nI from_) (nI cnt) rc.2.1 rc.2.2.1 0 fa rc.2.2.2.2.2 got res names = some (0, k, rc.2.2.1, g)) := by
  have hpl := pl_at h hr
  unfold f_X8_findName f_X12_looksAt f_X12_bad
  rw [ref0, ref0, hpl]
  rcases nam_ok h hr hv N (by omega) with ⟨n1, n2, n3, n4⟩ | ⟨n1, n2⟩
  · obtain ⟨v, v1, v2, v3⟩ := sek_ok N from_ cnt nmC names rc.2.2.2.2.2 (by omega) hc hf hn
    rw [if_pos n1, n4, v1, n2]
    simp only [zcl_s]
    rw [if_neg one0, v2]
    simp only [zcl_s]
    rcases v3 with v3 | ⟨i, hi, v3⟩
    · right
      rw [v3]
      exact ⟨3, -1, by decide, rfl, rfl⟩
    · left
      rw [v3, if_neg (show ¬ nI i = -1 from oI_sn (u := i) (by omega)), if_pos (show (0 : Int32) ≤ nI i from nI_le (a := 0) (Nat.zero_le _) (by omega))]
      refine ⟨i, hi, rfl, rfl, ?_⟩
      rw [ps9]
      exact (tk9_nx (ps9_le c)).2.2.1 (Or.inl n3)
  · right
    rw [if_neg n1, n2]
    exact ⟨1, got, by decide, rfl, rfl⟩
theorem tkn_ok (hE : EV tp L lim sz K P V W) (h : CQ tp L lim sz c kc) (hr : RC tp L lim c rc) (hv : RV res) (N from_ cnt : Nat) (nmC names : Nat → Int64) (hN : 2010 ≤ N) (hc : cnt ≤ 6) (hf : from_ + 6 ≤ 36) (hn : ∀ i, i < cnt → nmC i = names (from_ + i)) (fp fa got : Int32) : (∃ i rc', i < cnt ∧ f_X8_findName N (nI cnt) kc.1 kc.2.1 kc.2.2.2.1 0 fp nmC = some (nI i, 0, fp) ∧ f_X12_takesName N (nI from_) (nI cnt) (nI L) rc.1 (nI lim) rc.2.1 rc.2.2.1 rc.2.2.2.1 rc.2.2.2.2.1 0 fa rc.2.2.2.2.2 got res names tp = some (1, rc'.1, rc'.2.1, rc'.2.2.1, rc'.2.2.2.1, rc'.2.2.2.2.1, 0, fa, rc'.2.2.2.2.2, nI i) ∧ RC tp L lim (c + 1) rc' ∧ ps9 tp L lim c + 1 ≤ ps9 tp L lim (c + 1)) ∨ (∃ k g : Int32, ¬ k = 0 ∧ f_X8_findName N (nI cnt) kc.1 kc.2.1 kc.2.2.2.1 0 fp nmC = some (-1, k, rc.2.2.1) ∧ f_X12_takesName N (nI from_) (nI cnt) (nI L) rc.1 (nI lim) rc.2.1 rc.2.2.1 rc.2.2.2.1 rc.2.2.2.2.1 0 fa rc.2.2.2.2.2 got res names tp = some (0, rc.1, rc.2.1, rc.2.2.1, rc.2.2.2.1, rc.2.2.2.2.1, k, rc.2.2.1, rc.2.2.2.2.2, g)) := by
  unfold f_X12_takesName
  rcases fnm_ok h hr hv N from_ cnt nmC names hN hc hf hn fp fa got with ⟨i, f1, f2, f3, f4⟩ | ⟨k, g, f1, f2, f3⟩
  · left
    obtain ⟨rc', b1, b2⟩ := nex_ok hE hr N hN
    rw [f3, zcl_s, if_neg one0, b1, zcl_s]
    exact ⟨i, rc', f1, f2, rfl, b2, f4⟩
  · right
    rw [f3, zcl_s, if_pos rfl]
    exact ⟨k, g, f1, f2, rfl⟩
/-- a new name -/
theorem fre_ok (hE : EV tp L lim sz K P V W) (h : CQ tp L lim sz c kc) (hr : RC tp L lim c rc) (hv : RV res) (N to C M T9 : Nat) (cn mn en names : Nat → Int64) (hh : Nat → Int32) (hN : 2010 ≤ N) (hto : to < 36) (hC : C ≤ 6) (hM : M ≤ 6) (hT : T9 ≤ 6) (h0 : hh 0 = nI C) (h1 : hh 1 = nI M) (h2 : hh 2 = nI T9) (nC : ∀ i, i < C → cn i = names (18 + i)) (nM : ∀ i, i < M → mn i = names (24 + i)) (nT : ∀ i, i < T9 → en i = names (30 + i)) (fa : Int32) : (kc.1 = 2 ∧ f_X1_hasName N kc.2.2.2.1 (nI C) (nI M) (nI T9) cn mn en = some 0 ∧ ∃ rc', f_X12_fresh N (nI to) (nI L) rc.1 (nI lim) rc.2.1 rc.2.2.1 rc.2.2.2.1 rc.2.2.2.2.1 0 fa rc.2.2.2.2.2 res hh names tp = some (1, rc'.1, rc'.2.1, rc'.2.2.1, rc'.2.2.2.1, rc'.2.2.2.2.1, 0, fa, rc'.2.2.2.2.2, vp_updL names to kc.2.2.2.1) ∧ RC tp L lim (c + 1) rc' ∧ ps9 tp L lim c + 1 ≤ ps9 tp L lim (c + 1)) ∨ (kc.1 = 2 ∧ f_X1_hasName N kc.2.2.2.1 (nI C) (nI M) (nI T9) cn mn en = some 1 ∧ f_X12_fresh N (nI to) (nI L) rc.1 (nI lim) rc.2.1 rc.2.2.1 rc.2.2.2.1 rc.2.2.2.2.1 0 fa rc.2.2.2.2.2 res hh names tp = some (0, rc.1, rc.2.1, rc.2.2.1, rc.2.2.2.1, rc.2.2.2.2.1, 3, rc.2.2.1, rc.2.2.2.2.2, names)) ∨ (¬ kc.1 = 2 ∧ f_X12_fresh N (nI to) (nI L) rc.1 (nI lim) rc.2.1 rc.2.2.1 rc.2.2.2.1 rc.2.2.2.2.1 0 fa rc.2.2.2.2.2 res hh names tp = some (0, rc.1, rc.2.1, rc.2.2.1, rc.2.2.2.1, rc.2.2.2.2.1, 1, rc.2.2.1, rc.2.2.2.2.2, names)) := by
  unfold f_X1_hasName f_X12_fresh f_X12_fresh_58 f_X12_bad
  rw [zcl_s, zcl_s, h0, h1, h2]
  rcases nam_ok h hr hv N (by omega) with ⟨n1, n2, n3, n4⟩ | ⟨n1, n2⟩
  · rw [n2, zcl_s, if_neg one0, n4]
    obtain ⟨v, v1, v2, v3⟩ := sek_ok N 18 C cn names rc.2.2.2.2.2 (by omega) hC (by omega) nC
    obtain ⟨u, u1, u2, u3⟩ := sek_ok N 24 M mn names rc.2.2.2.2.2 (by omega) hM (by omega) nM
    obtain ⟨y, y1, y2, y3⟩ := sek_ok N 30 T9 en names rc.2.2.2.2.2 (by omega) hT (by omega) nT
    rw [show nI 18 = (18 : Int32) from rfl] at v2
    rw [show nI 24 = (24 : Int32) from rfl] at u2
    rw [show nI 30 = (30 : Int32) from rfl] at y2
    rw [v1, zcl_s, v2, zcl_s]
    rcases v3 with v3 | ⟨i, hi, v3⟩
    · rw [v3, if_pos rfl, if_neg (show ¬ (0 : Int32) ≤ -1 by decide), u1, zcl_s, u2, zcl_s]
      rcases u3 with u3 | ⟨i, hi, u3⟩
      · rw [u3, if_pos rfl, if_neg (show ¬ (0 : Int32) ≤ -1 by decide), y1, zcl_s, y2, zcl_s]
        rcases y3 with y3 | ⟨i, hi, y3⟩
        · left
          obtain ⟨rc', b1, b2⟩ := nex_ok hE hr N hN
          rw [y3, if_pos rfl, if_pos (show (-1 : Int32) < 0 by decide), zin_nI hto (by omega), zck_t, zbn_s, b1, zcl_s, cl_n (show to < 2147483648 by omega)]
          refine ⟨n1, rfl, rc', rfl, b2, ?_⟩
          rw [ps9]
          exact (tk9_nx (ps9_le c)).2.2.1 (Or.inl n3)
        · right; left
          rw [y3, if_neg (show ¬ nI i = -1 from oI_sn (u := i) (by omega)), if_neg (show ¬ nI i < 0 from nI_nlt (b := 0) (Nat.zero_le _) (by omega))]
          exact ⟨n1, rfl, rfl⟩
      · right; left
        rw [u3, if_neg (show ¬ nI i = -1 from oI_sn (u := i) (by omega)), if_pos (show (0 : Int32) ≤ nI i from nI_le (a := 0) (Nat.zero_le _) (by omega))]
        exact ⟨n1, rfl, rfl⟩
    · right; left
      rw [v3, if_neg (show ¬ nI i = -1 from oI_sn (u := i) (by omega)), if_pos (show (0 : Int32) ≤ nI i from nI_le (a := 0) (Nat.zero_le _) (by omega))]
      exact ⟨n1, rfl, rfl⟩
  · right; right
    rw [n2, zcl_s]
    exact ⟨n1, rfl⟩
theorem tnn_clock (hE : EV tp L lim sz K P V W) (h : CQ tp L lim sz c kc) (hr : RC tp L lim c rc) (hv : RV res) (N i C M T9 : Nat) (cn mn en names : Nat → Int64) (hh : Nat → Int32) (hN : 2010 ≤ N) (hi : i < 6) (hC : C ≤ 6) (hM : M ≤ 6) (hT : T9 ≤ 6) (h0 : hh 0 = nI C) (h1 : hh 1 = nI M) (h2 : hh 2 = nI T9) (nC : ∀ i, i < C → cn i = names (18 + i)) (nM : ∀ i, i < M → mn i = names (24 + i)) (nT : ∀ i, i < T9 → en i = names (30 + i)) (fp fa : Int32) : (∃ kc' rc', kc.1 = 2 ∧ f_X2_takeNewName_clock N (nI i) (nI C) (nI M) (nI T9) kc.1 kc.2.1 kc.2.2.1 kc.2.2.2.1 0 fp (nI sz) kc.2.2.2.2 cn mn en K P V W = some (1, kc'.1, kc'.2.1, kc'.2.2.1, kc'.2.2.2.1, 0, fp, kc'.2.2.2.2, vp_updL cn i kc.2.2.2.1) ∧ f_X12_fresh N (nI (18 + i)) (nI L) rc.1 (nI lim) rc.2.1 rc.2.2.1 rc.2.2.2.1 rc.2.2.2.2.1 0 fa rc.2.2.2.2.2 res hh names tp = some (1, rc'.1, rc'.2.1, rc'.2.2.1, rc'.2.2.2.1, rc'.2.2.2.2.1, 0, fa, rc'.2.2.2.2.2, vp_updL names (18 + i) kc.2.2.2.1) ∧ CQ tp L lim sz (c + 1) kc' ∧ RC tp L lim (c + 1) rc' ∧ ps9 tp L lim c + 1 ≤ ps9 tp L lim (c + 1)) ∨ (∃ k : Int32, ¬ k = 0 ∧ f_X2_takeNewName_clock N (nI i) (nI C) (nI M) (nI T9) kc.1 kc.2.1 kc.2.2.1 kc.2.2.2.1 0 fp (nI sz) kc.2.2.2.2 cn mn en K P V W = some (0, kc.1, kc.2.1, kc.2.2.1, kc.2.2.2.1, k, rc.2.2.1, kc.2.2.2.2, cn) ∧ f_X12_fresh N (nI (18 + i)) (nI L) rc.1 (nI lim) rc.2.1 rc.2.2.1 rc.2.2.2.1 rc.2.2.2.2.1 0 fa rc.2.2.2.2.2 res hh names tp = some (0, rc.1, rc.2.1, rc.2.2.1, rc.2.2.2.1, rc.2.2.2.2.1, k, rc.2.2.1, rc.2.2.2.2.2, names)) := by
  have hpl := pl_at h hr
  obtain ⟨kc', a1, a2⟩ := adv_ok hE h N
  unfold f_X2_takeNewName_clock
  rw [ref0, zcl_s, ref0, zcl_s, hpl]
  rw [hpl] at a1
  rcases fre_ok hE h hr hv N (18 + i) C M T9 cn mn en names hh hN (by omega) hC hM hT h0 h1 h2 nC nM nT fa with ⟨q1, q2, rc', q3, q4, q5⟩ | ⟨q1, q2, q3⟩ | ⟨q1, q3⟩
  · left
    rw [if_pos q1, q2, zcl_s, if_pos rfl, zin_nI hi (by omega), zck_t, zbn_s, a1, zcl_s, cl_n (show i < 2147483648 by omega)]
    exact ⟨kc', rc', q1, rfl, q3, a2, q4, q5⟩
  · right
    rw [if_pos q1, q2, zcl_s, if_neg one0]
    exact ⟨3, by decide, rfl, q3⟩
  · right
    rw [if_neg q1]
    exact ⟨1, by decide, rfl, q3⟩
theorem tnn_master (hE : EV tp L lim sz K P V W) (h : CQ tp L lim sz c kc) (hr : RC tp L lim c rc) (hv : RV res) (N i C M T9 : Nat) (cn mn en names : Nat → Int64) (hh : Nat → Int32) (hN : 2010 ≤ N) (hi : i < 6) (hC : C ≤ 6) (hM : M ≤ 6) (hT : T9 ≤ 6) (h0 : hh 0 = nI C) (h1 : hh 1 = nI M) (h2 : hh 2 = nI T9) (nC : ∀ i, i < C → cn i = names (18 + i)) (nM : ∀ i, i < M → mn i = names (24 + i)) (nT : ∀ i, i < T9 → en i = names (30 + i)) (fp fa : Int32) : (∃ kc' rc', f_X2_takeNewName_master N (nI i) (nI C) (nI M) (nI T9) kc.1 kc.2.1 kc.2.2.1 kc.2.2.2.1 0 fp (nI sz) kc.2.2.2.2 cn mn en K P V W = some (1, kc'.1, kc'.2.1, kc'.2.2.1, kc'.2.2.2.1, 0, fp, kc'.2.2.2.2, vp_updL mn i kc.2.2.2.1) ∧ f_X12_fresh N (nI (24 + i)) (nI L) rc.1 (nI lim) rc.2.1 rc.2.2.1 rc.2.2.2.1 rc.2.2.2.2.1 0 fa rc.2.2.2.2.2 res hh names tp = some (1, rc'.1, rc'.2.1, rc'.2.2.1, rc'.2.2.2.1, rc'.2.2.2.2.1, 0, fa, rc'.2.2.2.2.2, vp_updL names (24 + i) kc.2.2.2.1) ∧ CQ tp L lim sz (c + 1) kc' ∧ RC tp L lim (c + 1) rc' ∧ ps9 tp L lim c + 1 ≤ ps9 tp L lim (c + 1)) ∨ (∃ k : Int32, ¬ k = 0 ∧ f_X2_takeNewName_master N (nI i) (nI C) (nI M) (nI T9) kc.1 kc.2.1 kc.2.2.1 kc.2.2.2.1 0 fp (nI sz) kc.2.2.2.2 cn mn en K P V W = some (0, kc.1, kc.2.1, kc.2.2.1, kc.2.2.2.1, k, rc.2.2.1, kc.2.2.2.2, mn) ∧ f_X12_fresh N (nI (24 + i)) (nI L) rc.1 (nI lim) rc.2.1 rc.2.2.1 rc.2.2.2.1 rc.2.2.2.2.1 0 fa rc.2.2.2.2.2 res hh names tp = some (0, rc.1, rc.2.1, rc.2.2.1, rc.2.2.2.1, rc.2.2.2.2.1, k, rc.2.2.1, rc.2.2.2.2.2, names)) := by
  have hpl := pl_at h hr
  obtain ⟨kc', a1, a2⟩ := adv_ok hE h N
  unfold f_X2_takeNewName_master
  rw [ref0, zcl_s, ref0, zcl_s, hpl]
  rw [hpl] at a1
  rcases fre_ok hE h hr hv N (24 + i) C M T9 cn mn en names hh hN (by omega) hC hM hT h0 h1 h2 nC nM nT fa with ⟨q1, q2, rc', q3, q4, q5⟩ | ⟨q1, q2, q3⟩ | ⟨q1, q3⟩
  · left
    rw [if_pos q1, q2, zcl_s, if_pos rfl, zin_nI hi (by omega), zck_t, zbn_s, a1, zcl_s, cl_n (show i < 2147483648 by omega)]
    exact ⟨kc', rc', rfl, q3, a2, q4, q5⟩
  · right
    rw [if_pos q1, q2, zcl_s, if_neg one0]
    exact ⟨3, by decide, rfl, q3⟩
  · right
    rw [if_neg q1]
    exact ⟨1, by decide, rfl, q3⟩
theorem tnn_meet (hE : EV tp L lim sz K P V W) (h : CQ tp L lim sz c kc) (hr : RC tp L lim c rc) (hv : RV res) (N i C M T9 : Nat) (cn mn en names : Nat → Int64) (hh : Nat → Int32) (hN : 2010 ≤ N) (hi : i < 6) (hC : C ≤ 6) (hM : M ≤ 6) (hT : T9 ≤ 6) (h0 : hh 0 = nI C) (h1 : hh 1 = nI M) (h2 : hh 2 = nI T9) (nC : ∀ i, i < C → cn i = names (18 + i)) (nM : ∀ i, i < M → mn i = names (24 + i)) (nT : ∀ i, i < T9 → en i = names (30 + i)) (fp fa : Int32) : (∃ kc' rc', f_X2_takeNewName_meet N (nI i) (nI C) (nI M) (nI T9) kc.1 kc.2.1 kc.2.2.1 kc.2.2.2.1 0 fp (nI sz) kc.2.2.2.2 cn mn en K P V W = some (1, kc'.1, kc'.2.1, kc'.2.2.1, kc'.2.2.2.1, 0, fp, kc'.2.2.2.2, vp_updL en i kc.2.2.2.1) ∧ f_X12_fresh N (nI (30 + i)) (nI L) rc.1 (nI lim) rc.2.1 rc.2.2.1 rc.2.2.2.1 rc.2.2.2.2.1 0 fa rc.2.2.2.2.2 res hh names tp = some (1, rc'.1, rc'.2.1, rc'.2.2.1, rc'.2.2.2.1, rc'.2.2.2.2.1, 0, fa, rc'.2.2.2.2.2, vp_updL names (30 + i) kc.2.2.2.1) ∧ CQ tp L lim sz (c + 1) kc' ∧ RC tp L lim (c + 1) rc' ∧ ps9 tp L lim c + 1 ≤ ps9 tp L lim (c + 1)) ∨ (∃ k : Int32, ¬ k = 0 ∧ f_X2_takeNewName_meet N (nI i) (nI C) (nI M) (nI T9) kc.1 kc.2.1 kc.2.2.1 kc.2.2.2.1 0 fp (nI sz) kc.2.2.2.2 cn mn en K P V W = some (0, kc.1, kc.2.1, kc.2.2.1, kc.2.2.2.1, k, rc.2.2.1, kc.2.2.2.2, en) ∧ f_X12_fresh N (nI (30 + i)) (nI L) rc.1 (nI lim) rc.2.1 rc.2.2.1 rc.2.2.2.1 rc.2.2.2.2.1 0 fa rc.2.2.2.2.2 res hh names tp = some (0, rc.1, rc.2.1, rc.2.2.1, rc.2.2.2.1, rc.2.2.2.2.1, k, rc.2.2.1, rc.2.2.2.2.2, names)) := by
  have hpl := pl_at h hr
  obtain ⟨kc', a1, a2⟩ := adv_ok hE h N
  unfold f_X2_takeNewName_meet
  rw [ref0, zcl_s, ref0, zcl_s, hpl]
  rw [hpl] at a1
  rcases fre_ok hE h hr hv N (30 + i) C M T9 cn mn en names hh hN (by omega) hC hM hT h0 h1 h2 nC nM nT fa with ⟨q1, q2, rc', q3, q4, q5⟩ | ⟨q1, q2, q3⟩ | ⟨q1, q3⟩
  · left
    rw [if_pos q1, q2, zcl_s, if_pos rfl, zin_nI hi (by omega), zck_t, zbn_s, a1, zcl_s, cl_n (show i < 2147483648 by omega)]
    exact ⟨kc', rc', rfl, q3, a2, q4, q5⟩
  · right
    rw [if_pos q1, q2, zcl_s, if_neg one0]
    exact ⟨3, by decide, rfl, q3⟩
  · right
    rw [if_neg q1]
    exact ⟨1, by decide, rfl, q3⟩
end NAM
