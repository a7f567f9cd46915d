/-! ===== the two readers side by side: at the c-th token ===== -/
abbrev KU : Type := Int32 × Int32 × Int32 × Int64 × Int32
abbrev RU : Type := Int32 × Int32 × Int32 × Int32 × Int32 × Int64
def EV (tp : Nat → Int32) (L lim sz : Nat) (K P V : Nat → Int32) (W : Nat → Int64) : Prop := L ≤ 940 ∧ lim ≤ 900 ∧ TS tp L lim sz K P V W
def CQ (tp : Nat → Int32) (L lim sz c : Nat) (kc : KU) : Prop := CE (tk9 tp L lim (ps9 tp L lim c)) kc.1 kc.2.1 kc.2.2.1 kc.2.2.2.1 ∧ kc.2.2.2.2 = nI (min (c + 1) sz)
def RC (tp : Nat → Int32) (L lim c : Nat) (rc : RU) : Prop := rc.1 = nI (ps9 tp L lim (c + 1)) ∧ rc.2.1 = nI (tk9 tp L lim (ps9 tp L lim c)).1 ∧ rc.2.2.1 = nI (tk9 tp L lim (ps9 tp L lim c)).2.1 ∧ ((tk9 tp L lim (ps9 tp L lim c)).1 = 1 → rc.2.2.2.2.2 = (tk9 tp L lim (ps9 tp L lim c)).2.2.2.2) ∧ ((tk9 tp L lim (ps9 tp L lim c)).1 = 2 ∨ (tk9 tp L lim (ps9 tp L lim c)).1 = 3 → rc.2.2.2.2.1 = (tk9 tp L lim (ps9 tp L lim c)).2.2.2.1)
section CUR
variable {tp : Nat → Int32} {L lim sz c : Nat} {K P V : Nat → Int32} {W : Nat → Int64} {kc : KU} {rc : RU}
theorem adv_ok (hE : EV tp L lim sz K P V W) (h : CQ tp L lim sz c kc) (N : Nat) : ∃ kc', f_X8_advance N kc.1 kc.2.1 kc.2.2.1 kc.2.2.2.1 (nI sz) kc.2.2.2.2 K P V W = some kc' ∧ CQ tp L lim sz (c + 1) kc' := by
  obtain ⟨-, -, s1, s2, s3, s4⟩ := hE
  obtain ⟨h1, h2⟩ := h
  unfold f_X8_advance
  rw [h2]
  by_cases cc : c + 1 < sz
  · rw [show min (c + 1) sz = c + 1 by omega, if_neg (nI_ge cc (by omega)), zin_nI (show c + 1 < 901 by omega) (by omega), zck_t, zbn_s, zbn_s, zbn_s, zbn_s, zbn_s, cl_n (show c + 1 < 2147483648 by omega), nI_1]
    exact ⟨_, rfl, s3 (c + 1) cc, by show nI (c + 1 + 1) = nI (min (c + 1 + 1) sz); rw [show min (c + 1 + 1) sz = c + 1 + 1 by omega]⟩
  · rw [show min (c + 1) sz = sz by omega, if_pos (nI_le (Nat.le_refl _) (by omega))]
    refine ⟨_, rfl, ?_, by show nI sz = nI (min (c + 1 + 1) sz); rw [show min (c + 1 + 1) sz = sz by omega]⟩
    rw [s4 (c + 1) (by omega), ← s4 c (by omega)]
    exact h1
theorem nex_ok (hE : EV tp L lim sz K P V W) (h : RC tp L lim c rc) (N : Nat) (hN : 2010 ≤ N) : ∃ rc', f_X12_next N (nI L) rc.1 (nI lim) rc.2.1 rc.2.2.1 rc.2.2.2.1 rc.2.2.2.2.1 rc.2.2.2.2.2 tp = some rc' ∧ RC tp L lim (c + 1) rc' := by
  obtain ⟨e1, e2, -⟩ := hE
  obtain ⟨sp', nu', wd', n1, n2, n3⟩ := nxt_ok (tp := tp) (L := L) (lim := lim) N (ps9 tp L lim (c + 1)) hN e1 (by omega) (ps9_le (c + 1)) rc.2.1 rc.2.2.1 rc.2.2.2.1 rc.2.2.2.2.1 rc.2.2.2.2.2
  rw [h.1]
  exact ⟨_, n1, rfl, rfl, rfl, n2, n3⟩
def isK (tp : Nat → Int32) (L lim c : Nat) (w : Int64) : Bool := decide ((tk9 tp L lim (ps9 tp L lim c)).1 = 1 ∧ (tk9 tp L lim (ps9 tp L lim c)).2.2.2.2 = w)
def isY (tp : Nat → Int32) (L lim c ch : Nat) : Bool := decide ((tk9 tp L lim (ps9 tp L lim c)).1 = 3 ∧ (tk9 tp L lim (ps9 tp L lim c)).2.2.2.1 = nI ch)
theorem kwL_inj : ∀ i, i < 26 → ∀ j, j < 26 → kwL[i]? = kwL[j]? → i = j := by decide +kernel
theorem t4 {t : Nat × Nat × Nat × Int32 × Int64} {kd pl vl : Int32} {wd : Int64} (h : CE t kd pl vl wd) : t.1 ≤ 4 := by
  rcases h.2 with h | h | h | h | h <;> omega
theorem nk9 {a b : Nat} (ha : a < 1000) (hb : b < 1000) (h : ¬ a = b) : ¬ nI a = nI b := fun z => h ((nI_eq (by omega) (by omega)).mp z)
theorem kwd_ok (h : CQ tp L lim sz c kc) (hr : RC tp L lim c rc) (N j : Nat) (w : Int64) (hj : kwL[j]? = some w) : f_X8_isKeyword N (nI j) kc.1 kc.2.2.1 = some (bI (isK tp L lim c w)) ∧ f_X12_isWord N w rc.2.1 rc.2.2.2.2.2 = some (bI (isK tp L lim c w)) := by
  have hj26 : j < 26 := (List.getElem?_eq_some_iff.mp hj).1
  have hle := t4 h.1
  obtain ⟨-, r2, -, r4, -⟩ := hr
  unfold f_X8_isKeyword f_X12_isWord isK
  rw [r2]
  have aux : ∀ {n : Nat}, (tk9 tp L lim (ps9 tp L lim c)).1 = n → n ≠ 1 → n ≤ 4 → (∀ kd : Int32, kc.1 = kd → ¬ kd = 3 → (if kc.1 = 3 then (if kc.2.2.1 = nI j then (some 1) else (some 0)) else (some 0) : Option Int32) = some (bI (decide ((tk9 tp L lim (ps9 tp L lim c)).1 = 1 ∧ (tk9 tp L lim (ps9 tp L lim c)).2.2.2.2 = w))) ∧ (if nI (tk9 tp L lim (ps9 tp L lim c)).1 = 1 then (if lg_cmp rc.2.2.2.2.2 w = 0 then (some 1) else (some 0)) else (some 0) : Option Int32) = some (bI (decide ((tk9 tp L lim (ps9 tp L lim c)).1 = 1 ∧ (tk9 tp L lim (ps9 tp L lim c)).2.2.2.2 = w)))) := by
    intro n hn hne hn4 kd hkd hk3
    rw [hkd, if_neg hk3, hn, if_neg (show ¬ nI n = 1 from nk9 (b := 1) (by omega) (by omega) hne), decide_eq_false (fun z => hne z.1)]
    exact ⟨rfl, rfl⟩
  rcases h.1.2 with ⟨q1, q2⟩ | ⟨q1, q2⟩ | ⟨q1, q2, q3⟩ | ⟨q1, q2, -⟩ | ⟨q1, q2, -⟩
  · exact aux q1 (by decide) (by decide) 0 q2 (by decide)
  · exact aux q1 (by decide) (by decide) 1 q2 (by decide)
  · rw [r4 q1, q1, if_pos (show nI 1 = 1 from rfl)]
    rcases q3 with ⟨q3, q4⟩ | ⟨q3, i, q4, q5, q6⟩
    · have hne : ¬ (tk9 tp L lim (ps9 tp L lim c)).2.2.2.2 = w := fun z => by rw [← q2] at z; exact q4 j (by rw [hj, z])
      rw [q3, if_neg (show ¬ (2 : Int32) = 3 by decide), if_neg (fun z => hne (lgc.mp z)), decide_eq_false (fun z => hne z.2)]
      exact ⟨rfl, rfl⟩
    · rw [q3, if_pos rfl, q6]
      by_cases e : i = j
      · have hw : (tk9 tp L lim (ps9 tp L lim c)).2.2.2.2 = w := by rw [← q2]; rw [e, hj] at q5; exact (Option.some.inj q5).symm
        rw [if_pos (by rw [e]), if_pos (lgc.mpr hw), decide_eq_true ⟨rfl, hw⟩]
        exact ⟨rfl, rfl⟩
      · have hne : ¬ (tk9 tp L lim (ps9 tp L lim c)).2.2.2.2 = w := fun z => e (kwL_inj i q4 j hj26 (by rw [q5, hj, q2, z]))
        rw [if_neg (nk9 (by omega) (by omega) e), if_neg (fun z => hne (lgc.mp z)), decide_eq_false (fun z => hne z.2)]
        exact ⟨rfl, rfl⟩
  · exact aux q1 (by decide) (by decide) 4 q2 (by decide)
  · exact aux q1 (by decide) (by decide) 5 q2 (by decide)
theorem sym_ok (h : CQ tp L lim sz c kc) (hr : RC tp L lim c rc) (N ch : Nat) : f_X8_isSymbol N (nI ch) kc.1 kc.2.2.1 = some (bI (isY tp L lim c ch)) ∧ f_X12_isSign N (nI ch) rc.2.1 rc.2.2.2.2.1 = some (bI (isY tp L lim c ch)) := by
  obtain ⟨-, r2, -, -, r5⟩ := hr
  unfold f_X8_isSymbol f_X12_isSign isY
  rw [r2]
  have aux : ∀ {n : Nat}, (tk9 tp L lim (ps9 tp L lim c)).1 = n → n ≠ 3 → n ≤ 4 → (∀ kd : Int32, kc.1 = kd → ¬ kd = 5 → (if kc.1 = 5 then (if kc.2.2.1 = nI ch then (some 1) else (some 0)) else (some 0) : Option Int32) = some (bI (decide ((tk9 tp L lim (ps9 tp L lim c)).1 = 3 ∧ (tk9 tp L lim (ps9 tp L lim c)).2.2.2.1 = nI ch))) ∧ (if nI (tk9 tp L lim (ps9 tp L lim c)).1 = 3 then (if rc.2.2.2.2.1 = nI ch then (some 1) else (some 0)) else (some 0) : Option Int32) = some (bI (decide ((tk9 tp L lim (ps9 tp L lim c)).1 = 3 ∧ (tk9 tp L lim (ps9 tp L lim c)).2.2.2.1 = nI ch)))) := by
    intro n hn hne hn4 kd hkd hk3
    rw [hkd, if_neg hk3, hn, if_neg (show ¬ nI n = 3 from nk9 (b := 3) (by omega) (by omega) hne), decide_eq_false (fun z => hne z.1)]
    exact ⟨rfl, rfl⟩
  rcases h.1.2 with ⟨q1, q2⟩ | ⟨q1, q2⟩ | ⟨q1, -, q3⟩ | ⟨q1, q2, -⟩ | ⟨q1, q2, q3, -⟩
  · exact aux q1 (by decide) (by decide) 0 q2 (by decide)
  · exact aux q1 (by decide) (by decide) 1 q2 (by decide)
  · rcases q3 with ⟨q2, -⟩ | ⟨q2, -⟩
    · exact aux q1 (by decide) (by decide) 2 q2 (by decide)
    · exact aux q1 (by decide) (by decide) 3 q2 (by decide)
  · exact aux q1 (by decide) (by decide) 4 q2 (by decide)
  · rw [q2, if_pos rfl, q1, if_pos (show nI 3 = 3 from rfl), r5 (Or.inr q1), q3]
    by_cases e : (tk9 tp L lim (ps9 tp L lim c)).2.2.2.1 = nI ch
    · rw [if_pos e, decide_eq_true ⟨rfl, e⟩]; exact ⟨rfl, rfl⟩
    · rw [if_neg e, decide_eq_false (fun z => e z.2)]; exact ⟨rfl, rfl⟩
theorem aend_ok (h : CQ tp L lim sz c kc) (hr : RC tp L lim c rc) (N : Nat) : (f_X8_isAtEnd N kc.1 = some 1 ∧ rc.2.1 = 0) ∨ (f_X8_isAtEnd N kc.1 = some 0 ∧ ¬ rc.2.1 = 0) := by
  obtain ⟨-, r2, -⟩ := hr
  unfold f_X8_isAtEnd
  rw [r2]
  have aux : ∀ {n : Nat}, (tk9 tp L lim (ps9 tp L lim c)).1 = n → n ≠ 0 → n ≤ 4 → ∀ kd : Int32, kc.1 = kd → ¬ kd = 0 → ((if kc.1 = 0 then (some 1) else (some 0) : Option Int32) = some 0 ∧ ¬ nI (tk9 tp L lim (ps9 tp L lim c)).1 = 0) := by
    intro n hn hne hn4 kd hkd hk3
    rw [hkd, if_neg hk3, hn]
    exact ⟨rfl, nk9 (b := 0) (by omega) (by omega) hne⟩
  rcases h.1.2 with ⟨q1, q2⟩ | ⟨q1, q2⟩ | ⟨q1, -, q3⟩ | ⟨q1, q2, -⟩ | ⟨q1, q2, q3, -⟩
  · left; rw [q2, if_pos rfl, q1]; exact ⟨rfl, rfl⟩
  · exact Or.inr (aux q1 (by decide) (by decide) 1 q2 (by decide))
  · rcases q3 with ⟨q2, -⟩ | ⟨q2, -⟩
    · exact Or.inr (aux q1 (by decide) (by decide) 2 q2 (by decide))
    · exact Or.inr (aux q1 (by decide) (by decide) 3 q2 (by decide))
  · exact Or.inr (aux q1 (by decide) (by decide) 4 q2 (by decide))
  · exact Or.inr (aux q1 (by decide) (by decide) 5 q2 (by decide))
theorem pl_at (h : CQ tp L lim sz c kc) (hr : RC tp L lim c rc) : kc.2.1 = rc.2.2.1 := h.1.1.trans hr.2.2.1.symm
theorem ref0 (N : Nat) (k pl fp : Int32) : f_X8_refuse N k pl 0 fp = some (0, k, pl) := if_pos rfl
/-- a sign is taken -/
theorem tsy_ok (hE : EV tp L lim sz K P V W) (h : CQ tp L lim sz c kc) (hr : RC tp L lim c rc) (N ch : Nat) (hN : 2010 ≤ N) (fp fa : Int32) : (∃ kc' rc', f_X8_takeSymbol N (nI ch) kc.1 kc.2.1 kc.2.2.1 kc.2.2.2.1 0 fp (nI sz) kc.2.2.2.2 K P V W = some (1, kc'.1, kc'.2.1, kc'.2.2.1, kc'.2.2.2.1, 0, fp, kc'.2.2.2.2) ∧ f_X12_sign N (nI ch) (nI L) rc.1 (nI lim) rc.2.1 rc.2.2.1 rc.2.2.2.1 rc.2.2.2.2.1 0 fa rc.2.2.2.2.2 tp = some (1, rc'.1, rc'.2.1, rc'.2.2.1, rc'.2.2.2.1, rc'.2.2.2.2.1, 0, fa, rc'.2.2.2.2.2) ∧ CQ tp L lim sz (c + 1) kc' ∧ RC tp L lim (c + 1) rc' ∧ ps9 tp L lim c + 1 ≤ ps9 tp L lim (c + 1)) ∨ (f_X8_takeSymbol N (nI ch) kc.1 kc.2.1 kc.2.2.1 kc.2.2.2.1 0 fp (nI sz) kc.2.2.2.2 K P V W = some (0, kc.1, kc.2.1, kc.2.2.1, kc.2.2.2.1, 1, rc.2.2.1, kc.2.2.2.2) ∧ f_X12_sign N (nI ch) (nI L) rc.1 (nI lim) rc.2.1 rc.2.2.1 rc.2.2.2.1 rc.2.2.2.2.1 0 fa rc.2.2.2.2.2 tp = some (0, rc.1, rc.2.1, rc.2.2.1, rc.2.2.2.1, rc.2.2.2.2.1, 1, rc.2.2.1, rc.2.2.2.2.2)) := by
  obtain ⟨s1, s2⟩ := sym_ok h hr N ch
  obtain ⟨kc', a1, a2⟩ := adv_ok hE h N
  obtain ⟨rc', b1, b2⟩ := nex_ok hE hr N hN
  unfold f_X8_takeSymbol f_X12_sign
  rw [s1, zcl_s, s2, zcl_s, a1, b1, ref0, pl_at h hr]
  cases hy : isY tp L lim c ch
  · right
    exact ⟨rfl, rfl⟩
  · left
    refine ⟨kc', rc', rfl, rfl, a2, b2, ?_⟩
    unfold isY at hy
    rw [decide_eq_true_iff] at hy
    rw [ps9]
    exact (tk9_nx (ps9_le c)).2.2.1 (Or.inr (Or.inr hy.1))
/-- a number is taken -/
theorem tnu_ok (hE : EV tp L lim sz K P V W) (h : CQ tp L lim sz c kc) (hr : RC tp L lim c rc) (N lo hi : Nat) (hN : 2010 ≤ N) (hh : hi < 1000) (hl : lo ≤ hi) (fp fa got : Int32) : (∃ v kc' rc', lo ≤ v ∧ v ≤ hi ∧ f_X8_takeNumber N (nI lo) (nI hi) kc.1 kc.2.1 kc.2.2.1 kc.2.2.2.1 0 fp (nI sz) kc.2.2.2.2 K P V W = some (nI v, kc'.1, kc'.2.1, kc'.2.2.1, kc'.2.2.2.1, 0, fp, kc'.2.2.2.2) ∧ f_X12_takes N (nI lo) (nI hi) (nI L) rc.1 (nI lim) rc.2.1 rc.2.2.1 rc.2.2.2.1 rc.2.2.2.2.1 0 fa rc.2.2.2.2.2 got tp = some (1, rc'.1, rc'.2.1, rc'.2.2.1, rc'.2.2.2.1, rc'.2.2.2.2.1, 0, fa, rc'.2.2.2.2.2, nI v) ∧ CQ tp L lim sz (c + 1) kc' ∧ RC tp L lim (c + 1) rc' ∧ ps9 tp L lim c + 1 ≤ ps9 tp L lim (c + 1)) ∨ (∃ k : Int32, ¬ k = 0 ∧ f_X8_takeNumber N (nI lo) (nI hi) kc.1 kc.2.1 kc.2.2.1 kc.2.2.2.1 0 fp (nI sz) kc.2.2.2.2 K P V W = some (-1, kc.1, kc.2.1, kc.2.2.1, kc.2.2.2.1, k, rc.2.2.1, kc.2.2.2.2) ∧ f_X12_takes N (nI lo) (nI hi) (nI L) rc.1 (nI lim) rc.2.1 rc.2.2.1 rc.2.2.2.1 rc.2.2.2.2.1 0 fa rc.2.2.2.2.2 got tp = some (0, rc.1, rc.2.1, rc.2.2.1, rc.2.2.2.1, rc.2.2.2.2.1, k, rc.2.2.1, rc.2.2.2.2.2, got)) := by
  obtain ⟨kc', a1, a2⟩ := adv_ok hE h N
  obtain ⟨rc', b1, b2⟩ := nex_ok hE hr N hN
  have hpl := pl_at h hr
  obtain ⟨-, r2, -, -, r5⟩ := hr
  unfold f_X8_takeNumber f_X8_takeNumber_31 f_X12_takes f_X12_bad
  rw [r2, ref0, zcl_s, ref0, zcl_s, zcl_s]
  have aux : ∀ {n : Nat}, (tk9 tp L lim (ps9 tp L lim c)).1 = n → n ≠ 2 → n ≤ 4 → ∀ kd : Int32, kc.1 = kd → ¬ kd = 4 → (¬ kc.1 = 4 ∧ ¬ nI (tk9 tp L lim (ps9 tp L lim c)).1 = 2) := by
    intro n hn hne hn4 kd hkd hk3
    rw [hkd, hn]
    exact ⟨hk3, nk9 (b := 2) (by omega) (by omega) hne⟩
  have cs : (¬ kc.1 = 4 ∧ ¬ nI (tk9 tp L lim (ps9 tp L lim c)).1 = 2) ∨ ((tk9 tp L lim (ps9 tp L lim c)).1 = 2 ∧ kc.1 = 4 ∧ kc.2.2.1 = (tk9 tp L lim (ps9 tp L lim c)).2.2.2.1 ∧ ∃ v, v ≤ 999 ∧ kc.2.2.1 = nI v) := by
    rcases h.1.2 with ⟨q1, q2⟩ | ⟨q1, q2⟩ | ⟨q1, -, q3⟩ | q | ⟨q1, q2, q3, -⟩
    · exact Or.inl (aux q1 (by decide) (by decide) 0 q2 (by decide))
    · exact Or.inl (aux q1 (by decide) (by decide) 1 q2 (by decide))
    · rcases q3 with ⟨q2, -⟩ | ⟨q2, -⟩
      · exact Or.inl (aux q1 (by decide) (by decide) 2 q2 (by decide))
      · exact Or.inl (aux q1 (by decide) (by decide) 3 q2 (by decide))
    · exact Or.inr q
    · exact Or.inl (aux q1 (by decide) (by decide) 5 q2 (by decide))
  rcases cs with ⟨c1, c2⟩ | ⟨q1, q2, q3, v, v1, v2⟩
  · right
    rw [if_neg c1, if_neg c2, hpl]
    exact ⟨1, by decide, rfl, rfl⟩
  · rw [if_pos q2, q1, if_pos (show nI 2 = 2 from rfl)]
    have hn := r5 (Or.inl q1)
    rw [← q3, v2] at hn
    rw [hn, X12_isIn_lit N (nI v) (by omega) (by omega), nI_toInt (show v < 2147483648 by omega), zcl_s]
    rw [r2, q1, hn] at b1
    rw [v2] at a1 ⊢
    by_cases e1 : v < lo
    · right
      rw [if_pos (nI_lt e1 (by omega)), decide_eq_false (by omega), hpl]
      exact ⟨2, by decide, rfl, rfl⟩
    · rw [if_neg (nI_nlt (by omega) (by omega))]
      by_cases e2 : v ≤ hi
      · left
        rw [if_pos (nI_le e2 (by omega)), decide_eq_true (by omega), a1, zcl_s, if_neg (show ¬ bI true = 0 by decide), b1, zcl_s]
        refine ⟨v, kc', rc', by omega, e2, rfl, rfl, a2, b2, ?_⟩
        rw [ps9]
        exact (tk9_nx (ps9_le c)).2.2.1 (Or.inr (Or.inl q1))
      · right
        rw [if_neg (nI_ge (by omega) (by omega)), decide_eq_false (by omega), hpl]
        exact ⟨2, by decide, rfl, rfl⟩
end CUR
