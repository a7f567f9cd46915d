/-! ===== a sentence: what one part may be ===== -/
def lfI (j : Nat) : Int32 := if 17 ≤ j then nI (j - 17) else -1
theorem leaf9 : ∀ j, j < 26 → ((if bI (decide (17 = j)) = 0 then (if bI (decide (18 = j)) = 0 then (if bI (decide (19 = j)) = 0 then (if bI (decide (20 = j)) = 0 then (if bI (decide (21 = j)) = 0 then (if bI (decide (22 = j)) = 0 then (if bI (decide (23 = j)) = 0 then (if bI (decide (24 = j)) = 0 then (if bI (decide (25 = j)) = 0 then (some (-1)) else (some 8)) else (some 7)) else (some 6)) else (some 5)) else (some 4)) else (some 3)) else (some 2)) else (some 1)) else (some 0)) : Option Int32) = some (lfI j) := by decide +kernel
section SNQ
variable {tp : Nat → Int32} {L lim sz c : Nat} {K P V : Nat → Int32} {W : Nat → Int64} {kc : KU} {rc : RU} {res nm : Nat → Int64} {b : MB} {B : CB} {s : Nat → Int32} {fp fa : Int32}
theorem leaf_k (h : CQ tp L lim sz c kc) (hr : RC tp L lim c rc) (N : Nat) {j : Nat} (hj : j < 26) (hz : ∀ (i : Nat) (w : Int64), kwL[i]? = some w → isK tp L lim c w = decide (i = j)) : f_X12_leafOf N rc.2.1 rc.2.2.2.2.2 = some (lfI j) := by
  unfold f_X12_leafOf
  rw [(kwd_ok h hr N 17 7304564 rfl).2, (kwd_ok h hr N 18 444250812007 rfl).2, (kwd_ok h hr N 19 491394656372 rfl).2, (kwd_ok h hr N 20 25209 rfl).2, (kwd_ok h hr N 21 29807 rfl).2, (kwd_ok h hr N 22 1818326117 rfl).2, (kwd_ok h hr N 23 109330312357234 rfl).2, (kwd_ok h hr N 24 1667329381 rfl).2, (kwd_ok h hr N 25 121450625394034 rfl).2]
  rw [hz 17 7304564 rfl, hz 18 444250812007 rfl, hz 19 491394656372 rfl, hz 20 25209 rfl, hz 21 29807 rfl, hz 22 1818326117 rfl, hz 23 109330312357234 rfl, hz 24 1667329381 rfl, hz 25 121450625394034 rfl]
  simp only [zcl_s]
  exact leaf9 j hj
theorem leaf_n (h : CQ tp L lim sz c kc) (hr : RC tp L lim c rc) (N : Nat) (hz : ∀ (i : Nat) (w : Int64), kwL[i]? = some w → isK tp L lim c w = false) : f_X12_leafOf N rc.2.1 rc.2.2.2.2.2 = some (-1) := by
  unfold f_X12_leafOf
  rw [(kwd_ok h hr N 17 7304564 rfl).2, (kwd_ok h hr N 18 444250812007 rfl).2, (kwd_ok h hr N 19 491394656372 rfl).2, (kwd_ok h hr N 20 25209 rfl).2, (kwd_ok h hr N 21 29807 rfl).2, (kwd_ok h hr N 22 1818326117 rfl).2, (kwd_ok h hr N 23 109330312357234 rfl).2, (kwd_ok h hr N 24 1667329381 rfl).2, (kwd_ok h hr N 25 121450625394034 rfl).2]
  rw [hz 17 7304564 rfl, hz 18 444250812007 rfl, hz 19 491394656372 rfl, hz 20 25209 rfl, hz 21 29807 rfl, hz 22 1818326117 rfl, hz 23 109330312357234 rfl, hz 24 1667329381 rfl, hz 25 121450625394034 rfl]
  simp only [zcl_s]
  rfl
theorem op38 (N : Nat) {z4 z11 z16 : Int32} (e1 : f_X12_isWord N 7237492 rc.2.1 rc.2.2.2.2.2 = some z4) (e2 : f_X12_isSign N 40 rc.2.1 rc.2.2.2.2.1 = some z11) (e3 : f_X12_leafOf N rc.2.1 rc.2.2.2.2.2 = some z16) (hz : ¬ z4 = 0 ∨ ¬ z11 = 0 ∨ 0 ≤ z16) (got codes on top deep : Int32) (st rd : Nat → Int32) : f_X12_operand N (nI L) rc.1 (nI lim) rc.2.1 rc.2.2.1 rc.2.2.2.1 rc.2.2.2.2.1 0 fa rc.2.2.2.2.2 got codes on top deep 0 tp st rd s res nm = f_X12_operand_38 N (nI L) (nI lim) tp s res nm z4 z11 z16 rc.1 rc.2.1 rc.2.2.1 rc.2.2.2.1 rc.2.2.2.2.1 0 fa rc.2.2.2.2.2 got codes on top deep 0 st rd := by
  unfold f_X12_operand
  rw [e1, zcl_s, e2, zcl_s, e3, zcl_s]
  by_cases a : z4 = 0
  · rw [if_pos a]
    by_cases b : z11 = 0
    · rw [if_pos b]
      rcases hz with z | z | z
      · exact absurd a z
      · exact absurd b z
      · rw [if_pos z]
    · rw [if_neg b]
  · rw [if_neg a]
theorem lp_op (N n : Nat) {got codes on top deep : Int32} {st rd : Nat → Int32} {rc' : RU} {got' codes' on' top' deep' wh' : Int32} {st' rd' : Nat → Int32} (h : f_X12_operand N (nI L) rc.1 (nI lim) rc.2.1 rc.2.2.1 rc.2.2.2.1 rc.2.2.2.2.1 0 fa rc.2.2.2.2.2 got codes on top deep 0 tp st rd s res nm = some (1, rc'.1, rc'.2.1, rc'.2.2.1, rc'.2.2.2.1, rc'.2.2.2.2.1, 0, fa, rc'.2.2.2.2.2, got', codes', on', top', deep', wh', st', rd')) : lpS9 N tp res nm L lim fa s (n + 1) rc got codes on top deep 0 st rd = lpS9 N tp res nm L lim fa s n rc' got' codes' on' top' deep' wh' st' rd' := by
  unfold lpS9
  rw [f_X12_sentence_48, if_neg one0, if_pos rfl]
  unfold f_X12_sentence_101
  rw [if_pos rfl, h, zcl_s, if_neg one0]
theorem lp_no (N n : Nat) {got codes on top deep : Int32} {st rd : Nat → Int32} {fl pl p' tok' at' sp' nu' : Int32} {wd' : Int64} {got' codes' on' top' deep' wh' : Int32} {st' rd' : Nat → Int32} (h : f_X12_operand N (nI L) rc.1 (nI lim) rc.2.1 rc.2.2.1 rc.2.2.2.1 rc.2.2.2.2.1 0 fa rc.2.2.2.2.2 got codes on top deep 0 tp st rd s res nm = some (0, p', tok', at', sp', nu', fl, pl, wd', got', codes', on', top', deep', wh', st', rd')) : FL9 s L lim fl pl (lpS9 N tp res nm L lim fa s (n + 1) rc got codes on top deep 0 st rd) := by
  unfold lpS9
  rw [f_X12_sentence_48, if_neg one0, if_pos rfl]
  unfold f_X12_sentence_101 f_X12_sentence_125
  rw [if_pos rfl, h, zcl_s, if_pos rfl]
  exact ⟨_, _, _, _, _, _, _, _, _, _, _, _, _, _, rfl⟩
theorem tsy_t (hE : EV tp L lim sz K P V W) (h : CQ tp L lim sz c kc) (hr : RC tp L lim c rc) (N ch : Nat) (fp : Int32) (hy : isY tp L lim c ch = true) : ∃ kc', f_X8_takeSymbol N (nI ch) kc.1 kc.2.1 kc.2.2.1 kc.2.2.2.1 0 fp (nI sz) kc.2.2.2.2 K P V W = some (1, kc'.1, kc'.2.1, kc'.2.2.1, kc'.2.2.2.1, 0, fp, kc'.2.2.2.2) ∧ CQ tp L lim sz (c + 1) kc' := by
  obtain ⟨kc', a1, a2⟩ := adv_ok hE h N
  refine ⟨kc', ?_, a2⟩
  unfold f_X8_takeSymbol
  rw [(sym_ok h hr N ch).1, hy, zcl_s, if_neg (show ¬ bI true = 0 by decide), a1, zcl_s]
theorem tsy_f (h : CQ tp L lim sz c kc) (hr : RC tp L lim c rc) (N ch : Nat) (fp : Int32) (hy : isY tp L lim c ch = false) : f_X8_takeSymbol N (nI ch) kc.1 kc.2.1 kc.2.2.1 kc.2.2.2.1 0 fp (nI sz) kc.2.2.2.2 K P V W = some (0, kc.1, kc.2.1, kc.2.2.1, kc.2.2.2.1, 1, rc.2.2.1, kc.2.2.2.2) := by
  unfold f_X8_takeSymbol
  rw [(sym_ok h hr N ch).1, hy, zcl_s, if_pos (show bI false = 0 from rfl), ref0, zcl_s]
  dsimp only
  rw [zbo0, zck_t, ← pl_at h hr]
theorem num2 (hE : EV tp L lim sz K P V W) (h : CQ tp L lim sz c kc) (hr : RC tp L lim c rc) (N : Nat) (fp : Int32) : (∃ (v : Nat) (kc' : KU), v ≤ 999 ∧ f_X8_takeNumber N 0 999 kc.1 kc.2.1 kc.2.2.1 kc.2.2.2.1 0 fp (nI sz) kc.2.2.2.2 K P V W = some (nI v, kc'.1, kc'.2.1, kc'.2.2.1, kc'.2.2.2.1, 0, fp, kc'.2.2.2.2) ∧ CQ tp L lim sz (c + 1) kc' ∧ rc.2.1 = 2 ∧ rc.2.2.2.2.1 = nI v ∧ ps9 tp L lim c + 1 ≤ ps9 tp L lim (c + 1)) ∨ (f_X8_takeNumber N 0 999 kc.1 kc.2.1 kc.2.2.1 kc.2.2.2.1 0 fp (nI sz) kc.2.2.2.2 K P V W = some (-1, kc.1, kc.2.1, kc.2.2.1, kc.2.2.2.1, 1, rc.2.2.1, kc.2.2.2.2) ∧ ¬ rc.2.1 = 2) := by
  obtain ⟨kc', a1, a2⟩ := adv_ok hE h N
  have hpl := pl_at h hr
  obtain ⟨-, r2, -, -, r5⟩ := hr
  unfold f_X8_takeNumber
  have aux : ∀ {n : Nat}, (tk9 tp L lim (ps9 tp L lim c)).1 = n → n ≠ 2 → n ≤ 4 → ∀ kd : Int32, kc.1 = kd → ¬ kd = 4 → (¬ kc.1 = 4 ∧ ¬ rc.2.1 = 2) := by
    intro n hn hne hn4 kd hkd hk3
    rw [hkd, r2, hn]
    exact ⟨hk3, nk9 (b := 2) (by omega) (by omega) hne⟩
  have cs : (¬ kc.1 = 4 ∧ ¬ rc.2.1 = 2) ∨ ((tk9 tp L lim (ps9 tp L lim c)).1 = 2 ∧ kc.1 = 4 ∧ kc.2.2.1 = (tk9 tp L lim (ps9 tp L lim c)).2.2.2.1 ∧ ∃ v, v ≤ 999 ∧ kc.2.2.1 = nI v) := by
    rcases h.1.2 with ⟨q1, q2⟩ | ⟨q1, q2⟩ | ⟨q1, -, q3⟩ | q | ⟨q1, q2, q3, -⟩
    · exact Or.inl (aux q1 (by decide) (by decide) 0 q2 (by decide))
    · exact Or.inl (aux q1 (by decide) (by decide) 1 q2 (by decide))
    · rcases q3 with ⟨q2, -⟩ | ⟨q2, -⟩
      · exact Or.inl (aux q1 (by decide) (by decide) 2 q2 (by decide))
      · exact Or.inl (aux q1 (by decide) (by decide) 3 q2 (by decide))
    · exact Or.inr q
    · exact Or.inl (aux q1 (by decide) (by decide) 5 q2 (by decide))
  rcases cs with ⟨c1, c2⟩ | ⟨q1, q2, q3, v, v1, v2⟩
  · right
    rw [if_neg c1, ref0, zcl_s, hpl]
    exact ⟨rfl, c2⟩
  · left
    have hn := r5 (Or.inl q1)
    rw [← q3, v2] at hn
    rw [if_pos q2, if_neg (show ¬ kc.2.2.1 < 0 by rw [v2]; exact nI_nlt (b := 0) (Nat.zero_le _) (by omega)), if_pos (show kc.2.2.1 ≤ 999 by rw [v2]; exact nI_le (b := 999) v1 (by omega)), a1, zcl_s]
    refine ⟨v, kc', v1, by rw [v2], a2, by rw [r2, q1]; rfl, hn, ?_⟩
    rw [ps9]
    exact (tk9_nx (ps9_le c)).2.2.1 (Or.inr (Or.inl q1))
theorem cmp_cs (h : CQ tp L lim sz c kc) (hr : RC tp L lim c rc) : (∃ sg, 60 ≤ sg ∧ sg ≤ 62 ∧ kc.2.2.1 = nI sg ∧ rc.2.1 = 3 ∧ rc.2.2.2.2.1 = nI sg ∧ isY tp L lim c sg = true ∧ ps9 tp L lim c + 1 ≤ ps9 tp L lim (c + 1)) ∨ ((∀ ch, 60 ≤ ch → ch ≤ 62 → isY tp L lim c ch = false) ∧ (¬ rc.2.1 = 3 ∨ (rc.2.1 = 3 ∧ (rc.2.2.2.2.1 < 60 ∨ (¬ rc.2.2.2.2.1 < 60 ∧ ¬ rc.2.2.2.2.1 ≤ 62))))) := by
  obtain ⟨-, r2, -, -, r5⟩ := hr
  unfold isY
  have aux : ∀ {n : Nat}, (tk9 tp L lim (ps9 tp L lim c)).1 = n → n ≠ 3 → n ≤ 4 → ((∀ ch, 60 ≤ ch → ch ≤ 62 → decide ((tk9 tp L lim (ps9 tp L lim c)).1 = 3 ∧ (tk9 tp L lim (ps9 tp L lim c)).2.2.2.1 = nI ch) = false) ∧ (¬ rc.2.1 = 3 ∨ (rc.2.1 = 3 ∧ (rc.2.2.2.2.1 < 60 ∨ (¬ rc.2.2.2.2.1 < 60 ∧ ¬ rc.2.2.2.2.1 ≤ 62))))) := by
    intro n hn hne hn4
    refine ⟨fun ch _ _ => decide_eq_false (fun z => hne (hn ▸ z.1)), Or.inl ?_⟩
    rw [r2, hn]
    exact nk9 (b := 3) (by omega) (by omega) hne
  rcases h.1.2 with ⟨q1, q2⟩ | ⟨q1, q2⟩ | ⟨q1, -, q3⟩ | ⟨q1, -⟩ | ⟨q1, q2, q3, c0, c1, c2, -⟩
  · exact Or.inr (aux q1 (by decide) (by decide))
  · exact Or.inr (aux q1 (by decide) (by decide))
  · exact Or.inr (aux q1 (by decide) (by decide))
  · exact Or.inr (aux q1 (by decide) (by decide))
  · have hn := r5 (Or.inr q1)
    rw [← q3, c2] at hn
    have tk : rc.2.1 = 3 := by rw [r2, q1]; rfl
    by_cases e : 60 ≤ c0 ∧ c0 ≤ 62
    · left
      refine ⟨c0, e.1, e.2, c2, tk, hn, decide_eq_true ⟨q1, by rw [← q3, c2]⟩, ?_⟩
      rw [ps9]
      exact (tk9_nx (ps9_le c)).2.2.1 (Or.inr (Or.inr q1))
    · right
      refine ⟨fun ch h1 h2 => decide_eq_false (fun z => ?_), Or.inr ⟨tk, ?_⟩⟩
      · have z2 := z.2
        rw [← q3, c2] at z2
        have := (nI_eq (by omega) (by omega)).mp z2
        omega
      · rw [hn]
        by_cases e1 : c0 < 60
        · exact Or.inl (nI_lt (b := 60) e1 (by omega))
        · exact Or.inr ⟨nI_nlt (b := 60) (by omega) (by omega), nI_ge (a := 62) (by omega) (by omega)⟩
theorem rc53 (h : CQ tp L lim sz c kc) (hr : RC tp L lim c rc) (N sg : Nat) (h1 : 60 ≤ sg) (h2 : sg ≤ 62) (hy : isY tp L lim c sg = true) (x0 fp ln : Int32) (cd : Nat → Int32) : f_X6_readComparison N x0 kc.1 kc.2.1 kc.2.2.1 kc.2.2.2.1 0 fp (nI sz) kc.2.2.2.2 K P V W ln cd = f_X6_readComparison_53 N (nI sz) K P V W x0 kc.2.2.1 kc.1 kc.2.1 kc.2.2.1 kc.2.2.2.1 0 fp kc.2.2.2.2 ln cd := by
  unfold f_X6_readComparison
  have s0 := (sym_ok h hr N 60).1
  have s1 := (sym_ok h hr N 61).1
  have s2 := (sym_ok h hr N 62).1
  rw [show nI 60 = (60 : Int32) from rfl] at s0
  rw [show nI 61 = (61 : Int32) from rfl] at s1
  rw [show nI 62 = (62 : Int32) from rfl] at s2
  rw [s0, zcl_s]
  cases y0 : isY tp L lim c 60
  · rw [if_pos (show bI false = 0 from rfl), s1, zcl_s]
    cases y1 : isY tp L lim c 61
    · rw [if_pos (show bI false = 0 from rfl), s2, zcl_s]
      cases y2 : isY tp L lim c 62
      · have : sg = 60 ∨ sg = 61 ∨ sg = 62 := by omega
        rcases this with rfl | rfl | rfl
        · rw [y0] at hy; cases hy
        · rw [y1] at hy; cases hy
        · rw [y2] at hy; cases hy
      · rw [if_neg (show ¬ bI true = 0 by decide)]
    · rw [if_neg (show ¬ bI true = 0 by decide)]
  · rw [if_neg (show ¬ bI true = 0 by decide)]
theorem rcno (h : CQ tp L lim sz c kc) (hr : RC tp L lim c rc) (N : Nat) (hy : ∀ ch, 60 ≤ ch → ch ≤ 62 → isY tp L lim c ch = false) (x0 fp ln : Int32) (cd : Nat → Int32) : f_X6_readComparison N x0 kc.1 kc.2.1 kc.2.2.1 kc.2.2.2.1 0 fp (nI sz) kc.2.2.2.2 K P V W ln cd = some (0, kc.1, kc.2.1, kc.2.2.1, kc.2.2.2.1, 1, rc.2.2.1, kc.2.2.2.2, ln, cd) := by
  unfold f_X6_readComparison
  have s0 := (sym_ok h hr N 60).1
  have s1 := (sym_ok h hr N 61).1
  have s2 := (sym_ok h hr N 62).1
  rw [show nI 60 = (60 : Int32) from rfl, hy 60 (by omega) (by omega)] at s0
  rw [show nI 61 = (61 : Int32) from rfl, hy 61 (by omega) (by omega)] at s1
  rw [show nI 62 = (62 : Int32) from rfl, hy 62 (by omega) (by omega)] at s2
  rw [s0, zcl_s, if_pos (show bI false = 0 from rfl), s1, zcl_s, if_pos (show bI false = 0 from rfl), s2, zcl_s, if_pos (show bI false = 0 from rfl), ref0, zcl_s]
  dsimp only
  rw [zbo0, zck_t, ← pl_at h hr]
end SNQ
