/-! ===== tokens: the reference's next; keywords ===== -/
section TOK2
variable {tp : Nat → Int32} {L lim : Nat}
theorem nx80 (N q : Nat) (token number : Int32) (word : Int64) (hN : 2010 ≤ N) (hL : L ≤ 940) (hq : q ≤ L) : ∃ sp' nu' wd', f_X12_next_80 N (nI L) (nI lim) tp (nI q) token (nI q) 0 number word = some ((if L ≤ q then nI q else if ld9 (ob (tp q)) = true then nI (q + rn9 tp (L - q) q) else nI (q + 1)), (if L ≤ q then nI 0 else if ld9 (ob (tp q)) = true then nI (kd9 tp q (rn9 tp (L - q) q)) else if mk9 (ob (tp q)) = true then nI 3 else nI 4), nI q, sp', nu', wd') ∧ (q < L → ld9 (ob (tp q)) = true → wd' = sp9 tp q (min (rn9 tp (L - q) q) 7) ∧ nu' = nu9 tp q (min (rn9 tp (L - q) q) 3)) ∧ (q < L → ld9 (ob (tp q)) = false → nu' = nI (ob (tp q))) := by
  unfold f_X12_next_80
  by_cases c : L ≤ q
  · rw [pee_out N L q tp c (by omega), zcl_s, if_neg (show ¬ (0 : Int32) ≤ -1 by decide), if_pos c, if_pos c]
    exact ⟨_, _, _, rfl, fun h => absurd h (by omega), fun h => absurd h (by omega)⟩
  · have hb := ob_lt (tp q)
    have r9 := run9 (tp := tp) (lim := lim) N q (rn9 tp (L - q) q) token (nI q) hL (by omega) rfl (by omega)
    have k164 : f_X12_next_164 N (nI L) (nI lim) tp (nI (ob (tp q))) (nI q) token (nI q) 0 number word = some (nI (q + rn9 tp (L - q) q), nI (kd9 tp q (rn9 tp (L - q) q)), nI q, nI (rn9 tp (L - q) q), nu9 tp q (min (rn9 tp (L - q) q) 3), sp9 tp q (min (rn9 tp (L - q) q) 7)) := by
      unfold f_X12_next_164
      rw [isS_ok N hb, zcl_s, r9]
    rw [pee_in N L q tp (by omega) hL, zcl_s, if_pos (show (0 : Int32) ≤ nI (ob (tp q)) from nI_le (a := 0) (Nat.zero_le _) (by omega)), isS_ok N hb, zcl_s, isG_ok N hb, zcl_s, k164, if_neg c, if_neg c]
    unfold ld9
    cases h1 : sl9 (ob (tp q))
    · rw [if_pos (show bI false = 0 from rfl), Bool.false_or]
      cases h2 : dg9 (ob (tp q))
      · rw [if_pos (show bI false = 0 from rfl), if_neg (show ¬ false = true by decide), if_neg (show ¬ false = true by decide)]
        unfold f_X12_next_140 f_X12_next_144 f_X12_next_145
        rw [zbn_s, zbn_s, nI_1]
        refine ⟨0, nI (ob (tp q)), word, ?_, fun _ h => absurd h (by decide), fun _ _ => rfl⟩
        unfold mk9
        by_cases c1 : ob (tp q) = 59
        · rw [c1, if_pos (show nI 59 = 59 from rfl)]; rfl
        · rw [if_neg (show ¬ nI (ob (tp q)) = 59 from fun z => c1 ((nI_eq (b := 59) (by omega) (by omega)).mp z)), decide_eq_false c1, Bool.false_or]
          by_cases c2 : ob (tp q) = 40
          · rw [c2, if_pos (show nI 40 = 40 from rfl)]; rfl
          · rw [if_neg (show ¬ nI (ob (tp q)) = 40 from fun z => c2 ((nI_eq (b := 40) (by omega) (by omega)).mp z)), decide_eq_false c2, Bool.false_or]
            by_cases c3 : ob (tp q) = 41
            · rw [c3, if_pos (show nI 41 = 41 from rfl)]; rfl
            · rw [if_neg (show ¬ nI (ob (tp q)) = 41 from fun z => c3 ((nI_eq (b := 41) (by omega) (by omega)).mp z)), decide_eq_false c3, Bool.false_or]
              by_cases c4 : 60 ≤ ob (tp q)
              · rw [if_neg (show ¬ nI (ob (tp q)) < 60 from nI_nlt (b := 60) c4 (by omega)), decide_eq_true c4, Bool.true_and]
                by_cases c5 : ob (tp q) ≤ 62
                · rw [if_neg (show ¬ (62 : Int32) < nI (ob (tp q)) from nI_nlt (a := 62) c5 (by omega)), decide_eq_true c5]; rfl
                · rw [if_pos (show (62 : Int32) < nI (ob (tp q)) from nI_lt (a := 62) (by omega) (by omega)), decide_eq_false c5]; rfl
              · rw [if_pos (show nI (ob (tp q)) < 60 from nI_lt (b := 60) (by omega) (by omega)), decide_eq_false c4, Bool.false_and]; rfl
      · rw [if_neg (show ¬ bI true = 0 by decide), if_pos (show true = true from rfl), if_pos (show true = true from rfl)]
        exact ⟨_, _, _, rfl, fun _ _ => ⟨rfl, rfl⟩, fun _ h => absurd h (by decide)⟩
    · rw [if_neg (show ¬ bI true = 0 by decide), Bool.true_or, if_pos (show true = true from rfl), if_pos (show true = true from rfl)]
      exact ⟨_, _, _, rfl, fun _ _ => ⟨rfl, rfl⟩, fun _ h => absurd h (by decide)⟩
theorem sk9_le (p : Nat) (hp : p ≤ L) : p ≤ sk9 tp L p ∧ sk9 tp L p ≤ L := by
  have := bl9_le tp (L - p) p
  unfold sk9
  omega
theorem kd9_1 {p n : Nat} (h : kd9 tp p n = 1) : n ≤ 7 ∧ al9 tp p n = true ∧ sl9 (ob (tp p)) = true := by
  unfold kd9 at h
  by_cases c1 : al9 tp p n = true
  · rw [if_pos c1] at h
    by_cases c2 : sl9 (ob (tp p)) = true
    · rw [if_pos c2] at h
      by_cases c3 : n ≤ 7
      · exact ⟨c3, c1, c2⟩
      · rw [if_neg c3] at h; omega
    · rw [if_neg c2] at h
      by_cases c3 : n ≤ 3
      · rw [if_pos c3] at h; omega
      · rw [if_neg c3] at h; omega
  · rw [if_neg c1] at h; omega
theorem kd9_2 {p n : Nat} (h : kd9 tp p n = 2) : n ≤ 3 ∧ al9 tp p n = true ∧ sl9 (ob (tp p)) = false := by
  unfold kd9 at h
  by_cases c1 : al9 tp p n = true
  · rw [if_pos c1] at h
    by_cases c2 : sl9 (ob (tp p)) = true
    · rw [if_pos c2] at h
      by_cases c3 : n ≤ 7
      · rw [if_pos c3] at h; omega
      · rw [if_neg c3] at h; omega
    · rw [if_neg c2] at h
      by_cases c3 : n ≤ 3
      · exact ⟨c3, c1, by cases hh : sl9 (ob (tp p)) with
          | false => rfl
          | true => exact absurd hh c2⟩
      · rw [if_neg c3] at h; omega
  · rw [if_neg c1] at h; omega
theorem kd9_3 (p n : Nat) : kd9 tp p n ≠ 3 ∧ kd9 tp p n ≠ 0 := by
  unfold kd9
  by_cases c1 : al9 tp p n = true
  · rw [if_pos c1]
    by_cases c2 : sl9 (ob (tp p)) = true
    · rw [if_pos c2]
      by_cases c3 : n ≤ 7
      · rw [if_pos c3]; omega
      · rw [if_neg c3]; omega
    · rw [if_neg c2]
      by_cases c3 : n ≤ 3
      · rw [if_pos c3]; omega
      · rw [if_neg c3]; omega
  · rw [if_neg c1]; omega
theorem nxt_ok (N p : Nat) (hN : 2010 ≤ N) (hL : L ≤ 940) (hlim : lim ≤ 940) (hp : p ≤ L) (token at_ span number : Int32) (word : Int64) : ∃ sp' nu' wd', f_X12_next N (nI L) (nI p) (nI lim) token at_ span number word tp = some (nI (tk9 tp L lim p).2.2.1, nI (tk9 tp L lim p).1, nI (tk9 tp L lim p).2.1, sp', nu', wd') ∧ ((tk9 tp L lim p).1 = 1 → wd' = (tk9 tp L lim p).2.2.2.2) ∧ ((tk9 tp L lim p).1 = 2 ∨ (tk9 tp L lim p).1 = 3 → nu' = (tk9 tp L lim p).2.2.2.1) := by
  have hbl := bl9_le tp (L - p) p
  obtain ⟨q1, q2⟩ := sk9_le (tp := tp) (L := L) p hp
  unfold f_X12_next
  refine loopP (F := fun n i (_ : Unit) => f_X12_next_0 N (nI L) (nI lim) tp n (nI (p + i)) token at_ span number word) (M := bl9 tp (L - p) p) (Post := fun z => ∃ sp' nu' wd', z = some (nI (tk9 tp L lim p).2.2.1, nI (tk9 tp L lim p).1, nI (tk9 tp L lim p).2.1, sp', nu', wd') ∧ ((tk9 tp L lim p).1 = 1 → wd' = (tk9 tp L lim p).2.2.2.2) ∧ ((tk9 tp L lim p).1 = 2 ∨ (tk9 tp L lim p).1 = 3 → nu' = (tk9 tp L lim p).2.2.2.1)) (fun _ _ => True) ?_ ?_ N 0 () (by omega) (by omega) trivial
  · intro n i _ hi _
    left
    refine ⟨(), ?_, trivial⟩
    show f_X12_next_0 N (nI L) (nI lim) tp (n + 1) (nI (p + i)) token at_ span number word = f_X12_next_0 N (nI L) (nI lim) tp n (nI (p + (i + 1))) token at_ span number word
    have hw := bl9_in tp (L - p) p i hi
    have hb := ob_lt (tp (p + i))
    rw [f_X12_next_0, pee_in N L (p + i) tp (by omega) hL, zcl_s, zcl_s]
    unfold f_X12_next_18
    rw [zbn_s, nI_1]
    unfold wb9 at hw
    by_cases c : ob (tp (p + i)) = 32
    · rw [if_pos (show nI (ob (tp (p + i))) = 32 by rw [c]; rfl)]; rfl
    · rw [decide_eq_false c, Bool.false_or, decide_eq_true_iff] at hw
      rw [if_neg (show ¬ nI (ob (tp (p + i))) = 32 from fun z => c ((nI_eq (b := 32) (by omega) (by omega)).mp z)), if_pos (show nI (ob (tp (p + i))) = 10 by rw [hw]; rfl)]; rfl
  · intro n _ _
    show ∃ sp' nu' wd', f_X12_next_0 N (nI L) (nI lim) tp (n + 1) (nI (sk9 tp L p)) token at_ span number word = some (nI (tk9 tp L lim p).2.2.1, nI (tk9 tp L lim p).1, nI (tk9 tp L lim p).2.1, sp', nu', wd') ∧ ((tk9 tp L lim p).1 = 1 → wd' = (tk9 tp L lim p).2.2.2.2) ∧ ((tk9 tp L lim p).1 = 2 ∨ (tk9 tp L lim p).1 = 3 → nu' = (tk9 tp L lim p).2.2.2.1)
    have hend : ∃ z, f_X12_peek N (nI L) (nI (sk9 tp L p)) tp = some z ∧ ¬ z = 32 ∧ ¬ z = 10 := by
      by_cases c : sk9 tp L p < L
      · have hb := ob_lt (tp (sk9 tp L p))
        have hw : wb9 (ob (tp (sk9 tp L p))) = false := by
          rcases bl9_end tp (L - p) p with h | h
          · exact absurd c (by unfold sk9; omega)
          · exact h
        unfold wb9 at hw
        rw [Bool.or_eq_false_iff, decide_eq_false_iff_not, decide_eq_false_iff_not] at hw
        exact ⟨_, pee_in N L (sk9 tp L p) tp c hL, fun z => hw.1 ((nI_eq (b := 32) (by omega) (by omega)).mp z), fun z => hw.2 ((nI_eq (b := 10) (by omega) (by omega)).mp z)⟩
      · exact ⟨-1, pee_out N L (sk9 tp L p) tp (by omega) (by omega), by decide, by decide⟩
    obtain ⟨z, z1, z2, z3⟩ := hend
    obtain ⟨sp', nu', wd', n1, n2, n3⟩ := nx80 (tp := tp) (L := L) (lim := lim) N (sk9 tp L p) token number word hN hL q2
    rw [f_X12_next_0, z1, zcl_s, if_neg z2, zcl_s, if_neg z3, n1]
    unfold tk9
    by_cases c : lim < L ∧ lim ≤ sk9 tp L p
    · rw [if_neg (nI_ge c.1 (by omega)), if_neg (nI_nlt c.2 (by omega)), if_pos c]
      exact ⟨_, _, _, rfl, fun h => absurd h (show ¬ 4 = 1 by decide), fun h => absurd h (show ¬ (4 = 2 ∨ 4 = 3) by decide)⟩
    · have e : (if nI L ≤ nI lim then some ((if L ≤ sk9 tp L p then nI (sk9 tp L p) else if ld9 (ob (tp (sk9 tp L p))) = true then nI (sk9 tp L p + rn9 tp (L - sk9 tp L p) (sk9 tp L p)) else nI (sk9 tp L p + 1)), (if L ≤ sk9 tp L p then nI 0 else if ld9 (ob (tp (sk9 tp L p))) = true then nI (kd9 tp (sk9 tp L p) (rn9 tp (L - sk9 tp L p) (sk9 tp L p))) else if mk9 (ob (tp (sk9 tp L p))) = true then nI 3 else nI 4), nI (sk9 tp L p), sp', nu', wd') else if nI (sk9 tp L p) < nI lim then some ((if L ≤ sk9 tp L p then nI (sk9 tp L p) else if ld9 (ob (tp (sk9 tp L p))) = true then nI (sk9 tp L p + rn9 tp (L - sk9 tp L p) (sk9 tp L p)) else nI (sk9 tp L p + 1)), (if L ≤ sk9 tp L p then nI 0 else if ld9 (ob (tp (sk9 tp L p))) = true then nI (kd9 tp (sk9 tp L p) (rn9 tp (L - sk9 tp L p) (sk9 tp L p))) else if mk9 (ob (tp (sk9 tp L p))) = true then nI 3 else nI 4), nI (sk9 tp L p), sp', nu', wd') else some (nI (sk9 tp L p), 4, nI lim, 0, number, word)) = some ((if L ≤ sk9 tp L p then nI (sk9 tp L p) else if ld9 (ob (tp (sk9 tp L p))) = true then nI (sk9 tp L p + rn9 tp (L - sk9 tp L p) (sk9 tp L p)) else nI (sk9 tp L p + 1)), (if L ≤ sk9 tp L p then nI 0 else if ld9 (ob (tp (sk9 tp L p))) = true then nI (kd9 tp (sk9 tp L p) (rn9 tp (L - sk9 tp L p) (sk9 tp L p))) else if mk9 (ob (tp (sk9 tp L p))) = true then nI 3 else nI 4), nI (sk9 tp L p), sp', nu', wd') := by
        by_cases c2 : L ≤ lim
        · rw [if_pos (nI_le c2 (by omega))]
        · rw [if_neg (nI_ge (by omega) (by omega)), if_pos (nI_lt (show sk9 tp L p < lim by omega) (by omega))]
      rw [e, if_neg c]
      by_cases c3 : L ≤ sk9 tp L p
      · rw [if_pos c3, if_pos c3, if_pos c3]
        exact ⟨_, _, _, rfl, fun h => absurd h (show ¬ 0 = 1 by decide), fun h => absurd h (show ¬ (0 = 2 ∨ 0 = 3) by decide)⟩
      · rw [if_neg c3, if_neg c3, if_neg c3]
        cases c4 : ld9 (ob (tp (sk9 tp L p)))
        · rw [if_neg (show ¬ false = true by decide), if_neg (show ¬ false = true by decide), if_neg (show ¬ false = true by decide)]
          refine ⟨sp', nu', wd', ?_, fun h => ?_, fun _ => n3 (by omega) c4⟩
          · cases mk9 (ob (tp (sk9 tp L p))) <;> rfl
          · cases hh : mk9 (ob (tp (sk9 tp L p)))
            · rw [hh] at h; exact absurd (show 4 = 1 from h) (by decide)
            · rw [hh] at h; exact absurd (show 3 = 1 from h) (by decide)
        · obtain ⟨w1, w2⟩ := n2 (by omega) c4
          rw [if_pos (show true = true from rfl), if_pos (show true = true from rfl), if_pos (show true = true from rfl)]
          refine ⟨sp', nu', wd', rfl, fun h => ?_, fun h => ?_⟩
          · rw [w1, show min (rn9 tp (L - sk9 tp L p) (sk9 tp L p)) 7 = rn9 tp (L - sk9 tp L p) (sk9 tp L p) by have := (kd9_1 h).1; omega]
          · rcases h with h | h
            · rw [w2, show min (rn9 tp (L - sk9 tp L p) (sk9 tp L p)) 3 = rn9 tp (L - sk9 tp L p) (sk9 tp L p) by have := (kd9_2 h).1; omega]
            · exact absurd h (kd9_3 _ _).1
end TOK2
/-! keywords -/
def kwL : List Int64 := [427021001579, 120265316263282, 1835361652, 427071202675, 2002872692, 1717662580, 1936486263, 444015930995, 465726301555, 1936028787, 1937010544, 495873782388, 1836021349, 120299592184933, 28530, 6385252, 7237492, 7304564, 444250812007, 491394656372, 25209, 29807, 1818326117, 109330312357234, 1667329381, 121450625394034]
def ks9 : Nat → Int64 × Nat
  | 0 => (0, 0)
  | i + 1 => if zch 0 i = 32 then (0, (ks9 i).2 + 1) else ((zlshl (ks9 i).1 8) ||| (zch 0 i).toInt64, (ks9 i).2)
theorem ks9_l : ∀ i, i < 136 → zch 0 i = 32 → kwL[(ks9 i).2]? = some (ks9 i).1 := by decide +kernel
theorem ks9_r : ∀ j, j < 26 → ∃ i, i < 136 ∧ zch 0 i = 32 ∧ (ks9 i).2 = j := by decide +kernel
theorem lgc {x y : Int64} : lg_cmp x y = 0 ↔ x = y := lg_cmp_eq x y
theorem kw_ok (N : Nat) (w : Int64) (hN : 200 ≤ N) : ∃ v, f_X8_keywordOf N w = some v ∧ ((v = -1 ∧ ∀ (j : Nat), kwL[j]? ≠ some w) ∨ ∃ j, j < 26 ∧ kwL[j]? = some w ∧ v = nI j) := by
  unfold f_X8_keywordOf
  refine loopP (F := fun n i (_ : Unit) => f_X8_keywordOf_8 N n w (ks9 i).1 (nI (ks9 i).2) (nI i)) (M := 136) (Post := fun z => ∃ v, z = some v ∧ ((v = -1 ∧ ∀ (j : Nat), kwL[j]? ≠ some w) ∨ ∃ j, j < 26 ∧ kwL[j]? = some w ∧ v = nI j)) (fun i _ => ∀ k, k < i → zch 0 k = 32 → (ks9 k).1 ≠ w) ?_ ?_ N 0 () (by omega) (by omega) (fun k hk => absurd hk (by omega))
  · intro n i _ hi hI
    show (∃ x' : Unit, f_X8_keywordOf_8 N (n + 1) w (ks9 i).1 (nI (ks9 i).2) (nI i) = f_X8_keywordOf_8 N n w (ks9 (i + 1)).1 (nI (ks9 (i + 1)).2) (nI (i + 1)) ∧ ∀ k, k < i + 1 → zch 0 k = 32 → (ks9 k).1 ≠ w) ∨ ∃ v, f_X8_keywordOf_8 N (n + 1) w (ks9 i).1 (nI (ks9 i).2) (nI i) = some v ∧ ((v = -1 ∧ ∀ (j : Nat), kwL[j]? ≠ some w) ∨ ∃ j, j < 26 ∧ kwL[j]? = some w ∧ v = nI j)
    rw [f_X8_keywordOf_8, if_neg (show ¬ (136 : Int32) ≤ nI i from nI_ge (b := 136) hi (by omega)), zin_nI hi (by omega), zck_t, zbn_s, cl_n (show i < 2147483648 by omega), ks9]
    by_cases c : zch 0 i = 32
    · rw [if_pos c, if_pos c]
      by_cases e : (ks9 i).1 = w
      · right
        rw [if_pos (lgc.mpr e)]
        have hk := ks9_l i hi c
        have hlt : (ks9 i).2 < 26 := (List.getElem?_eq_some_iff.mp hk).1
        exact ⟨_, rfl, Or.inr ⟨(ks9 i).2, hlt, by rw [hk, e], rfl⟩⟩
      · left
        rw [if_neg (fun z => e (lgc.mp z)), zbn_s, zbn_s, nI_1, nI_1]
        refine ⟨(), rfl, fun k hk hz => ?_⟩
        by_cases ek : k = i
        · rw [ek]; exact e
        · exact hI k (by omega) hz
    · left
      rw [if_neg c, if_neg c, zbn_s, zbn_s, nI_1]
      refine ⟨(), rfl, fun k hk hz => ?_⟩
      by_cases ek : k = i
      · rw [ek] at hz; exact absurd hz c
      · exact hI k (by omega) hz
  · intro n _ hI
    show ∃ v, f_X8_keywordOf_8 N (n + 1) w (ks9 136).1 (nI (ks9 136).2) (nI 136) = some v ∧ ((v = -1 ∧ ∀ (j : Nat), kwL[j]? ≠ some w) ∨ ∃ j, j < 26 ∧ kwL[j]? = some w ∧ v = nI j)
    rw [f_X8_keywordOf_8, if_pos (show (136 : Int32) ≤ nI 136 by decide)]
    refine ⟨-1, rfl, Or.inl ⟨rfl, fun j hj => ?_⟩⟩
    have hlt : j < 26 := (List.getElem?_eq_some_iff.mp hj).1
    obtain ⟨i, i1, i2, i3⟩ := ks9_r j hlt
    have := ks9_l i i1 i2
    rw [i3, hj] at this
    exact hI i i1 i2 (Option.some.inj this).symm
