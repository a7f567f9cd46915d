/-! ===== a sentence is gone through ===== -/
def ex9 (lv : Nat × Nat × Nat → Bool) : List (Nat × Nat × Nat) → Nat → (Nat → Bool) → (Nat → Bool)
  | [], _, T => T
  | x :: q, n, T => if x.1 = 20 then ex9 lv q n (up9 T (n - 1) (!T (n - 1))) else if x.1 = 21 then ex9 lv q (n - 1) (up9 T (n - 2) (T (n - 2) && T (n - 1))) else if x.1 = 22 then ex9 lv q (n - 1) (up9 T (n - 2) (T (n - 2) || T (n - 1))) else ex9 lv q (n + 1) (up9 T n (lv x))
theorem ex9_20 {lv : Nat × Nat × Nat → Bool} {x : Nat × Nat × Nat} {q : List (Nat × Nat × Nat)} {n : Nat} {T : Nat → Bool} (h : x.1 = 20) : ex9 lv (x :: q) n T = ex9 lv q n (up9 T (n - 1) (!T (n - 1))) := by rw [ex9, if_pos h]
theorem ex9_21 {lv : Nat × Nat × Nat → Bool} {x : Nat × Nat × Nat} {q : List (Nat × Nat × Nat)} {n : Nat} {T : Nat → Bool} (h : x.1 = 21) : ex9 lv (x :: q) (n + 2) T = ex9 lv q (n + 1) (up9 T n (T n && T (n + 1))) := by rw [ex9, if_neg (by omega), if_pos h]; rfl
theorem ex9_22 {lv : Nat × Nat × Nat → Bool} {x : Nat × Nat × Nat} {q : List (Nat × Nat × Nat)} {n : Nat} {T : Nat → Bool} (h : x.1 = 22) : ex9 lv (x :: q) (n + 2) T = ex9 lv q (n + 1) (up9 T n (T n || T (n + 1))) := by rw [ex9, if_neg (by omega), if_neg (by omega), if_pos h]; rfl
theorem ex9_l {lv : Nat × Nat × Nat → Bool} {x : Nat × Nat × Nat} {q : List (Nat × Nat × Nat)} {n : Nat} {T : Nat → Bool} (h : x.1 ≤ 8) : ex9 lv (x :: q) n T = ex9 lv q (n + 1) (up9 T n (lv x)) := by rw [ex9, if_neg (by omega), if_neg (by omega), if_neg (by omega)]
theorem pf9_20 {x : Nat × Nat × Nat} {q : List (Nat × Nat × Nat)} {n : Nat} (h : x.1 = 20) (hp : pf9 (x :: q) n = some 1) : 0 < n ∧ pf9 q n = some 1 := by
  rw [pf9, if_pos h] at hp
  by_cases c : n = 0
  · rw [if_pos c] at hp; cases hp
  · rw [if_neg c] at hp; exact ⟨by omega, hp⟩
theorem pf9_2 {x : Nat × Nat × Nat} {q : List (Nat × Nat × Nat)} {n : Nat} (h : x.1 = 21 ∨ x.1 = 22) (hp : pf9 (x :: q) n = some 1) : ∃ n', n = n' + 2 ∧ pf9 q (n' + 1) = some 1 := by
  rw [pf9, if_neg (by omega), if_pos h] at hp
  by_cases c : n < 2
  · rw [if_pos c] at hp; cases hp
  · rw [if_neg c] at hp
    exact ⟨n - 2, by omega, by rw [show n - 2 + 1 = n - 1 by omega]; exact hp⟩
theorem pf9_l {x : Nat × Nat × Nat} {q : List (Nat × Nat × Nat)} {n : Nat} (h : x.1 ≤ 8) (hp : pf9 (x :: q) n = some 1) : pf9 q (n + 1) = some 1 := by
  rw [pf9, if_neg (by omega), if_neg (by omega)] at hp
  exact hp
theorem lf9_o {x : Nat × Nat × Nat} {q : List (Nat × Nat × Nat)} (h : ¬ x.1 ≤ 8) : lf9 (x :: q) = lf9 q := by rw [lf9, if_neg h, Nat.zero_add]
theorem lf9_l {x : Nat × Nat × Nat} {q : List (Nat × Nat × Nat)} (h : x.1 ≤ 8) : lf9 (x :: q) = 1 + lf9 q := by rw [lf9, if_pos h]
theorem msk9 : ∀ M, M < 7 → ∀ i, i < 32 → bt (((1 : Int32) <<< (nI M &&& 31)) - 1) i = decide (i < M) := by decide +kernel
theorem en9_kw {b : MB} {x : Nat × Nat × Nat} (hx : wf9 b x) : nI (en9 x) / 8192 = nI (kw9 x.1) := by
  obtain ⟨w, sg, n⟩ := x
  obtain ⟨x1, x2, x3, x4, -, -⟩ := hx
  dsimp only at x1 x2 x3 x4 ⊢
  have hsg : sg - 60 ≤ 2 := by
    by_cases c : 5 ≤ w ∧ w ≤ 8
    · have := x2 c; omega
    · have := x3 c; omega
  have hk : kw9 w ≤ 25 := by
    unfold kw9
    by_cases c : w = 20
    · rw [if_pos c]; omega
    · rw [if_neg c]
      by_cases c : w = 21
      · rw [if_pos c]; omega
      · rw [if_neg c]
        by_cases c : w = 22
        · rw [if_pos c]; omega
        · rw [if_neg c]; omega
  have ee : en9 (w, sg, n) = kw9 w * 8192 + (sg - 60) * 1024 + n := rfl
  rw [ee, show (8192 : Int32) = nI 8192 from rfl, pk_div (by omega) (by omega) (by omega)]
  congr 1
  omega
section SAID2
variable {b : MB} {d : MD} {B : CB} {D : CY} {s : Nat → Int32} {nm : Nat → Int64}
theorem DY.sdC (h : DY b d B D s) (N : Nat) (hN : 10 ≤ N) (q : List (Nat × Nat × Nat)) (cd : Nat → Int32) (hq : ∀ (i : Nat) (x : Nat × Nat × Nat), q[i]? = some x → cd i = nI (en9 x) ∧ wf9 b x) (hlen : q.length ≤ 40) : ∀ (l : List (Nat × Nat × Nat)) (i n f : Nat) (S : Nat → Int32) (T : Nat → Nat → Bool), i + l.length = q.length → (∀ j : Nat, l[j]? = q[i + j]?) → pf9 l n = some 1 → n + lf9 l ≤ 20 → l.length < f → (∀ j, j < n → ∀ m, m < b.M → bt (S j) m = T m j) → ∃ S', f_X5_mastersSaid_4 N (nI q.length) cd D.minute D.out D.stopped B.masters B.meets D.came B.masterCorner B.masterLate B.masterMeets B.masterClock D.stood D.ahead B.clockGain D.since D.left f (nI n) (nI i) S = some (bmk (fun m => ex9 (lv9 b d m) l n (T m) 0) b.M, S') := by
  have m6 := h.M6
  intro l
  induction l with
  | nil =>
    intro i n f S T hi _ hp _ hf hS
    obtain ⟨f, rfl⟩ : ∃ f', f = f' + 1 := ⟨f - 1, by omega⟩
    have hn : n = 1 := by
      rw [pf9] at hp
      exact Option.some.inj hp
    subst hn
    have hi' : i = q.length := by rw [List.length_nil] at hi; omega
    rw [f_X5_mastersSaid_4, if_pos (nI_le (show q.length ≤ i by omega) (by omega)), if_neg (show ¬ nI 1 ≤ 0 by decide), h.nM]
    refine ⟨S, ?_⟩
    congr 2
    apply b_ext
    intro k hk
    rw [b_and, msk9 b.M (by omega) k hk, bmk_bit (by omega) k]
    by_cases c : k < b.M
    · rw [decide_eq_true c, hS 0 (by omega) k c, Bool.and_true, Bool.true_and]; rfl
    · rw [decide_eq_false c, Bool.and_false, Bool.false_and]
  | cons x l ih =>
    intro i n f S T hi hl hp hn hf hS
    obtain ⟨f, rfl⟩ : ∃ f', f = f' + 1 := ⟨f - 1, by omega⟩
    rw [List.length_cons] at hi hf
    have hx : q[i]? = some x := (hl 0).symm
    have hl' : ∀ j : Nat, l[j]? = q[i + 1 + j]? := fun j => by rw [show i + 1 + j = i + (j + 1) by omega]; exact hl (j + 1)
    obtain ⟨c1, wx⟩ := hq i x hx
    rw [f_X5_mastersSaid_4, if_neg (nI_ge (show i < q.length by omega) (by omega)), zin_nI (show i < 40 by omega) (by omega), zck_t, zbn_s, cl_n (show i < 2147483648 by omega), c1, en9_kw wx]
    rcases wx.1 with w8 | w20 | w21 | w22
    · have kw : kw9 x.1 = 17 + x.1 := by unfold kw9; rw [if_neg (by omega), if_neg (by omega), if_neg (by omega)]
      rw [lf9_l w8] at hn
      have e : (fun m => ex9 (lv9 b d m) (x :: l) n (T m) 0) = (fun m => ex9 (lv9 b d m) l (n + 1) (up9 (T m) n (lv9 b d m x)) 0) := by funext m; rw [ex9_l w8]
      rw [kw, e, if_neg (show ¬ nI (17 + x.1) = 16 from fun z => by have := (nI_eq (b := 16) (by omega) (by omega)).mp z; omega)]
      unfold f_X5_mastersSaid_56 f_X5_mastersSaid_91 f_X5_mastersSaid_126
      rw [if_neg (show ¬ nI (17 + x.1) = 15 from fun z => by have := (nI_eq (b := 15) (by omega) (by omega)).mp z; omega), if_neg (show ¬ nI (17 + x.1) = 14 from fun z => by have := (nI_eq (b := 14) (by omega) (by omega)).mp z; omega), if_neg (show ¬ (20 : Int32) ≤ nI n from nI_ge (b := 20) (show n < 20 by omega) (by omega)), zin_nI (show i < 40 by omega) (by omega), zck_t, cl_n (show i < 2147483648 by omega), c1, h.mfC N hN x wx w8, zcl_s, zin_nI (show n < 20 by omega) (by omega), zck_t, zbn_s, zbn_s, zbn_s, cl_n (show n < 2147483648 by omega), nI_1, nI_1]
      refine ih (i + 1) (n + 1) f _ (fun m => up9 (T m) n (lv9 b d m x)) (by omega) hl' (pf9_l w8 hp) (by omega) (by omega) (fun j hj m hm => ?_)
      by_cases c : j = n
      · rw [c, pk_us, up9_s, bmk_bit (by omega) m, decide_eq_true hm, Bool.true_and]
      · rw [pk_un c, up9_n c]; exact hS j (by omega) m hm
    · obtain ⟨n0, hp'⟩ := pf9_20 w20 hp
      rw [lf9_o (by omega)] at hn
      have e : (fun m => ex9 (lv9 b d m) (x :: l) n (T m) 0) = (fun m => ex9 (lv9 b d m) l n (up9 (T m) (n - 1) (!T m (n - 1))) 0) := by funext m; rw [ex9_20 w20]
      rw [show nI (kw9 x.1) = 16 by rw [w20]; rfl, if_pos rfl, e, if_neg (show ¬ nI n ≤ 0 from nI_ge n0 (by omega)), sb_1 (show 1 ≤ n by omega), zin_nI (show n - 1 < 20 by omega) (by omega), zck_t, zbn_s, zbn_s, zbn_s, cl_n (show n - 1 < 2147483648 by omega), nI_1]
      refine ih (i + 1) n f _ (fun m => up9 (T m) (n - 1) (!T m (n - 1))) (by omega) hl' hp' (by omega) (by omega) (fun j hj m hm => ?_)
      by_cases c : j = n - 1
      · rw [c, pk_us, up9_s, b_xor, b_m1 m (by omega), hS (n - 1) (by omega) m hm, Bool.xor_true]
      · rw [pk_un c, up9_n c]; exact hS j (by omega) m hm
    · obtain ⟨n0, rfl, hp'⟩ := pf9_2 (Or.inl w21) hp
      rw [lf9_o (by omega)] at hn
      have e : (fun m => ex9 (lv9 b d m) (x :: l) (n0 + 2) (T m) 0) = (fun m => ex9 (lv9 b d m) l (n0 + 1) (up9 (T m) n0 (T m n0 && T m (n0 + 1))) 0) := by funext m; rw [ex9_21 w21]
      rw [show nI (kw9 x.1) = 15 by rw [w21]; rfl, if_neg (show ¬ (15 : Int32) = 16 by decide), e]
      unfold f_X5_mastersSaid_56
      rw [if_pos rfl, if_neg (show ¬ nI (n0 + 2) ≤ 1 from nI_ge (a := 1) (show 1 < n0 + 2 by omega) (by omega)), zbn_s, show nI (n0 + 2) + (-1) = nI (n0 + 1) from pk_m1 (n0 + 1), sb_1 (show 1 ≤ n0 + 1 by omega), Nat.add_sub_cancel, zin_nI (show n0 < 20 by omega) (by omega), zck_t, zin_nI (show n0 + 1 < 20 by omega) (by omega), zck_t, zbn_s, zbn_s, zbn_s, cl_n (show n0 < 2147483648 by omega), cl_n (show n0 + 1 < 2147483648 by omega), nI_1 i]
      refine ih (i + 1) (n0 + 1) f _ (fun m => up9 (T m) n0 (T m n0 && T m (n0 + 1))) (by omega) hl' hp' (by omega) (by omega) (fun j hj m hm => ?_)
      by_cases c : j = n0
      · rw [c, pk_us, up9_s, b_and, hS n0 (by omega) m hm, hS (n0 + 1) (by omega) m hm]
      · rw [pk_un c, up9_n c]; exact hS j (by omega) m hm
    · obtain ⟨n0, rfl, hp'⟩ := pf9_2 (Or.inr w22) hp
      rw [lf9_o (by omega)] at hn
      have e : (fun m => ex9 (lv9 b d m) (x :: l) (n0 + 2) (T m) 0) = (fun m => ex9 (lv9 b d m) l (n0 + 1) (up9 (T m) n0 (T m n0 || T m (n0 + 1))) 0) := by funext m; rw [ex9_22 w22]
      rw [show nI (kw9 x.1) = 14 by rw [w22]; rfl, if_neg (show ¬ (14 : Int32) = 16 by decide), e]
      unfold f_X5_mastersSaid_56 f_X5_mastersSaid_91
      rw [if_neg (show ¬ (14 : Int32) = 15 by decide), if_pos rfl, if_neg (show ¬ nI (n0 + 2) ≤ 1 from nI_ge (a := 1) (show 1 < n0 + 2 by omega) (by omega)), zbn_s, show nI (n0 + 2) + (-1) = nI (n0 + 1) from pk_m1 (n0 + 1), sb_1 (show 1 ≤ n0 + 1 by omega), Nat.add_sub_cancel, zin_nI (show n0 < 20 by omega) (by omega), zck_t, zin_nI (show n0 + 1 < 20 by omega) (by omega), zck_t, zbn_s, zbn_s, zbn_s, cl_n (show n0 < 2147483648 by omega), cl_n (show n0 + 1 < 2147483648 by omega), nI_1 i]
      refine ih (i + 1) (n0 + 1) f _ (fun m => up9 (T m) n0 (T m n0 || T m (n0 + 1))) (by omega) hl' hp' (by omega) (by omega) (fun j hj m hm => ?_)
      by_cases c : j = n0
      · rw [c, pk_us, up9_s, b_or, hS n0 (by omega) m hm, hS (n0 + 1) (by omega) m hm]
      · rw [pk_un c, up9_n c]; exact hS j (by omega) m hm
theorem isS60 (N : Nat) (s : Nat → Int32) (K : Int32 → Int32 → Int32 → (Nat → Int32) → Option (Int32 × (Nat → Int32))) (x1 x2 : Int32) (i j : Nat) (v : Bool) (tr : Nat → Int32) (hj : j < 45) : f_X12_isSaid_60 N s K x1 x2 (nI i) (bI v) (nI j) tr = K x1 x2 (nI (i + 1)) (upd tr j (bI v)) := by
  unfold f_X12_isSaid_60
  rw [zin_nI hj (by omega), zck_t, bI_bo, zck_t, zbn_s, zbn_s, cl_n (show j < 2147483648 by omega), nI_1]
theorem isS163 (N : Nat) (s : Nat → Int32) (K : Int32 → Int32 → Int32 → (Nat → Int32) → Option (Int32 × (Nat → Int32))) (x1 x2 : Int32) (i j : Nat) (v : Bool) (tr : Nat → Int32) (hj : j < 45) : f_X12_isSaid_163 N s K x1 x2 (nI i) (bI v) (nI j) tr = K x1 x2 (nI (i + 1)) (upd tr j (bI v)) := isS60 N s K x1 x2 i j v tr hj
theorem isS88 (N : Nat) (s : Nat → Int32) (K : Int32 → Int32 → Int32 → (Nat → Int32) → Option (Int32 × (Nat → Int32))) (x1 : Int32) (i n y w : Nat) (tr : Nat → Int32) (a c : Bool) (hn : n < 40) (hy : y < 334) (hw : s y = nI w) (hw2 : w = 21 ∨ w = 22) (ha : tr n = bI a) (hc : tr (n + 1) = bI c) : f_X12_isSaid_88 N s K x1 (nI (n + 2)) (nI i) (nI y) tr = K x1 (nI (n + 1)) (nI (i + 1)) (upd tr n (bI (if w = 21 then a && c else a || c))) := by
  unfold f_X12_isSaid_88
  rw [zbn_s, show nI (n + 2) + (-1) = nI (n + 1) from pk_m1 (n + 1), zin_nI hy (by omega), zck_t, cl_n (show y < 2147483648 by omega), hw, sb_1 (show 1 ≤ n + 1 by omega), Nat.add_sub_cancel, zin_nI (show n < 45 by omega) (by omega), zin_nI (show n + 1 < 45 by omega) (by omega), cl_n (show n < 2147483648 by omega), cl_n (show n + 1 < 2147483648 by omega), ha, hc]
  unfold f_X12_isSaid_134 f_X12_isSaid_158
  have k0 := isS163 N s K x1 (nI (n + 1)) i n false tr (by omega)
  have k1 := isS163 N s K x1 (nI (n + 1)) i n true tr (by omega)
  rw [show bI false = 0 from rfl] at k0
  rw [show bI true = 1 from rfl] at k1
  rw [k0, k1]
  rcases hw2 with rfl | rfl
  · cases a <;> cases c <;> rfl
  · cases a <;> cases c <;> rfl
theorem DY.sdR (h : DY b d B D s) (N m : Nat) (hN : 10 ≤ N) (hm : m < b.M) (q : List (Nat × Nat × Nat)) (hq : ∀ (i : Nat) (x : Nat × Nat × Nat), q[i]? = some x → s (154 + 3 * i) = nI x.1 ∧ s (155 + 3 * i) = nI x.2.1 ∧ s (156 + 3 * i) = nI x.2.2 ∧ wf9 b x) (hlen : q.length ≤ 40) (h153 : s 153 = nI q.length) : ∀ (l : List (Nat × Nat × Nat)) (i n f : Nat) (tr : Nat → Int32) (T : Nat → Bool), i + l.length = q.length → (∀ j : Nat, l[j]? = q[i + j]?) → pf9 l n = some 1 → n + lf9 l ≤ 20 → l.length < f → (∀ j, j < n → tr j = bI (T j)) → ∃ tr', f_X12_isSaid_4 N s f (nI m) (nI n) (nI i) tr = some (bI (ex9 (lv9 b d m) l n T 0), tr') := by
  intro l
  induction l with
  | nil =>
    intro i n f tr T hi _ hp _ hf hT
    obtain ⟨f, rfl⟩ : ∃ f', f = f' + 1 := ⟨f - 1, by omega⟩
    have hn : n = 1 := by
      rw [pf9] at hp
      exact Option.some.inj hp
    subst hn
    have hi' : i = q.length := by rw [List.length_nil] at hi; omega
    rw [f_X12_isSaid_4, h153, if_pos (nI_le (show q.length ≤ i by omega) (by omega)), hT 0 (by omega), bI_bo, zck_t]
    exact ⟨tr, rfl⟩
  | cons x l ih =>
    intro i n f tr T hi hl hp hn hf hT
    obtain ⟨f, rfl⟩ : ∃ f', f = f' + 1 := ⟨f - 1, by omega⟩
    rw [List.length_cons] at hi hf
    have hx : q[i]? = some x := (hl 0).symm
    have hl' : ∀ j : Nat, l[j]? = q[i + 1 + j]? := fun j => by rw [show i + 1 + j = i + (j + 1) by omega]; exact hl (j + 1)
    obtain ⟨c1, c2, c3, wx⟩ := hq i x hx
    have ey : (154 : Int32) + 3 * nI i = nI (154 + 3 * i) := by rw [show (154 : Int32) = nI 154 from rfl, show (3 : Int32) = nI 3 from rfl, pk_mul, nI_add]
    rw [f_X12_isSaid_4, h153, if_neg (nI_ge (show i < q.length by omega) (by omega)), zbn_s, ey, zin_nI (show 154 + 3 * i < 334 by omega) (by omega), zck_t, cl_n (show 154 + 3 * i < 2147483648 by omega), c1]
    rcases wx.1 with w8 | w20 | w21 | w22
    · rw [lf9_l w8] at hn
      rw [ex9_l w8, if_neg (show ¬ nI x.1 = 20 from fun z => by have := (nI_eq (b := 20) (by omega) (by omega)).mp z; omega), if_neg (show ¬ nI x.1 = 21 from fun z => by have := (nI_eq (b := 21) (by omega) (by omega)).mp z; omega), if_neg (show ¬ nI x.1 = 22 from fun z => by have := (nI_eq (b := 22) (by omega) (by omega)).mp z; omega), nI_1 (154 + 3 * i), show nI (154 + 3 * i) + 2 = nI (156 + 3 * i) by rw [show (2 : Int32) = nI 2 from rfl, nI_add]; congr 1; omega, show 154 + 3 * i + 1 = 155 + 3 * i by omega, zin_nI (show 155 + 3 * i < 334 by omega) (by omega), zck_t, zin_nI (show 156 + 3 * i < 334 by omega) (by omega), zck_t, cl_n (show 155 + 3 * i < 2147483648 by omega), cl_n (show 156 + 3 * i < 2147483648 by omega), c2, c3, h.lvR N m hN hm x wx w8, zcl_s, zin_nI (show n < 45 by omega) (by omega), zck_t, bI_bo, zck_t, zbn_s, zbn_s, zbn_s, cl_n (show n < 2147483648 by omega), nI_1, nI_1]
      refine ih (i + 1) (n + 1) f _ _ (by omega) hl' (pf9_l w8 hp) (by omega) (by omega) (fun j hj => ?_)
      by_cases c : j = n
      · rw [c, pk_us, up9_s]
      · rw [pk_un c, up9_n c]; exact hT j (by omega)
    · obtain ⟨n0, hp'⟩ := pf9_20 w20 hp
      rw [lf9_o (by omega)] at hn
      rw [ex9_20 w20, show nI x.1 = 20 by rw [w20]; rfl, if_pos rfl, sb_1 (show 1 ≤ n by omega), zin_nI (show n - 1 < 45 by omega) (by omega), zck_t, cl_n (show n - 1 < 2147483648 by omega), hT (n - 1) (by omega)]
      have key : ∃ tr', f_X12_isSaid_4 N s f (nI m) (nI n) (nI (i + 1)) (upd tr (n - 1) (bI (!T (n - 1)))) = some (bI (ex9 (lv9 b d m) l n (up9 T (n - 1) (!T (n - 1))) 0), tr') := by
        refine ih (i + 1) n f _ _ (by omega) hl' hp' (by omega) (by omega) (fun j hj => ?_)
        by_cases c : j = n - 1
        · rw [c, pk_us, up9_s]
        · rw [pk_un c, up9_n c]; exact hT j (by omega)
      have s0 := isS60 N s (f_X12_isSaid_4 N s f) (nI m) (nI n) i (n - 1) false tr (by omega)
      have s1 := isS60 N s (f_X12_isSaid_4 N s f) (nI m) (nI n) i (n - 1) true tr (by omega)
      cases hv : T (n - 1)
      · rw [hv] at key
        rw [if_pos (show bI false = 0 from rfl)]
        exact (show (f_X12_isSaid_60 N s (f_X12_isSaid_4 N s f) (nI m) (nI n) (nI i) 1 (nI (n - 1)) tr) = _ from s1) ▸ key
      · rw [hv] at key
        rw [if_neg (show ¬ bI true = 0 by decide)]
        exact (show (f_X12_isSaid_60 N s (f_X12_isSaid_4 N s f) (nI m) (nI n) (nI i) 0 (nI (n - 1)) tr) = _ from s0) ▸ key
    · obtain ⟨n0, rfl, hp'⟩ := pf9_2 (Or.inl w21) hp
      rw [lf9_o (by omega)] at hn
      rw [ex9_21 w21, if_neg (show ¬ nI x.1 = 20 by rw [w21]; decide), if_pos (show nI x.1 = 21 by rw [w21]; rfl), isS88 N s (f_X12_isSaid_4 N s f) (nI m) i n0 (154 + 3 * i) x.1 tr (T n0) (T (n0 + 1)) (by omega) (by omega) c1 (Or.inl w21) (hT n0 (by omega)) (hT (n0 + 1) (by omega)), if_pos w21]
      refine ih (i + 1) (n0 + 1) f _ _ (by omega) hl' hp' (by omega) (by omega) (fun j hj => ?_)
      by_cases c : j = n0
      · rw [c, pk_us, up9_s]
      · rw [pk_un c, up9_n c]; exact hT j (by omega)
    · obtain ⟨n0, rfl, hp'⟩ := pf9_2 (Or.inr w22) hp
      rw [lf9_o (by omega)] at hn
      rw [ex9_22 w22, if_neg (show ¬ nI x.1 = 20 by rw [w22]; decide), if_neg (show ¬ nI x.1 = 21 by rw [w22]; decide), if_pos (show nI x.1 = 22 by rw [w22]; rfl), isS88 N s (f_X12_isSaid_4 N s f) (nI m) i n0 (154 + 3 * i) x.1 tr (T n0) (T (n0 + 1)) (by omega) (by omega) c1 (Or.inr w22) (hT n0 (by omega)) (hT (n0 + 1) (by omega)), if_neg (by omega)]
      refine ih (i + 1) (n0 + 1) f _ _ (by omega) hl' hp' (by omega) (by omega) (fun j hj => ?_)
      by_cases c : j = n0
      · rw [c, pk_us, up9_s]
      · rw [pk_un c, up9_n c]; exact hT j (by omega)
end SAID2
