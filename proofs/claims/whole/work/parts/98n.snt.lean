/-! ===== a sentence: its stack and its codes ===== -/
theorem zbo0 : zbo (0 : Int32) = true := by decide
theorem zbo1 : zbo (1 : Int32) = true := by decide
def ST9 : List Nat → (Nat → Int32) → Prop
  | [], _ => True
  | x :: S, st => st S.length = nI x ∧ ST9 S st
theorem sn_up {st : Nat → Int32} : ∀ (S : List Nat), ST9 S st → ∀ (n : Nat), S.length ≤ n → ∀ v, ST9 S (upd st n v) := by
  intro S
  induction S with
  | nil => intro _ _ _ _; trivial
  | cons x S ih =>
    intro h n hn v
    have hn' : S.length + 1 ≤ n := hn
    exact ⟨by rw [pk_un (by omega)]; exact h.1, ih h.2 n (by omega) v⟩
theorem sn_ps {st : Nat → Int32} {S : List Nat} (h : ST9 S st) (x : Nat) : ST9 (x :: S) (upd st S.length (nI x)) := ⟨pk_us, sn_up S h S.length (Nat.le_refl _) _⟩
theorem sn_dr {st : Nat → Int32} : ∀ (p S : List Nat), ST9 (p ++ S) st → ST9 S st := by
  intro p
  induction p with
  | nil => intro S h; exact h
  | cons x p ih => intro S h; exact ih S h.2
def RD9 (q : List (Nat × Nat × Nat)) (rd : Nat → Int32) : Prop := ∀ (i : Nat) (x : (Nat × Nat × Nat)), q[i]? = some x → rd (3 * i) = nI x.1 ∧ rd (3 * i + 1) = nI x.2.1 ∧ rd (3 * i + 2) = nI x.2.2
def CD9 (q : List (Nat × Nat × Nat)) (cd : Nat → Int32) : Prop := ∀ (i : Nat) (x : (Nat × Nat × Nat)), q[i]? = some x → cd i = nI (en9 x)
theorem sn_last {α : Type} {q : List α} {y x : α} {i : Nat} (h : (q ++ [y])[i]? = some x) : (i < q.length ∧ q[i]? = some x) ∨ (i = q.length ∧ x = y) := by
  by_cases e : i < q.length
  · rw [List.getElem?_append_left e] at h
    exact Or.inl ⟨e, h⟩
  · right
    rw [List.getElem?_append_right (by omega)] at h
    by_cases e2 : i = q.length
    · rw [e2, Nat.sub_self, List.getElem?_cons_zero] at h
      exact ⟨e2, (Option.some.inj h).symm⟩
    · rw [List.getElem?_eq_none (show 1 ≤ i - q.length by omega)] at h
      cases h
theorem sn_len {α : Type} (q : List α) (x : α) : (q ++ [x]).length = q.length + 1 := by rw [List.length_append]; rfl
theorem sn_code (N : Nat) {q : List (Nat × Nat × Nat)} {rd : Nat → Int32} (h : RD9 q rd) (hq : q.length ≤ 40) {va vb vc : Int32} (a b c : Nat) (ea : va = nI a) (eb : vb = nI b) (ec : vc = nI c) : ∃ rd', f_X12_code N va vb vc (nI q.length) rd = some (nI (q.length + 1), rd') ∧ RD9 (q ++ [(a, b, c)]) rd' := by
  subst ea eb ec
  refine ⟨upd (upd (upd rd (3 * q.length) (nI a)) (3 * q.length + 1) (nI b)) (3 * q.length + 2) (nI c), ?_, ?_⟩
  · unfold f_X12_code
    simp (disch := omega) only [zcl_s, zck_t, zbn_s, lits, m1_iI, ng_n, nI_le_T, nI_le_F, nI_lt_T, nI_lt_F, nI_eq_T, nI_eq_F, nI_1, le_1, le_1r, lt_1, lt_1r, eq_1, nI_add, pk_mul, sb_1, sb_n, cl_n, zi_n, iI_le_T, iI_le_F, iI_lt_T, iI_lt_F, iI_eq_T, iI_eq_F, mx1, mx2, mx3, mx4, mx5, mx6, mx7, mx8, mx9, mx10, iI_add, iI_sub, iI_p1, bI_n0, bI_1, bI_bo, tr_f, fa_f, tr_t, fa_t, if_true, if_false, or_n0, Nat.add_zero, Int.add_zero]
  · intro i x hx
    rcases sn_last hx with ⟨e1, e2⟩ | ⟨e1, e2⟩
    · obtain ⟨g1, g2, g3⟩ := h i x e2
      refine ⟨?_, ?_, ?_⟩
      · rw [pk_un (by omega), pk_un (by omega), pk_un (by omega)]; exact g1
      · rw [pk_un (by omega), pk_un (by omega), pk_un (by omega)]; exact g2
      · rw [pk_un (by omega), pk_un (by omega), pk_un (by omega)]; exact g3
    · subst e1 e2
      refine ⟨?_, ?_, ?_⟩
      · show _ = nI a
        rw [pk_un (by omega), pk_un (by omega), pk_us]
      · show _ = nI b
        rw [pk_un (by omega), pk_us]
      · exact pk_us
theorem sn_put (N : Nat) {q : List (Nat × Nat × Nat)} {cd : Nat → Int32} (h : CD9 q cd) (hq : q.length < 40) {vk vs vn : Int32} (x : (Nat × Nat × Nat)) (kw sg n : Nat) (e1 : vk = nI kw) (e2 : vs = nI (60 + sg)) (e3 : vn = nI n) (hx : en9 x = kw * 8192 + sg * 1024 + n) : ∃ cd', f_X5_put N vk vs vn (nI q.length) cd = some (nI (q.length + 1), cd') ∧ CD9 (q ++ [x]) cd' := by
  subst e1 e2 e3
  refine ⟨upd cd q.length (nI (en9 x)), ?_, ?_⟩
  · unfold f_X5_put
    rw [if_neg (show ¬ (40 : Int32) ≤ nI q.length from nI_ge (b := 40) hq (by omega)), hx]
    simp (disch := omega) only [zcl_s, zck_t, zbn_s, lits, m1_iI, ng_n, nI_le_T, nI_le_F, nI_lt_T, nI_lt_F, nI_eq_T, nI_eq_F, nI_1, le_1, le_1r, lt_1, lt_1r, eq_1, nI_add, pk_mul, sb_1, sb_n, cl_n, zi_n, iI_le_T, iI_le_F, iI_lt_T, iI_lt_F, iI_eq_T, iI_eq_F, mx1, mx2, mx3, mx4, mx5, mx6, mx7, mx8, mx9, mx10, iI_add, iI_sub, iI_p1, bI_n0, bI_1, bI_bo, tr_f, fa_f, tr_t, fa_t, if_true, if_false, or_n0, Nat.add_zero, Int.add_zero, Nat.add_sub_cancel_left]
  · intro i y hy
    rcases sn_last hy with ⟨f1, f2⟩ | ⟨f1, f2⟩
    · rw [pk_un (by omega)]; exact h i y f2
    · rw [f1, f2, pk_us]
theorem sn_putF (N l : Nat) (hl : l ≤ 40) (vk vs vn : Int32) (cd : Nat → Int32) : ∃ (l' : Nat) (cd' : Nat → Int32), l' ≤ 40 ∧ f_X5_put N vk vs vn (nI l) cd = some (nI l', cd') := by
  unfold f_X5_put
  by_cases c : l = 40
  · subst c
    exact ⟨40, cd, Nat.le_refl _, if_pos (show (40 : Int32) ≤ nI 40 by decide)⟩
  · rw [if_neg (show ¬ (40 : Int32) ≤ nI l from nI_ge (b := 40) (show l < 40 by omega) (by omega)), zbn_s, zin_nI (show l < 40 by omega) (by omega), zck_t, zbn_s, zbn_s, nI_1]
    exact ⟨l + 1, _, by omega, rfl⟩
theorem sn_nots (N : Nat) (st : Nat → Int32) (S : List Nat) (hS : ∀ x S', S = x :: S' → x < 100 ∧ x ≠ 20) : ∀ (k n : Nat) (q : List (Nat × Nat × Nat)) (rd : Nat → Int32) (dp : Nat), RD9 q rd → ST9 (List.replicate k 20 ++ S) st → q.length + k ≤ 40 → k + S.length ≤ 44 → k < n → ∃ rd', f_X12_nots_0 N st n (nI q.length) (nI (k + S.length)) (nI (dp + k)) rd = some (nI (q.length + k), nI S.length, nI dp, rd') ∧ RD9 (q ++ List.replicate k (20, 0, 0)) rd' := by
  intro k
  induction k with
  | zero =>
    intro n q rd dp h hs hq hl hn
    obtain ⟨n, rfl⟩ : ∃ m, n = m + 1 := ⟨n - 1, by omega⟩
    refine ⟨rd, ?_, by rw [List.replicate_zero, List.append_nil]; exact h⟩
    rw [f_X12_nots_0, Nat.zero_add, Nat.add_zero, Nat.add_zero]
    cases S with
    | nil => rw [if_pos (show nI ([] : List Nat).length ≤ 0 by decide)]
    | cons x S' =>
      obtain ⟨x1, x2⟩ := hS x S' rfl
      have hl' : 0 + (S'.length + 1) ≤ 44 := hl
      have hst : st S'.length = nI x := hs.1
      rw [show (x :: S').length = S'.length + 1 from rfl, if_neg (show ¬ nI (S'.length + 1) ≤ 0 from nI_ge (a := 0) (by omega) (by omega)), sb_1 (show 1 ≤ S'.length + 1 by omega), Nat.add_sub_cancel, zin_nI (show S'.length < 45 by omega) (by omega), zck_t, cl_n (show S'.length < 2147483648 by omega), hst, if_neg (show ¬ nI x = 20 from nk9 (b := 20) (by omega) (by omega) x2)]
  | succ k ih =>
    intro n q rd dp h hs hq hl hn
    obtain ⟨n, rfl⟩ : ∃ m, n = m + 1 := ⟨n - 1, by omega⟩
    have hst : st (List.replicate k 20 ++ S).length = nI 20 := hs.1
    rw [List.length_append, List.length_replicate] at hst
    obtain ⟨rd1, c1, c2⟩ := sn_code N h (by omega) (va := 20) (vb := 0) (vc := 0) 20 0 0 rfl rfl rfl
    obtain ⟨rd2, d1, d2⟩ := ih n (q ++ [(20, 0, 0)]) rd1 dp c2 hs.2 (by rw [sn_len]; omega) (by omega) (by omega)
    rw [sn_len] at d1
    refine ⟨rd2, ?_, ?_⟩
    · rw [f_X12_nots_0, if_neg (show ¬ nI (k + 1 + S.length) ≤ 0 from nI_ge (a := 0) (by omega) (by omega)), sb_1 (show 1 ≤ k + 1 + S.length by omega), show k + 1 + S.length - 1 = k + S.length by omega, zin_nI (show k + S.length < 45 by omega) (by omega), zck_t, cl_n (show k + S.length < 2147483648 by omega), hst, if_pos (show nI 20 = 20 from rfl), zbn_s, zbn_s, sb_1 (show 1 ≤ dp + (k + 1) by omega), show dp + (k + 1) - 1 = dp + k by omega, c1, zcl_s]
      dsimp only
      rw [d1, show q.length + 1 + k = q.length + (k + 1) by omega]
    · have e : q ++ List.replicate (k + 1) (20, 0, 0) = q ++ [(20, 0, 0)] ++ List.replicate k (20, 0, 0) := by rw [List.append_assoc]; rfl
      rw [e]
      exact d2
def op9 (w : Nat) : (Nat × Nat × Nat) := (w, 0, 0)
theorem sn_joins (N : Nat) (st : Nat → Int32) (x1 : Nat) (hx1 : x1 = 21 ∨ x1 = 22) (S : List Nat) (hS : ∀ x S', S = x :: S' → x < 100 ∧ x ≠ 21 ∧ (x = 22 → x1 = 21)) : ∀ (pp : List Nat) (n : Nat) (q : List (Nat × Nat × Nat)) (rd : Nat → Int32), RD9 q rd → ST9 (pp ++ S) st → (∀ x, x ∈ pp → x = 21 ∨ (x = 22 ∧ x1 = 22)) → q.length + pp.length ≤ 40 → pp.length + S.length ≤ 44 → pp.length < n → ∃ rd', f_X12_joins_0 N st n (nI x1) (nI q.length) (nI (pp.length + S.length)) rd = some (nI (q.length + pp.length), nI S.length, rd') ∧ RD9 (q ++ pp.map op9) rd' := by
  intro pp
  induction pp with
  | nil =>
    intro n q rd h hs hp hq hl hn
    obtain ⟨n, rfl⟩ : ∃ m, n = m + 1 := ⟨n - 1, by omega⟩
    refine ⟨rd, ?_, by rw [List.map_nil, List.append_nil]; exact h⟩
    rw [f_X12_joins_0, List.length_nil, Nat.zero_add, Nat.add_zero]
    cases S with
    | nil => rw [if_pos (show nI ([] : List Nat).length ≤ 0 by decide)]
    | cons x S' =>
      obtain ⟨y1, y2, y3⟩ := hS x S' rfl
      have hl' : 0 + (S'.length + 1) ≤ 44 := hl
      have hst : st S'.length = nI x := hs.1
      rw [show (x :: S').length = S'.length + 1 from rfl, if_neg (show ¬ nI (S'.length + 1) ≤ 0 from nI_ge (a := 0) (by omega) (by omega)), sb_1 (show 1 ≤ S'.length + 1 by omega), Nat.add_sub_cancel, zin_nI (show S'.length < 45 by omega) (by omega), zck_t, cl_n (show S'.length < 2147483648 by omega), hst, if_neg (show ¬ nI x = 21 from nk9 (b := 21) (by omega) (by omega) y2)]
      by_cases e : x = 22
      · rw [e, if_pos (show nI 22 = 22 from rfl), y3 e, if_neg (show ¬ nI 21 = 22 by decide)]
      · rw [if_neg (show ¬ nI x = 22 from nk9 (b := 22) (by omega) (by omega) e)]
  | cons w pp ih =>
    intro n q rd h hs hp hq hl hn
    obtain ⟨n, rfl⟩ : ∃ m, n = m + 1 := ⟨n - 1, by omega⟩
    have hq' : q.length + (pp.length + 1) ≤ 40 := hq
    have hl' : pp.length + 1 + S.length ≤ 44 := hl
    have hn' : pp.length + 1 < n + 1 := hn
    have hst : st (pp ++ S).length = nI w := hs.1
    rw [List.length_append] at hst
    obtain ⟨rd1, c1, c2⟩ := sn_code N h (by omega) (va := nI w) (vb := 0) (vc := 0) w 0 0 rfl rfl rfl
    obtain ⟨rd2, d1, d2⟩ := ih n (q ++ [(w, 0, 0)]) rd1 c2 hs.2 (fun x hx => hp x (List.mem_cons_of_mem _ hx)) (by rw [sn_len]; omega) (by omega) (by omega)
    rw [sn_len] at d1
    have go : f_X12_joins_45 N st (f_X12_joins_0 N st n) (nI x1) (nI q.length) (nI (pp.length + 1 + S.length)) rd = some (nI (q.length + (pp.length + 1)), nI S.length, rd2) := by
      unfold f_X12_joins_45
      rw [zbn_s, sb_1 (show 1 ≤ pp.length + 1 + S.length by omega), show pp.length + 1 + S.length - 1 = pp.length + S.length by omega, zin_nI (show pp.length + S.length < 45 by omega) (by omega), zck_t, cl_n (show pp.length + S.length < 2147483648 by omega), hst, c1, zcl_s]
      dsimp only
      rw [d1, show q.length + 1 + pp.length = q.length + (pp.length + 1) by omega]
    refine ⟨rd2, ?_, ?_⟩
    · rw [show (w :: pp).length = pp.length + 1 from rfl, f_X12_joins_0, if_neg (show ¬ nI (pp.length + 1 + S.length) ≤ 0 from nI_ge (a := 0) (by omega) (by omega)), sb_1 (show 1 ≤ pp.length + 1 + S.length by omega), show pp.length + 1 + S.length - 1 = pp.length + S.length by omega, zin_nI (show pp.length + S.length < 45 by omega) (by omega), zck_t, cl_n (show pp.length + S.length < 2147483648 by omega), hst]
      rcases hp w List.mem_cons_self with e | ⟨e, e2⟩
      · rw [if_pos (show nI w = 21 by rw [e]; rfl)]
        exact go
      · rw [if_neg (show ¬ nI w = 21 by rw [e]; decide), if_pos (show nI w = 22 by rw [e]; rfl), if_pos (show nI x1 = 22 by rw [e2]; rfl)]
        exact go
    · have e : q ++ (w :: pp).map op9 = q ++ [(w, 0, 0)] ++ pp.map op9 := by rw [List.append_assoc]; rfl
      rw [e]
      exact d2
/-! ===== what a sentence's codes are worth ===== -/
def GD9 (b : MB) (r : List (Nat × Nat × Nat)) (k : Nat) : Prop := (∀ x, x ∈ r → wf9 b x) ∧ r.length + 1 ≤ 2 * k ∧ lf9 r ≤ k ∧ ∀ (n : Nat) (q : List (Nat × Nat × Nat)), pf9 (r ++ q) n = pf9 q (n + 1)
theorem lf9_app : ∀ (r q : List (Nat × Nat × Nat)), lf9 (r ++ q) = lf9 r + lf9 q := by
  intro r
  induction r with
  | nil => intro q; show lf9 q = 0 + lf9 q; omega
  | cons x r ih => intro q; show (if x.1 ≤ 8 then 1 else 0) + lf9 (r ++ q) = (if x.1 ≤ 8 then 1 else 0) + lf9 r + lf9 q; rw [ih q]; omega
theorem gd_leaf {b : MB} {x : (Nat × Nat × Nat)} (hx : wf9 b x) (h8 : x.1 ≤ 8) : GD9 b [x] 1 := by
  refine ⟨fun y hy => by rw [List.mem_singleton.mp hy]; exact hx, Nat.le_refl _, ?_, fun n q => ?_⟩
  · show (if x.1 ≤ 8 then 1 else 0) + 0 ≤ 1
    rw [if_pos h8]
    omega
  · show pf9 (x :: q) n = pf9 q (n + 1)
    rw [pf9, if_neg (by omega), if_neg (by omega)]
theorem wf_op {b : MB} (w : Nat) (hw : w = 20 ∨ w = 21 ∨ w = 22) : wf9 b (w, 0, 0) := by
  refine ⟨Or.inr hw, fun h => ?_, fun _ => rfl, Nat.zero_le _, fun h => ?_, fun h => ?_⟩
  · have h' : 5 ≤ w ∧ w ≤ 8 := h
    omega
  · have h' : w = 3 := h
    omega
  · have h' : w = 4 := h
    omega
theorem gd_not {b : MB} {r : List (Nat × Nat × Nat)} {k : Nat} (h : GD9 b r k) : GD9 b (r ++ [(20, 0, 0)]) (k + 1) := by
  obtain ⟨h1, h2, h3, h4⟩ := h
  refine ⟨fun y hy => ?_, ?_, ?_, fun n q => ?_⟩
  · rcases List.mem_append.mp hy with hy | hy
    · exact h1 y hy
    · rw [List.mem_singleton.mp hy]; exact wf_op 20 (Or.inl rfl)
  · rw [sn_len]; omega
  · rw [lf9_app]
    show lf9 r + (0 + 0) ≤ k + 1
    omega
  · rw [List.append_assoc, h4]
    show pf9 ((20, 0, 0) :: q) (n + 1) = _
    rw [pf9, if_pos rfl, if_neg (by omega)]
theorem gd_wrap {b : MB} {r : List (Nat × Nat × Nat)} {k : Nat} (h : GD9 b r k) : GD9 b r (k + 1) := by
  obtain ⟨h1, h2, h3, h4⟩ := h
  exact ⟨h1, by omega, by omega, h4⟩
theorem gd_bin {b : MB} {r r2 : List (Nat × Nat × Nat)} {k k2 w : Nat} (h : GD9 b r k) (g : GD9 b r2 k2) (hw : w = 21 ∨ w = 22) : GD9 b (r ++ r2 ++ [(w, 0, 0)]) (k + k2) := by
  obtain ⟨h1, h2, h3, h4⟩ := h
  obtain ⟨g1, g2, g3, g4⟩ := g
  refine ⟨fun y hy => ?_, ?_, ?_, fun n q => ?_⟩
  · rcases List.mem_append.mp hy with hy | hy
    · rcases List.mem_append.mp hy with hy | hy
      · exact h1 y hy
      · exact g1 y hy
    · rw [List.mem_singleton.mp hy]; exact wf_op w (Or.inr hw)
  · rw [sn_len, List.length_append]; omega
  · rw [lf9_app, lf9_app]
    have : lf9 [(w, 0, 0)] = 0 := by
      show (if w ≤ 8 then 1 else 0) + 0 = 0
      rw [if_neg (by omega)]
    omega
  · rw [List.append_assoc, List.append_assoc, h4, g4]
    show pf9 ((w, 0, 0) :: q) (n + 1 + 1) = _
    rw [pf9, if_neg (show ¬ w = 20 by omega), if_pos hw, if_neg (by omega)]
    rfl
def rr9 (r : List (Nat × Nat × Nat)) (kn : Nat) (pp : List Nat) : List (Nat × Nat × Nat) := r ++ (List.replicate kn (20, 0, 0) ++ pp.map op9)
theorem rr_len (r : List (Nat × Nat × Nat)) (kn : Nat) (pp : List Nat) : (rr9 r kn pp).length = r.length + kn + pp.length := by
  unfold rr9
  rw [List.length_append, List.length_append, List.length_replicate, List.length_map]
  omega
/-- the next part, behind what stands -/
theorem rr_bin (r : List (Nat × Nat × Nat)) (kn : Nat) (pp : List Nat) (r2 : List (Nat × Nat × Nat)) (kn2 : Nat) (pp2 : List Nat) (w : Nat) : rr9 (rr9 r kn pp ++ r2) kn2 (pp2 ++ [w]) = rr9 r kn pp ++ rr9 r2 kn2 pp2 ++ [(w, 0, 0)] := by
  unfold rr9
  rw [List.map_append]
  simp only [List.append_assoc]
  rfl
theorem rr_not (r : List (Nat × Nat × Nat)) (kn : Nat) : rr9 r (kn + 1) [] = rr9 r kn [] ++ [(20, 0, 0)] := by
  unfold rr9
  rw [List.map_nil, List.append_nil, List.append_nil, List.append_assoc, List.replicate_succ']
