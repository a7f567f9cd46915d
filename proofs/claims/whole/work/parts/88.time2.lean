/-! ===== time: the loops over the minutes ===== -/
section TIME2
variable {b : MB} {d : MD} {B : CB} {D : CY} {s : Nat → Int32} {nm : Nat → Int64} {tp by9 : Nat → Int32} {g : Nat}
theorem DY.mlC (h : DY b d B D s) (N c : Nat) (hc : c < b.C) (f : Nat → Int32) (hf : ∀ k, k < 1440 → tm9 b d tp (d.t + k) g = true → f (cn9 (fun k => tm9 b d tp (d.t + k) g) k) = nI (d.t + k)) : ∀ (r k n : Nat) (gg : Nat → Int32), k + r = 1440 → r < n → (∀ x, x < 720 → gg x = nI ((ta9 (fun k => tm9 b d tp (d.t + k) g) (fun k => shd b d c (d.t + k)) k).1 x)) → ∃ gg', f_X9_mostLeft_14 N f D.stopped D.stood D.ahead B.clockGain D.since n (nI c) (nI (cn9 (fun k => tm9 b d tp (d.t + k) g) 1440)) (nI (ta9 (fun k => tm9 b d tp (d.t + k) g) (fun k => shd b d c (d.t + k)) k).2) (nI (cn9 (fun k => tm9 b d tp (d.t + k) g) k)) gg = some (nI (ta9 (fun k => tm9 b d tp (d.t + k) g) (fun k => shd b d c (d.t + k)) 1440).2, gg') := by
  intro r
  have t2 := h.t2
  induction r with
  | zero =>
    intro k n gg hk hn hg
    have e : k = 1440 := by omega
    subst e
    obtain ⟨n, rfl⟩ : ∃ n', n = n' + 1 := ⟨n - 1, by omega⟩
    have := cn9_le (fun k => tm9 b d tp (d.t + k) g) 1440
    rw [f_X9_mostLeft_14, if_pos (nI_le (Nat.le_refl _) (by omega))]
    exact ⟨gg, rfl⟩
  | succ r ih =>
    intro k n gg hk hn hg
    cases hP : tm9 b d tp (d.t + k) g
    · have e1 := ta9_f (P := (fun k => tm9 b d tp (d.t + k) g)) (v := (fun k => shd b d c (d.t + k))) (k := k) hP
      have e2 := cn9_f (P := (fun k => tm9 b d tp (d.t + k) g)) (n := k) hP
      have := ih (k + 1) n gg (by omega) (by omega) (by rw [e1]; exact hg)
      rw [e1, e2] at this
      exact this
    · obtain ⟨n, rfl⟩ : ∃ n', n = n' + 1 := ⟨n - 1, by omega⟩
      have c1 := cn9_le (fun k => tm9 b d tp (d.t + k) g) 1440
      have c2 := cn9_lt (P := (fun k => tm9 b d tp (d.t + k) g)) (show k < 1440 by omega) hP
      have e2 := cn9_t (P := (fun k => tm9 b d tp (d.t + k) g)) (n := k) hP
      have hv := shd_lt b d c (d.t + k)
      obtain ⟨g1, g2, g3⟩ := tal9 (P := (fun k => tm9 b d tp (d.t + k) g)) (v := (fun k => shd b d c (d.t + k))) (k := k) (by omega) hv hP hg
      have bb := ta9_b (fun k => tm9 b d tp (d.t + k) g) (fun k => shd b d c (d.t + k)) k
      have b1 := bb.1 (shd b d c (d.t + k))
      have b2 := bb.2
      have := ih (k + 1) n _ (by omega) (by omega) g2
      rw [e2, g3] at this
      rw [f_X9_mostLeft_14, if_neg (nI_ge c2 (by omega)), zin_nI (show cn9 (fun k => tm9 b d tp (d.t + k) g) k < 1440 by omega) (by omega), zck_t, cl_n (show cn9 (fun k => tm9 b d tp (d.t + k) g) k < 2147483648 by omega), hf k (by omega) hP, (h.sh N c (d.t + k) hc (by omega) (by omega)).1, zcl_s, zin_nI hv (by omega), zck_t, zbn_s, cl_n (show shd b d c (d.t + k) < 2147483648 by omega), g1, zbn_s, zbn_s, zbn_s, pk_us, zmax_n (by omega) (by omega), nI_1]
      exact this
theorem DY.mlR (h : DY b d B D s) (N c : Nat) (hN : 10 ≤ N) (hg5 : g ≤ 5) (hok : ∀ q, q < g → ob (tp (3 * q)) < b.C) (hc : c < b.C) : ∀ (r k n : Nat) (gg : Nat → Int32), k + r = 1440 → r < n → (∀ x, x < 720 → gg x = nI ((ta9 (fun k => tm9 b d tp (d.t + k) g) (fun k => shd b d c (d.t + k)) k).1 x)) → ∃ gg', f_X12_leftBy_26 N (nI (3 * g)) s tp n (nI c) (nI (ta9 (fun k => tm9 b d tp (d.t + k) g) (fun k => shd b d c (d.t + k)) k).2) (nI k) gg = some (nI (ta9 (fun k => tm9 b d tp (d.t + k) g) (fun k => shd b d c (d.t + k)) 1440).2, gg') := by
  intro r
  have t2 := h.t2
  induction r with
  | zero =>
    intro k n gg hk hn hg
    have e : k = 1440 := by omega
    subst e
    obtain ⟨n, rfl⟩ : ∃ n', n = n' + 1 := ⟨n - 1, by omega⟩
    rw [f_X12_leftBy_26, if_pos (show (1440 : Int32) ≤ nI 1440 by decide)]
    exact ⟨gg, rfl⟩
  | succ r ih =>
    intro k n gg hk hn hg
    obtain ⟨n, rfl⟩ : ∃ n', n = n' + 1 := ⟨n - 1, by omega⟩
    rw [f_X12_leftBy_26, if_neg (show ¬ (1440 : Int32) ≤ nI k from nI_ge (b := 1440) (show k < 1440 by omega) (by omega)), h.sm, nI_add, h.isR N (d.t + k) hN hg5 hok (by omega) (by omega), zcl_s]
    cases hP : tm9 b d tp (d.t + k) g
    · have e1 := ta9_f (P := (fun k => tm9 b d tp (d.t + k) g)) (v := (fun k => shd b d c (d.t + k))) (k := k) hP
      have := ih (k + 1) n gg (by omega) (by omega) (by rw [e1]; exact hg)
      rw [e1] at this
      rw [if_pos (show bI false = 0 from rfl), zbn_s, nI_1]
      exact this
    · have hv := shd_lt b d c (d.t + k)
      obtain ⟨g1, g2, g3⟩ := tal9 (P := (fun k => tm9 b d tp (d.t + k) g)) (v := (fun k => shd b d c (d.t + k))) (k := k) (by omega) hv hP hg
      have bb := ta9_b (fun k => tm9 b d tp (d.t + k) g) (fun k => shd b d c (d.t + k)) k
      have b1 := bb.1 (shd b d c (d.t + k))
      have b2 := bb.2
      have := ih (k + 1) n _ (by omega) (by omega) g2
      rw [g3] at this
      rw [if_neg (show ¬ bI true = 0 by decide), (h.sh N c (d.t + k) hc (by omega) (by omega)).2, zcl_s, zin_nI hv (by omega), zck_t, zbn_s, cl_n (show shd b d c (d.t + k) < 2147483648 by omega), g1, zbn_s, pk_us, grt_n N (by omega) (by omega), zcl_s, zbn_s, nI_1]
      exact this
/-- how many would be left -/
def mst (b : MB) (d : MD) (tp : Nat → Int32) (g c : Nat) : Nat := (ta9 (fun k => tm9 b d tp (d.t + k) g) (fun k => shd b d c (d.t + k)) 1440).2
theorem DY.mC (h : DY b d B D s) (N c : Nat) (hN : 2010 ≤ N) (hc : c < b.C) (f tl : Nat → Int32) (hf : ∀ k, k < 1440 → tm9 b d tp (d.t + k) g = true → f (cn9 (fun k => tm9 b d tp (d.t + k) g) k) = nI (d.t + k)) : ∃ gg', f_X9_mostLeft N (nI c) (nI (cn9 (fun k => tm9 b d tp (d.t + k) g) 1440)) tl f D.stopped D.stood D.ahead B.clockGain D.since = some (nI (mst b d tp g c), gg') := by
  obtain ⟨gg, q1, q2⟩ := fil720 N tl (by omega)
  unfold f_X9_mostLeft
  rw [q1, zcl_s]
  exact h.mlC N c hc f hf 1440 0 N gg (by omega) (by omega) q2
theorem DY.mR (h : DY b d B D s) (N c : Nat) (hN : 2010 ≤ N) (hg5 : g ≤ 5) (hok : ∀ q, q < g → ob (tp (3 * q)) < b.C) (hc : c < b.C) (sh : Nat → Int32) : ∃ gg', f_X12_leftBy N (nI c) (nI (3 * g)) sh s tp = some (nI (mst b d tp g c), gg') := by
  unfold f_X12_leftBy
  refine loopP (F := fun n i gg => f_X12_leftBy_2 N (nI (3 * g)) s tp n (nI c) (nI i) gg) (M := 720) (Post := fun z => ∃ gg', z = some (nI (mst b d tp g c), gg')) (fun i gg => ∀ x, x < i → gg x = nI 0) ?_ ?_ N 0 sh (by omega) (by omega) (fun x hx => absurd hx (by omega))
  · intro n i gg hi hI
    left
    refine ⟨upd gg i 0, ?_, fun x hx => ?_⟩
    · show f_X12_leftBy_2 N (nI (3 * g)) s tp (n + 1) (nI c) (nI i) gg = f_X12_leftBy_2 N (nI (3 * g)) s tp n (nI c) (nI (i + 1)) (upd gg i 0)
      rw [f_X12_leftBy_2, if_neg (show ¬ (720 : Int32) ≤ nI i from nI_ge (b := 720) hi (by omega)), zin_nI hi (by omega), zck_t, zbn_s, zbn_s, nI_1, cl_n (show i < 2147483648 by omega)]
    · by_cases e : x = i
      · rw [e, pk_us]; rfl
      · rw [pk_un e]; exact hI x (by omega)
  · intro n gg hI
    show ∃ gg', f_X12_leftBy_2 N (nI (3 * g)) s tp (n + 1) (nI c) (nI 720) gg = some (nI (mst b d tp g c), gg')
    rw [f_X12_leftBy_2, if_pos (show (720 : Int32) ≤ nI 720 by decide)]
    exact h.mlR N c (by omega) hg5 hok hc 1440 0 N gg (by omega) (by omega) hI
/-- the clock to look at -/
theorem DY.lok (h : DY b d B D s) (N : Nat) (hN : 2010 ≤ N) (hg5 : g ≤ 5) (hok : ∀ q, q < g → ob (tp (3 * q)) < b.C) (hC : 0 < b.C) (f tl : Nat → Int32) (hf : ∀ k, k < 1440 → tm9 b d tp (d.t + k) g = true → f (cn9 (fun k => tm9 b d tp (d.t + k) g) k) = nI (d.t + k)) (fm lc : Int32) (sh : Nat → Int32) : ∃ (bc : Int32) (g1 g2 : Nat → Int32), f_X9_clockToLookAt N (nI (cn9 (fun k => tm9 b d tp (d.t + k) g) 1440)) D.stopped B.clocks tl f D.stood D.ahead B.clockGain D.since = some (bc, g1) ∧ f_X12_time_163 N tp s N (nI (cn9 (fun k => tm9 b d tp (d.t + k) g) 1440)) 1000000 0 0 0 (nI (3 * g)) 0 940 fm lc 1 sh = some (nI (cn9 (fun k => tm9 b d tp (d.t + k) g) 1440), 0, 0, nI (3 * g), 0, 940, fm, bc, 1, g2) := by
  have c6 := h.C6
  unfold f_X9_clockToLookAt
  rw [h.nC]
  refine loop2 (F := fun n i (x : Int32 × Int32 × (Nat → Int32)) => f_X9_clockToLookAt_10 N D.stopped (nI b.C) f D.stood D.ahead B.clockGain D.since n (nI (cn9 (fun k => tm9 b d tp (d.t + k) g) 1440)) x.1 x.2.1 (nI i) x.2.2) (G := fun n i (y : Int32 × Int32 × (Nat → Int32)) => f_X12_time_163 N tp s n (nI (cn9 (fun k => tm9 b d tp (d.t + k) g) 1440)) y.1 (nI i) 0 0 (nI (3 * g)) 0 940 fm y.2.1 1 y.2.2) (M := b.C) (Post := fun p q => ∃ (bc : Int32) (g1 g2 : Nat → Int32), p = some (bc, g1) ∧ q = some (nI (cn9 (fun k => tm9 b d tp (d.t + k) g) 1440), 0, 0, nI (3 * g), 0, 940, fm, bc, 1, g2)) (fun i x y => (i = 0 ∧ x.2.1 = nI 1441 ∧ y.1 = nI 1000000) ∨ (0 < i ∧ x.1 = y.2.1 ∧ ∃ p, p ≤ 1440 ∧ x.2.1 = nI p ∧ y.1 = nI p)) ?_ ?_ N N 0 (-1, 1441, tl) (1000000, lc, sh) (by omega) (by omega) (by omega) (Or.inl ⟨rfl, rfl, rfl⟩)
  · intro n n' i ⟨x1, x2, x3⟩ ⟨y1, y2, y3⟩ hi hI
    left
    dsimp only at hI ⊢
    obtain ⟨g1, m1⟩ := h.mC N i hN hi f x3 hf
    obtain ⟨g2, m2⟩ := h.mR N i hN hg5 hok hi y3
    have bb := (ta9_b (fun k => tm9 b d tp (d.t + k) g) (fun k => shd b d i (d.t + k)) 1440).2
    have bm : mst b d tp g i ≤ 1440 := bb
    rw [f_X9_clockToLookAt_10, if_neg (nI_ge hi (by omega)), m1, zcl_s, f_X12_time_163, h.sC, if_neg (nI_ge hi (by omega)), m2, zcl_s]
    dsimp only
    rcases hI with ⟨h0, h1, h2⟩ | ⟨h0, h1, p, hp, h2, h3⟩
    · rw [h1, h2, if_neg (nI_ge (show mst b d tp g i < 1441 by omega) (by omega)), if_pos (nI_lt (show mst b d tp g i < 1000000 by omega) (by omega)), zbn_s, zbn_s, nI_1]
      exact ⟨(nI i, nI (mst b d tp g i), g1), (nI (mst b d tp g i), nI i, g2), rfl, rfl, Or.inr ⟨by omega, rfl, _, bm, rfl, rfl⟩⟩
    · rw [h2, h3]
      by_cases c : mst b d tp g i < p
      · rw [if_neg (nI_ge c (by omega)), if_pos (nI_lt c (by omega)), zbn_s, zbn_s, nI_1]
        exact ⟨(nI i, nI (mst b d tp g i), g1), (nI (mst b d tp g i), nI i, g2), rfl, rfl, Or.inr ⟨by omega, rfl, _, bm, rfl, rfl⟩⟩
      · rw [if_pos (nI_le (show p ≤ mst b d tp g i by omega) (by omega)), if_neg (nI_nlt (show p ≤ mst b d tp g i by omega) (by omega)), zbn_s, zbn_s, nI_1]
        exact ⟨(x1, nI p, g1), (nI p, y2, g2), rfl, rfl, Or.inr ⟨by omega, h1, p, hp, rfl, rfl⟩⟩
  · intro n n' ⟨x1, x2, x3⟩ ⟨y1, y2, y3⟩ hI
    dsimp only at hI ⊢
    rcases hI with ⟨h0, -⟩ | ⟨-, h1, -⟩
    · omega
    · subst h1
      refine ⟨x1, x3, y3, ?_, ?_⟩
      · rw [f_X9_clockToLookAt_10, if_pos (nI_le (Nat.le_refl _) (by omega))]
      · rw [f_X12_time_163, h.sC, if_pos (nI_le (Nat.le_refl _) (by omega))]
theorem DY.srC (h : DY b d B D s) (N : Nat) (hN : 2010 ≤ N) (hg5 : g ≤ 5) (hok : ∀ q, q < g → ob (tp (3 * q)) < b.C) (hby : ∀ i, i < 3 * g → by9 i = tp i) (fst bc : Int32) (f tl : Nat → Int32) : ∃ f', (∀ k, k < 1440 → tm9 b d tp (d.t + k) g = true → f' (cn9 (fun k => tm9 b d tp (d.t + k) g) k) = nI (d.t + k)) ∧ f_X9_search_15 N (nI (3 * g)) by9 D.minute D.stopped B.clocks D.stood D.ahead B.clockGain D.since N 0 0 fst bc f tl = (if nI (cn9 (fun k => tm9 b d tp (d.t + k) g) 1440) ≤ 0 then some (nI (cn9 (fun k => tm9 b d tp (d.t + k) g) 1440), fst, bc, f', tl) else zbn (f' 0) fun y1 => zcl (f_X9_clockToLookAt N (nI (cn9 (fun k => tm9 b d tp (d.t + k) g) 1440)) D.stopped B.clocks tl f' D.stood D.ahead B.clockGain D.since) fun z78 => some (nI (cn9 (fun k => tm9 b d tp (d.t + k) g) 1440), y1, z78.1, f', z78.2)) := by
  have t2 := h.t2
  refine loopP (F := fun n i f => f_X9_search_15 N (nI (3 * g)) by9 D.minute D.stopped B.clocks D.stood D.ahead B.clockGain D.since n (nI (cn9 (fun k => tm9 b d tp (d.t + k) g) i)) (nI i) fst bc f tl) (M := 1440) (Post := fun z => ∃ f', (∀ k, k < 1440 → tm9 b d tp (d.t + k) g = true → f' (cn9 (fun k => tm9 b d tp (d.t + k) g) k) = nI (d.t + k)) ∧ z = (if nI (cn9 (fun k => tm9 b d tp (d.t + k) g) 1440) ≤ 0 then some (nI (cn9 (fun k => tm9 b d tp (d.t + k) g) 1440), fst, bc, f', tl) else zbn (f' 0) fun y1 => zcl (f_X9_clockToLookAt N (nI (cn9 (fun k => tm9 b d tp (d.t + k) g) 1440)) D.stopped B.clocks tl f' D.stood D.ahead B.clockGain D.since) fun z78 => some (nI (cn9 (fun k => tm9 b d tp (d.t + k) g) 1440), y1, z78.1, f', z78.2))) (fun i f => ∀ k, k < i → tm9 b d tp (d.t + k) g = true → f (cn9 (fun k => tm9 b d tp (d.t + k) g) k) = nI (d.t + k)) ?_ ?_ N 0 f (by omega) (by omega) (fun k hk => absurd hk (by omega))
  · intro n i f hi hI
    left
    show ∃ x', f_X9_search_15 N (nI (3 * g)) by9 D.minute D.stopped B.clocks D.stood D.ahead B.clockGain D.since (n + 1) (nI (cn9 (fun k => tm9 b d tp (d.t + k) g) i)) (nI i) fst bc f tl = f_X9_search_15 N (nI (3 * g)) by9 D.minute D.stopped B.clocks D.stood D.ahead B.clockGain D.since n (nI (cn9 (fun k => tm9 b d tp (d.t + k) g) (i + 1))) (nI (i + 1)) fst bc x' tl ∧ ∀ k, k < i + 1 → tm9 b d tp (d.t + k) g = true → x' (cn9 (fun k => tm9 b d tp (d.t + k) g) k) = nI (d.t + k)
    have em : D.minute + nI i = nI (d.t + i) := by rw [h.mi, nI_add]
    rw [f_X9_search_15, if_neg (show ¬ (1440 : Int32) ≤ nI i from nI_ge (b := 1440) hi (by omega)), em, h.asC N (d.t + i) (by omega) hg5 hok hby (by omega) (by omega), zcl_s]
    have cl := cn9_le (fun k => tm9 b d tp (d.t + k) g) i
    cases hP : tm9 b d tp (d.t + i) g
    · have e2 := cn9_f (P := (fun k => tm9 b d tp (d.t + k) g)) (n := i) hP
      rw [if_pos (show bI false = 0 from rfl), zbn_s, nI_1, e2]
      refine ⟨f, rfl, fun k hk ht => ?_⟩
      by_cases e : k = i
      · rw [e, hP] at ht; cases ht
      · exact hI k (by omega) ht
    · have e2 := cn9_t (P := (fun k => tm9 b d tp (d.t + k) g)) (n := i) hP
      rw [if_neg (show ¬ bI true = 0 by decide), zbn_s, zin_nI (show cn9 (fun k => tm9 b d tp (d.t + k) g) i < 1440 by omega) (by omega), zck_t, zbn_s, cl_n (show cn9 (fun k => tm9 b d tp (d.t + k) g) i < 2147483648 by omega), zbn_s, zbn_s, nI_1, nI_1, e2]
      refine ⟨_, rfl, fun k hk ht => ?_⟩
      by_cases e : k = i
      · rw [e, pk_us]
      · have := cn9_lt (P := (fun k => tm9 b d tp (d.t + k) g)) (show k < i by omega) ht
        rw [pk_un (by omega)]
        exact hI k (by omega) ht
  · intro n f hI
    refine ⟨f, hI, ?_⟩
    show f_X9_search_15 N (nI (3 * g)) by9 D.minute D.stopped B.clocks D.stood D.ahead B.clockGain D.since (n + 1) (nI (cn9 (fun k => tm9 b d tp (d.t + k) g) 1440)) (nI 1440) fst bc f tl = _
    rw [f_X9_search_15, if_pos (show (1440 : Int32) ≤ nI 1440 by decide)]
theorem DY.tmR (h : DY b d B D s) (N : Nat) (hN : 2010 ≤ N) (hg5 : g ≤ 5) (hok : ∀ q, q < g → ob (tp (3 * q)) < b.C) (fm lc ht : Int32) (sh : Nat → Int32) : ∀ (i n : Nat) (x2 : Int32), i ≤ 1440 → i < n → (∀ k, i ≤ k → k < 1440 → tm9 b d tp (d.t + k) g = true → (∀ k', i ≤ k' → k' < k → tm9 b d tp (d.t + k') g = false) → x2 = nI (d.t + k)) → ∃ fst : Int32, (∀ k, k < 1440 → tm9 b d tp (d.t + k) g = true → (∀ k', k' < k → tm9 b d tp (d.t + k') g = false) → fst = nI (d.t + k)) ∧ f_X12_time_98 N tp s n (nI (cn9 (fun k => tm9 b d tp (d.t + k) g) 1440 - cn9 (fun k => tm9 b d tp (d.t + k) g) i)) x2 (iI ((i : Int) - 1)) 0 0 (nI (3 * g)) 0 940 fm lc ht sh = (if nI (cn9 (fun k => tm9 b d tp (d.t + k) g) 1440) = 0 then some (0, 0, 0, nI (3 * g), 0, 940, fm, lc, ht, sh) else f_X12_time_163 N tp s N (nI (cn9 (fun k => tm9 b d tp (d.t + k) g) 1440)) 1000000 0 0 0 (nI (3 * g)) 0 940 fst lc 1 sh) := by
  have t2 := h.t2
  intro i
  induction i with
  | zero =>
    intro n x2 _ hn hx
    obtain ⟨n, rfl⟩ : ∃ n', n = n' + 1 := ⟨n - 1, by omega⟩
    refine ⟨x2, fun k hk ht hk' => hx k (by omega) hk ht (fun k' _ h2 => hk' k' h2), ?_⟩
    rw [f_X12_time_98, if_pos (show iI ((0 : Nat) - 1) < 0 by decide), show cn9 (fun k => tm9 b d tp (d.t + k) g) 0 = 0 from rfl, Nat.sub_zero]
  | succ i ih =>
    intro n x2 hi hn hx
    obtain ⟨n, rfl⟩ : ∃ n', n = n' + 1 := ⟨n - 1, by omega⟩
    have ei : iI (((i + 1 : Nat) : Int) - 1) = nI i := by rw [iI_nat]; congr 1; omega
    have ej : nI i + (-1) = iI ((i : Int) - 1) := by rw [iI_nat, m1_iI, iI_add]; rfl
    have cl := cn9_le (fun k => tm9 b d tp (d.t + k) g) 1440
    have cm := cn9_mono (P := (fun k => tm9 b d tp (d.t + k) g)) (show i + 1 ≤ 1440 by omega)
    rw [f_X12_time_98, ei, if_neg (show ¬ nI i < 0 from nI_nlt (Nat.zero_le _) (by omega)), h.sm, nI_add, h.isR N (d.t + i) (by omega) hg5 hok (by omega) (by omega), zcl_s]
    cases hP : tm9 b d tp (d.t + i) g
    · have e2 := cn9_f (P := (fun k => tm9 b d tp (d.t + k) g)) (n := i) hP
      rw [if_pos (show bI false = 0 from rfl), zbn_s, ej, e2]
      refine ih n x2 (by omega) (by omega) (fun k h1 h2 h3 h4 => ?_)
      by_cases e : k = i
      · rw [e, hP] at h3; cases h3
      · exact hx k (by omega) h2 h3 (fun k' q1 q2 => h4 k' (by omega) q2)
    · have e2 := cn9_t (P := (fun k => tm9 b d tp (d.t + k) g)) (n := i) hP
      rw [e2] at cm
      rw [if_neg (show ¬ bI true = 0 by decide), zbn_s, zbn_s, zbn_s, ej, nI_1, e2, show cn9 (fun k => tm9 b d tp (d.t + k) g) 1440 - (cn9 (fun k => tm9 b d tp (d.t + k) g) i + 1) + 1 = cn9 (fun k => tm9 b d tp (d.t + k) g) 1440 - cn9 (fun k => tm9 b d tp (d.t + k) g) i by omega]
      refine ih n _ (by omega) (by omega) (fun k h1 h2 h3 h4 => ?_)
      by_cases e : k = i
      · rw [e]
      · have := h4 i (by omega) (by omega)
        rw [hP] at this; cases this
end TIME2
/-- the first, if there is one -/
theorem lst9 {P : Nat → Bool} : ∀ {n : Nat}, 0 < cn9 P n → ∃ k, k < n ∧ P k = true ∧ (∀ k', k' < k → P k' = false) ∧ cn9 P k = 0 := by
  intro n
  induction n with
  | zero => intro h; exact absurd h (by rw [show cn9 P 0 = 0 from rfl]; omega)
  | succ n ih =>
    intro h
    by_cases c : 0 < cn9 P n
    · obtain ⟨k, h1, h2, h3, h4⟩ := ih c
      exact ⟨k, by omega, h2, h3, h4⟩
    · cases hP : P n
      · rw [cn9_f hP] at h; exact absurd h c
      · refine ⟨n, by omega, hP, fun k' hk => ?_, by omega⟩
        cases hQ : P k'
        · rfl
        · have := cn9_lt (P := P) hk hQ; omega
theorem p_time (N : Nat) (hN : 5000 ≤ N) : Ok9 (F_time N) (G_time N) := by
  intro k r hR
  obtain ⟨b, d, ⟨hB, h, hS⟩, hH, hI, ⟨L, hL, t1, t3, t4⟩, hf, hl, hm, ht, hv⟩ := hR
  have c6 := h.C6
  have e0 : ∀ fs bc fd tl, f_X9_isAsTold N (nI L) k.tape_bytes k.here.clocks = some 0 → f_X9_search N (nI L) k.tape_bytes k.day.minute k.day.stopped k.here.clocks k.day.stood k.day.ahead k.here.clockGain k.day.since fs bc fd tl = some (-1, fs, bc, fd, tl) := by
    intro fs bc fd tl hz
    unfold f_X9_search
    rw [hz, zcl_s, if_pos rfl]
  by_cases cL : 3 ≤ L ∧ L ≤ 15
  · have g1 : f_X12_isIn N (nI L) 3 15 = some 1 := by
      rcases rng9 N (nI L) 3 15 16 (lo := 3) (hi := 15) (by omega) (by omega) rfl rfl rfl with ⟨j, h1, h2, h3, h4, -⟩ | ⟨-, h4⟩
      · exact h4
      · rcases h4 with h4 | ⟨-, h4, -⟩
        · exact absurd h4 (nI_nlt (show 3 ≤ L by omega) (by omega))
        · exact absurd (nI_le (show L ≤ 15 by omega) (by omega)) h4
    have er : zrem (nI L) 3 = nI (L % 3) := pk_rem (d := 3) (by omega) (by omega) (by omega)
    have i0 : f_X9_isAsTold N (nI L) k.tape_bytes k.here.clocks = if nI (L % 3) = 0 then f_X9_isAsTold_30 N (nI L) k.tape_bytes k.here.clocks N 0 else some 0 := by
      unfold f_X9_isAsTold
      rw [if_neg (show ¬ nI L < 3 from nI_nlt (show 3 ≤ L by omega) (by omega)), if_neg (show ¬ (15 : Int32) < nI L from nI_nlt (a := 15) (show L ≤ 15 by omega) (by omega)), er]
    by_cases c3 : L % 3 = 0
    · obtain ⟨g, rfl⟩ : ∃ g, L = 3 * g := ⟨L / 3, by omega⟩
      rcases h.ast (tp := r.tape) N (by omega) (show g ≤ 5 by omega) t4 r.firstMinute r.lookClock r.hasTime r.shown with ⟨a1, a2, hok⟩ | ⟨a1, a2⟩
      · have hC : 0 < b.C := by have := hok 0 (by omega); omega
        obtain ⟨f', hf', s1⟩ := h.srC (tp := r.tape) N (by omega) (show g ≤ 5 by omega) hok t4 k.watch_first k.watch_bestClock k.watch_found k.watch_tally
        obtain ⟨fst, hfst, s2⟩ := h.tmR (tp := r.tape) N (by omega) (show g ≤ 5 by omega) hok r.firstMinute r.lookClock r.hasTime r.shown 1440 N 0 (by omega) (by omega) (fun k h1 h2 => absurd h2 (by omega))
        rw [Nat.sub_self] at s2
        have s2' : f_X12_time_98 N r.tape r.s N 0 0 1439 0 0 (nI (3 * g)) 0 940 r.firstMinute r.lookClock r.hasTime r.shown = _ := s2
        have i1 : f_X9_isAsTold N (nI (3 * g)) k.tape_bytes k.here.clocks = some 1 := by rw [i0, c3, if_pos (show nI 0 = 0 from rfl), a1]
        have cl := cn9_le (fun k => tm9 b d r.tape (d.t + k) g) 1440
        by_cases cz : cn9 (fun k => tm9 b d r.tape (d.t + k) g) 1440 = 0
        · rw [cz, if_pos (show nI 0 ≤ 0 by decide)] at s1
          rw [cz, if_pos (show nI 0 = 0 from rfl)] at s2'
          refine ⟨0, _, _, by unfold F_time f_X11_time f_X9_search; rw [t1, i1, zcl_s, if_neg one0, s1, zcl_s, zcl_s]; rfl, by unfold G_time f_X12_time f_X12_taken; rw [t3, zcl_s]; dsimp only; rw [g1, zcl_s, if_neg one0, er, c3, if_pos (show nI 0 = 0 from rfl), a2, s2', zcl_s], ?_⟩
          exact ⟨b, d, ⟨hB, h, hS⟩, hH, hI, ⟨0, by omega, rfl, rfl, fun i hi => absurd hi (by omega)⟩, hf, hl, hm, ht, hv⟩
        · obtain ⟨bc, g1', g2', q1, q2⟩ := h.lok (tp := r.tape) N (by omega) (show g ≤ 5 by omega) hok hC f' k.watch_tally hf' fst r.lookClock r.shown
          obtain ⟨k0, k1, k2, k3, k4⟩ := lst9 (P := fun k => tm9 b d r.tape (d.t + k) g) (n := 1440) (by omega)
          have ef : f' 0 = fst := by rw [hfst k0 k1 k2 k3, ← hf' k0 k1 k2, k4]
          rw [if_neg (show ¬ nI (cn9 (fun k => tm9 b d r.tape (d.t + k) g) 1440) ≤ 0 from nI_ge (show 0 < cn9 (fun k => tm9 b d r.tape (d.t + k) g) 1440 by omega) (by omega)), zbn_s, q1, zcl_s, ef] at s1
          rw [if_neg (show ¬ nI (cn9 (fun k => tm9 b d r.tape (d.t + k) g) 1440) = 0 from fun z => cz ((nI_eq (b := 0) (by omega) (by omega)).mp z)), q2] at s2'
          refine ⟨nI (cn9 (fun k => tm9 b d r.tape (d.t + k) g) 1440), _, _, by unfold F_time f_X11_time f_X9_search; rw [t1, i1, zcl_s, if_neg one0, s1, zcl_s, zcl_s], by unfold G_time f_X12_time f_X12_taken; rw [t3, zcl_s]; dsimp only; rw [g1, zcl_s, if_neg one0, er, c3, if_pos (show nI 0 = 0 from rfl), a2, s2', zcl_s], ?_⟩
          exact ⟨b, d, ⟨hB, h, hS⟩, hH, hI, ⟨0, by omega, rfl, rfl, fun i hi => absurd hi (by omega)⟩, hf, hl, Or.inr ⟨rfl, rfl, rfl⟩, ht, hv⟩
      · have i1 : f_X9_isAsTold N (nI (3 * g)) k.tape_bytes k.here.clocks = some 0 := by rw [i0, c3, if_pos (show nI 0 = 0 from rfl), a1]
        refine ⟨-1, _, _, by unfold F_time f_X11_time; rw [t1, e0 _ _ _ _ i1, zcl_s, zcl_s], by unfold G_time f_X12_time f_X12_taken; rw [t3, zcl_s]; dsimp only; rw [g1, zcl_s, if_neg one0, er, c3, if_pos (show nI 0 = 0 from rfl), a2, zcl_s], ?_⟩
        exact ⟨b, d, ⟨hB, h, hS⟩, hH, hI, ⟨0, by omega, rfl, rfl, fun i hi => absurd hi (by omega)⟩, hf, hl, hm, ht, hv⟩
    · have n3 : ¬ nI (L % 3) = 0 := fun z => c3 ((nI_eq (b := 0) (by omega) (by omega)).mp z)
      have i1 : f_X9_isAsTold N (nI L) k.tape_bytes k.here.clocks = some 0 := by rw [i0, if_neg n3]
      refine ⟨-1, _, _, by unfold F_time f_X11_time; rw [t1, e0 _ _ _ _ i1, zcl_s, zcl_s], by unfold G_time f_X12_time f_X12_taken; rw [t3, zcl_s]; dsimp only; rw [g1, zcl_s, if_neg one0, er, if_neg n3, zcl_s], ?_⟩
      exact ⟨b, d, ⟨hB, h, hS⟩, hH, hI, ⟨0, by omega, rfl, rfl, fun i hi => absurd hi (by omega)⟩, hf, hl, hm, ht, hv⟩
  · have g1 : f_X12_isIn N (nI L) 3 15 = some 0 := by
      rcases rng9 N (nI L) 3 15 16 (lo := 3) (hi := 15) (by omega) (by omega) rfl rfl rfl with ⟨j, h1, h2, h3, h4, -⟩ | ⟨h4, -⟩
      · have := (nI_eq (by omega) (by omega)).mp h3
        omega
      · exact h4
    have i1 : f_X9_isAsTold N (nI L) k.tape_bytes k.here.clocks = some 0 := by
      unfold f_X9_isAsTold
      by_cases c : L < 3
      · rw [if_pos (show nI L < 3 from nI_lt (b := 3) c (by omega))]
      · rw [if_neg (show ¬ nI L < 3 from nI_nlt (show 3 ≤ L by omega) (by omega)), if_pos (show (15 : Int32) < nI L from nI_lt (show 15 < L by omega) (by omega))]
    refine ⟨-1, _, _, by unfold F_time f_X11_time; rw [t1, e0 _ _ _ _ i1, zcl_s, zcl_s], by unfold G_time f_X12_time f_X12_taken; rw [t3, zcl_s]; dsimp only; rw [g1, zcl_s, if_pos rfl, zcl_s], ?_⟩
    exact ⟨b, d, ⟨hB, h, hS⟩, hH, hI, ⟨0, by omega, rfl, rfl, fun i hi => absurd hi (by omega)⟩, hf, hl, hm, ht, hv⟩
