section REFDAY2
variable {C M T t : Nat} {clk cor si : Nat → Nat} {late du so ah gn : Nat → Int} {stp : Nat → Bool} {toC : Nat → Nat → Bool} {s : Nat → Int32}
theorem RG_left {x : GM} {m e : Nat} (hG : RG M T du x s) (hM6 : M ≤ 6) (hT6 : T ≤ 6) (hm : m < M) (he : e < T) (t : Nat) : RG M T du (x.1, gset x.2.1 m e (some t), x.2.2) (upd s (81 + (6 * e + m)) (nI (t + 1))) := by
  refine ⟨fun a => by rw [pk_un (by omega)]; exact hG.1 a, fun a ha b hb => ⟨?_, ?_⟩, by rw [pk_un (by omega)]; exact hG.2.2.1, by rw [pk_un (by omega)]; exact hG.2.2.2⟩
  · show upd s (81 + (6 * e + m)) (nI (t + 1)) (81 + (6 * b + a)) = oJ (gset x.2.1 m e (some t) a b)
    by_cases hab : a = m ∧ b = e
    · obtain ⟨rfl, rfl⟩ := hab
      rw [gset_at, pk_us]; rfl
    · rw [pk_un (by omega), (hG.2.1 a ha b hb).1]
      simp [gset, hab]
  · rw [pk_un (by omega)]; exact (hG.2.1 a ha b hb).2
theorem goL_came {rd : Nat → Nat → Int} {m e : Nat} {x : GM} (hp : PI9 t (x.2.1 m e) (x.2.2 m e) (cor m)) (h : (goL rd du late t m e x).map (fun u => u + cor m) = some t) : x.2.2 m e = none := by
  cases hc : x.2.2 m e with
  | none => rfl
  | some v =>
    obtain ⟨u, e1, e2, e3⟩ := hp.2 v hc
    unfold goL at h
    rw [if_neg (fun z => by rw [e1] at z; cases z.2.1), e1] at h
    have : u + cor m = t := by simpa using h
    omega
theorem X12_goesTo_ok {x : GM} (h : RK C M T t clk cor si late du so ah gn stp toC s) (hG : RG M T du x s) (N m e : Nat) (hm : m < M) (he : e < T) (ht : t < 2000) (hB : GB (t + 1) x) (hp : PI9 t (x.2.1 m e) (x.2.2 m e) (cor m)) (hsi : ∀ c, c < C → si c ≤ t) (hrd : ∀ c, c < C → -1000000 < rdM stp so ah gn si c t ∧ rdM stp so ah gn si c t < 1000000) :
    ∃ s', f_X12_goesTo N (nI m) (nI e) s = some s' ∧ RG M T du (goM (fun m u => rdM stp so ah gn si (clk m) u) du late cor t m e x) s' ∧ ∀ k, kp k → s' k = s k := by
  obtain ⟨⟨-, -, h52, h4, h5, h6⟩, h7, h8, h9, h10⟩ := id h
  obtain ⟨g1, g2, g3, g4, g5, g6, g7⟩ := h8 m hm
  obtain ⟨d1, d2, d3⟩ := h9 e he
  obtain ⟨l1, c1⟩ := hG.2.1 m hm e he
  have hr := hrd (clk m) g2
  unfold f_X12_goesTo
  rw [zbn_s, zbn_s, h52, show (6 : Int32) = nI 6 from rfl, pk_mul, nI_add, goM_2]
  cases ho : x.1 m with
  | true =>
    have hz : f_X12_isOut N (nI m) s = some 1 := by rw [X12_isOut_ok h hG N m hm, ho]; rfl
    rw [hz, zcl_s, if_neg (show ¬ (1 : Int32) = 0 by decide)]
    have hk := goL_keep (rd := fun m u => rdM stp so ah gn si (clk m) u) (du := du) (late := late) (t := t) (m := m) (e := e) (x := x) (fun z => by rw [ho] at z; cases z.1)
    have hca := goL_came (rd := fun m u => rdM stp so ah gn si (clk m) u) (du := du) (late := late) hp
    rw [hk]
    refine X12_goesTo86_ok h hG N m e hm he ht hB (fun z => hca ?_)
    unfold goL
    rw [if_neg (fun z => by rw [ho] at z; cases z.1)]
    exact z
  | false =>
    have hz : f_X12_isOut N (nI m) s = some 0 := by rw [X12_isOut_ok h hG N m hm, ho]; rfl
    rw [hz, zcl_s, if_pos (show (0 : Int32) = 0 from rfl), nI_lit 81 _ 81 rfl, zin_nI (show 81 + (6 * e + m) < 334 by omega) (by omega), zck_t, nI_clamp' (show 81 + (6 * e + m) < 2147483648 by omega), l1]
    cases hl : x.2.1 m e with
    | some u =>
      have hu := hB m e u hl
      rw [if_neg (show ¬ oJ (some u) = 0 from fun z => by have := (oJ_zero (o := some u) (fun v hv => by cases hv; omega)).mp z; cases this)]
      have hk := goL_keep (rd := fun m u => rdM stp so ah gn si (clk m) u) (du := du) (late := late) (t := t) (m := m) (e := e) (x := x) (fun z => by rw [hl] at z; cases z.2.1)
      have hca := goL_came (rd := fun m u => rdM stp so ah gn si (clk m) u) (du := du) (late := late) hp
      rw [hk]
      refine X12_goesTo86_ok h hG N m e hm he ht hB (fun z => hca ?_)
      unfold goL
      rw [if_neg (fun z => by rw [hl] at z; cases z.2.1)]
      exact z
    | none =>
      rw [if_pos (show oJ none = 0 from rfl), nI_lit 34 m 34 rfl, nI_lit 75 e 75 rfl, nI_lit 28 m 28 rfl, zin_nI (show 34 + m < 334 by omega) (by omega), zin_nI (show 75 + e < 334 by omega) (by omega), zin_nI (show 28 + m < 334 by omega) (by omega), zck_t, nI_clamp' (show 34 + m < 2147483648 by omega), nI_clamp' (show 75 + e < 2147483648 by omega), nI_clamp' (show 28 + m < 2147483648 by omega), g1, X12_readsAt_ok h N (clk m) t g2 (hsi _ g2) (by omega), zcl_s, zck_t, zck_t, d1, g3, iI_add]
      by_cases hc : rdM stp so ah gn si (clk m) t < du e + late m
      · rw [if_pos (show iI (rdM stp so ah gn si (clk m) t) < iI (du e + late m) from (iI_lt ⟨by omega, by omega⟩ ⟨by omega, by omega⟩).mpr hc)]
        have hk := goL_keep (rd := fun m u => rdM stp so ah gn si (clk m) u) (du := du) (late := late) (t := t) (m := m) (e := e) (x := x) (fun z => by have := (show du e + late m ≤ rdM stp so ah gn si (clk m) t from z.2.2); omega)
        rw [hk]
        exact X12_goesTo86_ok h hG N m e hm he ht hB (fun z => by rw [hl] at z; cases z)
      · rw [if_neg (show ¬ iI (rdM stp so ah gn si (clk m) t) < iI (du e + late m) from fun z => hc ((iI_lt ⟨by omega, by omega⟩ ⟨by omega, by omega⟩).mp z)), zbn_s, nI_1, zbn_s]
        have hg : goL (fun m u => rdM stp so ah gn si (clk m) u) du late t m e x = some t := by
          unfold goL
          rw [if_pos ⟨ho, hl, show du e + late m ≤ rdM stp so ah gn si (clk m) t by omega⟩]
        have hca := goL_came (rd := fun m u => rdM stp so ah gn si (clk m) u) (du := du) (late := late) hp
        rw [hg] at hca ⊢
        have hk1 : ∀ k, kp k → upd s (81 + (6 * e + m)) (nI (t + 1)) k = s k := fun k hk => by
          have hk : k < 53 ∨ k = 54 ∨ (57 ≤ k ∧ k < 81) ∨ 153 ≤ k := hk
          rw [pk_un (by omega)]
        obtain ⟨s', e1, e2, e3⟩ := X12_goesTo86_ok (RK_keep h hk1) (RG_left hG h5 h6 hm he t) N m e hm he ht (fun a b u hu => by
          have hu : gset x.2.1 m e (some t) a b = some u := hu
          unfold gset at hu
          split at hu
          · cases hu; omega
          · exact hB a b u hu) (fun z => hca (by
            have z : (gset x.2.1 m e (some t) m e).map (fun u => u + cor m) = some t := z
            rw [gset_at] at z
            exact z))
        exact ⟨s', e1, e2, fun k hk => (e3 k hk).trans (hk1 k hk)⟩
theorem X12_row_ok (N e : Nat) (he : e < T) (ht : t < 2000) (hsi : ∀ c, c < C → si c ≤ t) (hrd : ∀ c, c < C → -1000000 < rdM stp so ah gn si c t ∧ rdM stp so ah gn si c t < 1000000) (k : Int32 → (Nat → Int32) → (Option ((Nat → Int32)))) :
    ∀ (n m : Nat) (x : GM) (s : Nat → Int32), RK C M T t clk cor si late du so ah gn stp toC s → m ≤ M → M - m < n → RG M T du x s → GB (t + 1) x → GH toC cor M T t e m x →
    ∃ s', f_X12_minute_14 N k n (nI e) (nI m) s = k (nI (e + 1)) s' ∧ RG M T du (rowM toC (fun m u => rdM stp so ah gn si (clk m) u) du late cor t e (M - m) m x) s' ∧ GB (t + 1) (rowM toC (fun m u => rdM stp so ah gn si (clk m) u) du late cor t e (M - m) m x) ∧ ∀ j, kp j → s' j = s j := by
  intro n
  induction n with
  | zero => intro m x s _ h1 h2; omega
  | succ n ih =>
    intro m x s h hm hn hG hB hH
    have h5 := h.1.2.2.2.2.1
    rw [f_X12_minute_14, h.1.1]
    by_cases hmM : m = M
    · subst hmM
      refine ⟨s, ?_, ?_, ?_, fun _ _ => rfl⟩
      · rw [if_pos (nI_le (Nat.le_refl _) (by omega)), zbn_s, nI_1]
      · rw [Nat.sub_self]; exact hG
      · rw [Nat.sub_self]; exact hB
    · have hlt : m < M := by omega
      rw [if_neg (nI_ge hlt (by omega)), X12_isDueTo_ok h N m e hlt he, zcl_s]
      have e1 : M - m = (M - (m + 1)) + 1 := by omega
      rw [e1, rowM]
      have hstep := GH_step (rd := fun m u => rdM stp so ah gn si (clk m) u) (du := du) (late := late) hH hlt he
      cases hs : toC m e with
      | false =>
        rw [hs] at hstep
        rw [if_neg (show ¬ (false = true) by decide), if_pos (show bI false = 0 from rfl), zbn_s, nI_1]
        exact ih (m + 1) x s h hlt (by omega) hG hB hstep
      | true =>
        rw [hs] at hstep
        have hp := hH m e hlt he hs
        rw [if_neg (by omega)] at hp
        obtain ⟨s1, g1, g2, g3⟩ := X12_goesTo_ok h hG N m e hlt he ht hB hp hsi hrd
        rw [if_pos (show true = true from rfl), if_neg (show ¬ bI true = 0 by decide), g1, zcl_s, zbn_s, nI_1]
        obtain ⟨s2, k1, k2, k3, k4⟩ := ih (m + 1) _ s1 (RK_keep h g3) hlt (by omega) g2 (GB_goM hB) hstep
        exact ⟨s2, k1, k2, k3, fun j hj => (k4 j hj).trans (g3 j hj)⟩
theorem X12_col_ok (N : Nat) (hN : 10 ≤ N) (ht : t < 2000) (hsi : ∀ c, c < C → si c ≤ t) (hrd : ∀ c, c < C → -1000000 < rdM stp so ah gn si c t ∧ rdM stp so ah gn si c t < 1000000) :
    ∀ (n e : Nat) (x : GM) (s : Nat → Int32), RK C M T t clk cor si late du so ah gn stp toC s → e ≤ T → T - e < n → RG M T du x s → GB (t + 1) x → GH toC cor M T t e 0 x →
    ∃ s', f_X12_minute_2 N n (nI e) s = some (upd s' 52 (nI (t + 1))) ∧ RG M T du (colM toC (fun m u => rdM stp so ah gn si (clk m) u) du late cor M t (T - e) e x) s' ∧ GB (t + 1) (colM toC (fun m u => rdM stp so ah gn si (clk m) u) du late cor M t (T - e) e x) ∧ ∀ j, kp j → s' j = s j := by
  intro n
  induction n with
  | zero => intro e x s _ h1 h2; omega
  | succ n ih =>
    intro e x s h he hn hG hB hH
    have h5 := h.1.2.2.2.2.1
    have h6 := h.1.2.2.2.2.2
    rw [f_X12_minute_2, h.1.2.1]
    by_cases heT : e = T
    · subst heT
      refine ⟨s, ?_, ?_, ?_, fun _ _ => rfl⟩
      · rw [if_pos (nI_le (Nat.le_refl _) (by omega)), zbn_s, h.1.2.2.1, nI_1, zbn_s]
      · rw [Nat.sub_self]; exact hG
      · rw [Nat.sub_self]; exact hB
    · have hlt : e < T := by omega
      rw [if_neg (nI_ge hlt (by omega))]
      obtain ⟨s1, g1, g2, g3, g4⟩ := X12_row_ok N e hlt ht hsi hrd (f_X12_minute_2 N n) N 0 x s h (Nat.zero_le _) (by omega) hG hB hH
      have hrow := GH_row (rd := fun m u => rdM stp so ah gn si (clk m) u) (du := du) (late := late) hlt M 0 x (by omega) hH
      obtain ⟨s2, k1, k2, k3, k4⟩ := ih (e + 1) _ s1 (RK_keep h g4) hlt (by omega) g2 g3 hrow
      have e1 : T - e = (T - (e + 1)) + 1 := by omega
      rw [e1, colM]
      exact ⟨s2, g1.trans k1, k2, k3, fun j hj => (k4 j hj).trans (g4 j hj)⟩
/-- what of the row stays over minutes -/
def kq (k : Nat) : Prop := k < 52 ∨ k = 54 ∨ (57 ≤ k ∧ k < 81) ∨ 153 ≤ k
theorem RK_min {s s' : Nat → Int32} {t' : Nat} (h : RK C M T t clk cor si late du so ah gn stp toC s) (hk : ∀ k, kq k → s' k = s k) (h52 : s' 52 = nI t') : RK C M T t' clk cor si late du so ah gn stp toC s' := by
  obtain ⟨⟨h1, h2, h3, h4, h5, h6⟩, h7, h8, h9, h10⟩ := h
  have K : ∀ k, k < 52 ∨ k = 54 ∨ (57 ≤ k ∧ k < 81) ∨ 153 ≤ k → s' k = s k := hk
  refine ⟨⟨by rw [K 1 (by omega)]; exact h1, by rw [K 2 (by omega)]; exact h2, h52, h4, h5, h6⟩, fun c hc => ?_, fun m hm => ?_, fun e he => ?_, fun m hm e he => ?_⟩
  · rw [K 54 (by omega), K (69 + c) (by omega), K (57 + c) (by omega), K (16 + c) (by omega), K (63 + c) (by omega)]
    exact h7 c hc
  · rw [K (34 + m) (by omega), K (28 + m) (by omega), K (22 + m) (by omega)]
    exact h8 m hm
  · rw [K (75 + e) (by omega)]
    exact h9 e he
  · rw [K (46 + e) (by omega)]
    exact h10 m hm e he
theorem X12_minute_ok {x : GM} (h : RK C M T t clk cor si late du so ah gn stp toC s) (N : Nat) (hN : 10 ≤ N) (ht : t < 2000) (hsi : ∀ c, c < C → si c ≤ t) (hrd : ∀ c, c < C → -1000000 < rdM stp so ah gn si c t ∧ rdM stp so ah gn si c t < 1000000) (hG : RG M T du x s) (hB : GB t x) (hI : GI toC cor M T t x) :
    ∃ s', f_X12_minute N s = some s' ∧ RK C M T (t + 1) clk cor si late du so ah gn stp toC s' ∧ RG M T du (minM toC (fun m u => rdM stp so ah gn si (clk m) u) du late cor M T t x) s' ∧ GB (t + 1) (minM toC (fun m u => rdM stp so ah gn si (clk m) u) du late cor M T t x) ∧ GI toC cor M T (t + 1) (minM toC (fun m u => rdM stp so ah gn si (clk m) u) du late cor M T t x) ∧ ∀ k, kq k → s' k = s k := by
  have h6 := h.1.2.2.2.2.2
  obtain ⟨s1, g1, g2, g3, g4⟩ := X12_col_ok N hN ht hsi hrd N 0 x s h (Nat.zero_le _) (by omega) hG (fun a b u hu => by have := hB a b u hu; omega) (fun a b ha hb hab => by rw [if_neg (by omega)]; exact hI a b ha hb hab)
  have hk : ∀ k, kq k → upd s1 52 (nI (t + 1)) k = s k := fun k hk => by
    have hk : k < 52 ∨ k = 54 ∨ (57 ≤ k ∧ k < 81) ∨ 153 ≤ k := hk
    rw [pk_un (by omega)]
    exact g4 k (show k < 53 ∨ k = 54 ∨ (57 ≤ k ∧ k < 81) ∨ 153 ≤ k by omega)
  refine ⟨_, g1, RK_min h hk pk_us, ?_, g3, GI_min hI, hk⟩
  refine ⟨fun a => by rw [pk_un (by omega)]; exact g2.1 a, fun a ha b hb => ?_, by rw [pk_un (by omega)]; exact g2.2.2.1, by rw [pk_un (by omega)]; exact g2.2.2.2⟩
  rw [pk_un (by omega), pk_un (by omega)]
  exact g2.2.1 a ha b hb
theorem X12_goesOnLoop_ok (N k : Nat) (hN : 10 ≤ N) (hk : k < 100000) (t0 : Nat) (hsi : ∀ c, c < C → si c ≤ t0) (hrd : ∀ c, c < C → ∀ u, t0 ≤ u → u ≤ 2000 → -1000000 < rdM stp so ah gn si c u ∧ rdM stp so ah gn si c u < 1000000) :
    ∀ (n j t : Nat) (x : GM) (s : Nat → Int32), RK C M T t clk cor si late du so ah gn stp toC s → t0 ≤ t → t ≤ 2000 → j ≤ k → min (k - j) (2000 - t) < n → RG M T du x s → GB t x → GI toC cor M T t x →
    ∃ s', f_X12_goesOn_2 N n (nI k) (nI j) s = some (nI (j + min (k - j) (2000 - t)), s') ∧ RK C M T (t + min (k - j) (2000 - t)) clk cor si late du so ah gn stp toC s' ∧ RG M T du (pasM toC (fun m u => rdM stp so ah gn si (clk m) u) du late cor M T (min (k - j) (2000 - t)) t x) s' ∧ GB (t + min (k - j) (2000 - t)) (pasM toC (fun m u => rdM stp so ah gn si (clk m) u) du late cor M T (min (k - j) (2000 - t)) t x) ∧ GI toC cor M T (t + min (k - j) (2000 - t)) (pasM toC (fun m u => rdM stp so ah gn si (clk m) u) du late cor M T (min (k - j) (2000 - t)) t x) ∧ ∀ i, kq i → s' i = s i := by
  intro n
  induction n with
  | zero => intro j t x s _ _ _ _ h2; omega
  | succ n ih =>
    intro j t x s h h0 ht hj hn hG hB hI
    rw [f_X12_goesOn_2]
    by_cases hjk : j = k
    · subst hjk
      have e0 : min (j - j) (2000 - t) = 0 := by omega
      rw [e0]
      exact ⟨s, by rw [if_pos (nI_le (Nat.le_refl _) (by omega)), Nat.add_zero], h, hG, hB, hI, fun _ _ => rfl⟩
    · rw [if_neg (nI_ge (by omega) (by omega)), h.1.2.2.1, show (2000 : Int32) = nI 2000 from rfl]
      by_cases ht2 : t = 2000
      · subst ht2
        have e0 : min (k - j) (2000 - 2000) = 0 := by omega
        rw [e0]
        exact ⟨s, by rw [if_pos (nI_le (Nat.le_refl _) (by omega)), Nat.add_zero], h, hG, hB, hI, fun _ _ => rfl⟩
      · rw [if_neg (nI_ge (by omega) (by omega))]
        obtain ⟨s1, g1, g2, g3, g4, g5, g6⟩ := X12_minute_ok h N hN (by omega) (fun c hc => Nat.le_trans (hsi c hc) h0) (fun c hc => hrd c hc t h0 ht) hG hB hI
        rw [g1, zcl_s, zbn_s, nI_1]
        obtain ⟨s2, k1, k2, k3, k4, k5, k6⟩ := ih (j + 1) (t + 1) _ s1 g2 (by omega) (by omega) (by omega) (by omega) g3 g4 g5
        have e1 : min (k - j) (2000 - t) = min (k - (j + 1)) (2000 - (t + 1)) + 1 := by omega
        rw [e1, pasM]
        refine ⟨s2, ?_, ?_, k3, ?_, ?_, fun i hi => (k6 i hi).trans (g6 i hi)⟩
        · rw [k1]
          congr 2
          congr 1
          omega
        · rw [show t + (min (k - (j + 1)) (2000 - (t + 1)) + 1) = t + 1 + min (k - (j + 1)) (2000 - (t + 1)) by omega]; exact k2
        · rw [show t + (min (k - (j + 1)) (2000 - (t + 1)) + 1) = t + 1 + min (k - (j + 1)) (2000 - (t + 1)) by omega]; exact k4
        · rw [show t + (min (k - (j + 1)) (2000 - (t + 1)) + 1) = t + 1 + min (k - (j + 1)) (2000 - (t + 1)) by omega]; exact k5
/-- goesOn(k) -/
theorem X12_goesOn_ok {x : GM} (h : RK C M T t clk cor si late du so ah gn stp toC s) (N k : Nat) (hN : 2010 ≤ N) (hk : k < 100000) (ht : t ≤ 2000) (hsi : ∀ c, c < C → si c ≤ t) (hrd : ∀ c, c < C → ∀ u, t ≤ u → u ≤ 2000 → -1000000 < rdM stp so ah gn si c u ∧ rdM stp so ah gn si c u < 1000000) (hG : RG M T du x s) (hB : GB t x) (hI : GI toC cor M T t x) :
    ∃ s', f_X12_goesOn N (nI k) s = some (nI (min k (2000 - t)), s') ∧ RK C M T (t + min k (2000 - t)) clk cor si late du so ah gn stp toC s' ∧ RG M T du (pasM toC (fun m u => rdM stp so ah gn si (clk m) u) du late cor M T (min k (2000 - t)) t x) s' ∧ ∀ i, kq i → s' i = s i := by
  obtain ⟨s1, g1, g2, g3, g4, g5, g6⟩ := X12_goesOnLoop_ok N k (by omega) hk t hsi hrd N 0 t x s h (Nat.le_refl _) ht (Nat.zero_le _) (by omega) hG hB hI
  rw [Nat.sub_zero, Nat.zero_add] at g1
  rw [Nat.sub_zero] at g2 g3
  exact ⟨s1, g1, g2, g3, g6⟩
end REFDAY2
