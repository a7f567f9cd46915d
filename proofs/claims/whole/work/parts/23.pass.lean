/-! ===== the class's minutes ===== -/
section CLSPASS
variable {C M T : Nat} {clk cor si : Nat → Nat} {late du so ah gn : Nat → Int} {stp : Nat → Bool} {toC : Nat → Nat → Bool} {masters meets stopped : Int32} {masterMeets masterClock masterLate masterCorner due stood ahead gain since : Nat → Int32}
theorem zmin_iI {a b : Int} (ha : iR a) (hb : iR b) : zmin (iI a) (iI b) = iI (if b < a then b else a) := by
  unfold zmin
  by_cases h : b < a
  · rw [if_pos ((iI_lt hb ha).mpr h), if_pos h]
  · rw [if_neg (fun z => h ((iI_lt hb ha).mp z)), if_neg h]
theorem zmax_iI {a b : Int} (ha : iR a) (hb : iR b) : zmax (iI a) (iI b) = iI (if a < b then b else a) := by
  unfold zmax
  by_cases h : a < b
  · rw [if_pos ((iI_lt ha hb).mpr h), if_pos h]
  · rw [if_neg (fun z => h ((iI_lt ha hb).mp z)), if_neg h]
theorem X3_quietOf_ok (hC : CC C stp so ah gn si stopped stood ahead gain since) (hM : CM C M clk cor late masterClock masterLate masterCorner) (hU : CU T du due) {x : GM} {out : Int32} {left came : Nat → Int32} (h : CG M T x out left came) (N m e t : Nat) (hm : m < M) (he : e < T) (ht : t < 2000) (hB : GB t x) (hp : PI9 t (x.2.1 m e) (x.2.2 m e) (cor m)) (hsi : ∀ c, c < C → si c ≤ t) (hrd : ∀ c, c < C → -1000000 < rdM stp so ah gn si c t ∧ rdM stp so ah gn si c t < 1000000) :
    f_X3_quietOf N (nI m) (nI e) (nI t) out stopped came left masterCorner masterClock due masterLate stood ahead gain since = some (iI (quM stp clk cor si (fun m u => rdM stp so ah gn si (clk m) u) du late t m e x)) := by
  have hC6 := hC.1
  obtain ⟨hM6, hMm⟩ := hM
  obtain ⟨hT6, hUe⟩ := hU
  obtain ⟨hck, hckC, hlt, hl1, hl60, hco, hc30⟩ := hMm m hm
  obtain ⟨hdu, hd0, hd1⟩ := hUe e he
  obtain ⟨hle, hca⟩ := h.2 m hm e he
  have hr := hrd (clk m) hckC
  have hs := hsi (clk m) hckC
  unfold f_X3_quietOf quM
  rw [X11_slot_ok, zcl_s, zin_nI (show m * 6 + e < 36 by omega) (by omega), zck_t, nI_clamp' (show m * 6 + e < 2147483648 by omega), hca, hle]
  cases hc : x.2.2 m e with
  | some v =>
    obtain ⟨u, e1, e2, e3⟩ := hp.2 v hc
    rw [if_neg (show ¬ oI (some v) = -1 from fun z => by have := (oI_none (o := some v) (fun w hw => by cases hw; omega)).mp z; cases this), if_pos (show some v ≠ none by simp)]
    rfl
  | none =>
    rw [if_pos (show oI none = -1 from rfl), if_neg (show ¬ ((none : Option Nat) ≠ none) by simp)]
    cases hl : x.2.1 m e with
    | some u =>
      have hu := hB m e u hl
      rw [if_neg (show ¬ oI (some u) = -1 from fun z => by have := (oI_none (o := some u) (fun v hv => by cases hv; omega)).mp z; cases this), zin_nI (show m < 6 by omega) (by omega), zck_t, nI_clamp' (show m < 2147483648 by omega), hco]
      show some (zmax 0 (nI u + nI (cor m) - nI t)) = _
      rw [iI_nat u, iI_nat (cor m), iI_nat t, iI_add, iI_sub, show (0 : Int32) = iI 0 from rfl, zmax_iI ⟨by omega, by omega⟩ ⟨by omega, by omega⟩]
    | none =>
      rw [if_pos (show oI none = -1 from rfl)]
      cases ho : x.1 m with
      | true =>
        have hz : f_X3_isOut N (nI m) out = some 1 := by rw [X3_isOut_ok h N m hm hM6, ho]; rfl
        rw [hz, zcl_s, if_neg (show ¬ (1 : Int32) = 0 by decide)]
        rfl
      | false =>
        have hz : f_X3_isOut N (nI m) out = some 0 := by rw [X3_isOut_ok h N m hm hM6, ho]; rfl
        rw [hz, zcl_s, if_pos (show (0 : Int32) = 0 from rfl), zin_nI (show m < 6 by omega) (by omega), zck_t, zbn_s, nI_clamp' (show m < 2147483648 by omega), hck, zin_nI (show e < 6 by omega) (by omega), zck_t, nI_clamp' (show e < 2147483648 by omega), X3_reads_ok hC N (clk m) t hckC hs (by omega), zcl_s, zbn_s, hdu, hlt, iI_add, iI_sub]
        simp only
        by_cases hmis : du e + late m - rdM stp so ah gn si (clk m) t ≤ 0
        · rw [if_neg (show ¬ (0 : Int32) < iI (du e + late m - rdM stp so ah gn si (clk m) t) from fun z => by have := (iI_lt (a := 0) ⟨by omega, by omega⟩ ⟨by omega, by omega⟩).mp z; omega), if_neg (show ¬ (false = true) by decide), if_pos hmis]
          rfl
        · rw [if_pos (show (0 : Int32) < iI (du e + late m - rdM stp so ah gn si (clk m) t) from (iI_lt (a := 0) ⟨by omega, by omega⟩ ⟨by omega, by omega⟩).mpr (by omega)), if_neg (show ¬ (false = true) by decide), if_neg hmis, X3_isStopped_ok hC N (clk m) hckC, zcl_s]
          cases hst : stp (clk m) with
          | true =>
            rw [if_neg (show ¬ bI true = 0 by decide), if_pos (show true = true from rfl)]
            rfl
          | false =>
            have hrem : 0 ≤ ((t : Int) - si (clk m)) % 60 ∧ ((t : Int) - si (clk m)) % 60 < 60 := ⟨by omega, by omega⟩
            rw [if_pos (show bI false = 0 from rfl), if_neg (show ¬ (false = true) by decide), zin_nI (show clk m < 6 by omega) (by omega), zck_t, nI_clamp' (show clk m < 2147483648 by omega), (hC.2.2.2.2.2 (clk m) hckC).1, iI_nat t, iI_nat (si (clk m)), iI_sub, show (60 : Int32) = iI 60 from rfl, iI_rem ⟨by omega, by omega⟩ ⟨by omega, by omega⟩, iI_sub, zmin_iI ⟨by omega, by omega⟩ ⟨by omega, by omega⟩]
theorem quM_nonneg {stp : Nat → Bool} {clk cor si : Nat → Nat} {rd : Nat → Nat → Int} {du late : Nat → Int} {t m e : Nat} {x : GM} : 0 ≤ quM stp clk cor si rd du late t m e x := by
  unfold quM
  split
  · omega
  · split
    · split <;> omega
    · split
      · omega
      · split
        · omega
        · split
          · omega
          · split <;> omega
theorem quM_range (hM : CM C M clk cor late masterClock masterLate masterCorner) (hU : CU T du due) {x : GM} {t m e : Nat} (hm : m < M) (he : e < T) (ht : t < 2000) (hB : GB t x) (hrd : ∀ c, c < C → -1000000 < rdM stp so ah gn si c t ∧ rdM stp so ah gn si c t < 1000000) : quM stp clk cor si (fun m u => rdM stp so ah gn si (clk m) u) du late t m e x < 2000000 := by
  obtain ⟨hck, hckC, hlt, hl1, hl60, hco, hc30⟩ := hM.2 m hm
  obtain ⟨hdu, hd0, hd1⟩ := hU.2 e he
  have hr := hrd (clk m) hckC
  unfold quM
  split
  · omega
  · split
    · rename_i u hl
      have := hB m e u hl
      split <;> omega
    · simp only
      split
      · omega
      · split
        · omega
        · split
          · omega
          · split <;> omega
theorem X3_quietRow_ok (hC : CC C stp so ah gn si stopped stood ahead gain since) (hM : CM C M clk cor late masterClock masterLate masterCorner) (hU : CU T du due) (hT : CT M T toC masters meets masterMeets) {x : GM} {out : Int32} {left came : Nat → Int32} (h : CG M T x out left came) (N m t : Nat) (hm : m < M) (ht : t < 2000) (hB : GB t x) (hI : GI toC cor M T t x) (hsi : ∀ c, c < C → si c ≤ t) (hrd : ∀ c, c < C → -1000000 < rdM stp so ah gn si c t ∧ rdM stp so ah gn si c t < 1000000) (k : Int32 → Int32 → Int32 → Option (Int32)) :
    ∀ (n e : Nat) (q : Int), e ≤ T → T - e < n → 0 ≤ q → q ≤ 2000 →
    ∃ q' : Int, f_X3_quietFrom_20 N out stopped masters meets masterMeets came left masterCorner masterClock due masterLate stood ahead gain since k n (nI t) (iI q) (nI m) (nI e) = k (nI t) (iI q') (nI (m + 1)) ∧ 0 ≤ q' ∧ q' ≤ q ∧ ∀ b, e ≤ b → b < T → toC m b = true → q' ≤ quM stp clk cor si (fun m u => rdM stp so ah gn si (clk m) u) du late t m b x := by
  obtain ⟨hm1, hm2, hm3⟩ := hT
  subst hm1
  subst hm2
  have hT : CT M T toC (nI M) (nI T) masterMeets := ⟨rfl, rfl, hm3⟩
  have hM6 := hM.1
  have hT6 := hU.1
  intro n
  induction n with
  | zero => intro e q h1 h2; omega
  | succ n ih =>
    intro e q he hn h0 h1
    rw [f_X3_quietFrom_20]
    by_cases heT : e = T
    · subst heT
      refine ⟨q, ?_, h0, Int.le_refl _, fun b hb1 hb2 => by omega⟩
      rw [if_pos (nI_le (Nat.le_refl _) (by omega)), zbn_s, nI_1]
    · have hlt : e < T := by omega
      rw [if_neg (nI_ge hlt (by omega)), X1_isToCome_ok hT N m e hm hlt hM6 hT6, zcl_s]
      cases hs : toC m e with
      | false =>
        rw [if_pos (show bI false = 0 from rfl), zbn_s, nI_1]
        obtain ⟨q', g1, g2, g3, g4⟩ := ih (e + 1) q hlt (by omega) h0 h1
        refine ⟨q', g1, g2, g3, fun b hb1 hb2 hb3 => ?_⟩
        rcases Nat.lt_or_ge e b with hz | hz
        · exact g4 b hz hb2 hb3
        · have : b = e := by omega
          subst this
          rw [hs] at hb3; cases hb3
      | true =>
        have hq := X3_quietOf_ok hC hM hU h N m e t hm hlt ht hB (hI m e hm hlt hs) hsi hrd
        have hq0 : 0 ≤ quM stp clk cor si (fun m u => rdM stp so ah gn si (clk m) u) du late t m e x := quM_nonneg
        have hq1 := quM_range (x := x) (t := t) (e := e) (stp := stp) (so := so) (ah := ah) (gn := gn) (si := si) hM hU hm hlt ht hB hrd
        rw [if_neg (show ¬ bI true = 0 by decide), hq, zcl_s, zbn_s, zbn_s, nI_1, zmin_iI ⟨by omega, by omega⟩ ⟨by omega, by omega⟩]
        generalize hQd : quM stp clk cor si (fun m u => rdM stp so ah gn si (clk m) u) du late t m e x = Q at hq0 hq1 ⊢
        obtain ⟨q', g1, g2, g3, g4⟩ := ih (e + 1) (if Q < q then Q else q) hlt (by omega) (by split <;> omega) (by split <;> omega)
        refine ⟨q', g1, g2, by split at g3 <;> omega, fun b hb1 hb2 hb3 => ?_⟩
        rcases Nat.lt_or_ge e b with hz | hz
        · exact g4 b hz hb2 hb3
        · have : b = e := by omega
          subst this
          rw [hQd]
          split at g3 <;> omega
theorem X3_quietFrom_ok (hC : CC C stp so ah gn si stopped stood ahead gain since) (hM : CM C M clk cor late masterClock masterLate masterCorner) (hU : CU T du due) (hT : CT M T toC masters meets masterMeets) {x : GM} {out : Int32} {left came : Nat → Int32} (h : CG M T x out left came) (N t : Nat) (hN : 10 ≤ N) (ht : t < 2000) (hB : GB t x) (hI : GI toC cor M T t x) (hsi : ∀ c, c < C → si c ≤ t) (hrd : ∀ c, c < C → -1000000 < rdM stp so ah gn si c t ∧ rdM stp so ah gn si c t < 1000000) :
    ∃ q : Nat, f_X3_quietFrom N (nI t) out stopped masters meets masterMeets came left masterCorner masterClock due masterLate stood ahead gain since = some (nI q) ∧ q ≤ 2000 ∧ ∀ a b, a < M → b < T → toC a b = true → (q : Int) ≤ quM stp clk cor si (fun m u => rdM stp so ah gn si (clk m) u) du late t a b x := by
  obtain ⟨hm1, hm2, hm3⟩ := hT
  subst hm1
  subst hm2
  have hT : CT M T toC (nI M) (nI T) masterMeets := ⟨rfl, rfl, hm3⟩
  have hM6 := hM.1
  have hT6 := hU.1
  have key : ∀ (n m : Nat) (q : Int), m ≤ M → M - m < n → 0 ≤ q → q ≤ 2000 → ∃ q' : Int, f_X3_quietFrom_6 N out stopped (nI M) (nI T) masterMeets came left masterCorner masterClock due masterLate stood ahead gain since n (nI t) (iI q) (nI m) = some (iI q') ∧ 0 ≤ q' ∧ q' ≤ q ∧ ∀ a b, m ≤ a → a < M → b < T → toC a b = true → q' ≤ quM stp clk cor si (fun m u => rdM stp so ah gn si (clk m) u) du late t a b x := by
    intro n
    induction n with
    | zero => intro m q h1 h2; omega
    | succ n ih =>
      intro m q hm hn h0 h1
      rw [f_X3_quietFrom_6]
      by_cases hmM : m = M
      · subst hmM
        refine ⟨q, ?_, h0, Int.le_refl _, fun a b ha1 ha2 => by omega⟩
        rw [if_pos (nI_le (Nat.le_refl _) (by omega))]
      · have hlt : m < M := by omega
        rw [if_neg (nI_ge hlt (by omega))]
        obtain ⟨q1, g1, g2, g3, g4⟩ := X3_quietRow_ok hC hM hU hT h N m t hlt ht hB hI hsi hrd (f_X3_quietFrom_6 N out stopped (nI M) (nI T) masterMeets came left masterCorner masterClock due masterLate stood ahead gain since n) N 0 q (Nat.zero_le _) (by omega) h0 h1
        obtain ⟨q2, k1, k2, k3, k4⟩ := ih (m + 1) q1 hlt (by omega) g2 (by omega)
        refine ⟨q2, g1.trans k1, k2, by omega, fun a b ha1 ha2 hb hab => ?_⟩
        rcases Nat.lt_or_ge m a with hz | hz
        · exact k4 a b hz ha2 hb hab
        · have : a = m := by omega
          subst this
          have := g4 b (Nat.zero_le _) hb hab
          omega
  obtain ⟨q, g1, g2, g3, g4⟩ := key N 0 2000 (Nat.zero_le _) (by omega) (by omega) (by omega)
  refine ⟨q.toNat, ?_, by omega, fun a b ha hb hab => ?_⟩
  · have e1 : nI q.toNat = iI q := by rw [iI_nat, Int.toNat_of_nonneg g2]
    rw [e1]
    exact g1
  · have := g4 a b (Nat.zero_le _) ha hb hab
    omega
theorem GI_skip {x : GM} {t q : Nat} {rd : Nat → Nat → Int} (hI : GI toC cor M T t x) (hq : ∀ a b, a < M → b < T → toC a b = true → (q : Int) ≤ quM stp clk cor si rd du late t a b x) : GI toC cor M T (t + q) x := by
  intro a b ha hb hab
  obtain ⟨h1, h2⟩ := hI a b ha hb hab
  refine ⟨fun hc u hu => ?_, fun v hv => ?_⟩
  · have h3 := h1 hc u hu
    have h4 := hq a b ha hb hab
    unfold quM at h4
    rw [if_neg (by simp [hc]), hu] at h4
    simp only at h4
    split at h4 <;> omega
  · obtain ⟨u, e1, e2, e3⟩ := h2 v hv
    exact ⟨u, e1, e2, by omega⟩
theorem X3_passLoop_ok (hC : CC C stp so ah gn si stopped stood ahead gain since) (hM : CM C M clk cor late masterClock masterLate masterCorner) (hU : CU T du due) (hT : CT M T toC masters meets masterMeets) (N E : Nat) (hN : 10 ≤ N) (hE : E ≤ 2000) (wn mi : Int32) (t0 : Nat) (hsi : ∀ c, c < C → si c ≤ t0) (hrd : ∀ c, c < C → ∀ u, t0 ≤ u → u ≤ 2000 → -1000000 < rdM stp so ah gn si c u ∧ rdM stp so ah gn si c u < 1000000) :
    ∀ (n t : Nat) (x : GM) (out : Int32) (left came : Nat → Int32), t0 ≤ t → t ≤ E → E - t < n → CG M T x out left came → GB t x → GI toC cor M T t x →
    ∃ out' left' came', f_X3_pass_22 N stopped masters meets masterMeets masterCorner masterClock due masterLate stood ahead gain since n wn (nI E) (nI t) mi out came left = some (wn, nI E, out', came', left') ∧ CG M T (pasM toC (fun m u => rdM stp so ah gn si (clk m) u) du late cor M T (E - t) t x) out' left' came' ∧ GB E (pasM toC (fun m u => rdM stp so ah gn si (clk m) u) du late cor M T (E - t) t x) ∧ GI toC cor M T E (pasM toC (fun m u => rdM stp so ah gn si (clk m) u) du late cor M T (E - t) t x) := by
  obtain ⟨hm1, hm2, hm3⟩ := hT
  subst hm1
  subst hm2
  have hT : CT M T toC (nI M) (nI T) masterMeets := ⟨rfl, rfl, hm3⟩
  have hM6 := hM.1
  have hT6 := hU.1
  intro n
  induction n with
  | zero => intro t x out left came _ h1 h2; omega
  | succ n ih =>
    intro t x out left came h0 ht hn h hB hI
    rw [f_X3_pass_22]
    by_cases htE : t = E
    · subst htE
      refine ⟨out, left, came, ?_, ?_, ?_, ?_⟩
      · rw [if_pos (nI_le (Nat.le_refl _) (by omega))]
      · rw [Nat.sub_self]; exact h
      · rw [Nat.sub_self]; exact hB
      · rw [Nat.sub_self]; exact hI
    · have hlt : t < E := by omega
      have hsi' : ∀ c, c < C → si c ≤ t := fun c hc => Nat.le_trans (hsi c hc) h0
      have hrd' : ∀ u, t ≤ u → u ≤ 2000 → ∀ c, c < C → -1000000 < rdM stp so ah gn si c u ∧ rdM stp so ah gn si c u < 1000000 := fun u h1 h2 c hc => hrd c hc u (by omega) h2
      obtain ⟨q, g1, g2, g3⟩ := X3_quietFrom_ok hC hM hU hT h N t hN (by omega) hB hI hsi' (hrd' t (Nat.le_refl _) (by omega))
      have hz : zmax 0 (nI q) = nI q := by
        rw [show (0 : Int32) = iI 0 from rfl, iI_nat, zmax_iI ⟨by omega, by omega⟩ ⟨by omega, by omega⟩]
        split
        · rfl
        · congr 1; omega
      rw [if_neg (nI_ge hlt (by omega)), g1, zcl_s, hz, zbn_s, nI_add]
      have hst := pas_still (toC := toC) (M := M) (T := T) (stp := stp) (so := so) (ah := ah) (gn := gn) (clk := clk) (si := si) (du := du) (late := late) (cor := cor) rfl hI (fun a ha => hsi' _ (hM.2 a ha).2.1) q g3
      by_cases hq : E ≤ t + q
      · rw [if_pos (nI_le hq (by omega)), zbn_s, nI_1]
        obtain ⟨n', rfl⟩ : ∃ n', n = n' + 1 := ⟨n - 1, by omega⟩
        have e1 : pasM toC (fun m u => rdM stp so ah gn si (clk m) u) du late cor M T (E - t) t x = x := (hst (E - t) (by omega)).1
        rw [e1]
        refine ⟨out, left, came, ?_, h, fun a b u hu => by have := hB a b u hu; omega, ?_⟩
        · rw [f_X3_pass_22, if_pos (nI_le (by omega) (by omega))]
        · have e2 : E = t + (E - t) := by omega
          rw [e2]
          exact GI_skip (stp := stp) (clk := clk) (si := si) (rd := fun m u => rdM stp so ah gn si (clk m) u) (du := du) (late := late) hI (fun a b ha hb hab => by have := g3 a b ha hb hab; omega)
      · rw [if_neg (nI_ge (by omega) (by omega))]
        have hB1 : GB (t + q + 1) x := fun a b u hu => by have := hB a b u hu; omega
        obtain ⟨o1, l1, c1, k1, k2, k3⟩ := X3_goThrough_ok hC hM hU hT h N (t + q) hN (by omega) hB1 (fun c hc => by have := hsi' c hc; omega) (hrd' (t + q) (by omega) (by omega))
        rw [k1, zcl_s, zbn_s, nI_1]
        have hI1 := GI_min (rd := fun m u => rdM stp so ah gn si (clk m) u) (du := du) (late := late) (GI_skip hI g3)
        obtain ⟨o2, l2, c2, j1, j2, j3, j4⟩ := ih (t + q + 1) _ o1 l1 c1 (by omega) (by omega) (by omega) k2 k3 hI1
        have e1 : pasM toC (fun m u => rdM stp so ah gn si (clk m) u) du late cor M T (E - t) t x = pasM toC (fun m u => rdM stp so ah gn si (clk m) u) du late cor M T (E - (t + q + 1)) (t + q + 1) (minM toC (fun m u => rdM stp so ah gn si (clk m) u) du late cor M T (t + q) x) := by
          rw [show E - t = q + (1 + (E - (t + q + 1))) by omega, pas_add, (hst q (Nat.le_refl _)).1, pas_add]
          rfl
        rw [e1]
        exact ⟨o2, l2, c2, j1, j2, j3, j4⟩
/-- pass(n) -/
theorem X3_pass_ok (hC : CC C stp so ah gn si stopped stood ahead gain since) (hM : CM C M clk cor late masterClock masterLate masterCorner) (hU : CU T du due) (hT : CT M T toC masters meets masterMeets) (N k t : Nat) (hN : 2010 ≤ N) (hk : k < 100000) (ht : t ≤ 2000) (hsi : ∀ c, c < C → si c ≤ t) (hrd : ∀ c, c < C → ∀ u, t ≤ u → u ≤ 2000 → -1000000 < rdM stp so ah gn si c u ∧ rdM stp so ah gn si c u < 1000000)
    {x : GM} {out : Int32} {left came : Nat → Int32} (h : CG M T x out left came) (hB : GB t x) (hI : GI toC cor M T t x) :
    ∃ out' left' came', f_X3_pass N (nI k) (nI t) out stopped masters meets masterMeets came left masterCorner masterClock due masterLate stood ahead gain since = some (nI (min k (2000 - t)), nI (t + min k (2000 - t)), out', came', left') ∧ CG M T (pasM toC (fun m u => rdM stp so ah gn si (clk m) u) du late cor M T (min k (2000 - t)) t x) out' left' came' ∧ GB (t + min k (2000 - t)) (pasM toC (fun m u => rdM stp so ah gn si (clk m) u) du late cor M T (min k (2000 - t)) t x) ∧ GI toC cor M T (t + min k (2000 - t)) (pasM toC (fun m u => rdM stp so ah gn si (clk m) u) du late cor M T (min k (2000 - t)) t x) := by
  unfold f_X3_pass f_X3_minutesLeft
  have e1 : zmin (nI k) (2000 - nI t) = nI (min k (2000 - t)) := by
    rw [show (2000 : Int32) = nI 2000 from rfl, pk_sub ht, iI_nat, iI_nat, zmin_iI ⟨by omega, by omega⟩ ⟨by omega, by omega⟩, iI_nat]
    congr 1
    split <;> omega
  rw [zcl_s, e1, zbn_s, zbn_s, nI_add]
  generalize hw : min k (2000 - t) = w
  have hw2 : t + w ≤ 2000 := by omega
  obtain ⟨o, l, c, g1, g2, g3, g4⟩ := X3_passLoop_ok hC hM hU hT N (t + w) (by omega) hw2 (nI w) (nI t) t hsi hrd N t x out left came (Nat.le_refl _) (by omega) (by omega) h hB hI
  rw [show t + w - t = w by omega] at g2 g3 g4
  exact ⟨o, l, c, g1, g2, g3, g4⟩
end CLSPASS
