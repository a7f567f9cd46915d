/-! ===== sums ===== -/
def sm9 (f : Nat → Int) : Nat → Int
  | 0 => 0
  | n + 1 => sm9 f n + f n
theorem sm9_congr {f g : Nat → Int} : ∀ {n : Nat}, (∀ i, i < n → f i = g i) → sm9 f n = sm9 g n := by
  intro n
  induction n with
  | zero => intro _; rfl
  | succ n ih => intro h; rw [sm9, sm9, ih (fun i hi => h i (by omega)), h n (by omega)]
theorem sm9_one {f g : Nat → Int} {k : Nat} : ∀ {n : Nat}, k < n → (∀ i, i < n → i ≠ k → g i = f i) → sm9 g n = sm9 f n + (g k - f k) := by
  intro n
  induction n with
  | zero => intro h; omega
  | succ n ih =>
    intro hk h
    rw [sm9, sm9]
    by_cases hn : k = n
    · subst hn
      rw [sm9_congr (f := g) (g := f) (fun i hi => h i (by omega) (by omega))]
      omega
    · rw [ih (by omega) (fun i hi hne => h i (by omega) hne), h n (by omega) (by omega)]
      omega
def sm2 (f : Nat → Nat → Int) (M T : Nat) : Int := sm9 (fun m => sm9 (fun e => f m e) T) M
theorem sm2_one {f g : Nat → Nat → Int} {M T m e : Nat} (hm : m < M) (he : e < T) (h : ∀ a b, ¬ (a = m ∧ b = e) → g a b = f a b) : sm2 g M T = sm2 f M T + (g m e - f m e) := by
  unfold sm2
  rw [sm9_one (f := fun m => sm9 (fun e => f m e) T) (g := fun m => sm9 (fun e => g m e) T) hm (fun i _ hne => sm9_congr (fun b _ => h i b (fun z => hne z.1)))]
  rw [sm9_one (f := fun b => f m b) (g := fun b => g m b) he (fun b _ hne => h m b (fun z => hne z.2))]
  omega
def cnt9 (c : Option Nat) : Int := match c with
  | none => 0
  | some _ => 1
def lat9 (d : Int) (c : Option Nat) : Int := match c with
  | none => 0
  | some v => if (v : Int) - d < 0 then 0 else v - d
def cntM (M T : Nat) (ca : Nat → Nat → Option Nat) : Int := sm2 (fun m e => cnt9 (ca m e)) M T
def latM (M T : Nat) (du : Nat → Int) (ca : Nat → Nat → Option Nat) : Int := sm2 (fun m e => lat9 (du e) (ca m e)) M T
theorem cntM_set {M T m e : Nat} {ca : Nat → Nat → Option Nat} (hm : m < M) (he : e < T) (h : ca m e = none) (t : Nat) : cntM M T (gset ca m e (some t)) = cntM M T ca + 1 := by
  unfold cntM
  rw [sm2_one (f := fun m e => cnt9 (ca m e)) (g := fun a b => cnt9 (gset ca m e (some t) a b)) hm he (fun a b hab => by simp [gset, hab])]
  rw [gset_at, h]
  rfl
theorem latM_set {M T m e : Nat} {du : Nat → Int} {ca : Nat → Nat → Option Nat} (hm : m < M) (he : e < T) (h : ca m e = none) (t : Nat) : latM M T du (gset ca m e (some t)) = latM M T du ca + (if (t : Int) - du e < 0 then 0 else t - du e) := by
  unfold latM
  rw [sm2_one (f := fun m e => lat9 (du e) (ca m e)) (g := fun a b => lat9 (du b) (gset ca m e (some t) a b)) hm he (fun a b hab => by simp [gset, hab])]
  rw [gset_at, h]
  show _ + ((if (t : Int) - du e < 0 then 0 else t - du e) - 0) = _
  omega
/-! ===== a minute of the reference ===== -/
theorem nI_lit (k n : Nat) (x : Int32) (h : x = nI k) : x + nI n = nI (k + n) := by rw [h, nI_add]
/-- what of the row stays over a minute, but its number -/
def kp (k : Nat) : Prop := k < 53 ∨ k = 54 ∨ (57 ≤ k ∧ k < 81) ∨ 153 ≤ k
def RK (C M T t : Nat) (clk cor si : Nat → Nat) (late du so ah gn : Nat → Int) (stp : Nat → Bool) (toC : Nat → Nat → Bool) (s : Nat → Int32) : Prop :=
  (s 1 = nI M ∧ s 2 = nI T ∧ s 52 = nI t ∧ C ≤ 6 ∧ M ≤ 6 ∧ T ≤ 6) ∧ (∀ c, c < C → bt (s 54) c = stp c ∧ (stp c = true → s (69 + c) = iI (so c)) ∧ s (57 + c) = iI (ah c) ∧ s (16 + c) = iI (gn c) ∧ s (63 + c) = nI (si c) ∧ si c ≤ 2000) ∧ (∀ m, m < M → s (34 + m) = nI (clk m) ∧ clk m < C ∧ s (28 + m) = iI (late m) ∧ 1 ≤ late m ∧ late m ≤ 60 ∧ s (22 + m) = nI (cor m) ∧ cor m ≤ 30) ∧ (∀ e, e < T → s (75 + e) = iI (du e) ∧ 0 ≤ du e ∧ du e < 2000) ∧ ∀ m, m < M → ∀ e, e < T → bt (s (46 + e)) m = toC m e
def RG (M T : Nat) (du : Nat → Int) (x : GM) (s : Nat → Int32) : Prop := (∀ m, bt (s 53) m = (decide (m < M) && x.1 m)) ∧ (∀ m, m < M → ∀ e, e < T → s (81 + (6 * e + m)) = oJ (x.2.1 m e) ∧ s (117 + (6 * e + m)) = oJ (x.2.2 m e)) ∧ s 55 = iI (cntM M T x.2.2) ∧ s 56 = iI (latM M T du x.2.2)
theorem RK_keep {C M T t : Nat} {clk cor si : Nat → Nat} {late du so ah gn : Nat → Int} {stp : Nat → Bool} {toC : Nat → Nat → Bool} {s s' : Nat → Int32} (h : RK C M T t clk cor si late du so ah gn stp toC s) (hk : ∀ k, kp k → s' k = s k) : RK C M T t clk cor si late du so ah gn stp toC s' := by
  obtain ⟨⟨h1, h2, h3, h4, h5, h6⟩, h7, h8, h9, h10⟩ := h
  have K : ∀ k, k < 53 ∨ k = 54 ∨ (57 ≤ k ∧ k < 81) ∨ 153 ≤ k → s' k = s k := hk
  refine ⟨⟨by rw [K 1 (by omega)]; exact h1, by rw [K 2 (by omega)]; exact h2, by rw [K 52 (by omega)]; exact h3, h4, h5, h6⟩, fun c hc => ?_, fun m hm => ?_, fun e he => ?_, fun m hm e he => ?_⟩
  · rw [K 54 (by omega), K (69 + c) (by omega), K (57 + c) (by omega), K (16 + c) (by omega), K (63 + c) (by omega)]
    exact h7 c hc
  · rw [K (34 + m) (by omega), K (28 + m) (by omega), K (22 + m) (by omega)]
    exact h8 m hm
  · rw [K (75 + e) (by omega)]
    exact h9 e he
  · rw [K (46 + e) (by omega)]
    exact h10 m hm e he
section REFDAY
variable {C M T t : Nat} {clk cor si : Nat → Nat} {late du so ah gn : Nat → Int} {stp : Nat → Bool} {toC : Nat → Nat → Bool} {s : Nat → Int32}
theorem X12_bitOf_ok (N : Nat) (x : Int32) {k : Nat} (hk : k < 32) : f_X12_bitOf N x (nI k) = some (bI (bt x k)) := by
  unfold f_X12_bitOf
  cases hb : bt x k
  · rw [if_neg (fun z => by rw [(bit_one x hk).mp z] at hb; cases hb)]
    rfl
  · rw [if_pos ((bit_one x hk).mpr hb)]
    rfl
theorem X12_isStopped_ok (h : RK C M T t clk cor si late du so ah gn stp toC s) (N c : Nat) (hc : c < C) : f_X12_isStopped N (nI c) s = some (bI (stp c)) := by
  have h4 := h.1.2.2.2.1
  unfold f_X12_isStopped
  rw [X12_bitOf_ok N (s 54) (by omega), (h.2.1 c hc).1, zcl_s, bI_bo, zck_t]
theorem X12_readsAt_ok (h : RK C M T t clk cor si late du so ah gn stp toC s) (N c u : Nat) (hc : c < C) (hu : si c ≤ u) (hu2 : u < 100000) : f_X12_readsAt N (nI c) (nI u) s = some (iI (rdM stp so ah gn si c u)) := by
  have h4 := h.1.2.2.2.1
  obtain ⟨g1, g2, g3, g4, g5, g6⟩ := h.2.1 c hc
  unfold f_X12_readsAt
  rw [X12_isStopped_ok h N c hc, zcl_s, nI_lit 57 c 57 rfl, nI_lit 16 c 16 rfl, nI_lit 63 c 63 rfl, nI_lit 69 c 69 rfl, zin_nI (show 57 + c < 334 by omega) (by omega), zin_nI (show 16 + c < 334 by omega) (by omega), zin_nI (show 63 + c < 334 by omega) (by omega), zin_nI (show 69 + c < 334 by omega) (by omega), zck_t, zck_t, zck_t, zck_t, nI_clamp' (show 57 + c < 2147483648 by omega), nI_clamp' (show 16 + c < 2147483648 by omega), nI_clamp' (show 63 + c < 2147483648 by omega), nI_clamp' (show 69 + c < 2147483648 by omega)]
  unfold rdM
  cases hs : stp c
  · rw [if_pos (show bI false = 0 from rfl), if_neg (show ¬ (false = true) by decide), g3, g4, g5, iI_nat u, iI_nat (si c), iI_sub, show (60 : Int32) = iI 60 from rfl, iI_div ⟨by omega, by omega⟩ ⟨by omega, by omega⟩, iI_add, iI_mul, iI_add]
  · rw [if_neg (show ¬ bI true = 0 by decide), if_pos (show true = true from rfl), g2 hs]
theorem X12_isOut_ok {x : GM} (h : RK C M T t clk cor si late du so ah gn stp toC s) (hG : RG M T du x s) (N m : Nat) (hm : m < M) : f_X12_isOut N (nI m) s = some (bI (x.1 m)) := by
  have h5 := h.1.2.2.2.2.1
  unfold f_X12_isOut
  have hb : bt (s 53) m = x.1 m := by rw [hG.1 m]; simp [hm]
  rw [X12_bitOf_ok N (s 53) (by omega), hb, zcl_s, bI_bo, zck_t]
theorem X12_isDueTo_ok (h : RK C M T t clk cor si late du so ah gn stp toC s) (N m e : Nat) (hm : m < M) (he : e < T) : f_X12_isDueTo N (nI m) (nI e) s = some (bI (toC m e)) := by
  have h5 := h.1.2.2.2.2.1
  have h6 := h.1.2.2.2.2.2
  unfold f_X12_isDueTo
  rw [nI_lit 46 e 46 rfl, zin_nI (show 46 + e < 334 by omega) (by omega), zck_t, nI_clamp' (show 46 + e < 2147483648 by omega), X12_bitOf_ok N _ (by omega), h.2.2.2.2 m hm e he, zcl_s, bI_bo, zck_t]
theorem X12_greater_ok (N : Nat) {a b : Int} (ha : iR a) (hb : iR b) : f_X12_greater N (iI a) (iI b) = some (iI (if a ≤ b then b else a)) := by
  unfold f_X12_greater
  by_cases h : a ≤ b
  · rw [if_pos ((iI_le ha hb).mpr h), if_pos h]
  · rw [if_neg (fun z => h ((iI_le ha hb).mp z)), if_neg h]
theorem oJ_zero {o : Option Nat} (h : ∀ u, o = some u → u < 100000) : oJ o = 0 ↔ o = none := by
  cases o with
  | none => simp [oJ]
  | some u =>
    have hu := h u rfl
    refine ⟨fun z => absurd z (nI_ne0 (by omega) (by omega)), fun z => by cases z⟩
theorem X12_goesTo86_ok {x : GM} (h : RK C M T t clk cor si late du so ah gn stp toC s) (hG : RG M T du x s) (N m e : Nat) (hm : m < M) (he : e < T) (ht : t < 2000) (hB : GB (t + 1) x) (hca : (x.2.1 m e).map (fun u => u + cor m) = some t → x.2.2 m e = none) :
    ∃ s', f_X12_goesTo_86 N (nI m) (nI e) (nI (6 * e + m)) (nI t) s = some s' ∧ RG M T du (goM2 du cor t m e x) s' ∧ ∀ k, kp k → s' k = s k := by
  obtain ⟨⟨-, -, -, h4, h5, h6⟩, h7, h8, h9, h10⟩ := id h
  obtain ⟨g1, g2, g3, g4, g5, g6, g7⟩ := h8 m hm
  obtain ⟨d1, d2, d3⟩ := h9 e he
  obtain ⟨l1, c1⟩ := hG.2.1 m hm e he
  unfold f_X12_goesTo_86
  rw [nI_lit 81 _ 81 rfl, nI_lit 22 m 22 rfl, nI_lit 117 _ 117 rfl, nI_lit 75 e 75 rfl, zin_nI (show 81 + (6 * e + m) < 334 by omega) (by omega), zin_nI (show 22 + m < 334 by omega) (by omega), zin_nI (show 117 + (6 * e + m) < 334 by omega) (by omega), zin_nI (show 75 + e < 334 by omega) (by omega), nI_clamp' (show 81 + (6 * e + m) < 2147483648 by omega), nI_clamp' (show 22 + m < 2147483648 by omega), nI_clamp' (show 117 + (6 * e + m) < 2147483648 by omega), nI_clamp' (show 75 + e < 2147483648 by omega), zck_t, l1, g6]
  cases hl : x.2.1 m e with
  | none =>
    rw [goM2_none hl]
    exact ⟨s, if_pos (show oJ none = 0 from rfl), hG, fun _ _ => rfl⟩
  | some u =>
    have hu := hB m e u hl
    rw [if_neg (show ¬ oJ (some u) = 0 from fun z => by have := (oJ_zero (o := some u) (fun v hv => by cases hv; omega)).mp z; cases this), zck_t, show oJ (some u) = nI (u + 1) from rfl, nI_add, nI_1]
    by_cases hc : u + cor m = t
    · have hnone := hca (by rw [hl]; show some (u + cor m) = some t; rw [hc])
      rw [goM2_yes hl hc, if_pos (show nI (u + 1 + cor m) = nI (t + 1) by rw [← hc]; congr 1; omega), zbn_s, zck_t, zbn_s, zbn_s, zbn_s, zck_t]
      have q1 : ∀ k, k ≠ 117 + (6 * e + m) → k ≠ 55 → upd (upd s (117 + (6 * e + m)) (nI (t + 1))) 55 (upd s (117 + (6 * e + m)) (nI (t + 1)) 55 + 1) k = s k := fun k k1 k2 => by rw [pk_un k2, pk_un k1]
      rw [q1 (75 + e) (by omega) (by omega), d1, show nI t = iI (t : Int) from iI_nat t, iI_sub, show (0 : Int32) = iI 0 from rfl, X12_greater_ok N ⟨by omega, by omega⟩ ⟨by omega, by omega⟩, zcl_s, zbn_s, zbn_s, q1 56 (by omega) (by omega), hG.2.2.2, iI_add]
      generalize hf : upd (upd (upd s (117 + (6 * e + m)) (nI (t + 1))) 55 (upd s (117 + (6 * e + m)) (nI (t + 1)) 55 + 1)) 56 (iI (latM M T du x.2.2 + if (0 : Int) ≤ (t : Int) - du e then (t : Int) - du e else 0)) = f6
      have q2 : ∀ k, k ≠ 117 + (6 * e + m) → k ≠ 55 → k ≠ 56 → f6 k = s k := fun k k1 k2 k3 => by rw [← hf, pk_un k3]; exact q1 k k1 k2
      have q3 : f6 (117 + (6 * e + m)) = nI (t + 1) := by rw [← hf, pk_un (by omega), pk_un (by omega), pk_us]
      have q4 : f6 55 = iI (cntM M T x.2.2 + 1) := by rw [← hf, pk_un (by omega), pk_us, pk_un (by omega), hG.2.2.1, show (1 : Int32) = iI 1 from rfl, iI_add]
      have q5 : f6 56 = iI (latM M T du x.2.2 + if (t : Int) - du e < 0 then 0 else (t : Int) - du e) := by
        rw [← hf, pk_us]
        congr 2
        split <;> split <;> omega
      have hG1 : RG M T du (x.1, x.2.1, gset x.2.2 m e (some t)) f6 := by
        refine ⟨fun a => by rw [q2 53 (by omega) (by omega) (by omega)]; exact hG.1 a, fun a ha b hb => ⟨?_, ?_⟩, ?_, ?_⟩
        · rw [q2 _ (by omega) (by omega) (by omega)]; exact (hG.2.1 a ha b hb).1
        · show f6 (117 + (6 * b + a)) = oJ (gset x.2.2 m e (some t) a b)
          by_cases hab : a = m ∧ b = e
          · obtain ⟨rfl, rfl⟩ := hab
            rw [gset_at, q3]; rfl
          · rw [q2 _ (by omega) (by omega) (by omega), (hG.2.1 a ha b hb).2]
            simp [gset, hab]
        · rw [q4, cntM_set hm he hnone]
        · rw [q5, latM_set hm he hnone]
      rw [q2 (75 + e) (by omega) (by omega) (by omega), d1]
      by_cases hd : du e < t
      · rw [if_pos (show iI (du e) < iI (t : Int) from (iI_lt ⟨by omega, by omega⟩ ⟨by omega, by omega⟩).mpr hd)]
        refine ⟨f6, rfl, ?_, fun k hk => ?_⟩
        · have e1 : (fun i => x.1 i || (decide (i = m) && decide ((t : Int) ≤ du e))) = x.1 := by
            funext i
            have : ¬ (t : Int) ≤ du e := by omega
            simp [this]
          rw [e1]
          exact hG1
        · have hk : k < 53 ∨ k = 54 ∨ (57 ≤ k ∧ k < 81) ∨ 153 ≤ k := hk
          exact q2 k (by omega) (by omega) (by omega)
      · rw [if_neg (show ¬ iI (du e) < iI (t : Int) from fun z => hd ((iI_lt ⟨by omega, by omega⟩ ⟨by omega, by omega⟩).mp z)), zbn_s, zbn_s]
        refine ⟨upd f6 53 (f6 53 ||| 1 <<< (nI m &&& 31)), rfl, ?_, fun k hk => ?_⟩
        · have e1 : (fun i => x.1 i || (decide (i = m) && decide ((t : Int) ≤ du e))) = (fun i => x.1 i || decide (i = m)) := by
            funext i
            have : (t : Int) ≤ du e := by omega
            simp [this]
          rw [e1]
          refine ⟨fun i => ?_, fun a ha b hb => ?_, ?_, ?_⟩
          · show bt (upd f6 53 (f6 53 ||| 1 <<< (nI m &&& 31)) 53) i = (decide (i < M) && (x.1 i || decide (i = m)))
            rw [pk_us, bt_or1 _ (by omega), hG1.1 i]
            by_cases hi : i = m
            · subst hi; simp [hm]
            · simp [hi]
          · rw [pk_un (by omega), pk_un (by omega)]; exact hG1.2.1 a ha b hb
          · rw [pk_un (by omega)]; exact hG1.2.2.1
          · rw [pk_un (by omega)]; exact hG1.2.2.2
        · have hk : k < 53 ∨ k = 54 ∨ (57 ≤ k ∧ k < 81) ∨ 153 ≤ k := hk
          rw [pk_un (by omega)]
          exact q2 k (by omega) (by omega) (by omega)
    · rw [goM2_no hl hc, if_neg (show ¬ nI (u + 1 + cor m) = nI (t + 1) from fun z => hc (by have := (nI_eq (by omega) (by omega)).mp z; omega))]
      exact ⟨s, rfl, hG, fun _ _ => rfl⟩
end REFDAY
