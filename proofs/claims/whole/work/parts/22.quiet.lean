/-! ===== minutes in which nobody goes ===== -/
def PI9 (t : Nat) (l c : Option Nat) (k : Nat) : Prop := (c = none → ∀ u, l = some u → t ≤ u + k) ∧ ∀ v, c = some v → ∃ u, l = some u ∧ u + k = v ∧ v < t
/-- of pairs ahead of (e, m) at t + 1, of the others at t -/
def GH (toC : Nat → Nat → Bool) (cor : Nat → Nat) (M T t e m : Nat) (x : GM) : Prop := ∀ a b, a < M → b < T → toC a b = true → PI9 (if b < e ∨ (b = e ∧ a < m) then t + 1 else t) (x.2.1 a b) (x.2.2 a b) (cor a)
section QUIET
variable {C M T : Nat} {clk cor si : Nat → Nat} {late du so ah gn : Nat → Int} {stp : Nat → Bool} {toC : Nat → Nat → Bool} {rd : Nat → Nat → Int}
theorem goM_other {t m e a b : Nat} {x : GM} (h : ¬ (a = m ∧ b = e)) : (goM rd du late cor t m e x).2.1 a b = x.2.1 a b ∧ (goM rd du late cor t m e x).2.2 a b = x.2.2 a b := by
  unfold goM
  split
  · exact ⟨by simp [gset, h], by simp [gset, h]⟩
  · exact ⟨by simp [gset, h], rfl⟩
theorem goM_at {t m e : Nat} {x : GM} : (goM rd du late cor t m e x).2.1 m e = goL rd du late t m e x ∧ (goM rd du late cor t m e x).2.2 m e = (if (goL rd du late t m e x).map (fun u => u + cor m) = some t then some t else x.2.2 m e) := by
  unfold goM
  split
  · exact ⟨gset_at _ _ _ _, gset_at _ _ _ _⟩
  · exact ⟨gset_at _ _ _ _, rfl⟩
theorem PI_go {t m e : Nat} {x : GM} (h : PI9 t (x.2.1 m e) (x.2.2 m e) (cor m)) : PI9 (t + 1) ((goM rd du late cor t m e x).2.1 m e) ((goM rd du late cor t m e x).2.2 m e) (cor m) := by
  rw [goM_at.1, goM_at.2]
  have hl : goL rd du late t m e x = x.2.1 m e ∨ (x.2.1 m e = none ∧ goL rd du late t m e x = some t) := by
    unfold goL
    split
    · rename_i h9; exact Or.inr ⟨h9.2.1, rfl⟩
    · exact Or.inl rfl
  generalize goL rd du late t m e x = l' at hl ⊢
  generalize x.2.1 m e = l at h hl ⊢
  generalize x.2.2 m e = c at h ⊢
  obtain ⟨h1, h2⟩ := h
  by_cases hk : l'.map (fun u => u + cor m) = some t
  · rw [if_pos hk]
    refine ⟨fun z => (by cases z), fun v hv => ?_⟩
    cases hv
    cases l' with
    | none => cases hk
    | some u => exact ⟨u, rfl, by simpa using hk, by omega⟩
  · rw [if_neg hk]
    refine ⟨fun hc u hu => ?_, fun v hv => ?_⟩
    · subst hu
      have hne : ¬ u + cor m = t := by simpa using hk
      rcases hl with hl | ⟨hl, hl2⟩
      · have := h1 hc u hl.symm
        omega
      · cases hl2
        omega
    · obtain ⟨u, e1, e2, e3⟩ := h2 v hv
      rcases hl with hl | ⟨hl, -⟩
      · exact ⟨u, by rw [hl, e1], e2, by omega⟩
      · rw [hl] at e1; cases e1
theorem GH_step {t e m : Nat} {x : GM} (h : GH toC cor M T t e m x) (hm : m < M) (he : e < T) : GH toC cor M T t e (m + 1) (if toC m e then goM rd du late cor t m e x else x) := by
  intro a b ha hb hab
  have h0 := h a b ha hb hab
  by_cases heq : a = m ∧ b = e
  · obtain ⟨rfl, rfl⟩ := heq
    rw [if_neg (by omega)] at h0
    rw [if_pos (by omega), if_pos hab]
    exact PI_go h0
  · have e1 : (b < e ∨ (b = e ∧ a < m + 1)) ↔ (b < e ∨ (b = e ∧ a < m)) := by omega
    have e2 : (if b < e ∨ (b = e ∧ a < m + 1) then t + 1 else t) = (if b < e ∨ (b = e ∧ a < m) then t + 1 else t) := by
      by_cases hz : b < e ∨ (b = e ∧ a < m)
      · rw [if_pos hz, if_pos (e1.mpr hz)]
      · rw [if_neg hz, if_neg (fun z => hz (e1.mp z))]
    rw [e2]
    by_cases hz : toC m e = true
    · rw [if_pos hz, (goM_other heq).1, (goM_other heq).2]; exact h0
    · rw [if_neg hz]; exact h0
theorem GH_row {t e : Nat} (he : e < T) : ∀ (k m : Nat) (x : GM), m + k = M → GH toC cor M T t e m x → GH toC cor M T t (e + 1) 0 (rowM toC rd du late cor t e k m x) := by
  intro k
  induction k with
  | zero =>
    intro m x hm h a b ha hb hab
    have h0 := h a b ha hb hab
    have e2 : (if b < e + 1 ∨ (b = e + 1 ∧ a < 0) then t + 1 else t) = (if b < e ∨ (b = e ∧ a < m) then t + 1 else t) := by
      by_cases hz : b < e ∨ (b = e ∧ a < m)
      · rw [if_pos hz, if_pos (by omega)]
      · rw [if_neg hz, if_neg (by omega)]
    rw [e2]
    exact h0
  | succ k ih =>
    intro m x hm h
    rw [rowM]
    exact ih (m + 1) _ (by omega) (GH_step h (by omega) he)
theorem GH_col {t : Nat} : ∀ (k e : Nat) (x : GM), e + k = T → GH toC cor M T t e 0 x → GH toC cor M T t T 0 (colM toC rd du late cor M t k e x) := by
  intro k
  induction k with
  | zero =>
    intro e x he h
    have : e = T := by omega
    subst this
    exact h
  | succ k ih =>
    intro e x he h
    rw [colM]
    exact ih (e + 1) _ (by omega) (GH_row (by omega) M 0 x (by omega) h)
/-- at the start of a minute -/
def GI (toC : Nat → Nat → Bool) (cor : Nat → Nat) (M T t : Nat) (x : GM) : Prop := ∀ a b, a < M → b < T → toC a b = true → PI9 t (x.2.1 a b) (x.2.2 a b) (cor a)
theorem GI_min {t : Nat} {x : GM} (h : GI toC cor M T t x) : GI toC cor M T (t + 1) (minM toC rd du late cor M T t x) := by
  have h0 : GH toC cor M T t 0 0 x := fun a b ha hb hab => by rw [if_neg (by omega)]; exact h a b ha hb hab
  have h1 := GH_col (rd := rd) (du := du) (late := late) T 0 x (by omega) h0
  intro a b ha hb hab
  have h2 := h1 a b ha hb hab
  rw [if_pos (by omega)] at h2
  exact h2
/-- how long a pair is quiet -/
def quM (stp : Nat → Bool) (clk cor si : Nat → Nat) (rd : Nat → Nat → Int) (du late : Nat → Int) (t m e : Nat) (x : GM) : Int :=
  if x.2.2 m e ≠ none then 2000 else match x.2.1 m e with
  | some u => if (0 : Int) < (u : Int) + cor m - t then (u : Int) + cor m - t else 0
  | none => if x.1 m then 2000 else if du e + late m - rd m t ≤ 0 then 0 else if stp (clk m) then 2000 else if 60 - ((t : Int) - si (clk m)) % 60 < du e + late m - rd m t then 60 - ((t : Int) - si (clk m)) % 60 else du e + late m - rd m t
theorem quM_still {t m e j : Nat} {x : GM} (hrd : rd = fun m u => rdM stp so ah gn si (clk m) u) (hp : PI9 t (x.2.1 m e) (x.2.2 m e) (cor m)) (hsi : si (clk m) ≤ t) (hj : (j : Int) < quM stp clk cor si rd du late t m e x) : goM rd du late cor (t + j) m e x = x := by
  unfold quM at hj
  have hL : goL rd du late (t + j) m e x = x.2.1 m e ∧ ¬ (x.2.1 m e).map (fun u => u + cor m) = some (t + j) := by
    by_cases hc : x.2.2 m e = none
    · rw [if_neg (by simp [hc])] at hj
      cases hl : x.2.1 m e with
      | some u =>
        rw [hl] at hj
        simp only at hj
        refine ⟨?_, ?_⟩
        · unfold goL
          rw [if_neg (fun z => by rw [hl] at z; cases z.2.1), hl]
        · have h1 := hp.1 hc u hl
          split at hj
          · simp; omega
          · omega
      | none =>
        rw [hl] at hj
        simp only at hj
        refine ⟨?_, by simp⟩
        unfold goL
        by_cases ho : x.1 m = true
        · rw [if_neg (fun z => by rw [ho] at z; cases z.1), hl]
        · rw [if_neg (show ¬ (x.1 m = true) from ho)] at hj
          rw [if_neg ?_, hl]
          intro z
          have hz := z.2.2
          split at hj
          · omega
          · rw [hrd] at hz hj
            simp only at hz hj
            by_cases hs : stp (clk m) = true
            · rename_i hmis
              rw [hrd] at hmis
              simp only [rdM, hs, if_true] at hz hmis
              omega
            · rw [if_neg hs] at hj
              rename_i hmis
              rw [hrd] at hmis
              simp only [rdM, if_neg hs] at hz hj hmis
              have hd : (((t + j : Nat) : Int) - si (clk m)) / 60 = ((t : Int) - si (clk m)) / 60 := by
                split at hj
                · omega
                · rename_i h60
                  omega
              rw [hd] at hz
              split at hj
              · omega
              · omega
    · obtain ⟨v, hv⟩ := Option.ne_none_iff_exists'.mp hc
      obtain ⟨u, e1, e2, e3⟩ := hp.2 v hv
      refine ⟨?_, ?_⟩
      · unfold goL
        rw [if_neg (fun z => by rw [e1] at z; cases z.2.1)]
      · rw [e1]; simp; omega
  unfold goM
  rw [hL.1, if_neg hL.2, gset_self]
theorem row_still {t e : Nat} {x : GM} : ∀ (k m : Nat), (∀ a, m ≤ a → a < m + k → toC a e = true → goM rd du late cor t a e x = x) → rowM toC rd du late cor t e k m x = x := by
  intro k
  induction k with
  | zero => intro m _; rfl
  | succ k ih =>
    intro m h
    rw [rowM]
    have h0 : (if toC m e then goM rd du late cor t m e x else x) = x := by
      split
      · rename_i hz; exact h m (Nat.le_refl _) (by omega) hz
      · rfl
    rw [h0]
    exact ih (m + 1) (fun a h1 h2 h3 => h a (by omega) (by omega) h3)
theorem col_still {t : Nat} {x : GM} : ∀ (k e : Nat), (∀ a b, a < M → e ≤ b → b < e + k → toC a b = true → goM rd du late cor t a b x = x) → colM toC rd du late cor M t k e x = x := by
  intro k
  induction k with
  | zero => intro e _; rfl
  | succ k ih =>
    intro e h
    rw [colM, row_still M 0 (fun a _ h2 h3 => h a e (by omega) (Nat.le_refl _) (by omega) h3)]
    exact ih (e + 1) (fun a b h1 h2 h3 h4 => h a b h1 (by omega) (by omega) h4)
/-- quiet for q minutes: they go by -/
theorem pas_still {t : Nat} {x : GM} (hrd : rd = fun m u => rdM stp so ah gn si (clk m) u) (hI : GI toC cor M T t x) (hsi : ∀ a, a < M → si (clk a) ≤ t) : ∀ (q : Nat), (∀ a b, a < M → b < T → toC a b = true → (q : Int) ≤ quM stp clk cor si rd du late t a b x) → ∀ i, i ≤ q → pasM toC rd du late cor M T i t x = x ∧ ∀ j, j < i → minM toC rd du late cor M T (t + j) x = x := by
  intro q hq i hi
  have hmin : ∀ j, j < q → minM toC rd du late cor M T (t + j) x = x := fun j hj => by
    unfold minM
    refine col_still T 0 (fun a b ha _ hb hab => ?_)
    have h1 := hq a b ha (by omega) hab
    exact quM_still hrd (hI a b ha (by omega) hab) (hsi a ha) (by omega)
  have hp : ∀ i s, s + i ≤ q → pasM toC rd du late cor M T i (t + s) x = x := by
    intro i
    induction i with
    | zero => intro s _; rfl
    | succ i ih =>
      intro s hs
      rw [pasM, hmin s (by omega)]
      exact ih (s + 1) (by omega)
  exact ⟨hp i 0 (by omega), fun j hj => hmin j (by omega)⟩
theorem pas_add : ∀ (a b t : Nat) (x : GM), pasM toC rd du late cor M T (a + b) t x = pasM toC rd du late cor M T b (t + a) (pasM toC rd du late cor M T a t x) := by
  intro a
  induction a with
  | zero => intro b t x; rw [Nat.zero_add]; rfl
  | succ a ih =>
    intro b t x
    rw [show a + 1 + b = (a + b) + 1 by omega, pasM, pasM, ih, show t + 1 + a = t + (a + 1) by omega]
end QUIET
