/-! ===== plan: who would come for a due, would for each lesser one ===== -/
def PR (cor : Nat → Nat) (E a t : Nat) (A B : GM) : Prop := B.2.2 a E ≠ none ∨ (A.2.2 a E = none ∧ A.1 a = B.1 a ∧ (∀ c, c ≠ E → A.2.1 a c = B.2.1 a c ∧ A.2.2 a c = B.2.2 a c) ∧ (∀ p, A.2.1 a E = some p → ∃ u, B.2.1 a E = some u ∧ u ≤ p) ∧ (∀ u, B.2.1 a E = some u → t ≤ u + cor a ∧ u < t))
section PLANM
variable {toC : Nat → Nat → Bool} {rd : Nat → Nat → Int} {du1 du2 late : Nat → Int} {cor : Nat → Nat} {M T E a : Nat}
theorem goM_1 {du : Nat → Int} {t m e : Nat} {x : GM} (h : a ≠ m) : (goM rd du late cor t m e x).1 a = x.1 a := by
  unfold goM
  split
  · show (x.1 a || (decide (a = m) && _)) = x.1 a
    rw [decide_eq_false h]; simp
  · rfl
theorem gset_o {α : Type} (f : Nat → Nat → α) (m e : Nat) (v : α) {x y : Nat} (h : ¬ (x = m ∧ y = e)) : gset f m e v x y = f x y := if_neg h
theorem PR_far {t t' m e : Nat} {A B : GM} (hm : a ≠ m) (h : PR cor E a t' A B) : PR cor E a t' (goM rd du1 late cor t m e A) (goM rd du2 late cor t m e B) := by
  have hn : ∀ c, ¬ (a = m ∧ c = e) := fun c z => hm z.1
  rcases h with h | ⟨h1, h2, h3, h4, h5⟩
  · left
    rw [(goM_n (hn E)).2]; exact h
  · right
    refine ⟨by rw [(goM_n (hn E)).2]; exact h1, by rw [goM_1 hm, goM_1 hm]; exact h2, fun c hc => by rw [(goM_n (hn c)).1, (goM_n (hn c)).1, (goM_n (hn c)).2, (goM_n (hn c)).2]; exact h3 c hc, by rw [(goM_n (hn E)).1, (goM_n (hn E)).1]; exact h4, by rw [(goM_n (hn E)).1]; exact h5⟩
theorem PR_else {t t' e : Nat} {A B : GM} (he : e ≠ E) (hdu : du1 e = du2 e) (h : PR cor E a t' A B) : PR cor E a t' (goM rd du1 late cor t a e A) (goM rd du2 late cor t a e B) := by
  have hn : ¬ (a = a ∧ E = e) := fun z => he z.2.symm
  rcases h with h | ⟨h1, h2, h3, h4, h5⟩
  · left
    rw [(goM_n hn).2]; exact h
  · right
    have hL : goL rd du1 late t a e A = goL rd du2 late t a e B := by unfold goL; rw [h2, (h3 e he).1, hdu]
    refine ⟨by rw [(goM_n hn).2]; exact h1, ?_, fun c hc => ?_, by rw [(goM_n hn).1, (goM_n hn).1]; exact h4, by rw [(goM_n hn).1]; exact h5⟩
    · unfold goM
      rw [hL]
      by_cases k : (goL rd du2 late t a e B).map (fun u => u + cor a) = some t
      · rw [if_pos k, if_pos k]
        show (A.1 a || (decide (a = a) && decide ((t : Int) ≤ du1 e))) = (B.1 a || (decide (a = a) && decide ((t : Int) ≤ du2 e)))
        rw [h2, hdu]
      · rw [if_neg k, if_neg k]; exact h2
    · by_cases ce : c = e
      · subst ce
        unfold goM
        rw [hL]
        by_cases k : (goL rd du2 late t a c B).map (fun u => u + cor a) = some t
        · rw [if_pos k, if_pos k]
          exact ⟨(gset_at _ _ _ _).trans (gset_at _ _ _ _).symm, (gset_at _ _ _ _).trans (gset_at _ _ _ _).symm⟩
        · rw [if_neg k, if_neg k]
          exact ⟨(gset_at _ _ _ _).trans (gset_at _ _ _ _).symm, (h3 c hc).2⟩
      · have hn2 : ¬ (a = a ∧ c = e) := fun z => ce z.2
        rw [(goM_n hn2).1, (goM_n hn2).1, (goM_n hn2).2, (goM_n hn2).2]; exact h3 c hc
theorem PR_at {t : Nat} {A B : GM} (hv : du2 E ≤ du1 E) (h : PR cor E a t A B) : PR cor E a (t + 1) (goM rd du1 late cor t a E A) (goM rd du2 late cor t a E B) := by
  rcases h with h | ⟨h1, h2, h3, h4, h5⟩
  · left
    unfold goM
    split
    · show gset B.2.2 a E (some t) a E ≠ none
      rw [gset_at]; intro z; cases z
    · exact h
  · by_cases kB : (goL rd du2 late t a E B).map (fun u => u + cor a) = some t
    · left
      unfold goM
      rw [if_pos kB]
      show gset B.2.2 a E (some t) a E ≠ none
      rw [gset_at]; intro z; cases z
    · right
      have hB : ∀ u, goL rd du2 late t a E B = some u → t + 1 ≤ u + cor a ∧ u < t + 1 := by
        intro u hu
        have hne : ¬ u + cor a = t := fun z => kB (by rw [hu]; show some (u + cor a) = some t; rw [z])
        unfold goL at hu
        by_cases c : B.1 a = false ∧ B.2.1 a E = none ∧ du2 E + late a ≤ rd a t
        · rw [if_pos c] at hu
          cases hu
          omega
        · rw [if_neg c] at hu
          have := h5 u hu
          omega
      have hAB : ∀ p, goL rd du1 late t a E A = some p → ∃ u, goL rd du2 late t a E B = some u ∧ u ≤ p := by
        intro p hp
        unfold goL at hp ⊢
        by_cases cA : A.1 a = false ∧ A.2.1 a E = none ∧ du1 E + late a ≤ rd a t
        · rw [if_pos cA] at hp
          cases hp
          by_cases cB : B.1 a = false ∧ B.2.1 a E = none ∧ du2 E + late a ≤ rd a t
          · rw [if_pos cB]; exact ⟨t, rfl, Nat.le_refl _⟩
          · rw [if_neg cB]
            cases hb : B.2.1 a E with
            | none => exact absurd ⟨by rw [← h2]; exact cA.1, hb, by omega⟩ cB
            | some u => exact ⟨u, rfl, by have := h5 u hb; omega⟩
        · rw [if_neg cA] at hp
          obtain ⟨u, hu, hle⟩ := h4 p hp
          rw [if_neg (fun z => by rw [hu] at z; cases z.2.1)]
          exact ⟨u, hu, hle⟩
      have kA : ¬ (goL rd du1 late t a E A).map (fun u => u + cor a) = some t := by
        intro z
        cases hp : goL rd du1 late t a E A with
        | none => rw [hp] at z; cases z
        | some p =>
          rw [hp] at z
          obtain ⟨u, hu, hle⟩ := hAB p hp
          have := hB u hu
          have z' : p + cor a = t := by simpa using z
          omega
      unfold goM
      rw [if_neg kA, if_neg kB]
      refine ⟨h1, h2, fun c hc => ⟨?_, (h3 c hc).2⟩, ?_, ?_⟩
      · show gset A.2.1 a E _ a c = gset B.2.1 a E _ a c
        rw [gset_o _ _ _ _ (fun z => hc z.2), gset_o _ _ _ _ (fun z => hc z.2)]
        exact (h3 c hc).1
      · intro p hp
        have hp' : gset A.2.1 a E (goL rd du1 late t a E A) a E = some p := hp
        rw [gset_at] at hp'
        obtain ⟨u, hu, hle⟩ := hAB p hp'
        exact ⟨u, (gset_at _ _ _ _).trans hu, hle⟩
      · intro u hu
        have hu' : gset B.2.1 a E (goL rd du2 late t a E B) a E = some u := hu
        rw [gset_at] at hu'
        exact hB u hu'
theorem PR_step {t e m : Nat} {A B : GM} (ht0 : toC a E = true) (hv : du2 E ≤ du1 E) (hdu : ∀ c, c ≠ E → du1 c = du2 c) (h : PR cor E a (if E < e ∨ (E = e ∧ a < m) then t + 1 else t) A B) : PR cor E a (if E < e ∨ (E = e ∧ a < m + 1) then t + 1 else t) (if toC m e then goM rd du1 late cor t m e A else A) (if toC m e then goM rd du2 late cor t m e B else B) := by
  by_cases heq : a = m ∧ E = e
  · obtain ⟨rfl, rfl⟩ := heq
    rw [if_neg (by omega)] at h
    rw [if_pos (by omega), if_pos ht0, if_pos ht0]
    exact PR_at hv h
  · have e2 : (if E < e ∨ (E = e ∧ a < m + 1) then t + 1 else t) = (if E < e ∨ (E = e ∧ a < m) then t + 1 else t) := by
      by_cases hz : E < e ∨ (E = e ∧ a < m)
      · rw [if_pos hz, if_pos (by omega)]
      · rw [if_neg hz, if_neg (by omega)]
    rw [e2]
    by_cases hz : toC m e = true
    · rw [if_pos hz, if_pos hz]
      by_cases hm : a = m
      · subst hm
        exact PR_else (fun z => heq ⟨rfl, z.symm⟩) (hdu e (fun z => heq ⟨rfl, z.symm⟩)) h
      · exact PR_far hm h
    · rw [if_neg hz, if_neg hz]; exact h
theorem PR_row {t e : Nat} (ht0 : toC a E = true) (hv : du2 E ≤ du1 E) (hdu : ∀ c, c ≠ E → du1 c = du2 c) (ha : a < M) : ∀ (k m : Nat) (A B : GM), m + k = M → PR cor E a (if E < e ∨ (E = e ∧ a < m) then t + 1 else t) A B → PR cor E a (if E < e + 1 ∨ (E = e + 1 ∧ a < 0) then t + 1 else t) (rowM toC rd du1 late cor t e k m A) (rowM toC rd du2 late cor t e k m B) := by
  intro k
  induction k with
  | zero =>
    intro m A B hm h
    have e2 : (if E < e + 1 ∨ (E = e + 1 ∧ a < 0) then t + 1 else t) = (if E < e ∨ (E = e ∧ a < m) then t + 1 else t) := by
      by_cases hz : E < e ∨ (E = e ∧ a < m)
      · rw [if_pos hz, if_pos (by omega)]
      · rw [if_neg hz, if_neg (by omega)]
    rw [e2]
    exact h
  | succ k ih =>
    intro m A B hm h
    rw [rowM, rowM]
    exact ih (m + 1) _ _ (by omega) (PR_step ht0 hv hdu h)
theorem PR_col {t : Nat} (ht0 : toC a E = true) (hv : du2 E ≤ du1 E) (hdu : ∀ c, c ≠ E → du1 c = du2 c) (ha : a < M) : ∀ (k e : Nat) (A B : GM), e + k = T → PR cor E a (if E < e ∨ (E = e ∧ a < 0) then t + 1 else t) A B → PR cor E a (if E < T ∨ (E = T ∧ a < 0) then t + 1 else t) (colM toC rd du1 late cor M t k e A) (colM toC rd du2 late cor M t k e B) := by
  intro k
  induction k with
  | zero =>
    intro e A B he h
    have : e = T := by omega
    subst this
    exact h
  | succ k ih =>
    intro e A B he h
    rw [colM, colM]
    exact ih (e + 1) _ _ (by omega) (PR_row ht0 hv hdu ha M 0 A B (by omega) h)
theorem PR_pas (ht0 : toC a E = true) (hv : du2 E ≤ du1 E) (hdu : ∀ c, c ≠ E → du1 c = du2 c) (ha : a < M) (hE : E < T) : ∀ (n t : Nat) (A B : GM), PR cor E a t A B → PR cor E a (t + n) (pasM toC rd du1 late cor M T n t A) (pasM toC rd du2 late cor M T n t B) := by
  intro n
  induction n with
  | zero => intro t A B h; exact h
  | succ n ih =>
    intro t A B h
    rw [pasM, pasM, show t + (n + 1) = (t + 1) + n by omega]
    refine ih (t + 1) _ _ ?_
    have h1 := PR_col (T := T) (M := M) (rd := rd) (late := late) (t := t) ht0 hv hdu ha T 0 A B (by omega) (by rw [if_neg (by omega)]; exact h)
    rw [if_pos (by omega)] at h1
    exact h1
/-- too late: nobody sets out for it -/
theorem PN_row {du : Nat → Int} {t e : Nat} (hr : rd a t < du E + late a) : ∀ (k m : Nat) (x : GM), x.2.1 a E = none ∧ x.2.2 a E = none → (rowM toC rd du late cor t e k m x).2.1 a E = none ∧ (rowM toC rd du late cor t e k m x).2.2 a E = none := by
  intro k
  induction k with
  | zero => intro m x h; exact h
  | succ k ih =>
    intro m x h
    rw [rowM]
    refine ih (m + 1) _ ?_
    by_cases hz : toC m e = true
    · rw [if_pos hz]
      by_cases heq : a = m ∧ E = e
      · obtain ⟨rfl, rfl⟩ := heq
        have hL : goL rd du late t a E x = none := by unfold goL; rw [if_neg (fun z => by have := z.2.2; omega)]; exact h.1
        unfold goM
        rw [hL, if_neg (fun z => by cases z)]
        exact ⟨gset_at _ _ _ _, h.2⟩
      · rw [(goM_n heq).1, (goM_n heq).2]; exact h
    · rw [if_neg hz]; exact h
theorem PN_col {du : Nat → Int} {t : Nat} (hr : rd a t < du E + late a) : ∀ (k e : Nat) (x : GM), x.2.1 a E = none ∧ x.2.2 a E = none → (colM toC rd du late cor M t k e x).2.1 a E = none ∧ (colM toC rd du late cor M t k e x).2.2 a E = none := by
  intro k
  induction k with
  | zero => intro e x h; exact h
  | succ k ih =>
    intro e x h
    rw [colM]
    exact ih (e + 1) _ (PN_row hr M 0 x h)
theorem PN_pas {du : Nat → Int} : ∀ (n t : Nat) (x : GM), (∀ u, t ≤ u → u < t + n → rd a u < du E + late a) → x.2.1 a E = none ∧ x.2.2 a E = none → (pasM toC rd du late cor M T n t x).2.1 a E = none ∧ (pasM toC rd du late cor M T n t x).2.2 a E = none := by
  intro n
  induction n with
  | zero => intro t x _ h; exact h
  | succ n ih =>
    intro t x hr h
    rw [pasM]
    exact ih (t + 1) _ (fun u h1 h2 => hr u (by omega) (by omega)) (PN_col (hr t (Nat.le_refl _) (by omega)) T 0 x h)
end PLANM
theorem ls9_all {P : Nat → Bool} {o : Nat → Option Nat} : ∀ (k m : Nat) (l : Int), (∀ i, m ≤ i → i < m + k → P i = true → o i ≠ none) → l ≤ ls9 P o k m l ∧ ((∃ i, m ≤ i ∧ i < m + k ∧ P i = true) → 0 ≤ ls9 P o k m l) := by
  intro k
  induction k with
  | zero => intro m l _; exact ⟨Int.le_refl _, fun ⟨i, h1, h2, _⟩ => absurd h2 (by omega)⟩
  | succ k ih =>
    intro m l h
    cases hP : P m
    · rw [ls9_f hP]
      obtain ⟨i1, i2⟩ := ih (m + 1) l (fun i h1 h2 => h i (by omega) (by omega))
      refine ⟨i1, fun ⟨i, h1, h2, h3⟩ => i2 ⟨i, ?_, by omega, h3⟩⟩
      by_cases e : i = m
      · rw [e, hP] at h3; cases h3
      · omega
    · cases ho : o m with
      | none => exact absurd ho (h m (by omega) (by omega) hP)
      | some u =>
        rw [ls9_s hP ho]
        obtain ⟨i1, i2⟩ := ih (m + 1) (max l u) (fun i h1 h2 => h i (by omega) (by omega))
        exact ⟨by omega, fun _ => by omega⟩
theorem ls9_ex {P : Nat → Bool} {o : Nat → Option Nat} : ∀ (k m : Nat) (l : Int) (i : Nat), m ≤ i → i < m + k → P i = true → o i = none → ls9 P o k m l = -1 := by
  intro k
  induction k with
  | zero => intro m l i h1 h2; omega
  | succ k ih =>
    intro m l i h1 h2 h3 h4
    by_cases e : i = m
    · subst e; exact ls9_n h3 h4
    · cases hP : P m
      · rw [ls9_f hP]; exact ih (m + 1) l i (by omega) (by omega) h3 h4
      · cases ho : o m with
        | none => exact ls9_n hP ho
        | some u => rw [ls9_s hP ho]; exact ih (m + 1) _ i (by omega) (by omega) h3 h4
theorem ls9_le {P : Nat → Bool} {o : Nat → Option Nat} : ∀ (k m : Nat) (l : Int), l < 2000 → -1 ≤ l → (∀ i, m ≤ i → i < m + k → ∀ u, o i = some u → u < 2000) → -1 ≤ ls9 P o k m l ∧ ls9 P o k m l < 2000 := by
  intro k
  induction k with
  | zero => intro m l h1 h2 _; exact ⟨h2, h1⟩
  | succ k ih =>
    intro m l h1 h2 h
    cases hP : P m
    · rw [ls9_f hP]; exact ih (m + 1) l h1 h2 (fun i a1 a2 => h i (by omega) (by omega))
    · cases ho : o m with
      | none => rw [ls9_n hP ho]; omega
      | some u =>
        have := h m (by omega) (by omega) u ho
        rw [ls9_s hP ho]; exact ih (m + 1) _ (by omega) (by omega) (fun i a1 a2 => h i (by omega) (by omega))
theorem ls9_b {P : Nat → Bool} {o : Nat → Option Nat} {n : Nat} (h : ∀ i, i < n → ∀ u, o i = some u → u < 2000) : -1 ≤ ls9 P o n 0 (-1) ∧ ls9 P o n 0 (-1) < 2000 := ls9_le n 0 (-1) (by omega) (by omega) (fun i _ h2 => h i (by omega))
theorem bmk_nz {P : Nat → Bool} : ∀ {n : Nat}, ¬ bmk P n = 0 → ∃ i, i < n ∧ P i = true := by
  intro n
  induction n with
  | zero => intro h; exact absurd rfl h
  | succ n ih =>
    intro h
    cases hP : P n
    · rw [bmk_f hP] at h
      obtain ⟨i, h1, h2⟩ := ih h
      exact ⟨i, by omega, h2⟩
    · exact ⟨n, by omega, hP⟩
def movD (d : MD) (e : Nat) (v : Int) : MD := MD.mk d.t d.si (up9 d.du e v) d.so d.ah d.stp d.x
/-- all would come -/
def AC (b : MB) (d : MD) (e n v : Nat) : Prop := ∀ m, m < b.M → b.toC m e = true → (pasD b (movD d e v) (min (n + 1) (2000 - d.t))).x.2.2 m e ≠ none
def Best (b : MB) (d : MD) (e n : Nat) (R : Int32) : Prop := (R = -1 ∧ ∀ v : Nat, d.t < v → v ≤ 1999 → ¬ AC b d e n v) ∨ ∃ w : Nat, R = nI w ∧ d.t < w ∧ w ≤ 1999 ∧ AC b d e n w ∧ ∀ v : Nat, w < v → v ≤ 1999 → ¬ AC b d e n v
theorem Best.uniq {b : MB} {d : MD} {e n : Nat} {R S : Int32} (h : Best b d e n R) (g : Best b d e n S) : R = S := by
  rcases h with ⟨h1, h2⟩ | ⟨w, h1, h2, h3, h4, h5⟩
  · rcases g with ⟨g1, g2⟩ | ⟨v, g1, g2, g3, g4, g5⟩
    · rw [h1, g1]
    · exact absurd g4 (h2 v g2 g3)
  · rcases g with ⟨g1, g2⟩ | ⟨v, g1, g2, g3, g4, g5⟩
    · exact absurd h4 (g2 w h2 h3)
    · by_cases c : w < v
      · exact absurd g4 (h5 v c g3)
      · by_cases c2 : v < w
        · exact absurd h4 (g5 w c2 h3)
        · rw [h1, g1, show w = v by omega]
section PLAN2
variable {b : MB} {d : MD} {B : CB} {D : CY} {s : Nat → Int32} {nm : Nat → Int64}
theorem DY.noC (h : DY b d B D s) {e : Nat} (he : e < b.T) (hno : ∀ m, m < b.M → d.x.2.1 m e = none) : ∀ m, m < b.M → d.x.2.2 m e = none := by
  intro m hm
  cases hx : d.x.2.2 m e with
  | none => rfl
  | some u =>
    have := (h.cb hm he u hx).2.2
    rw [hno m hm] at this
    cases this
theorem DY.acM (h : DY b d B D s) {e n v v' : Nat} (he : e < b.T) (hno : ∀ m, m < b.M → d.x.2.1 m e = none) (hv : v' ≤ v) (hA : AC b d e n v) : AC b d e n v' := by
  intro m hm ht
  have h0 := hA m hm ht
  have p0 : PR b.cor e m d.t d.x d.x := Or.inr ⟨h.noC he hno m hm, rfl, fun c _ => ⟨rfl, rfl⟩, fun p hp => (by rw [hno m hm] at hp; cases hp), fun u hu => (by rw [hno m hm] at hu; cases hu)⟩
  have p1 := PR_pas (toC := b.toC) (rd := fun m u => rdd b d (b.clk m) u) (du1 := up9 d.du e (v : Int)) (du2 := up9 d.du e (v' : Int)) (late := b.late) (cor := b.cor) (M := b.M) (T := b.T) (E := e) (a := m) ht (by rw [up9_s, up9_s]; omega) (fun c hc => by rw [up9_n hc, up9_n hc]) hm he (min (n + 1) (2000 - d.t)) d.t d.x d.x p0
  rcases p1 with p1 | ⟨p1, -⟩
  · exact p1
  · exact absurd p1 h0
theorem DY.acN (h : DY b d B D s) {e n v : Nat} (he : e < b.T) (hno : ∀ m, m < b.M → d.x.2.1 m e = none) {m : Nat} (hm : m < b.M) (ht : b.toC m e = true) (hr : ∀ j, j ≤ n → rdd b d (b.clk m) (d.t + j) < v + b.late m) : ¬ AC b d e n v := by
  intro hA
  refine hA m hm ht ?_
  refine (PN_pas (toC := b.toC) (rd := fun m u => rdd b d (b.clk m) u) (du := up9 d.du e (v : Int)) (late := b.late) (cor := b.cor) (M := b.M) (T := b.T) (E := e) (a := m) (min (n + 1) (2000 - d.t)) d.t d.x (fun u h1 h2 => ?_) ⟨hno m hm, h.noC he hno m hm⟩).2
  have := hr (u - d.t) (by omega)
  rw [show d.t + (u - d.t) = u by omega] at this
  rw [up9_s]; exact this
theorem DY.lsA {e : Nat} (hex : ∃ m, m < b.M ∧ b.toC m e = true) (n v : Nat) : (AC b d e n v ∧ 0 ≤ ls9 (fun m => b.toC m e) (fun m => (pasD b (movD d e v) (min (n + 1) (2000 - d.t))).x.2.2 m e) b.M 0 (-1)) ∨ (¬ AC b d e n v ∧ ls9 (fun m => b.toC m e) (fun m => (pasD b (movD d e v) (min (n + 1) (2000 - d.t))).x.2.2 m e) b.M 0 (-1) = -1) := by
  by_cases hA : AC b d e n v
  · left
    refine ⟨hA, (ls9_all b.M 0 (-1) (fun i _ h2 h3 => hA i (by omega) h3)).2 ?_⟩
    obtain ⟨m, h1, h2⟩ := hex
    exact ⟨m, by omega, by omega, h2⟩
  · right
    refine ⟨hA, ?_⟩
    have : ∃ i, i < b.M ∧ b.toC i e = true ∧ (pasD b (movD d e v) (min (n + 1) (2000 - d.t))).x.2.2 i e = none := by
      apply Classical.byContradiction
      intro hc
      exact hA (fun m hm ht hx => hc ⟨m, hm, ht, hx⟩)
    obtain ⟨i, h1, h2, h3⟩ := this
    exact ls9_ex b.M 0 (-1) i (by omega) (by omega) h2 h3
theorem DY.awc (h : DY b d B D s) (E : CY) (N e n v : Nat) (hN : 2010 ≤ N) (he : e < b.T) (hn : n ≤ 240) (hv : v < 2000) (hno : ∀ m, m < b.M → d.x.2.1 m e = none) (hex : ∃ m, m < b.M ∧ b.toC m e = true) : ∃ (z : Int32) (E' : CY), f_X11_allWouldCome N (nI e) (nI v) (nI n) D.minute D.out D.stopped E.minute E.out E.stopped D.ahead E.ahead D.since E.since D.stood E.stood D.due E.due D.left E.left D.came E.came B.masters B.meets B.masterMeets B.masterCorner B.masterClock B.masterLate B.clockGain = some (z, E'.minute, E'.out, E'.stopped, E'.ahead, E'.since, E'.stood, E'.due, E'.left, E'.came) ∧ ((z = 1 ∧ AC b d e n v) ∨ (z = 0 ∧ ¬ AC b d e n v)) := by
  have t6 := h.T6
  obtain ⟨o', l', c', s', q1, q2, hD', hs⟩ := ((h.cpy E).mov he v hv hno).pas N (n + 1) hN (by omega)
  have g1 := hD'.lasC N e (by omega) he
  have q1' : f_X3_pass N (nI (n + 1)) (CY.cpy D E).minute (CY.cpy D E).out (CY.cpy D E).stopped B.masters B.meets B.masterMeets (CY.cpy D E).came (CY.cpy D E).left B.masterCorner B.masterClock (upd (CY.cpy D E).due e (nI v)) B.masterLate (CY.cpy D E).stood (CY.cpy D E).ahead B.clockGain (CY.cpy D E).since = _ := q1
  have g1' : f_X3_lastComes N (nI e) B.masters B.masterMeets c' = some (iI (ls9 (fun m => b.toC m e) (fun m => (pasD b (movD d e v) (min (n + 1) (2000 - d.t))).x.2.2 m e) b.M 0 (-1))) := g1
  unfold f_X11_allWouldCome
  rw [X3_copyFrom_ok N D E, zcl_s, zin_nI (show e < 6 by omega) (by omega), zck_t, zbn_s, cl_n (show e < 2147483648 by omega), nI_1]
  dsimp only
  rw [q1', zcl_s]
  dsimp only
  rw [g1', zcl_s]
  rcases DY.lsA (b := b) (d := d) (e := e) hex n v with ⟨hA, hl⟩ | ⟨hA, hl⟩
  · have hb := ls9_b (P := fun m => b.toC m e) (o := fun m => (pasD b (movD d e v) (min (n + 1) (2000 - d.t))).x.2.2 m e) (fun m hm u hu => (hD'.cf hm he).2.2 u hu)
    exact ⟨1, CY.mk (nI (d.t + min (n + 1) (2000 - d.t))) o' (CY.cpy D E).stopped (CY.cpy D E).ahead (CY.cpy D E).since (CY.cpy D E).stood (upd (CY.cpy D E).due e (nI v)) l' c', by rw [if_neg (show ¬ iI (ls9 (fun m => b.toC m e) (fun m => (pasD b (movD d e v) (min (n + 1) (2000 - d.t))).x.2.2 m e) b.M 0 (-1)) = -1 from fun z => by have := (iI_eq (a := ls9 (fun m => b.toC m e) (fun m => (pasD b (movD d e v) (min (n + 1) (2000 - d.t))).x.2.2 m e) b.M 0 (-1)) (b := -1) ⟨by omega, by omega⟩ ⟨by omega, by omega⟩).mp (z.trans m1_iI); omega)]; rfl, Or.inl ⟨rfl, hA⟩⟩
  · exact ⟨0, CY.mk (nI (d.t + min (n + 1) (2000 - d.t))) o' (CY.cpy D E).stopped (CY.cpy D E).ahead (CY.cpy D E).since (CY.cpy D E).stood (upd (CY.cpy D E).due e (nI v)) l' c', by rw [if_pos (show iI (ls9 (fun m => b.toC m e) (fun m => (pasD b (movD d e v) (min (n + 1) (2000 - d.t))).x.2.2 m e) b.M 0 (-1)) = -1 by rw [hl]; rfl)]; rfl, Or.inr ⟨rfl, hA⟩⟩
end PLAN2
