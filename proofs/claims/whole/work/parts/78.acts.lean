/-! ===== acts on a day ===== -/
def up9 {α : Type} (f : Nat → α) (c : Nat) (v : α) : Nat → α := fun i => if i = c then v else f i
theorem up9_s {α : Type} (f : Nat → α) (c : Nat) (v : α) : up9 f c v c = v := by unfold up9; exact if_pos rfl
theorem up9_n {α : Type} {f : Nat → α} {c i : Nat} {v : α} (h : i ≠ c) : up9 f c v i = f i := by unfold up9; exact if_neg h
theorem upd_up9 (f : Nat → Int32) (c : Nat) (v : Int32) : upd f c v = up9 f c v := by
  funext i
  by_cases h : i = c
  · subst h; rw [pk_us, up9_s]
  · rw [pk_un h, up9_n h]
section ACTS
variable {b : MB} {d : MD} {B : CB} {D : CY} {s : Nat → Int32} {nm : Nat → Int64}
/-- the same day in another one's cells -/
theorem DY.cong (h : DY b d B D s) {D' : CY} (h1 : D'.minute = D.minute) (h2 : D'.out = D.out) (h3 : D'.stopped = D.stopped) (h4 : ∀ i, i < 6 → D'.ahead i = D.ahead i) (h5 : ∀ i, i < 6 → D'.since i = D.since i) (h6 : ∀ i, i < 6 → D'.stood i = D.stood i) (h7 : ∀ i, i < 6 → D'.due i = D.due i) (h8 : ∀ i, i < 36 → D'.left i = D.left i) (h9 : ∀ i, i < 36 → D'.came i = D.came i) : DY b d B D' s := by
  have c6 := h.C6
  have m6 := h.M6
  have t6 := h.T6
  obtain ⟨⟨⟨a1, a2, a3, a4, a5, a6, a7⟩, ⟨k1, k2, k3, k4, k5, k6⟩, hM, hU, hT, hG, hK, hR, hB, hI, hsi, hrd⟩, hg⟩ := h
  refine ⟨⟨⟨a1, a2, by rw [h1]; exact a3, a4, by rw [h2]; exact a5, by rw [h3]; exact a6, by rw [h3]; exact a7⟩, ⟨k1, by rw [h3]; exact k2, fun c hc hs => by rw [h6 c (by omega)]; exact k3 c hc hs, fun c hc => by rw [h4 c (by omega)]; exact k4 c hc, k5, fun c hc => by rw [h5 c (by omega)]; exact k6 c hc⟩, hM, ⟨hU.1, fun e he => by rw [h7 e (by omega)]; exact hU.2 e he⟩, hT, ⟨by rw [h2]; exact hG.1, fun m hm e he => by rw [h8 _ (by omega), h9 _ (by omega)]; exact hG.2 m hm e he⟩, hK, hR, hB, hI, hsi, hrd⟩, hg⟩
theorem DY.congS (h : DY b d B D s) {s' : Nat → Int32} (hs : ∀ i, i < 153 → s' i = s i) : DY b d B D s' := by
  have c6 := h.C6
  have m6 := h.M6
  have t6 := h.T6
  obtain ⟨⟨⟨a1, a2, a3, a4, a5, a6, a7⟩, hC, hM, hU, hT, hG, ⟨⟨r1, r2, r3, r4, r5, r6⟩, r7, r8, r9, r10⟩, ⟨g1, g2, g3, g4⟩, hB, hI, hsi, hrd⟩, hg⟩ := h
  refine ⟨⟨⟨a1, by rw [hs 0 (by omega)]; exact a2, a3, a4, by rw [hs 53 (by omega)]; exact a5, by rw [hs 54 (by omega)]; exact a6, a7⟩, hC, hM, hU, hT, hG, ⟨⟨by rw [hs 1 (by omega)]; exact r1, by rw [hs 2 (by omega)]; exact r2, by rw [hs 52 (by omega)]; exact r3, r4, r5, r6⟩, fun c hc => by rw [hs 54 (by omega), hs (69 + c) (by omega), hs (57 + c) (by omega), hs (16 + c) (by omega), hs (63 + c) (by omega)]; exact r7 c hc, fun m hm => by rw [hs (34 + m) (by omega), hs (28 + m) (by omega), hs (22 + m) (by omega)]; exact r8 m hm, fun e he => by rw [hs (75 + e) (by omega)]; exact r9 e he, fun m hm e he => by rw [hs (46 + e) (by omega)]; exact r10 m hm e he⟩, ⟨by rw [hs 53 (by omega)]; exact g1, fun m hm e he => by rw [hs (81 + (6 * e + m)) (by omega), hs (117 + (6 * e + m)) (by omega)]; exact g2 m hm e he, by rw [hs 55 (by omega)]; exact g3, by rw [hs 56 (by omega)]; exact g4⟩, hB, hI, hsi, hrd⟩, hg⟩
/-- a clock is set, stopped or started -/
theorem DY.clk (h : DY b d B D s) {c : Nat} (hc : c < b.C) {D' : CY} {s' : Nat → Int32} (a : Int) (σ : Nat) (q : Int) (p : Bool) (h1 : D'.minute = D.minute) (h2 : D'.out = D.out) (h7 : D'.due = D.due) (h8 : D'.left = D.left) (h9 : D'.came = D.came) (h3 : ∀ i, bt D'.stopped i = if i = c then p else bt D.stopped i) (h4 : D'.ahead = up9 D.ahead c (iI a)) (h5 : D'.since = up9 D.since c (nI σ)) (h6 : p = true → D'.stood c = iI q) (h6' : ∀ i, i ≠ c → D'.stood i = D.stood i)
    (hs : ∀ i, i < 153 → i ≠ 54 → i ≠ 57 + c → i ≠ 63 + c → i ≠ 69 + c → s' i = s i) (hs4 : s' 54 = D'.stopped) (hs7 : s' (57 + c) = iI a) (hs3 : s' (63 + c) = nI σ) (hs9 : p = true → s' (69 + c) = iI q) (hσ : σ ≤ d.t) (hb : ∀ u : Nat, d.t ≤ u → -99 ≤ (if p then q else (u : Int) + a + b.gn c * (((u : Int) - σ) / 60)) ∧ (if p then q else (u : Int) + a + b.gn c * (((u : Int) - σ) / 60)) ≤ 99 + 2 * u) : DY b (MD.mk d.t (up9 d.si c σ) d.du (up9 d.so c q) (up9 d.ah c a) (up9 d.stp c p) d.x) B D' s' := by
  have c6 := h.C6
  have m6 := h.M6
  have t6 := h.T6
  obtain ⟨⟨⟨a1, a2, a3, a4, a5, a6, a7⟩, ⟨k1, k2, k3, k4, k5, k6⟩, hM, hU, hT, hG, ⟨⟨r1, r2, r3, r4, r5, r6⟩, r7, r8, r9, r10⟩, ⟨g1, g2, g3, g4⟩, hB, hI, hsi, hrd⟩, hg⟩ := h
  have e2 : ∀ i, i < b.C → bt D'.stopped i = up9 d.stp c p i := by
    intro i hi
    rw [h3 i]
    by_cases e : i = c
    · rw [if_pos e, e, up9_s]
    · rw [if_neg e, up9_n e]; exact k2 i hi
  have e3 : ∀ i, i < b.C → up9 d.stp c p i = true → D'.stood i = iI (up9 d.so c q i) := by
    intro i hi hp
    by_cases e : i = c
    · subst e
      rw [up9_s] at hp
      rw [up9_s]; exact h6 hp
    · rw [up9_n e] at hp
      rw [up9_n e, h6' i e]; exact k3 i hi hp
  have e4 : ∀ i, i < b.C → D'.ahead i = iI (up9 d.ah c a i) := by
    intro i hi
    rw [h4]
    by_cases e : i = c
    · rw [e, up9_s, up9_s]
    · rw [up9_n e, up9_n e]; exact k4 i hi
  have e5 : ∀ i, i < b.C → D'.since i = nI (up9 d.si c σ i) ∧ up9 d.si c σ i ≤ 2000 := by
    intro i hi
    rw [h5]
    by_cases e : i = c
    · rw [e, up9_s, up9_s]; exact ⟨rfl, by omega⟩
    · rw [up9_n e, up9_n e]; exact k6 i hi
  refine ⟨⟨⟨a1, by rw [hs 0 (by omega) (by omega) (by omega) (by omega) (by omega)]; exact a2, by rw [h1]; exact a3, a4, by rw [h2, hs 53 (by omega) (by omega) (by omega) (by omega) (by omega)]; exact a5, hs4.symm, fun i hi => by rw [h3 i, if_neg (by omega)]; exact a7 i hi⟩, ⟨k1, e2, e3, e4, k5, e5⟩, hM, by rw [h7]; exact hU, hT, by rw [h2, h8, h9]; exact hG, ⟨⟨by rw [hs 1 (by omega) (by omega) (by omega) (by omega) (by omega)]; exact r1, by rw [hs 2 (by omega) (by omega) (by omega) (by omega) (by omega)]; exact r2, by rw [hs 52 (by omega) (by omega) (by omega) (by omega) (by omega)]; exact r3, r4, r5, r6⟩, fun i hi => ?_, fun m hm => by rw [hs (34 + m) (by omega) (by omega) (by omega) (by omega) (by omega), hs (28 + m) (by omega) (by omega) (by omega) (by omega) (by omega), hs (22 + m) (by omega) (by omega) (by omega) (by omega) (by omega)]; exact r8 m hm, fun e he => by rw [hs (75 + e) (by omega) (by omega) (by omega) (by omega) (by omega)]; exact r9 e he, fun m hm e he => by rw [hs (46 + e) (by omega) (by omega) (by omega) (by omega) (by omega)]; exact r10 m hm e he⟩, ⟨by rw [hs 53 (by omega) (by omega) (by omega) (by omega) (by omega)]; exact g1, fun m hm e he => by rw [hs (81 + (6 * e + m)) (by omega) (by omega) (by omega) (by omega) (by omega), hs (117 + (6 * e + m)) (by omega) (by omega) (by omega) (by omega) (by omega)]; exact g2 m hm e he, by rw [hs 55 (by omega) (by omega) (by omega) (by omega) (by omega)]; exact g3, by rw [hs 56 (by omega) (by omega) (by omega) (by omega) (by omega)]; exact g4⟩, hB, hI, fun i hi => ?_, fun i hi u hu => ?_⟩, hg⟩
  · obtain ⟨f1, f2, f3, f4, f5, f6⟩ := r7 i hi
    have e16 : s' (16 + i) = s (16 + i) := hs (16 + i) (by omega) (by omega) (by omega) (by omega) (by omega)
    refine ⟨by rw [hs4]; exact e2 i hi, ?_, ?_, by rw [e16]; exact f4, ?_, (e5 i hi).2⟩
    · intro hp
      by_cases e : i = c
      · subst e
        have hp : up9 d.stp i p i = true := hp
        rw [up9_s] at hp
        show s' (69 + i) = iI (up9 d.so i q i)
        rw [up9_s]; exact hs9 hp
      · have hp : up9 d.stp c p i = true := hp
        rw [up9_n e] at hp
        show s' (69 + i) = iI (up9 d.so c q i)
        rw [up9_n e, hs (69 + i) (by omega) (by omega) (by omega) (by omega) (by omega)]; exact f2 hp
    · show s' (57 + i) = iI (up9 d.ah c a i)
      by_cases e : i = c
      · subst e; rw [up9_s]; exact hs7
      · rw [up9_n e, hs (57 + i) (by omega) (by omega) (by omega) (by omega) (by omega)]; exact f3
    · show s' (63 + i) = nI (up9 d.si c σ i)
      by_cases e : i = c
      · subst e; rw [up9_s]; exact hs3
      · rw [up9_n e, hs (63 + i) (by omega) (by omega) (by omega) (by omega) (by omega)]; exact f5
  · show up9 d.si c σ i ≤ d.t
    by_cases e : i = c
    · rw [e, up9_s]; exact hσ
    · rw [up9_n e]; exact hsi i hi
  · show -99 ≤ rdM (up9 d.stp c p) (up9 d.so c q) (up9 d.ah c a) b.gn (up9 d.si c σ) i u ∧ rdM (up9 d.stp c p) (up9 d.so c q) (up9 d.ah c a) b.gn (up9 d.si c σ) i u ≤ 99 + 2 * u
    unfold rdM
    by_cases e : i = c
    · subst e
      rw [up9_s, up9_s, up9_s, up9_s]
      exact hb u hu
    · rw [up9_n e, up9_n e, up9_n e, up9_n e]
      exact hrd i hi u hu
/-- a meet is moved to which nobody has set out -/
theorem DY.mov (h : DY b d B D s) {e : Nat} (he : e < b.T) (v : Nat) (hv : v < 2000) (hno : ∀ m, m < b.M → d.x.2.1 m e = none) : DY b (MD.mk d.t d.si (up9 d.du e v) d.so d.ah d.stp d.x) B (CY.mk D.minute D.out D.stopped D.ahead D.since D.stood (upd D.due e (nI v)) D.left D.came) (upd s (75 + e) (nI v)) := by
  have c6 := h.C6
  have m6 := h.M6
  have t6 := h.T6
  have hcm : ∀ m, m < b.M → d.x.2.2 m e = none := by
    intro m hm
    cases hx : d.x.2.2 m e with
    | none => rfl
    | some u =>
      have := (h.cb hm he u hx).2.2
      rw [hno m hm] at this
      cases this
  have hlat : latM b.M b.T (up9 d.du e v) d.x.2.2 = latM b.M b.T d.du d.x.2.2 := by
    unfold latM sm2
    refine sm9_congr (fun m hm => sm9_congr (fun e' he' => ?_))
    show lat9 (up9 d.du e v e') (d.x.2.2 m e') = lat9 (d.du e') (d.x.2.2 m e')
    by_cases ee : e' = e
    · rw [ee, hcm m hm]; rfl
    · rw [up9_n ee]
  obtain ⟨⟨⟨a1, a2, a3, a4, a5, a6, a7⟩, hC, hM, hU, hT, hG, ⟨⟨r1, r2, r3, r4, r5, r6⟩, r7, r8, r9, r10⟩, ⟨g1, g2, g3, g4⟩, hB, hI, hsi, hrd⟩, hg⟩ := h
  have hs : ∀ i, i ≠ 75 + e → upd s (75 + e) (nI v) i = s i := fun i hi => pk_un hi
  refine ⟨⟨⟨a1, by rw [hs 0 (by omega)]; exact a2, a3, a4, by rw [hs 53 (by omega)]; exact a5, by rw [hs 54 (by omega)]; exact a6, a7⟩, hC, hM, ⟨hU.1, fun i hi => ?_⟩, hT, hG, ⟨⟨by rw [hs 1 (by omega)]; exact r1, by rw [hs 2 (by omega)]; exact r2, by rw [hs 52 (by omega)]; exact r3, r4, r5, r6⟩, fun c hc => by rw [hs 54 (by omega), hs (69 + c) (by omega), hs (57 + c) (by omega), hs (16 + c) (by omega), hs (63 + c) (by omega)]; exact r7 c hc, fun m hm => by rw [hs (34 + m) (by omega), hs (28 + m) (by omega), hs (22 + m) (by omega)]; exact r8 m hm, fun i hi => ?_, fun m hm i hi => by rw [hs (46 + i) (by omega)]; exact r10 m hm i hi⟩, ⟨by rw [hs 53 (by omega)]; exact g1, fun m hm i hi => by rw [hs (81 + (6 * i + m)) (by omega), hs (117 + (6 * i + m)) (by omega)]; exact g2 m hm i hi, by rw [hs 55 (by omega)]; exact g3, by rw [hs 56 (by omega)]; show s 56 = iI (latM b.M b.T (up9 d.du e v) d.x.2.2); rw [hlat]; exact g4⟩, hB, hI, hsi, hrd⟩, hg⟩
  · show upd D.due e (nI v) i = iI (up9 d.du e v i) ∧ 0 ≤ up9 d.du e v i ∧ up9 d.du e v i < 2000
    by_cases ee : i = e
    · subst ee
      rw [pk_us, up9_s, iI_nat]
      exact ⟨rfl, by omega, by omega⟩
    · rw [pk_un ee, up9_n ee]; exact hU.2 i hi
  · show upd s (75 + e) (nI v) (75 + i) = iI (up9 d.du e v i) ∧ 0 ≤ up9 d.du e v i ∧ up9 d.du e v i < 2000
    by_cases ee : i = e
    · subst ee
      rw [pk_us, up9_s, iI_nat]
      exact ⟨rfl, by omega, by omega⟩
    · rw [pk_un (by omega), up9_n ee]; exact r9 i hi
end ACTS
