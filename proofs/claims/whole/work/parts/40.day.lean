/-! ===== a day: the class's and the reference's ===== -/
def DR (C M T t : Nat) (clk cor si : Nat → Nat) (late du so ah gn : Nat → Int) (stp : Nat → Bool) (toC : Nat → Nat → Bool) (x : GM) (clocks masters meets : Int32) (gain masterCorner masterLate masterClock masterMeets : Nat → Int32) (minute out stopped : Int32) (ahead since stood due left came : Nat → Int32) (s : Nat → Int32) : Prop :=
  (clocks = nI C ∧ s 0 = nI C ∧ minute = nI t ∧ t ≤ 2000 ∧ out = s 53 ∧ stopped = s 54 ∧ ∀ i, C ≤ i → bt stopped i = false) ∧ CC C stp so ah gn si stopped stood ahead gain since ∧ CM C M clk cor late masterClock masterLate masterCorner ∧ CU T du due ∧ CT M T toC masters meets masterMeets ∧ CG M T x out left came ∧ RK C M T t clk cor si late du so ah gn stp toC s ∧ RG M T du x s ∧ GB t x ∧ GI toC cor M T t x ∧ (∀ c, c < C → si c ≤ t) ∧ ∀ c, c < C → ∀ u : Nat, t ≤ u → -99 ≤ rdM stp so ah gn si c u ∧ rdM stp so ah gn si c u ≤ 99 + 2 * u
section DAY
variable {C M T t : Nat} {clk cor si : Nat → Nat} {late du so ah gn : Nat → Int} {stp : Nat → Bool} {toC : Nat → Nat → Bool} {x : GM} {clocks masters meets : Int32} {gain masterCorner masterLate masterClock masterMeets : Nat → Int32} {minute out stopped : Int32} {ahead since stood due left came : Nat → Int32} {s : Nat → Int32}
theorem out_eq {o o' : Int32} {x' : GM} {l c : Nat → Int32} {s' : Nat → Int32} (h1 : CG M T x' o l c) (h2 : RG M T du x' s') : o = s' 53 := by
  apply b_ext
  intro i _
  rw [h1.1 i, h2.1 i]
/-- minutes go by on both sides -/
theorem DR_pass (h : DR C M T t clk cor si late du so ah gn stp toC x clocks masters meets gain masterCorner masterLate masterClock masterMeets minute out stopped ahead since stood due left came s) (N k : Nat) (hN : 2010 ≤ N) (hk : k < 100000) :
    ∃ out' left' came' s', f_X3_pass N (nI k) minute out stopped masters meets masterMeets came left masterCorner masterClock due masterLate stood ahead gain since = some (nI (min k (2000 - t)), nI (t + min k (2000 - t)), out', came', left') ∧ f_X12_goesOn N (nI k) s = some (nI (min k (2000 - t)), s') ∧
      DR C M T (t + min k (2000 - t)) clk cor si late du so ah gn stp toC (pasM toC (fun m u => rdM stp so ah gn si (clk m) u) du late cor M T (min k (2000 - t)) t x) clocks masters meets gain masterCorner masterLate masterClock masterMeets (nI (t + min k (2000 - t))) out' stopped ahead since stood due left' came' s' ∧ ∀ i, kq i → s' i = s i := by
  obtain ⟨⟨a1, a2, a3, a4, a5, a6, a7⟩, hC, hM, hU, hT, hG, hK, hR, hB, hI, hsi, hrd⟩ := h
  have hrd2 : ∀ c, c < C → ∀ u, t ≤ u → u ≤ 2000 → -1000000 < rdM stp so ah gn si c u ∧ rdM stp so ah gn si c u < 1000000 := fun c hc u h1 h2 => by
    have := hrd c hc u h1
    omega
  obtain ⟨o1, l1, c1, g1, g2, g3, g4⟩ := X3_pass_ok hC hM hU hT N k t hN hk a4 hsi hrd2 hG hB hI
  obtain ⟨s1, k1, k2, k3, k4⟩ := X12_goesOn_ok hK N k hN hk a4 hsi hrd2 hR hB hI
  have K : ∀ i, i < 52 ∨ i = 54 ∨ (57 ≤ i ∧ i < 81) ∨ 153 ≤ i → s1 i = s i := k4
  refine ⟨o1, l1, c1, s1, by rw [a3]; exact g1, k1, ⟨⟨a1, by rw [K 0 (by omega)]; exact a2, rfl, by omega, out_eq (o' := out) g2 k3, by rw [K 54 (by omega)]; exact a6, a7⟩, hC, hM, hU, hT, g2, k2, k3, g3, g4, fun c hc => by have := hsi c hc; omega, fun c hc u hu => hrd c hc u (by omega)⟩, k4⟩
end DAY
