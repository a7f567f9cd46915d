/-! ===== a name's letters ===== -/
theorem w_shl (a : Int64) (h : a.toBitVec.toNat < 2 ^ 56) : (zlshl a 8).toBitVec.toNat = a.toBitVec.toNat * 256 := by
  have h1 : ((8 : Int32).toInt64 &&& 63).toBitVec.smod 64 = 8#64 := by decide
  have h2 : (zlshl a 8).toBitVec = a.toBitVec <<< (8 : Nat) := by
    show a.toBitVec <<< (((8 : Int32).toInt64 &&& 63).toBitVec.smod 64) = _
    rw [h1]
    rfl
  rw [h2, BitVec.toNat_shiftLeft, Nat.shiftLeft_eq]
  exact Nat.mod_eq_of_lt (by omega)
theorem w_sgn : ∀ c, c < 256 → (nI c).toInt64.toBitVec.toNat = c := by decide +kernel
theorem w_or (a : Int64) (c : Nat) (h : a.toBitVec.toNat < 2 ^ 56) (hc : c < 256) : ((zlshl a 8) ||| (nI c).toInt64).toBitVec.toNat = a.toBitVec.toNat * 256 + c := by
  show ((zlshl a 8).toBitVec ||| (nI c).toInt64.toBitVec).toNat = _
  rw [BitVec.toNat_or, w_shl a h, w_sgn c hc]
  have := Nat.shiftLeft_add_eq_or_of_lt (i := 8) (b := c) (show c < 2 ^ 8 by omega) a.toBitVec.toNat
  rw [Nat.shiftLeft_eq] at this
  exact this.symm
theorem w_spell (tp : Nat → Int32) (p : Nat) : ∀ n, n ≤ 7 → (∀ i, i < n → ob (tp (p + i)) < 128) → (sp9 tp p n).toBitVec.toNat < 256 ^ n ∧ ∀ k, (sp9 tp p n).toBitVec.toNat / 2 ^ (8 * k) % 256 < 128 := by
  intro n
  induction n with
  | zero =>
    intro _ _
    have h0 : (sp9 tp p 0).toBitVec.toNat = 0 := by rw [sp9]; rfl
    rw [h0]
    exact ⟨by decide, fun k => by rw [Nat.zero_div]; decide⟩
  | succ n ih =>
    intro hn hl
    obtain ⟨i1, i2⟩ := ih (by omega) (fun i hi => hl i (by omega))
    have hb : (256 : Nat) ^ n ≤ 256 ^ 6 := Nat.pow_le_pow_right (by decide) (by omega)
    have h6 : (256 : Nat) ^ 6 = 281474976710656 := by decide
    have hc := hl n (by omega)
    have e : (sp9 tp p (n + 1)).toBitVec.toNat = (sp9 tp p n).toBitVec.toNat * 256 + ob (tp (p + n)) := by
      rw [sp9]
      exact w_or _ _ (by omega) (by omega)
    rw [e]
    refine ⟨?_, fun k => ?_⟩
    · rw [Nat.pow_succ]; omega
    · cases k with
      | zero => rw [Nat.mul_zero, Nat.pow_zero, Nat.div_one]; omega
      | succ k =>
        rw [show 2 ^ (8 * (k + 1)) = 256 * 2 ^ (8 * k) by rw [Nat.mul_succ, Nat.pow_add, Nat.mul_comm], ← Nat.div_div_eq_div_mul, show ((sp9 tp p n).toBitVec.toNat * 256 + ob (tp (p + n))) / 256 = (sp9 tp p n).toBitVec.toNat by omega]
        exact i2 k
theorem w_al (tp : Nat → Int32) (p : Nat) : ∀ n, al9 tp p n = true → ∀ i, i < n → sl9 (ob (tp (p + i))) = sl9 (ob (tp p)) := by
  intro n
  induction n with
  | zero => intro _ i hi; exact absurd hi (by omega)
  | succ n ih =>
    intro h i hi
    rw [al9, Bool.and_eq_true] at h
    by_cases c : i = n
    · subst c; exact beq_iff_eq.mp h.2
    · exact ih h.1 i (by omega)
theorem w_tk {tp : Nat → Int32} {L lim p : Nat} (h : (tk9 tp L lim p).1 = 1) : wd9 (tk9 tp L lim p).2.2.2.2 := by
  unfold tk9 at h ⊢
  by_cases c1 : lim < L ∧ lim ≤ sk9 tp L p
  · rw [if_pos c1] at h; exact absurd (show (4 : Nat) = 1 from h) (by decide)
  · rw [if_neg c1] at h ⊢
    by_cases c2 : L ≤ sk9 tp L p
    · rw [if_pos c2] at h; exact absurd (show (0 : Nat) = 1 from h) (by decide)
    · rw [if_neg c2] at h ⊢
      by_cases c3 : ld9 (ob (tp (sk9 tp L p))) = true
      · rw [if_pos c3] at h ⊢
        have h' : kd9 tp (sk9 tp L p) (rn9 tp (L - sk9 tp L p) (sk9 tp L p)) = 1 := h
        show wd9 (sp9 tp (sk9 tp L p) (rn9 tp (L - sk9 tp L p) (sk9 tp L p)))
        generalize rn9 tp (L - sk9 tp L p) (sk9 tp L p) = n at h' ⊢
        unfold kd9 at h'
        by_cases d1 : al9 tp (sk9 tp L p) n = true
        · rw [if_pos d1] at h'
          by_cases d2 : sl9 (ob (tp (sk9 tp L p))) = true
          · rw [if_pos d2] at h'
            by_cases d3 : n ≤ 7
            · have hl : ∀ i, i < n → ob (tp (sk9 tp L p + i)) < 128 := fun i hi => by
                have := w_al tp _ n d1 i hi
                rw [d2] at this
                unfold sl9 at this
                rw [Bool.and_eq_true, decide_eq_true_eq, decide_eq_true_eq] at this
                omega
              obtain ⟨r1, r2⟩ := w_spell tp (sk9 tp L p) n d3 hl
              have hb : (256 : Nat) ^ n ≤ 256 ^ 7 := Nat.pow_le_pow_right (by decide) d3
              have h7 : (256 : Nat) ^ 7 = 72057594037927936 := by decide
              exact ⟨by omega, fun k _ => r2 k⟩
            · rw [if_neg d3] at h'; exact absurd h' (by decide)
          · rw [if_neg d2] at h'
            by_cases d3 : n ≤ 3
            · rw [if_pos d3] at h'; exact absurd h' (by decide)
            · rw [if_neg d3] at h'; exact absurd h' (by decide)
        · rw [if_neg d1] at h'; exact absurd h' (by decide)
      · rw [if_neg c3] at h
        by_cases d1 : mk9 (ob (tp (sk9 tp L p))) = true
        · rw [if_pos d1] at h; exact absurd (show (3 : Nat) = 1 from h) (by decide)
        · rw [if_neg d1] at h; exact absurd (show (4 : Nat) = 1 from h) (by decide)
theorem wd_cq {tp : Nat → Int32} {L lim sz c : Nat} {kc : KU} (h : CQ tp L lim sz c kc) (hk : kc.1 = 2) : wd9 kc.2.2.2.1 := by
  obtain ⟨⟨-, h1⟩, -⟩ := h
  rcases h1 with ⟨-, e⟩ | ⟨-, e⟩ | ⟨e, e2, -⟩ | ⟨-, e, -⟩ | ⟨-, e, -⟩
  · rw [e] at hk; exact absurd hk (by decide)
  · rw [e] at hk; exact absurd hk (by decide)
  · rw [e2]; exact w_tk e
  · rw [e] at hk; exact absurd hk (by decide)
  · rw [e] at hk; exact absurd hk (by decide)
