/-! ===== tokens: what they are, and how the reference takes the next one ===== -/
def sl9 (c : Nat) : Bool := decide (97 ≤ c) && decide (c ≤ 122)
def dg9 (c : Nat) : Bool := decide (48 ≤ c) && decide (c ≤ 57)
def ld9 (c : Nat) : Bool := sl9 c || dg9 c
def wb9 (c : Nat) : Bool := decide (c = 32) || decide (c = 10)
def mk9 (c : Nat) : Bool := decide (c = 59) || (decide (c = 40) || (decide (c = 41) || (decide (60 ≤ c) && decide (c ≤ 62))))
def rn9 (tp : Nat → Int32) : Nat → Nat → Nat
  | 0, _ => 0
  | k + 1, p => if ld9 (ob (tp p)) = true then rn9 tp k (p + 1) + 1 else 0
def bl9 (tp : Nat → Int32) : Nat → Nat → Nat
  | 0, _ => 0
  | k + 1, p => if wb9 (ob (tp p)) = true then bl9 tp k (p + 1) + 1 else 0
def sp9 (tp : Nat → Int32) (p : Nat) : Nat → Int64
  | 0 => 0
  | n + 1 => (zlshl (sp9 tp p n) 8) ||| (nI (ob (tp (p + n)))).toInt64
def nu9 (tp : Nat → Int32) (p : Nat) : Nat → Int32
  | 0 => 0
  | n + 1 => ((nu9 tp p n * 10) + nI (ob (tp (p + n)))) - 48
def al9 (tp : Nat → Int32) (p : Nat) : Nat → Bool
  | 0 => true
  | n + 1 => al9 tp p n && (sl9 (ob (tp (p + n))) == sl9 (ob (tp p)))
theorem rn9_le (tp : Nat → Int32) : ∀ k p, rn9 tp k p ≤ k := by
  intro k
  induction k with
  | zero => intro p; exact Nat.le_refl _
  | succ k ih =>
    intro p
    rw [rn9]
    by_cases c : ld9 (ob (tp p)) = true
    · rw [if_pos c]; have := ih (p + 1); omega
    · rw [if_neg c]; omega
theorem rn9_in (tp : Nat → Int32) : ∀ k p i, i < rn9 tp k p → ld9 (ob (tp (p + i))) = true := by
  intro k
  induction k with
  | zero => intro p i h; exact absurd h (by rw [rn9]; omega)
  | succ k ih =>
    intro p i h
    rw [rn9] at h
    by_cases c : ld9 (ob (tp p)) = true
    · rw [if_pos c] at h
      cases i with
      | zero => exact c
      | succ i => rw [show p + (i + 1) = p + 1 + i by omega]; exact ih (p + 1) i (by omega)
    · rw [if_neg c] at h; omega
theorem rn9_end (tp : Nat → Int32) : ∀ k p, rn9 tp k p = k ∨ ld9 (ob (tp (p + rn9 tp k p))) = false := by
  intro k
  induction k with
  | zero => intro p; exact Or.inl rfl
  | succ k ih =>
    intro p
    rw [rn9]
    by_cases c : ld9 (ob (tp p)) = true
    · rw [if_pos c]
      rcases ih (p + 1) with h | h
      · exact Or.inl (by omega)
      · exact Or.inr (by rw [show p + (rn9 tp k (p + 1) + 1) = p + 1 + rn9 tp k (p + 1) by omega]; exact h)
    · rw [if_neg c]
      exact Or.inr (by cases h : ld9 (ob (tp (p + 0))) with
        | false => rfl
        | true => exact absurd h c)
theorem bl9_le (tp : Nat → Int32) : ∀ k p, bl9 tp k p ≤ k := by
  intro k
  induction k with
  | zero => intro p; exact Nat.le_refl _
  | succ k ih =>
    intro p
    rw [bl9]
    by_cases c : wb9 (ob (tp p)) = true
    · rw [if_pos c]; have := ih (p + 1); omega
    · rw [if_neg c]; omega
theorem bl9_in (tp : Nat → Int32) : ∀ k p i, i < bl9 tp k p → wb9 (ob (tp (p + i))) = true := by
  intro k
  induction k with
  | zero => intro p i h; exact absurd h (by rw [bl9]; omega)
  | succ k ih =>
    intro p i h
    rw [bl9] at h
    by_cases c : wb9 (ob (tp p)) = true
    · rw [if_pos c] at h
      cases i with
      | zero => exact c
      | succ i => rw [show p + (i + 1) = p + 1 + i by omega]; exact ih (p + 1) i (by omega)
    · rw [if_neg c] at h; omega
theorem bl9_end (tp : Nat → Int32) : ∀ k p, bl9 tp k p = k ∨ wb9 (ob (tp (p + bl9 tp k p))) = false := by
  intro k
  induction k with
  | zero => intro p; exact Or.inl rfl
  | succ k ih =>
    intro p
    rw [bl9]
    by_cases c : wb9 (ob (tp p)) = true
    · rw [if_pos c]
      rcases ih (p + 1) with h | h
      · exact Or.inl (by omega)
      · exact Or.inr (by rw [show p + (bl9 tp k (p + 1) + 1) = p + 1 + bl9 tp k (p + 1) by omega]; exact h)
    · rw [if_neg c]
      exact Or.inr (by cases h : wb9 (ob (tp (p + 0))) with
        | false => rfl
        | true => exact absurd h c)
/-- where the next token is -/
def sk9 (tp : Nat → Int32) (L p : Nat) : Nat := p + bl9 tp (L - p) p
def kd9 (tp : Nat → Int32) (p n : Nat) : Nat := if al9 tp p n = true then (if sl9 (ob (tp p)) = true then (if n ≤ 7 then 1 else 4) else (if n ≤ 3 then 2 else 4)) else 4
/-- the next token: what it is, where, where it ends, its number, its word -/
def tk9 (tp : Nat → Int32) (L lim p : Nat) : Nat × Nat × Nat × Int32 × Int64 :=
  if lim < L ∧ lim ≤ sk9 tp L p then (4, lim, sk9 tp L p, 0, 0)
  else if L ≤ sk9 tp L p then (0, sk9 tp L p, sk9 tp L p, 0, 0)
  else if ld9 (ob (tp (sk9 tp L p))) = true then (kd9 tp (sk9 tp L p) (rn9 tp (L - sk9 tp L p) (sk9 tp L p)), sk9 tp L p, sk9 tp L p + rn9 tp (L - sk9 tp L p) (sk9 tp L p), nu9 tp (sk9 tp L p) (rn9 tp (L - sk9 tp L p) (sk9 tp L p)), sp9 tp (sk9 tp L p) (rn9 tp (L - sk9 tp L p) (sk9 tp L p)))
  else (if mk9 (ob (tp (sk9 tp L p))) = true then 3 else 4, sk9 tp L p, sk9 tp L p + 1, nI (ob (tp (sk9 tp L p))), 0)
theorem rg9 {c lo hi : Nat} (hc : c < 256) (h1 : lo < 256) (h2 : hi < 256) : (if nI c < nI lo then (some 0) else (if nI hi < nI c then (some 0) else (some 1)) : Option Int32) = some (bI (decide (lo ≤ c) && decide (c ≤ hi))) := by
  by_cases a : lo ≤ c
  · rw [if_neg (nI_nlt a (by omega)), decide_eq_true a]
    by_cases b : c ≤ hi
    · rw [if_neg (nI_nlt b (by omega)), decide_eq_true b]; rfl
    · rw [if_pos (nI_lt (by omega) (by omega)), decide_eq_false b]; rfl
  · rw [if_pos (nI_lt (by omega) (by omega)), decide_eq_false a]; rfl
theorem isL_ok (N : Nat) {c : Nat} (hc : c < 256) : f_X8_isLetter N (nI c) = some (bI (sl9 c)) := rg9 hc (lo := 97) (hi := 122) (by omega) (by omega)
theorem isD_ok (N : Nat) {c : Nat} (hc : c < 256) : f_X8_isDigit N (nI c) = some (bI (dg9 c)) := rg9 hc (lo := 48) (hi := 57) (by omega) (by omega)
theorem isS_ok (N : Nat) {c : Nat} (hc : c < 256) : f_X12_isSmall N (nI c) = some (bI (sl9 c)) := rg9 hc (lo := 97) (hi := 122) (by omega) (by omega)
theorem isG_ok (N : Nat) {c : Nat} (hc : c < 256) : f_X12_isDigit N (nI c) = some (bI (dg9 c)) := rg9 hc (lo := 48) (hi := 57) (by omega) (by omega)
theorem pee_in (N L p : Nat) (tp : Nat → Int32) (hp : p < L) (hL : L ≤ 940) : f_X12_peek N (nI L) (nI p) tp = some (nI (ob (tp p))) := by
  unfold f_X12_peek
  rw [if_neg (nI_ge hp (by omega)), zin_nI (show p < 940 by omega) (by omega), zck_t, cl_n (show p < 2147483648 by omega), ob_e]
theorem pee_out (N L p : Nat) (tp : Nat → Int32) (hp : L ≤ p) (hp2 : p < 100000) : f_X12_peek N (nI L) (nI p) tp = some (-1) := by
  unfold f_X12_peek
  rw [if_pos (nI_le hp (by omega))]
section TOK
variable {tp : Nat → Int32} {L lim : Nat}
/-- a run of letters and digits -/
theorem run9 (N p n : Nat) (token at_ : Int32) (hL : L ≤ 940) (hp : p < L) (hn : rn9 tp (L - p) p = n) (hN : 2000 ≤ N) : f_X12_next_181 N (nI L) (nI lim) tp N (bI (sl9 (ob (tp p)))) 1 (nI p) token at_ 0 0 0 = some (nI (p + n), nI (kd9 tp p n), at_, nI n, nu9 tp p (min n 3), sp9 tp p (min n 7)) := by
  have hle := rn9_le tp (L - p) p
  rw [hn] at hle
  refine loopV (F := fun k i (v : Int32 × Int32 × Int64) => f_X12_next_181 N (nI L) (nI lim) tp k (bI (sl9 (ob (tp p)))) v.1 (nI (p + i)) token at_ (nI i) v.2.1 v.2.2) (M := n) (fun i => (bI (al9 tp p i), nu9 tp p (min i 3), sp9 tp p (min i 7))) _ ?_ ?_ N 0 (by omega) (by omega)
  · intro k i hi
    have hb := ob_lt (tp (p + i))
    have hld := rn9_in tp (L - p) p i (by omega)
    have pk := pee_in N L (p + i) tp (by omega) hL
    show f_X12_next_181 N (nI L) (nI lim) tp (k + 1) (bI (sl9 (ob (tp p)))) (bI (al9 tp p i)) (nI (p + i)) token at_ (nI i) (nu9 tp p (min i 3)) (sp9 tp p (min i 7)) = f_X12_next_181 N (nI L) (nI lim) tp k (bI (sl9 (ob (tp p)))) (bI (al9 tp p (i + 1))) (nI (p + (i + 1))) token at_ (nI (i + 1)) (nu9 tp p (min (i + 1) 3)) (sp9 tp p (min (i + 1) 7))
    have k3 : ∀ (a c : Int32) (K : Int32 → Int32 → Int32 → Int32 → Int32 → Int32 → Int32 → Int64 → Option (Int32 × Int32 × Int32 × Int32 × Int32 × Int64)), f_X12_next_221 N (nI L) (nI lim) tp K a c (nI (p + i)) token at_ (nI i) (nu9 tp p (min i 3)) (sp9 tp p (min i 7)) = K a c (nI (p + (i + 1))) token at_ (nI (i + 1)) (nu9 tp p (min (i + 1) 3)) (sp9 tp p (min (i + 1) 7)) := by
      intro a c K
      have k2 : ∀ w, f_X12_next_248 N (nI L) (nI lim) tp K a c (nI (p + i)) token at_ (nI i) (nu9 tp p (min i 3)) w = K a c (nI (p + (i + 1))) token at_ (nI (i + 1)) (nu9 tp p (min (i + 1) 3)) w := by
        intro w
        unfold f_X12_next_248 f_X12_next_275
        by_cases c3 : 3 ≤ i
        · rw [if_pos (show (3 : Int32) ≤ nI i from nI_le (a := 3) c3 (by omega)), zbn_s, zbn_s, nI_1, nI_1, show min i 3 = 3 by omega, show min (i + 1) 3 = 3 by omega]; rfl
        · rw [if_neg (show ¬ (3 : Int32) ≤ nI i from nI_ge (b := 3) (show i < 3 by omega) (by omega)), pk, zcl_s, zbn_s, zbn_s, zbn_s, nI_1, nI_1, show min i 3 = i by omega, show min (i + 1) 3 = i + 1 by omega, Int32.mul_comm]; rfl
      unfold f_X12_next_221
      by_cases c7 : 7 ≤ i
      · rw [if_pos (show (7 : Int32) ≤ nI i from nI_le (a := 7) c7 (by omega)), k2, show min i 7 = 7 by omega, show min (i + 1) 7 = 7 by omega]
      · rw [if_neg (show ¬ (7 : Int32) ≤ nI i from nI_ge (b := 7) (show i < 7 by omega) (by omega)), pk, zcl_s, zbn_s, k2, show min i 7 = i by omega, show min (i + 1) 7 = i + 1 by omega]; rfl
    have k4 : ∀ (K : Int32 → Int32 → Int32 → Int32 → Int32 → Int32 → Int32 → Int64 → Option (Int32 × Int32 × Int32 × Int32 × Int32 × Int64)), f_X12_next_201 N (nI L) (nI lim) tp K (bI (sl9 (ob (tp p)))) (bI (al9 tp p i)) (nI (p + i)) token at_ (nI i) (nu9 tp p (min i 3)) (sp9 tp p (min i 7)) = K (bI (sl9 (ob (tp p)))) (bI (al9 tp p (i + 1))) (nI (p + (i + 1))) token at_ (nI (i + 1)) (nu9 tp p (min (i + 1) 3)) (sp9 tp p (min (i + 1) 7)) := by
      intro K
      unfold f_X12_next_201 f_X12_next_220
      rw [k3, k3, pk, zcl_s, isS_ok N hb, zcl_s, al9]
      cases al9 tp p i
      · rfl
      · cases sl9 (ob (tp (p + i))) <;> cases sl9 (ob (tp p)) <;> rfl
    rw [f_X12_next_181, pk, zcl_s, isS_ok N hb, zcl_s, zcl_s, isG_ok N hb, zcl_s, k4]
    unfold ld9 at hld
    cases h1 : sl9 (ob (tp (p + i)))
    · rw [h1, Bool.false_or] at hld
      rw [hld]; rfl
    · rfl
  · intro k
    show f_X12_next_181 N (nI L) (nI lim) tp (k + 1) (bI (sl9 (ob (tp p)))) (bI (al9 tp p n)) (nI (p + n)) token at_ (nI n) (nu9 tp p (min n 3)) (sp9 tp p (min n 7)) = _
    have hend : ∃ z, f_X12_peek N (nI L) (nI (p + n)) tp = some z ∧ f_X12_isSmall N z = some 0 ∧ f_X12_isDigit N z = some 0 := by
      rcases rn9_end tp (L - p) p with h | h
      · exact ⟨-1, pee_out N L (p + n) tp (by omega) (by omega), rfl, rfl⟩
      · rw [hn] at h
        have hb := ob_lt (tp (p + n))
        by_cases c : p + n < L
        · unfold ld9 at h
          rw [Bool.or_eq_false_iff] at h
          exact ⟨_, pee_in N L (p + n) tp c hL, by rw [isS_ok N hb, h.1]; rfl, by rw [isG_ok N hb, h.2]; rfl⟩
        · exact ⟨-1, pee_out N L (p + n) tp (by omega) (by omega), rfl, rfl⟩
    obtain ⟨z, z1, z2, z3⟩ := hend
    rw [f_X12_next_181, z1, zcl_s, z2, zcl_s, if_pos rfl, zcl_s, z3, zcl_s, if_pos rfl]
    unfold f_X12_next_320 f_X12_next_317 f_X12_next_333 kd9
    cases al9 tp p n
    · rfl
    · rw [if_neg (show ¬ bI true = 0 by decide), if_pos (show true = true from rfl)]
      cases sl9 (ob (tp p))
      · rw [if_pos (show bI false = 0 from rfl), if_pos (show bI false = 0 from rfl), if_neg (show ¬ false = true by decide)]
        by_cases c : n ≤ 3
        · rw [if_pos (show nI n ≤ 3 from nI_le (b := 3) c (by omega)), if_pos c]; rfl
        · rw [if_neg (show ¬ nI n ≤ 3 from nI_ge (a := 3) (show 3 < n by omega) (by omega)), if_neg c]; rfl
      · rw [if_neg (show ¬ bI true = 0 by decide), if_neg (show ¬ bI true = 0 by decide), if_pos (show true = true from rfl)]
        by_cases c : n ≤ 7
        · rw [if_pos (show nI n ≤ 7 from nI_le (b := 7) c (by omega)), if_pos c]; rfl
        · rw [if_neg (show ¬ nI n ≤ 7 from nI_ge (a := 7) (show 7 < n by omega) (by omega)), if_neg c]; rfl
end TOK
