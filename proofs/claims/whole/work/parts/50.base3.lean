/-! ===== cells put at their places, in one look at each ===== -/
def pkck (isC : List Nat) : Nat → List (Nat ⊕ Nat) → Bool
  | _, [] => true
  | k, .inl i :: l => Nat.beq i k && !(isC.any (Nat.beq k)) && pkck isC (k + 1) l
  | k, .inr j :: l => (match isC[j]? with
    | some i => Nat.beq i k
    | none => false) && pkck isC (k + 1) l
theorem pkck_at {isC : List Nat} : ∀ (l : List (Nat ⊕ Nat)) (k0 : Nat), pkck isC k0 l = true → ∀ (k : Nat) (z : Nat ⊕ Nat), l[k]? = some z → (z = .inl (k0 + k) ∧ (k0 + k) ∉ isC) ∨ ∃ j, z = .inr j ∧ isC[j]? = some (k0 + k)
  | [], k0, _, k, z, h => by cases h
  | x :: l, k0, hp, k, z, h => by
    cases k with
    | zero =>
      have h : x = z := by simpa using h
      subst h
      cases x with
      | inl i =>
        rw [pkck, Bool.and_eq_true, Bool.and_eq_true] at hp
        left
        have e := Nat.eq_of_beq_eq_true hp.1.1
        subst e
        refine ⟨rfl, fun hm => ?_⟩
        have h2 := hp.1.2
        rw [Bool.not_eq_true', List.any_eq_false] at h2
        exact h2 _ hm (Nat.beq_refl _)
      | inr j =>
        rw [pkck, Bool.and_eq_true] at hp
        right
        refine ⟨j, rfl, ?_⟩
        cases hj : isC[j]? with
        | none => rw [hj] at hp; cases hp.1
        | some i =>
          rw [hj] at hp
          have e := Nat.eq_of_beq_eq_true hp.1
          rw [e]; rfl
    | succ k =>
      have hp2 : pkck isC (k0 + 1) l = true := by
        cases x with
        | inl i => rw [pkck, Bool.and_eq_true] at hp; exact hp.2
        | inr j => rw [pkck, Bool.and_eq_true] at hp; exact hp.2
      have h2 := pkck_at l (k0 + 1) hp2 k z (by simpa using h)
      rw [show k0 + 1 + k = k0 + (k + 1) by omega] at h2
      exact h2
theorem zput_length : ∀ (is : List Nat) (ws cs : va_W), (zput ws is cs).length = ws.length
  | [], ws, cs => by cases cs <;> rfl
  | i :: is, ws, [] => rfl
  | i :: is, ws, c :: cs => by rw [zput, zput_length is, List.length_set]
theorem nd_inj {is : List Nat} (hn : va_nd is = true) : ∀ (i j k : Nat), is[i]? = some k → is[j]? = some k → i = j := by
  induction is with
  | nil => intro i j k h; cases h
  | cons x l ih =>
    simp only [va_nd, Bool.and_eq_true, decide_eq_true_eq] at hn
    intro i j k hi hj
    cases i with
    | zero =>
      have e : x = k := by simpa using hi
      subst e
      cases j with
      | zero => rfl
      | succ j => exact absurd (List.mem_of_getElem? (by simpa using hj)) hn.1
    | succ i =>
      cases j with
      | zero =>
        have e : x = k := by simpa using hj
        subst e
        exact absurd (List.mem_of_getElem? (by simpa using hi)) hn.1
      | succ j => rw [ih hn.2 i j k (by simpa using hi) (by simpa using hj)]
def pkget (ws w1 : va_W) (z : Nat ⊕ Nat) : Option (Nat × va_E) := match z with
  | .inl i => ws[i]?
  | .inr j => w1[j]?
theorem zput_pick {ws w1 ws' : va_W} {isC : List Nat} (n : Nat) (pick : List (Nat ⊕ Nat)) (hn : va_nd isC = true) (hl : isC.length = w1.length) (hw : ws.length = n) (hb : isC.all (fun i => Nat.blt i n) = true) (hpn : pick.length = n) (hp : pkck isC 0 pick = true) (h : pick.map (pkget ws w1) = ws'.map some) : zput ws isC w1 = ws' := by
  subst hw
  have hlen : ws'.length = ws.length := by have := congrArg List.length h; simp only [List.length_map] at this; omega
  apply List.ext_getElem?
  intro k
  by_cases hk : k < ws.length
  · have hz : k < (zput ws isC w1).length := by rw [zput_length]; exact hk
    rw [List.getElem?_eq_getElem hz]
    have hb' : ∀ i ∈ isC, i < ws.length := fun i hi => Nat.le_of_ble_eq_true (List.all_eq_true.mp hb i hi)
    have hg := zput_get isC ws w1 k _ hn hl hb' (List.getElem?_eq_getElem hz)
    have hpk : k < pick.length := by omega
    have e1 : (pick.map (pkget ws w1))[k]? = some (pkget ws w1 pick[k]) := by rw [List.getElem?_map, List.getElem?_eq_getElem hpk]; rfl
    have hk' : k < ws'.length := by omega
    rw [h, List.getElem?_map, List.getElem?_eq_getElem hk'] at e1
    have e2 : some ws'[k] = pkget ws w1 pick[k] := Option.some.inj e1
    rw [List.getElem?_eq_getElem hk', e2]
    rcases pkck_at pick 0 hp k _ (List.getElem?_eq_getElem hpk) with ⟨g1, g2⟩ | ⟨j, g1, g2⟩
    · rw [Nat.zero_add] at g1 g2
      rw [g1]
      rcases hg with ⟨j, f1, f2⟩ | ⟨f1, f2⟩
      · exact absurd (List.mem_of_getElem? f1) g2
      · exact f2.symm
    · rw [Nat.zero_add] at g2
      rw [g1]
      rcases hg with ⟨j', f1, f2⟩ | ⟨f1, f2⟩
      · rw [nd_inj hn j j' k g2 f1]; exact f2.symm
      · exact absurd (List.mem_of_getElem? g2) f1
  · rw [List.getElem?_eq_none (by rw [zput_length]; omega), List.getElem?_eq_none (by omega)]
