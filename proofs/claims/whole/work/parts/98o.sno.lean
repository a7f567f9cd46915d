/-! ===== a sentence: both readers, side by side ===== -/
abbrev KR9 : Type := Int32 × Int32 × Int32 × Int32 × Int32 × Int64 × Int32 × Int32 × Int32 × Int32 × (Nat → Int32)
abbrev Z22 : Type := Int32 × Int32 × Int32 × Int32 × Int32 × Int32 × Int32 × Int32 × Int32 × Int32 × Int32 × Int32 × Int64 × Int32 × Int32 × Int32 × Int32 × Int32 × Int32 × (Nat → Int32) × (Nat → Int32) × (Nat → Int32)
abbrev FT9 : Type := Int32 → Int32 → Int32 → Int32 → Int32 → Int64 → Int32 → Int32 → Int32 → Int32 → (Nat → Int32) → (Nat → Int32) → (Nat → Int32) → (Nat → Int64) → Int32 → (Nat → Int32) → Int32 → Int32 → (Nat → Int64) → (Nat → Int64) → Option KR9
def lpS9 (N : Nat) (tp : Nat → Int32) (res nm : Nat → Int64) (L lim : Nat) (fa : Int32) (s : Nat → Int32) (n : Nat) (rc : RU) (got codes ones top deep wh : Int32) (st rd : Nat → Int32) : Option Z22 := f_X12_sentence_48 N tp res nm n 1 0 0 (nI L) rc.1 (nI lim) rc.2.1 rc.2.2.1 rc.2.2.2.1 rc.2.2.2.2.1 0 fa rc.2.2.2.2.2 got codes ones top deep wh st rd s
def FL9 (s : Nat → Int32) (L lim : Nat) (fl pl : Int32) (z : Option Z22) : Prop := ∃ (p' tok' at' sp' nu' : Int32) (wd' : Int64) (got' co' on' to' de' wh' : Int32) (st' rd' : Nat → Int32), z = some (-1 - pl, 0, 0, nI L, p', nI lim, tok', at', sp', nu', fl, pl, wd', got', co', on', to', de', wh', st', rd', s)
def CF9 (fl pl : Int32) (z : Option KR9) : Prop := ∃ (o' k1 k2 k3 : Int32) (k4 : Int64) (k5 : Int32) (l : Nat) (cd' : Nat → Int32), l ≤ 40 ∧ z = some (0, o', k1, k2, k3, k4, fl, pl, k5, nI l, cd')
def PP9 (l : Nat) (pp : List Nat) : Prop := pp = [] ∨ (1 ≤ l ∧ pp = [21]) ∨ (2 ≤ l ∧ pp = [22]) ∨ (2 ≤ l ∧ pp = [21, 22])
def HS9 (l : Nat) (S : List Nat) : Prop := ∀ x S', S = x :: S' → x < 100 ∧ (1 ≤ l → x ≠ 20 ∧ x ≠ 21) ∧ (2 ≤ l → x ≠ 22)
def Ou9 (N : Nat) (tp : Nat → Int32) (L lim sz : Nat) (res nm : Nat → Int64) (b : MB) (s : Nat → Int32) (fp fa : Int32) (l d : Nat) (q : List (Nat × Nat × Nat)) (o : Nat) (S : List Nat) (c : Nat) (z : Option KR9) (lp : Nat → Option Z22) : Prop :=
  (∃ (c' k kn : Nat) (kc' : KU) (rc' : RU) (r' : List (Nat × Nat × Nat)) (pp : List Nat) (cd' : Nat → Int32) (got' : Int32) (st' rd' : Nat → Int32) (j : Nat), PP9 l pp ∧ z = some (1, nI (o + k), kc'.1, kc'.2.1, kc'.2.2.1, kc'.2.2.2.1, 0, fp, kc'.2.2.2.2, nI (q ++ rr9 r' kn pp).length, cd') ∧ CQ tp L lim sz c' kc' ∧ RC tp L lim c' rc' ∧ CD9 (q ++ rr9 r' kn pp) cd' ∧ RD9 (q ++ r') rd' ∧ ST9 (List.replicate kn 20 ++ (pp ++ S)) st' ∧ GD9 b (rr9 r' kn pp) k ∧ o + k ≤ 20 ∧ kn + d ≤ 8 ∧ (1 ≤ l → isK tp L lim c' 6385252 = false) ∧ (2 ≤ l → isK tp L lim c' 28530 = false) ∧ j + ps9 tp L lim c ≤ ps9 tp L lim c' ∧ ∀ n, lp (n + j) = lpS9 N tp res nm L lim fa s n rc' got' (nI (q ++ r').length) (nI (o + k)) (nI (kn + (pp ++ S).length)) (nI (d + 1 + kn)) 1 st' rd')
  ∨ (∃ fl pl : Int32, ¬ fl = 0 ∧ CF9 fl pl z ∧ ∀ n, L - ps9 tp L lim c < n → FL9 s L lim fl pl (lp n))
theorem ou_pre {N : Nat} {tp : Nat → Int32} {L lim sz : Nat} {res nm : Nat → Int64} {b : MB} {s : Nat → Int32} {fp fa : Int32} {l d : Nat} {q : List (Nat × Nat × Nat)} {o : Nat} {S : List Nat} {c c2 j0 : Nat} {z : Option KR9} {lp lp2 : Nat → Option Z22} (hj : j0 + ps9 tp L lim c ≤ ps9 tp L lim c2) (h : ∀ n, lp (n + j0) = lp2 n) (g : Ou9 N tp L lim sz res nm b s fp fa l d q o S c2 z lp2) : Ou9 N tp L lim sz res nm b s fp fa l d q o S c z lp := by
  rcases g with ⟨c', k, kn, kc', rc', r', pp, cd', got', st', rd', j, g1, g2, g3, g4, g5, g6, g7, g8, g9, g0, g10, g11, g12, g13⟩ | ⟨fl, pl, g1, g2, g3⟩
  · left
    refine ⟨c', k, kn, kc', rc', r', pp, cd', got', st', rd', j + j0, g1, g2, g3, g4, g5, g6, g7, g8, g9, g0, g10, g11, by omega, fun n => ?_⟩
    rw [← Nat.add_assoc, h, g13]
  · right
    refine ⟨fl, pl, g1, g2, fun n hn => ?_⟩
    have h2 := ps9_le (tp := tp) (L := L) (lim := lim) c2
    obtain ⟨m, rfl⟩ : ∃ m, n = m + j0 := ⟨n - j0, by omega⟩
    rw [h]
    exact g3 m (by omega)
def Sp9 (N : Nat) (tp : Nat → Int32) (L lim sz : Nat) (K P V : Nat → Int32) (W : Nat → Int64) (res nm : Nat → Int64) (b : MB) (B : CB) (s : Nat → Int32) (fp fa : Int32) (l d : Nat) (F : FT9) : Prop :=
  ∀ (c o : Nat) (kc : KU) (rc : RU) (q : List (Nat × Nat × Nat)) (S : List Nat) (cd : Nat → Int32) (got : Int32) (st rd : Nat → Int32), CQ tp L lim sz c kc → RC tp L lim c rc → CD9 q cd → RD9 q rd → ST9 S st → q.length ≤ 2 * o → o ≤ 20 → S.length + l ≤ 3 * d + 2 → HS9 l S → Ou9 N tp L lim sz res nm b s fp fa l d q o S c (F (nI d) (nI o) kc.1 kc.2.1 kc.2.2.1 kc.2.2.2.1 0 fp (nI sz) kc.2.2.2.2 K P V W (nI q.length) cd B.clocks B.meets B.clockName B.meetName) (fun n => lpS9 N tp res nm L lim fa s n rc got (nI q.length) (nI o) (nI S.length) (nI (d + 1)) 0 st rd)
theorem pp_22 {pp : List Nat} (hp : PP9 2 pp) : ∀ x, x ∈ pp → x = 21 ∨ (x = 22 ∧ 22 = 22) := by
  intro x hx
  rcases hp with rfl | ⟨-, rfl⟩ | ⟨-, rfl⟩ | ⟨-, rfl⟩
  · exact absurd hx (List.not_mem_nil)
  · exact Or.inl (List.mem_singleton.mp hx)
  · exact Or.inr ⟨List.mem_singleton.mp hx, rfl⟩
  · rcases List.mem_cons.mp hx with e | e
    · exact Or.inl e
    · exact Or.inr ⟨List.mem_singleton.mp e, rfl⟩
theorem hs_22 {S : List Nat} (hh : HS9 2 S) : ∀ x S', S = x :: S' → x < 100 ∧ x ≠ 20 ∧ x ≠ 21 ∧ (x = 22 → 22 = 21) := fun x S' e => ⟨(hh x S' e).1, ((hh x S' e).2.1 (by omega)).1, ((hh x S' e).2.1 (by omega)).2, fun z => absurd z ((hh x S' e).2.2 (Nat.le_refl _))⟩
section SNO
variable {tp : Nat → Int32} {L lim sz c : Nat} {K P V : Nat → Int32} {W : Nat → Int64} {kc : KU} {rc : RU} {res nm : Nat → Int64} {b : MB} {B : CB} {s : Nat → Int32} {fp fa : Int32}
theorem sn_kw (h : CQ tp L lim sz c kc) : (∃ j, j < 26 ∧ kc.1 = 3 ∧ kc.2.2.1 = nI j ∧ (tk9 tp L lim (ps9 tp L lim c)).1 = 1 ∧ ∀ (i : Nat) (w : Int64), kwL[i]? = some w → isK tp L lim c w = decide (i = j)) ∨ (¬ kc.1 = 3 ∧ ∀ (i : Nat) (w : Int64), kwL[i]? = some w → isK tp L lim c w = false) := by
  unfold isK
  have aux : ∀ {n : Nat}, (tk9 tp L lim (ps9 tp L lim c)).1 = n → n ≠ 1 → ∀ w : Int64, decide ((tk9 tp L lim (ps9 tp L lim c)).1 = 1 ∧ (tk9 tp L lim (ps9 tp L lim c)).2.2.2.2 = w) = false := fun hn hne w => decide_eq_false (fun z => hne (hn ▸ z.1))
  rcases h.1.2 with ⟨q1, q2⟩ | ⟨q1, q2⟩ | ⟨q1, q2, q3⟩ | ⟨q1, q2, -⟩ | ⟨q1, q2, -⟩
  · exact Or.inr ⟨by rw [q2]; decide, fun i w _ => aux q1 (by decide) w⟩
  · exact Or.inr ⟨by rw [q2]; decide, fun i w _ => aux q1 (by decide) w⟩
  · rcases q3 with ⟨q3, q4⟩ | ⟨q3, j, q4, q5, q6⟩
    · refine Or.inr ⟨by rw [q3]; decide, fun i w hi => decide_eq_false (fun z => q4 i ?_)⟩
      rw [hi, ← z.2, q2]
    · refine Or.inl ⟨j, q4, q3, q6, q1, fun i w hi => ?_⟩
      have hi26 : i < 26 := (List.getElem?_eq_some_iff.mp hi).1
      by_cases e : i = j
      · rw [decide_eq_true e]
        rw [e, q5] at hi
        exact decide_eq_true ⟨q1, by rw [← q2]; exact Option.some.inj hi⟩
      · rw [decide_eq_false e]
        exact decide_eq_false (fun z => e (kwL_inj i hi26 j q4 (by rw [hi, q5, q2, z.2])))
  · exact Or.inr ⟨by rw [q2]; decide, fun i w _ => aux q1 (by decide) w⟩
  · exact Or.inr ⟨by rw [q2]; decide, fun i w _ => aux q1 (by decide) w⟩
theorem isK_tk (hr : RC tp L lim c rc) {w : Int64} (h : isK tp L lim c w = true) : ¬ rc.2.1 = 0 ∧ ps9 tp L lim c + 1 ≤ ps9 tp L lim (c + 1) := by
  unfold isK at h
  rw [decide_eq_true_iff] at h
  refine ⟨?_, ?_⟩
  · rw [hr.2.1, h.1]; decide
  · rw [ps9]
    exact (tk9_nx (ps9_le c)).2.2.1 (Or.inl h.1)
/-- what is popped: the nots, then what joins -/
theorem sn_pop (N : Nat) (hN : 100 ≤ N) (x1 : Nat) (hx1 : x1 = 21 ∨ x1 = 22) {q : List (Nat × Nat × Nat)} {rd st : Nat → Int32} {kn dp : Nat} {pp S : List Nat} (hR : RD9 q rd) (hS : ST9 (List.replicate kn 20 ++ (pp ++ S)) st) (hp : ∀ x, x ∈ pp → x = 21 ∨ (x = 22 ∧ x1 = 22)) (hh : ∀ x S', S = x :: S' → x < 100 ∧ x ≠ 20 ∧ x ≠ 21 ∧ (x = 22 → x1 = 21)) (hq : q.length + kn + pp.length ≤ 40) (hl : kn + (pp ++ S).length ≤ 44) : ∃ rd1 rd2, f_X12_nots N (nI q.length) (nI (kn + (pp ++ S).length)) (nI (dp + kn)) st rd = some (nI (q.length + kn), nI (pp ++ S).length, nI dp, rd1) ∧ f_X12_joins N (nI x1) (nI (q.length + kn)) (nI (pp ++ S).length) st rd1 = some (nI (q ++ (List.replicate kn (20, 0, 0) ++ pp.map op9)).length, nI S.length, rd2) ∧ RD9 (q ++ (List.replicate kn (20, 0, 0) ++ pp.map op9)) rd2 := by
  obtain ⟨rd1, a1, a2⟩ := sn_nots N st (pp ++ S) (fun x S' e => by
    cases pp with
    | nil => exact ⟨(hh x S' e).1, (hh x S' e).2.1⟩
    | cons w pp =>
      have : w = x := (List.cons.inj e).1
      have hw := hp w List.mem_cons_self
      exact ⟨by omega, by omega⟩) kn N q rd dp hR hS (by omega) hl (by omega)
  have hlen : (q ++ List.replicate kn (20, 0, 0)).length = q.length + kn := by rw [List.length_append, List.length_replicate]
  have hpl : (pp ++ S).length = pp.length + S.length := List.length_append
  obtain ⟨rd2, c1, c2⟩ := sn_joins N st x1 hx1 S (fun x S' e => ⟨(hh x S' e).1, (hh x S' e).2.2.1, (hh x S' e).2.2.2⟩) pp N (q ++ List.replicate kn (20, 0, 0)) rd1 a2 (sn_dr (List.replicate kn 20) (pp ++ S) hS) hp (by rw [hlen]; omega) (by omega) (by omega)
  rw [hlen] at c1
  refine ⟨rd1, rd2, a1, ?_, ?_⟩
  · unfold f_X12_joins
    rw [hpl, c1, List.length_append, List.length_append, List.length_replicate, List.length_map, Nat.add_assoc]
  · rw [← List.append_assoc]; exact c2
/-- at 'and' -/
theorem bh_and (hE : EV tp L lim sz K P V W) (h : CQ tp L lim sz c kc) (hr : RC tp L lim c rc) (N : Nat) (hN : 2010 ≤ N) (hA : isK tp L lim c 6385252 = true) {q : List (Nat × Nat × Nat)} {rd st : Nat → Int32} {kn dp : Nat} {pp S : List Nat} (hR : RD9 q rd) (hS : ST9 (List.replicate kn 20 ++ (pp ++ S)) st) (hp : PP9 1 pp) (hh : HS9 1 S) (hq : q.length + kn + pp.length ≤ 40) (hl : kn + (pp ++ S).length ≤ 44) (got on : Int32) : ∃ (rc' : RU) (rd' : Nat → Int32), RC tp L lim (c + 1) rc' ∧ RD9 (rr9 q kn pp) rd' ∧ ∀ n, lpS9 N tp res nm L lim fa s (n + 1) rc got (nI q.length) on (nI (kn + (pp ++ S).length)) (nI (dp + kn)) 1 st rd = lpS9 N tp res nm L lim fa s n rc' got (nI (rr9 q kn pp).length) on (nI (S.length + 1)) (nI dp) 0 (upd st S.length (nI 21)) rd' := by
  obtain ⟨rd1, rd2, e1, e2, e3⟩ := sn_pop N (by omega) 21 (Or.inl rfl) (dp := dp) hR hS (fun x hx => by
    rcases hp with rfl | ⟨-, rfl⟩ | ⟨h2, -⟩ | ⟨h2, -⟩
    · exact absurd hx (List.not_mem_nil)
    · exact Or.inl (List.mem_singleton.mp hx)
    · omega
    · omega) (fun x S' e => ⟨(hh x S' e).1, ((hh x S' e).2.1 (Nat.le_refl _)).1, ((hh x S' e).2.1 (Nat.le_refl _)).2, fun _ => rfl⟩) hq hl
  obtain ⟨rc', n1, n2⟩ := nex_ok hE hr N hN
  have wA := (kwd_ok h hr N 15 6385252 rfl).2
  rw [hA] at wA
  have hs2 : S.length < 45 := by rw [List.length_append] at hl; omega
  refine ⟨rc', rd2, n2, e3, fun n => ?_⟩
  unfold lpS9
  rw [f_X12_sentence_48, if_neg one0, if_neg one0, if_neg (isK_tk hr hA).1]
  unfold f_X12_sentence_101
  rw [if_neg one0]
  unfold f_X12_behind
  rw [e1, zcl_s, wA, zcl_s, if_neg (show ¬ bI true = 0 by decide)]
  unfold f_X12_behind_24
  rw [wA, zcl_s, if_neg (show ¬ bI true = 0 by decide)]
  unfold f_X12_behind_42
  dsimp only
  rw [show (21 : Int32) = nI 21 from rfl, e2, zcl_s, wA, zcl_s, if_neg (show ¬ bI true = 0 by decide)]
  unfold f_X12_behind_70
  dsimp only
  rw [zin_nI hs2 (by omega), zck_t, zbn_s, zbn_s, n1, zcl_s, zcl_s]
  dsimp only
  rw [if_neg one0, cl_n (show S.length < 2147483648 by omega), nI_1]
  rfl
/-- at 'or' -/
theorem bh_or (hE : EV tp L lim sz K P V W) (h : CQ tp L lim sz c kc) (hr : RC tp L lim c rc) (N : Nat) (hN : 2010 ≤ N) (hA : isK tp L lim c 6385252 = false) (hO : isK tp L lim c 28530 = true) {q : List (Nat × Nat × Nat)} {rd st : Nat → Int32} {kn dp : Nat} {pp S : List Nat} (hR : RD9 q rd) (hS : ST9 (List.replicate kn 20 ++ (pp ++ S)) st) (hp : PP9 2 pp) (hh : HS9 2 S) (hq : q.length + kn + pp.length ≤ 40) (hl : kn + (pp ++ S).length ≤ 44) (got on : Int32) : ∃ (rc' : RU) (rd' : Nat → Int32), RC tp L lim (c + 1) rc' ∧ RD9 (rr9 q kn pp) rd' ∧ ∀ n, lpS9 N tp res nm L lim fa s (n + 1) rc got (nI q.length) on (nI (kn + (pp ++ S).length)) (nI (dp + kn)) 1 st rd = lpS9 N tp res nm L lim fa s n rc' got (nI (rr9 q kn pp).length) on (nI (S.length + 1)) (nI dp) 0 (upd st S.length (nI 22)) rd' := by
  obtain ⟨rd1, rd2, e1, e2, e3⟩ := sn_pop N (by omega) 22 (Or.inr rfl) (dp := dp) hR hS (pp_22 hp) (hs_22 hh) hq hl
  obtain ⟨rc', n1, n2⟩ := nex_ok hE hr N hN
  have wA := (kwd_ok h hr N 15 6385252 rfl).2
  have wO := (kwd_ok h hr N 14 28530 rfl).2
  rw [hA] at wA
  rw [hO] at wO
  have hs2 : S.length < 45 := by rw [List.length_append] at hl; omega
  refine ⟨rc', rd2, n2, e3, fun n => ?_⟩
  unfold lpS9
  rw [f_X12_sentence_48, if_neg one0, if_neg one0, if_neg (isK_tk hr hO).1]
  unfold f_X12_sentence_101
  rw [if_neg one0]
  unfold f_X12_behind
  rw [e1, zcl_s, wA, zcl_s, if_pos (show bI false = 0 from rfl), wO, zcl_s, if_neg (show ¬ bI true = 0 by decide)]
  unfold f_X12_behind_24
  rw [wA, zcl_s, if_pos (show bI false = 0 from rfl)]
  unfold f_X12_behind_42
  dsimp only
  rw [show (22 : Int32) = nI 22 from rfl, e2, zcl_s, wA, zcl_s, if_pos (show bI false = 0 from rfl)]
  unfold f_X12_behind_70
  dsimp only
  rw [zin_nI hs2 (by omega), zck_t, zbn_s, zbn_s, n1, zcl_s, zcl_s]
  dsimp only
  rw [if_neg one0, cl_n (show S.length < 2147483648 by omega), nI_1]
  rfl
/-- neither: a bracket is closed, or it can't come -/
theorem bh_cl (hE : EV tp L lim sz K P V W) (h : CQ tp L lim sz c kc) (hr : RC tp L lim c rc) (N : Nat) (hN : 2010 ≤ N) (hA : isK tp L lim c 6385252 = false) (hO : isK tp L lim c 28530 = false) (hY : isY tp L lim c 41 = true) {q : List (Nat × Nat × Nat)} {rd st : Nat → Int32} {kn dp : Nat} {pp S : List Nat} (hR : RD9 q rd) (hS : ST9 (List.replicate kn 20 ++ (pp ++ 23 :: S)) st) (hp : PP9 2 pp) (hq : q.length + kn + pp.length ≤ 40) (hl : kn + (pp ++ 23 :: S).length ≤ 44) (got on : Int32) : ∃ (rc' : RU) (rd' : Nat → Int32), RC tp L lim (c + 1) rc' ∧ RD9 (rr9 q kn pp) rd' ∧ ps9 tp L lim c + 1 ≤ ps9 tp L lim (c + 1) ∧ ∀ n, lpS9 N tp res nm L lim fa s (n + 1) rc got (nI q.length) on (nI (kn + (pp ++ 23 :: S).length)) (nI (dp + 1 + kn)) 1 st rd = lpS9 N tp res nm L lim fa s n rc' got (nI (rr9 q kn pp).length) on (nI S.length) (nI dp) 1 st rd' := by
  obtain ⟨rd1, rd2, e1, e2, e3⟩ := sn_pop N (by omega) 22 (Or.inr rfl) (dp := dp + 1) hR hS (pp_22 hp) (fun x S' e => by have : 23 = x := (List.cons.inj e).1; omega) hq hl
  obtain ⟨rc', n1, n2⟩ := nex_ok hE hr N hN
  have wA := (kwd_ok h hr N 15 6385252 rfl).2
  have wO := (kwd_ok h hr N 14 28530 rfl).2
  have wY := (sym_ok h hr N 41).2
  rw [hA] at wA
  rw [hO] at wO
  rw [hY, show nI 41 = (41 : Int32) from rfl] at wY
  have hs2 : S.length + 1 < 45 := by rw [List.length_append] at hl; have : (23 :: S).length = S.length + 1 := rfl; omega
  have t3 : (tk9 tp L lim (ps9 tp L lim c)).1 = 3 := by
    unfold isY at hY
    rw [decide_eq_true_iff] at hY
    exact hY.1
  have tn : ¬ rc.2.1 = 0 := by rw [hr.2.1, t3]; decide
  refine ⟨rc', rd2, n2, e3, by rw [ps9]; exact (tk9_nx (ps9_le c)).2.2.1 (Or.inr (Or.inr t3)), fun n => ?_⟩
  unfold lpS9
  rw [f_X12_sentence_48, if_neg one0, if_neg one0, if_neg tn]
  unfold f_X12_sentence_101
  rw [if_neg one0]
  unfold f_X12_behind
  rw [e1, zcl_s, wA, zcl_s, if_pos (show bI false = 0 from rfl), wO, zcl_s, if_pos (show bI false = 0 from rfl)]
  dsimp only
  rw [show (22 : Int32) = nI 22 from rfl, e2, zcl_s, wY, zcl_s, if_neg (show ¬ bI true = 0 by decide)]
  dsimp only
  rw [show (23 :: S).length = S.length + 1 from rfl, if_neg (show ¬ nI (S.length + 1) = 0 from nk9 (b := 0) (by omega) (by omega) (by omega)), zbn_s, zbn_s, n1, zcl_s, zcl_s]
  dsimp only
  rw [if_neg one0, sb_1 (show 1 ≤ S.length + 1 by omega), sb_1 (show 1 ≤ dp + 1 by omega), Nat.add_sub_cancel, Nat.add_sub_cancel]
  rfl
theorem bh_no (h : CQ tp L lim sz c kc) (hr : RC tp L lim c rc) (N : Nat) (hN : 2010 ≤ N) (hA : isK tp L lim c 6385252 = false) (hO : isK tp L lim c 28530 = false) {q : List (Nat × Nat × Nat)} {rd st : Nat → Int32} {kn dp : Nat} {pp S : List Nat} (hR : RD9 q rd) (hS : ST9 (List.replicate kn 20 ++ (pp ++ S)) st) (hp : PP9 2 pp) (hh : HS9 2 S) (hq : q.length + kn + pp.length ≤ 40) (hl : kn + (pp ++ S).length ≤ 44) (hY : (¬ S = [] ∧ isY tp L lim c 41 = false) ∨ (S = [] ∧ ¬ rc.2.1 = 0)) (got on : Int32) (n : Nat) : FL9 s L lim 1 rc.2.2.1 (lpS9 N tp res nm L lim fa s (n + 1) rc got (nI q.length) on (nI (kn + (pp ++ S).length)) (nI (dp + kn)) 1 st rd) := by
  obtain ⟨rd1, rd2, e1, e2, e3⟩ := sn_pop N (by omega) 22 (Or.inr rfl) (dp := dp) hR hS (pp_22 hp) (hs_22 hh) hq hl
  have wA := (kwd_ok h hr N 15 6385252 rfl).2
  have wO := (kwd_ok h hr N 14 28530 rfl).2
  have wY := (sym_ok h hr N 41).2
  rw [hA] at wA
  rw [hO] at wO
  rw [show nI 41 = (41 : Int32) from rfl] at wY
  unfold lpS9
  rw [f_X12_sentence_48, if_neg one0, if_neg one0]
  by_cases tn : rc.2.1 = 0
  · have hne : ¬ S = [] := by
      rcases hY with ⟨y, -⟩ | ⟨-, y⟩
      · exact y
      · exact absurd tn y
    have hsl : S.length < 45 := by rw [List.length_append] at hl; omega
    have h0 : 0 < S.length := by
      cases S with
      | nil => exact absurd rfl hne
      | cons x S => exact Nat.succ_pos _
    rw [if_pos tn, e1, zcl_s]
    dsimp only
    rw [show (22 : Int32) = nI 22 from rfl, e2, zcl_s]
    dsimp only
    rw [if_neg (show ¬ nI S.length ≤ 0 from nI_ge (a := 0) h0 (by omega))]
    exact ⟨_, _, _, _, _, _, _, _, _, _, _, _, _, _, rfl⟩
  · rw [if_neg tn]
    unfold f_X12_sentence_101
    rw [if_neg one0]
    unfold f_X12_behind
    rw [e1, zcl_s, wA, zcl_s, if_pos (show bI false = 0 from rfl), wO, zcl_s, if_pos (show bI false = 0 from rfl)]
    dsimp only
    rw [show (22 : Int32) = nI 22 from rfl, e2, zcl_s, wY, zcl_s]
    unfold f_X12_behind_114 f_X12_sentence_125
    rcases hY with ⟨-, y⟩ | ⟨y, -⟩
    · rw [y, if_pos (show bI false = 0 from rfl)]
      exact ⟨_, _, _, _, _, _, _, _, _, _, _, _, _, _, rfl⟩
    · subst y
      rw [if_pos (show nI ([] : List Nat).length = 0 from rfl)]
      cases isY tp L lim c 41
      · exact ⟨_, _, _, _, _, _, _, _, _, _, _, _, _, _, rfl⟩
      · exact ⟨_, _, _, _, _, _, _, _, _, _, _, _, _, _, rfl⟩
/-- the end -/
theorem bh_end (h : CQ tp L lim sz c kc) (hr : RC tp L lim c rc) (N : Nat) (hN : 2010 ≤ N) {q : List (Nat × Nat × Nat)} {rd st : Nat → Int32} {kn dp : Nat} {pp : List Nat} (hR : RD9 q rd) (hS : ST9 (List.replicate kn 20 ++ (pp ++ [])) st) (hp : PP9 2 pp) (hq : q.length + kn + pp.length ≤ 40) (hl : kn + (pp ++ ([] : List Nat)).length ≤ 44) (tn : rc.2.1 = 0) (got on : Int32) : ∃ rd', RD9 (rr9 q kn pp) rd' ∧ ∀ n, lpS9 N tp res nm L lim fa s (n + 2) rc got (nI q.length) on (nI (kn + (pp ++ ([] : List Nat)).length)) (nI (dp + kn)) 1 st rd = f_X12_sentence_146 N tp res nm N 0 0 0 (nI L) rc.1 (nI lim) rc.2.1 rc.2.2.1 rc.2.2.2.1 rc.2.2.2.2.1 0 fa rc.2.2.2.2.2 got (nI (rr9 q kn pp).length) on 0 (nI dp) 1 st rd' (upd s 153 (nI (rr9 q kn pp).length)) := by
  obtain ⟨rd1, rd2, e1, e2, e3⟩ := sn_pop N (by omega) 22 (Or.inr rfl) (dp := dp) hR hS (pp_22 hp) (fun x S' e => by cases e) hq hl
  refine ⟨rd2, e3, fun n => ?_⟩
  unfold lpS9
  rw [f_X12_sentence_48, if_neg one0, if_neg one0, if_pos tn, e1, zcl_s]
  dsimp only
  rw [show (22 : Int32) = nI 22 from rfl, e2, zcl_s]
  dsimp only
  rw [if_pos (show nI ([] : List Nat).length ≤ 0 by decide), f_X12_sentence_48, if_pos rfl, zbn_s]
  rfl
end SNO
