/-! ===== a sentence: what 'and' and 'or' join ===== -/
theorem rr_app (q r : List (Nat × Nat × Nat)) (kn : Nat) (pp : List Nat) : rr9 (q ++ r) kn pp = q ++ rr9 r kn pp := by unfold rr9; rw [List.append_assoc]
theorem gd_k {b : MB} {r : List (Nat × Nat × Nat)} {k : Nat} (h : GD9 b r k) : r.length + 1 ≤ 2 * k := h.2.1
theorem pp_len {l : Nat} {pp : List Nat} (h : PP9 l pp) : pp.length ≤ 2 := by
  rcases h with rfl | ⟨-, rfl⟩ | ⟨-, rfl⟩ | ⟨-, rfl⟩ <;> decide
section SNP
variable {tp : Nat → Int32} {L lim sz : Nat} {K P V : Nat → Int32} {W : Nat → Int64} {res nm : Nat → Int64} {b : MB} {B : CB} {s : Nat → Int32} {fp fa : Int32}
theorem cj0 (N : Nat) (kO : FT9) (n : Nat) (x1 x3 o' k1 k2 k3 : Int32) (k4 : Int64) (fl pl k5 ln : Int32) (cd : Nat → Int32) : f_X6_readConjunction_8 N kO (nI sz) K P V W B.clocks B.meets B.clockName B.meetName (n + 1) x1 0 x3 o' k1 k2 k3 k4 fl pl k5 ln cd = some (0, o', k1, k2, k3, k4, fl, pl, k5, ln, cd) := by
  rw [f_X6_readConjunction_8]
  by_cases e : 20 < x3
  · rw [if_pos e, zbo0, zck_t]
  · rw [if_neg e, if_pos rfl, zbo0, zck_t]
theorem cn0 (N : Nat) (kO : FT9) (n : Nat) (x1 x3 o' k1 k2 k3 : Int32) (k4 : Int64) (fl pl k5 ln : Int32) (cd : Nat → Int32) : f_X6_readCondition_8 N kO (nI sz) K P V W B.clocks B.meets B.clockName B.meetName (n + 1) x1 0 x3 o' k1 k2 k3 k4 fl pl k5 ln cd = some (0, o', k1, k2, k3, k4, fl, pl, k5, ln, cd) := by
  rw [f_X6_readCondition_8]
  by_cases e : 20 < x3
  · rw [if_pos e, zbo0, zck_t]
  · rw [if_neg e, if_pos rfl, zbo0, zck_t]
theorem cj8_ok (hE : EV tp L lim sz K P V W) (N : Nat) (hN : 2010 ≤ N) {d : Nat} (hd : d ≤ 8) {kO : FT9} (hk : Sp9 N tp L lim sz K P V W res nm b B s fp fa 0 d kO) {q : List (Nat × Nat × Nat)} {o : Nat} {S : List Nat} (hq : q.length ≤ 2 * o) (hS3 : S.length + 1 ≤ 3 * d + 2) (hh : HS9 1 S) : ∀ (n c k kn i : Nat) (kc : KU) (rc : RU) (r' : List (Nat × Nat × Nat)) (pp : List Nat) (cd : Nat → Int32) (got : Int32) (st rd : Nat → Int32), CQ tp L lim sz c kc → RC tp L lim c rc → CD9 (q ++ rr9 r' kn pp) cd → RD9 (q ++ r') rd → ST9 (List.replicate kn 20 ++ (pp ++ S)) st → GD9 b (rr9 r' kn pp) k → PP9 1 pp → o + k ≤ 20 → kn + d ≤ 8 → i < k → 21 < n + k → Ou9 N tp L lim sz res nm b s fp fa 1 d q o S c (f_X6_readConjunction_8 N kO (nI sz) K P V W B.clocks B.meets B.clockName B.meetName n (nI d) 1 (nI i) (nI (o + k)) kc.1 kc.2.1 kc.2.2.1 kc.2.2.2.1 0 fp kc.2.2.2.2 (nI (q ++ rr9 r' kn pp).length) cd) (fun m => lpS9 N tp res nm L lim fa s m rc got (nI (q ++ r').length) (nI (o + k)) (nI (kn + (pp ++ S).length)) (nI (d + 1 + kn)) 1 st rd) := by
  intro n
  induction n with
  | zero => intro c k kn i kc rc r' pp cd got st rd _ _ _ _ _ _ _ hok _ _ hn; omega
  | succ n ih =>
    intro c k kn i kc rc r' pp cd got st rd h hr hC hR hT hG hP hok hkn hi hn
    have kw := (kwd_ok h hr N 15 6385252 rfl).1
    rw [show nI 15 = (15 : Int32) from rfl] at kw
    have g1 := gd_k hG
    have g2 := rr_len r' kn pp
    have g3 := pp_len hP
    have e1 : (q ++ rr9 r' kn pp).length = q.length + (rr9 r' kn pp).length := List.length_append
    have e2 : (q ++ r').length = q.length + r'.length := List.length_append
    have e3 : (pp ++ S).length = pp.length + S.length := List.length_append
    rw [f_X6_readConjunction_8, if_neg (show ¬ (20 : Int32) < nI i from nI_nlt (a := 20) (show i ≤ 20 by omega) (by omega)), if_neg one0, kw, zcl_s]
    cases hA : isK tp L lim c 6385252
    · rw [if_pos (show bI false = 0 from rfl), zbo1, zck_t]
      exact Or.inl ⟨c, k, kn, kc, rc, r', pp, cd, got, st, rd, 0, hP, rfl, h, hr, hC, hR, hT, hG, hok, hkn, fun _ => hA, fun z => absurd z (by omega), by omega, fun m => rfl⟩
    · obtain ⟨kc1, a1, a2⟩ := adv_ok hE h N
      obtain ⟨rc1, rd1, b1, b2, b3⟩ := bh_and (res := res) (nm := nm) (s := s) (fa := fa) (dp := d + 1) hE h hr N hN hA hR hT hP hh (by omega) (by omega) got (nI (o + k))
      rw [rr_app] at b2 b3
      rw [if_neg (show ¬ bI true = 0 by decide), a1, zcl_s]
      refine ou_pre (c2 := c + 1) (j0 := 1) (lp2 := fun m => lpS9 N tp res nm L lim fa s m rc1 got (nI (q ++ rr9 r' kn pp).length) (nI (o + k)) (nI (21 :: S).length) (nI (d + 1)) 0 (upd st S.length (nI 21)) rd1) (by have := (isK_tk hr hA).2; omega) b3 ?_
      rcases hk (c + 1) (o + k) kc1 rc1 (q ++ rr9 r' kn pp) (21 :: S) cd got (upd st S.length (nI 21)) rd1 a2 b1 hC b2 (sn_ps (sn_dr pp S (sn_dr (List.replicate kn 20) (pp ++ S) hT)) 21) (by omega) hok (by show S.length + 1 + 0 ≤ 3 * d + 2; omega) (fun x S' e => ⟨by have : 21 = x := (List.cons.inj e).1; omega, fun z => absurd z (by omega), fun z => absurd z (by omega)⟩) with ⟨c', k2, kn2, kc', rc', r2, pp2, cd2, got2, st2, rd2, j2, f1, f2, f3, f4, f5, f6, f7, f8, f9, f0, f10, f11, f12, f13⟩ | ⟨fl, pl, f1, ⟨o', q1, q2, q3, q4, q5, l, cd', f2, f3⟩, f4⟩
      · have hp2 : pp2 = [] := by
          rcases f1 with e | ⟨e, -⟩ | ⟨e, -⟩ | ⟨e, -⟩
          · exact e
          · omega
          · omega
          · omega
        subst hp2
        have g4 := gd_k f8
        have g5 := rr_len r2 kn2 []
        have e4 : (q ++ rr9 r' kn pp ++ rr9 r2 kn2 []).length = q.length + (rr9 r' kn pp).length + (rr9 r2 kn2 []).length := by rw [List.length_append, e1]
        obtain ⟨cd3, p1, p2⟩ := sn_put N f5 (by omega) (vk := 15) (vs := 60) (vn := 0) (21, 0, 0) 15 0 0 rfl rfl rfl rfl
        have eL : q ++ rr9 (rr9 r' kn pp ++ r2) kn2 ([] ++ [21]) = q ++ rr9 r' kn pp ++ rr9 r2 kn2 [] ++ [(21, 0, 0)] := by
          rw [rr_bin]
          simp only [List.append_assoc]
        rw [f2, zcl_s]
        dsimp only
        rw [p1, zcl_s, zbn_s, nI_1]
        refine ou_pre (c2 := c') (j0 := j2) (lp2 := fun m => lpS9 N tp res nm L lim fa s m rc' got2 (nI (q ++ (rr9 r' kn pp ++ r2)).length) (nI (o + (k + k2))) (nI (kn2 + (([] ++ [21]) ++ S).length)) (nI (d + 1 + kn2)) 1 st2 rd2) f12 (fun m => ?_) ?_
        · refine (f13 m).trans ?_
          rw [List.append_assoc q (rr9 r' kn pp) r2, Nat.add_assoc o k k2]
          rfl
        · have I := ih c' (k + k2) kn2 (i + 1) kc' rc' (rr9 r' kn pp ++ r2) ([] ++ [21]) cd3 got2 st2 rd2 f3 f4 (by rw [eL]; exact p2) (by rw [← List.append_assoc]; exact f6) f7 (by rw [rr_bin]; exact gd_bin hG f8 (Or.inl rfl)) (Or.inr (Or.inl ⟨Nat.le_refl _, rfl⟩)) (by omega) f0 (by omega) (by omega)
          rw [eL, sn_len, ← Nat.add_assoc o k k2] at I
          rw [← Nat.add_assoc o k k2]
          exact I
      · right
        obtain ⟨n, rfl⟩ : ∃ m, n = m + 1 := ⟨n - 1, by omega⟩
        obtain ⟨l', cd3, p1, p2⟩ := sn_putF N l f2 15 60 0 cd'
        rw [f3, zcl_s]
        dsimp only
        rw [p2, zcl_s, zbn_s, cj0]
        exact ⟨fl, pl, f1, ⟨_, _, _, _, _, _, l', cd3, p1, rfl⟩, f4⟩
theorem cj_ok (hE : EV tp L lim sz K P V W) (N : Nat) (hN : 2010 ≤ N) {d : Nat} (hd : d ≤ 8) {kO : FT9} (hk : Sp9 N tp L lim sz K P V W res nm b B s fp fa 0 d kO) : Sp9 N tp L lim sz K P V W res nm b B s fp fa 1 d (f_X6_readConjunction N kO) := by
  intro c o kc rc q S cd got st rd h hr hC hR hT hq ho hS3 hh
  unfold f_X6_readConjunction
  rcases hk c o kc rc q S cd got st rd h hr hC hR hT hq ho (by omega) (fun x S' e => ⟨(hh x S' e).1, fun z => absurd z (by omega), fun z => absurd z (by omega)⟩) with ⟨c', k2, kn2, kc', rc', r2, pp2, cd2, got2, st2, rd2, j2, f1, f2, f3, f4, f5, f6, f7, f8, f9, f0, f10, f11, f12, f13⟩ | ⟨fl, pl, f1, ⟨o', q1, q2, q3, q4, q5, l, cd', f2, f3⟩, f4⟩
  · have hp2 : pp2 = [] := by
      rcases f1 with e | ⟨e, -⟩ | ⟨e, -⟩ | ⟨e, -⟩
      · exact e
      · omega
      · omega
      · omega
    subst hp2
    have g4 := gd_k f8
    rw [f2, zcl_s]
    exact ou_pre (c2 := c') (j0 := j2) f12 f13 (cj8_ok hE N hN hd hk hq (by omega) hh N c' k2 kn2 0 kc' rc' r2 [] cd2 got2 st2 rd2 f3 f4 f5 f6 f7 f8 (Or.inl rfl) f9 f0 (by omega) (by omega))
  · right
    obtain ⟨n, e⟩ : ∃ m, N = m + 1 := ⟨N - 1, by omega⟩
    have cc := cj0 (sz := sz) (K := K) (P := P) (V := V) (W := W) (B := B) N kO n (nI d) 0 o' q1 q2 q3 q4 fl pl q5 (nI l) cd'
    rw [← e] at cc
    rw [f3, zcl_s]
    dsimp only
    rw [cc]
    exact ⟨fl, pl, f1, ⟨_, _, _, _, _, _, l, cd', f2, rfl⟩, f4⟩
theorem cn8_ok (hE : EV tp L lim sz K P V W) (N : Nat) (hN : 2010 ≤ N) {d : Nat} (hd : d ≤ 8) {kO : FT9} (hk : Sp9 N tp L lim sz K P V W res nm b B s fp fa 1 d (f_X6_readConjunction N kO)) {q : List (Nat × Nat × Nat)} {o : Nat} {S : List Nat} (hq : q.length ≤ 2 * o) (hS3 : S.length + 2 ≤ 3 * d + 2) (hh : HS9 2 S) : ∀ (n c k kn i : Nat) (kc : KU) (rc : RU) (r' : List (Nat × Nat × Nat)) (pp : List Nat) (cd : Nat → Int32) (got : Int32) (st rd : Nat → Int32), CQ tp L lim sz c kc → RC tp L lim c rc → CD9 (q ++ rr9 r' kn pp) cd → RD9 (q ++ r') rd → ST9 (List.replicate kn 20 ++ (pp ++ S)) st → GD9 b (rr9 r' kn pp) k → PP9 2 pp → o + k ≤ 20 → kn + d ≤ 8 → isK tp L lim c 6385252 = false → i < k → 21 < n + k → Ou9 N tp L lim sz res nm b s fp fa 2 d q o S c (f_X6_readCondition_8 N kO (nI sz) K P V W B.clocks B.meets B.clockName B.meetName n (nI d) 1 (nI i) (nI (o + k)) kc.1 kc.2.1 kc.2.2.1 kc.2.2.2.1 0 fp kc.2.2.2.2 (nI (q ++ rr9 r' kn pp).length) cd) (fun m => lpS9 N tp res nm L lim fa s m rc got (nI (q ++ r').length) (nI (o + k)) (nI (kn + (pp ++ S).length)) (nI (d + 1 + kn)) 1 st rd) := by
  intro n
  induction n with
  | zero => intro c k kn i kc rc r' pp cd got st rd _ _ _ _ _ _ _ hok _ _ _ hn; omega
  | succ n ih =>
    intro c k kn i kc rc r' pp cd got st rd h hr hC hR hT hG hP hok hkn hA hi hn
    have kw := (kwd_ok h hr N 14 28530 rfl).1
    rw [show nI 14 = (14 : Int32) from rfl] at kw
    have g1 := gd_k hG
    have g2 := rr_len r' kn pp
    have g3 := pp_len hP
    have e1 : (q ++ rr9 r' kn pp).length = q.length + (rr9 r' kn pp).length := List.length_append
    have e2 : (q ++ r').length = q.length + r'.length := List.length_append
    have e3 : (pp ++ S).length = pp.length + S.length := List.length_append
    rw [f_X6_readCondition_8, if_neg (show ¬ (20 : Int32) < nI i from nI_nlt (a := 20) (show i ≤ 20 by omega) (by omega)), if_neg one0, kw, zcl_s]
    cases hO : isK tp L lim c 28530
    · rw [if_pos (show bI false = 0 from rfl), zbo1, zck_t]
      exact Or.inl ⟨c, k, kn, kc, rc, r', pp, cd, got, st, rd, 0, hP, rfl, h, hr, hC, hR, hT, hG, hok, hkn, fun _ => hA, fun _ => hO, by omega, fun m => rfl⟩
    · obtain ⟨kc1, a1, a2⟩ := adv_ok hE h N
      obtain ⟨rc1, rd1, b1, b2, b3⟩ := bh_or (res := res) (nm := nm) (s := s) (fa := fa) (dp := d + 1) hE h hr N hN hA hO hR hT hP hh (by omega) (by omega) got (nI (o + k))
      rw [rr_app] at b2 b3
      rw [if_neg (show ¬ bI true = 0 by decide), a1, zcl_s]
      refine ou_pre (c2 := c + 1) (j0 := 1) (lp2 := fun m => lpS9 N tp res nm L lim fa s m rc1 got (nI (q ++ rr9 r' kn pp).length) (nI (o + k)) (nI (22 :: S).length) (nI (d + 1)) 0 (upd st S.length (nI 22)) rd1) (by have := (isK_tk hr hO).2; omega) b3 ?_
      rcases hk (c + 1) (o + k) kc1 rc1 (q ++ rr9 r' kn pp) (22 :: S) cd got (upd st S.length (nI 22)) rd1 a2 b1 hC b2 (sn_ps (sn_dr pp S (sn_dr (List.replicate kn 20) (pp ++ S) hT)) 22) (by omega) hok (by show S.length + 1 + 1 ≤ 3 * d + 2; omega) (fun x S' e => by have : 22 = x := (List.cons.inj e).1; exact ⟨by omega, fun _ => ⟨by omega, by omega⟩, fun z => absurd z (by omega)⟩) with ⟨c', k2, kn2, kc', rc', r2, pp2, cd2, got2, st2, rd2, j2, f1, f2, f3, f4, f5, f6, f7, f8, f9, f0, f10, f11, f12, f13⟩ | ⟨fl, pl, f1, ⟨o', q1, q2, q3, q4, q5, l, cd', f2, f3⟩, f4⟩
      · have hp2 : PP9 2 (pp2 ++ [22]) := by
          rcases f1 with rfl | ⟨-, rfl⟩ | ⟨e, -⟩ | ⟨e, -⟩
          · exact Or.inr (Or.inr (Or.inl ⟨Nat.le_refl _, rfl⟩))
          · exact Or.inr (Or.inr (Or.inr ⟨Nat.le_refl _, rfl⟩))
          · omega
          · omega
        have g4 := gd_k f8
        have g5 := rr_len r2 kn2 pp2
        have e4 : (q ++ rr9 r' kn pp ++ rr9 r2 kn2 pp2).length = q.length + (rr9 r' kn pp).length + (rr9 r2 kn2 pp2).length := by rw [List.length_append, e1]
        obtain ⟨cd3, p1, p2⟩ := sn_put N f5 (by omega) (vk := 14) (vs := 60) (vn := 0) (22, 0, 0) 14 0 0 rfl rfl rfl rfl
        have eL : q ++ rr9 (rr9 r' kn pp ++ r2) kn2 (pp2 ++ [22]) = q ++ rr9 r' kn pp ++ rr9 r2 kn2 pp2 ++ [(22, 0, 0)] := by
          rw [rr_bin]
          simp only [List.append_assoc]
        have eS : (pp2 ++ [22]) ++ S = pp2 ++ 22 :: S := by rw [List.append_assoc]; rfl
        rw [f2, zcl_s]
        dsimp only
        rw [p1, zcl_s, zbn_s, nI_1]
        refine ou_pre (c2 := c') (j0 := j2) (lp2 := fun m => lpS9 N tp res nm L lim fa s m rc' got2 (nI (q ++ (rr9 r' kn pp ++ r2)).length) (nI (o + (k + k2))) (nI (kn2 + ((pp2 ++ [22]) ++ S).length)) (nI (d + 1 + kn2)) 1 st2 rd2) f12 (fun m => ?_) ?_
        · refine (f13 m).trans ?_
          rw [List.append_assoc q (rr9 r' kn pp) r2, Nat.add_assoc o k k2, eS]
        · have I := ih c' (k + k2) kn2 (i + 1) kc' rc' (rr9 r' kn pp ++ r2) (pp2 ++ [22]) cd3 got2 st2 rd2 f3 f4 (by rw [eL]; exact p2) (by rw [← List.append_assoc]; exact f6) (by rw [eS]; exact f7) (by rw [rr_bin]; exact gd_bin hG f8 (Or.inr rfl)) hp2 (by omega) f0 (f10 (Nat.le_refl _)) (by omega) (by omega)
          rw [eL, sn_len, ← Nat.add_assoc o k k2] at I
          rw [← Nat.add_assoc o k k2]
          exact I
      · right
        obtain ⟨n, rfl⟩ : ∃ m, n = m + 1 := ⟨n - 1, by omega⟩
        obtain ⟨l', cd3, p1, p2⟩ := sn_putF N l f2 14 60 0 cd'
        rw [f3, zcl_s]
        dsimp only
        rw [p2, zcl_s, zbn_s, cn0]
        exact ⟨fl, pl, f1, ⟨_, _, _, _, _, _, l', cd3, p1, rfl⟩, f4⟩
theorem cn_ok (hE : EV tp L lim sz K P V W) (N : Nat) (hN : 2010 ≤ N) {d : Nat} (hd : d ≤ 8) {kO : FT9} (hk : Sp9 N tp L lim sz K P V W res nm b B s fp fa 0 d kO) : Sp9 N tp L lim sz K P V W res nm b B s fp fa 2 d (f_X6_readCondition N kO) := by
  have hj := cj_ok hE N hN hd hk
  intro c o kc rc q S cd got st rd h hr hC hR hT hq ho hS3 hh
  unfold f_X6_readCondition
  rcases hj c o kc rc q S cd got st rd h hr hC hR hT hq ho (by omega) (fun x S' e => ⟨(hh x S' e).1, fun _ => (hh x S' e).2.1 (by omega), fun z => absurd z (by omega)⟩) with ⟨c', k2, kn2, kc', rc', r2, pp2, cd2, got2, st2, rd2, j2, f1, f2, f3, f4, f5, f6, f7, f8, f9, f0, f10, f11, f12, f13⟩ | ⟨fl, pl, f1, ⟨o', q1, q2, q3, q4, q5, l, cd', f2, f3⟩, f4⟩
  · have hp2 : PP9 2 pp2 := by
      rcases f1 with e | ⟨-, e⟩ | ⟨e, -⟩ | ⟨e, -⟩
      · exact Or.inl e
      · exact Or.inr (Or.inl ⟨by omega, e⟩)
      · omega
      · omega
    have g4 := gd_k f8
    rw [f2, zcl_s]
    exact ou_pre (c2 := c') (j0 := j2) f12 f13 (cn8_ok hE N hN hd hj hq (by omega) hh N c' k2 kn2 0 kc' rc' r2 pp2 cd2 got2 st2 rd2 f3 f4 f5 f6 f7 f8 hp2 f9 f0 (f10 (Nat.le_refl _)) (by omega) (by omega))
  · right
    obtain ⟨n, e⟩ : ∃ m, N = m + 1 := ⟨N - 1, by omega⟩
    have cc := cn0 (sz := sz) (K := K) (P := P) (V := V) (W := W) (B := B) N kO n (nI d) 0 o' q1 q2 q3 q4 fl pl q5 (nI l) cd'
    rw [← e] at cc
    rw [f3, zcl_s]
    dsimp only
    rw [cc]
    exact ⟨fl, pl, f1, ⟨_, _, _, _, _, _, l, cd', f2, rfl⟩, f4⟩
end SNP
