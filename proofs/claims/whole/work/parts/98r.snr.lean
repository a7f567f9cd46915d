/-! ===== a sentence: one part ===== -/
theorem rr_nil (r : List (Nat × Nat × Nat)) : rr9 r 0 [] = r := by unfold rr9; exact List.append_nil r
theorem kw9_l {w : Nat} (h : w ≤ 8) : kw9 w = 17 + w := by unfold kw9; rw [if_neg (by omega), if_neg (by omega), if_neg (by omega)]
section SNR
variable {tp : Nat → Int32} {L lim sz c d o : Nat} {K P V : Nat → Int32} {W : Nat → Int64} {kc : KU} {rc : RU} {res nm : Nat → Int64} {b : MB} {B : CB} {s : Nat → Int32} {fp fa got x2 z4 z11 z16 : Int32} {kO : FT9} {q : List (Nat × Nat × Nat)} {S : List Nat} {cd st rd : Nat → Int32}
theorem four_c (N : Nat) (hd : d ≤ 8) (ho : o ≤ 20) (hx : o = 20 ∨ d = 8) : (f_X6_readOne_58 N kO (nI sz) K P V W B.clocks B.meets B.clockName B.meetName (nI d) x2 (nI o) kc.1 kc.2.1 kc.2.2.1 kc.2.2.2.1 0 fp kc.2.2.2.2 (nI q.length) cd) = some (0, nI o, kc.1, kc.2.1, kc.2.2.1, kc.2.2.2.1, 4, kc.2.1, kc.2.2.2.2, nI q.length, cd) := by
  have e : f_X6_readOne_73 N kO (nI sz) K P V W B.clocks B.meets B.clockName B.meetName (nI o) kc.1 kc.2.1 kc.2.2.1 kc.2.2.2.1 0 fp kc.2.2.2.2 (nI q.length) cd = some (0, nI o, kc.1, kc.2.1, kc.2.2.1, kc.2.2.2.1, 4, kc.2.1, kc.2.2.2.2, nI q.length, cd) := by
    unfold f_X6_readOne_73
    rw [ref0, zcl_s]
    dsimp only
    rw [zbo0, zck_t]
  unfold f_X6_readOne_58
  by_cases a : o = 20
  · rw [if_pos (show (20 : Int32) ≤ nI o by rw [a]; decide), e]
  · have a8 : d = 8 := by rcases hx with z | z <;> omega
    rw [if_neg (show ¬ (20 : Int32) ≤ nI o from nI_ge (b := 20) (show o < 20 by omega) (by omega)), if_neg (show ¬ nI d < 8 by rw [a8]; decide), e]
theorem four_r (N : Nat) (hd : d ≤ 8) (ho : o ≤ 20) (hx : o = 20 ∨ d = 8) : f_X12_operand_38 N (nI L) (nI lim) tp s res nm z4 z11 z16 rc.1 rc.2.1 rc.2.2.1 rc.2.2.2.1 rc.2.2.2.2.1 0 fa rc.2.2.2.2.2 got (nI q.length) (nI o) (nI S.length) (nI (d + 1)) 0 st rd = some (0, rc.1, rc.2.1, rc.2.2.1, rc.2.2.2.1, rc.2.2.2.2.1, 4, rc.2.2.1, rc.2.2.2.2.2, got, nI q.length, nI o, nI S.length, nI (d + 1), 0, st, rd) := by
  unfold f_X12_operand_38 f_X12_operand_56 f_X12_bad
  by_cases a : o = 20
  · rw [if_pos (show nI o = 20 by rw [a]; rfl), zcl_s]
    dsimp only
    rw [zbo0, zck_t]
  · have a8 : d = 8 := by rcases hx with z | z <;> omega
    rw [if_neg (show ¬ nI o = 20 from nk9 (b := 20) (by omega) (by omega) a), if_neg (show ¬ nI (d + 1) ≤ 8 by rw [a8]; decide), zcl_s]
    dsimp only
    rw [zbo0, zck_t]
/-- not -/
theorem one_not (hE : EV tp L lim sz K P V W) (N : Nat) (hN : 2010 ≤ N) (hd : d < 8) (ho : o < 20) (h : CQ tp L lim sz c kc) (hr : RC tp L lim c rc) (hC : CD9 q cd) (hR : RD9 q rd) (hT : ST9 S st) (hq : q.length ≤ 2 * o) (hS3 : S.length ≤ 3 * d + 2) (hps : ps9 tp L lim c + 1 ≤ ps9 tp L lim (c + 1)) (hk : Sp9 N tp L lim sz K P V W res nm b B s fp fa 0 (d + 1) kO) (e38 : f_X12_operand N (nI L) rc.1 (nI lim) rc.2.1 rc.2.2.1 rc.2.2.2.1 rc.2.2.2.2.1 0 fa rc.2.2.2.2.2 got (nI q.length) (nI o) (nI S.length) (nI (d + 1)) 0 tp st rd s res nm = f_X12_operand_38 N (nI L) (nI lim) tp s res nm z4 z11 z16 rc.1 rc.2.1 rc.2.2.1 rc.2.2.2.1 rc.2.2.2.2.1 0 fa rc.2.2.2.2.2 got (nI q.length) (nI o) (nI S.length) (nI (d + 1)) 0 st rd) (hz : ¬ z4 = 0) (hx : x2 = 0) (vj : kc.2.2.1 = 16) : Ou9 N tp L lim sz res nm b s fp fa 0 d q o S c (f_X6_readOne_58 N kO (nI sz) K P V W B.clocks B.meets B.clockName B.meetName (nI d) x2 (nI o) kc.1 kc.2.1 kc.2.2.1 kc.2.2.2.1 0 fp kc.2.2.2.2 (nI q.length) cd) (fun n => lpS9 N tp res nm L lim fa s n rc got (nI q.length) (nI o) (nI S.length) (nI (d + 1)) 0 st rd) := by
  obtain ⟨kc1, a1, a2⟩ := adv_ok hE h N
  obtain ⟨rc1, n1, n2⟩ := nex_ok hE hr N hN
  have R : f_X12_operand N (nI L) rc.1 (nI lim) rc.2.1 rc.2.2.1 rc.2.2.2.1 rc.2.2.2.2.1 0 fa rc.2.2.2.2.2 got (nI q.length) (nI o) (nI S.length) (nI (d + 1)) 0 tp st rd s res nm = some (1, rc1.1, rc1.2.1, rc1.2.2.1, rc1.2.2.2.1, rc1.2.2.2.2.1, 0, fa, rc1.2.2.2.2.2, got, nI q.length, nI (o + 1), nI (20 :: S).length, nI (d + 1 + 1), 0, upd st S.length (nI 20), rd) := by
    rw [e38]
    unfold f_X12_operand_38 f_X12_operand_84 f_X12_operand_103
    rw [if_neg (show ¬ nI o = 20 from nk9 (b := 20) (by omega) (by omega) (by omega)), if_pos (show nI (d + 1) ≤ 8 from nI_le (b := 8) (show d + 1 ≤ 8 by omega) (by omega)), zbn_s, nI_1 o, n1, zcl_s, if_neg hz, if_neg hz, zin_nI (show S.length < 45 by omega) (by omega), zck_t, zbn_s, zbn_s, zbn_s, nI_1, nI_1, cl_n (show S.length < 2147483648 by omega)]
    rfl
  unfold f_X6_readOne_58
  rw [if_neg (show ¬ (20 : Int32) ≤ nI o from nI_ge (b := 20) ho (by omega)), if_pos (show nI d < 8 from nI_lt (b := 8) hd (by omega)), zbn_s, nI_1 o, a1, zcl_s, if_pos hx, if_pos vj, show nI d + 1 = nI (d + 1) from nI_1 d]
  refine ou_pre (c2 := c + 1) (j0 := 1) (lp2 := fun m => lpS9 N tp res nm L lim fa s m rc1 got (nI q.length) (nI (o + 1)) (nI (20 :: S).length) (nI (d + 1 + 1)) 0 (upd st S.length (nI 20)) rd) (by omega) (fun m => lp_op N m R) ?_
  rcases hk (c + 1) (o + 1) kc1 rc1 q (20 :: S) cd got (upd st S.length (nI 20)) rd a2 n2 hC hR (sn_ps hT 20) (by omega) (by omega) (by show S.length + 1 + 0 ≤ 3 * (d + 1) + 2; omega) (fun x S' e => ⟨by have : 20 = x := (List.cons.inj e).1; omega, fun z => absurd z (by omega), fun z => absurd z (by omega)⟩) with ⟨c', k, kn, kc', rc', r', pp, cd', got', st', rd', j, f1, f2, f3, f4, f5, f6, f7, f8, f9, f0, f10, f11, f12, f13⟩ | ⟨fl, pl, f1, ⟨o', q1, q2, q3, q4, q5, l, cd', f2, f3⟩, f4⟩
  · have hp2 : pp = [] := by
      rcases f1 with e | ⟨e, -⟩ | ⟨e, -⟩ | ⟨e, -⟩
      · exact e
      · omega
      · omega
      · omega
    subst hp2
    have g4 := gd_k f8
    have e4 : (q ++ rr9 r' kn []).length = q.length + (rr9 r' kn []).length := List.length_append
    obtain ⟨cd3, p1, p2⟩ := sn_put N f5 (by omega) (vk := 16) (vs := 60) (vn := 0) (20, 0, 0) 16 0 0 rfl rfl rfl rfl
    have eL : q ++ rr9 r' (kn + 1) [] = q ++ rr9 r' kn [] ++ [(20, 0, 0)] := by rw [rr_not, List.append_assoc]
    have eS : List.replicate (kn + 1) 20 ++ ([] ++ S) = List.replicate kn 20 ++ ([] ++ 20 :: S) := by rw [List.replicate_succ', List.append_assoc]; rfl
    rw [f2, zcl_s]
    dsimp only
    rw [p1, zcl_s, zbo1, zck_t]
    refine Or.inl ⟨c', k + 1, kn + 1, kc', rc', r', [], cd3, got', st', rd', j, Or.inl rfl, ?_, f3, f4, by rw [eL]; exact p2, f6, by rw [eS]; exact f7, by rw [rr_not]; exact gd_not f8, by omega, by omega, fun z => absurd z (by omega), fun z => absurd z (by omega), f12, fun m => ?_⟩
    · rw [eL, sn_len, show o + (k + 1) = o + 1 + k by omega]
    · refine (f13 m).trans ?_
      rw [show o + (k + 1) = o + 1 + k by omega, show kn + 1 + (([] : List Nat) ++ S).length = kn + (([] : List Nat) ++ 20 :: S).length by show kn + 1 + S.length = kn + (S.length + 1); omega, show d + 1 + (kn + 1) = d + 1 + 1 + kn by omega]
  · right
    obtain ⟨l', cd3, p1, p2⟩ := sn_putF N l f2 16 60 0 cd'
    rw [f3, zcl_s]
    dsimp only
    rw [p2, zcl_s, zbo0, zck_t]
    exact ⟨fl, pl, f1, ⟨_, _, _, _, _, _, l', cd3, p1, rfl⟩, f4⟩
/-- a bracket -/
theorem one_open (hE : EV tp L lim sz K P V W) (N : Nat) (hN : 2010 ≤ N) (hd : d < 8) (ho : o < 20) (h : CQ tp L lim sz c kc) (hr : RC tp L lim c rc) (hC : CD9 q cd) (hR : RD9 q rd) (hT : ST9 S st) (hq : q.length ≤ 2 * o) (hS3 : S.length ≤ 3 * d + 2) (hps : ps9 tp L lim c + 1 ≤ ps9 tp L lim (c + 1)) (hk : Sp9 N tp L lim sz K P V W res nm b B s fp fa 2 (d + 1) (f_X6_readCondition N kO)) (e38 : f_X12_operand N (nI L) rc.1 (nI lim) rc.2.1 rc.2.2.1 rc.2.2.2.1 rc.2.2.2.2.1 0 fa rc.2.2.2.2.2 got (nI q.length) (nI o) (nI S.length) (nI (d + 1)) 0 tp st rd s res nm = f_X12_operand_38 N (nI L) (nI lim) tp s res nm z4 z11 z16 rc.1 rc.2.1 rc.2.2.1 rc.2.2.2.1 rc.2.2.2.2.1 0 fa rc.2.2.2.2.2 got (nI q.length) (nI o) (nI S.length) (nI (d + 1)) 0 st rd) (hz4 : z4 = 0) (hz11 : ¬ z11 = 0) (hx : ¬ x2 = 0) : Ou9 N tp L lim sz res nm b s fp fa 0 d q o S c (f_X6_readOne_58 N kO (nI sz) K P V W B.clocks B.meets B.clockName B.meetName (nI d) x2 (nI o) kc.1 kc.2.1 kc.2.2.1 kc.2.2.2.1 0 fp kc.2.2.2.2 (nI q.length) cd) (fun n => lpS9 N tp res nm L lim fa s n rc got (nI q.length) (nI o) (nI S.length) (nI (d + 1)) 0 st rd) := by
  obtain ⟨kc1, a1, a2⟩ := adv_ok hE h N
  obtain ⟨rc1, n1, n2⟩ := nex_ok hE hr N hN
  have R : f_X12_operand N (nI L) rc.1 (nI lim) rc.2.1 rc.2.2.1 rc.2.2.2.1 rc.2.2.2.2.1 0 fa rc.2.2.2.2.2 got (nI q.length) (nI o) (nI S.length) (nI (d + 1)) 0 tp st rd s res nm = some (1, rc1.1, rc1.2.1, rc1.2.2.1, rc1.2.2.2.1, rc1.2.2.2.2.1, 0, fa, rc1.2.2.2.2.2, got, nI q.length, nI (o + 1), nI (23 :: S).length, nI (d + 1 + 1), 0, upd st S.length (nI 23), rd) := by
    rw [e38]
    unfold f_X12_operand_38 f_X12_operand_84 f_X12_operand_103
    rw [if_neg (show ¬ nI o = 20 from nk9 (b := 20) (by omega) (by omega) (by omega)), if_pos (show nI (d + 1) ≤ 8 from nI_le (b := 8) (show d + 1 ≤ 8 by omega) (by omega)), zbn_s, nI_1 o, n1, zcl_s, if_pos hz4, if_neg hz11, if_pos hz4, zin_nI (show S.length < 45 by omega) (by omega), zck_t, zbn_s, zbn_s, zbn_s, nI_1, nI_1, cl_n (show S.length < 2147483648 by omega)]
    rfl
  unfold f_X6_readOne_58
  rw [if_neg (show ¬ (20 : Int32) ≤ nI o from nI_ge (b := 20) ho (by omega)), if_pos (show nI d < 8 from nI_lt (b := 8) hd (by omega)), zbn_s, nI_1 o, a1, zcl_s, if_neg hx, show nI d + 1 = nI (d + 1) from nI_1 d]
  refine ou_pre (c2 := c + 1) (j0 := 1) (lp2 := fun m => lpS9 N tp res nm L lim fa s m rc1 got (nI q.length) (nI (o + 1)) (nI (23 :: S).length) (nI (d + 1 + 1)) 0 (upd st S.length (nI 23)) rd) (by omega) (fun m => lp_op N m R) ?_
  have hh : HS9 2 (23 :: S) := fun x S' e => by have : 23 = x := (List.cons.inj e).1; exact ⟨by omega, fun _ => ⟨by omega, by omega⟩, fun _ => by omega⟩
  rcases hk (c + 1) (o + 1) kc1 rc1 q (23 :: S) cd got (upd st S.length (nI 23)) rd a2 n2 hC hR (sn_ps hT 23) (by omega) (by omega) (by show S.length + 1 + 2 ≤ 3 * (d + 1) + 2; omega) hh with ⟨c', k, kn, kc', rc', r', pp, cd', got', st', rd', j, f1, f2, f3, f4, f5, f6, f7, f8, f9, f0, f10, f11, f12, f13⟩ | ⟨fl, pl, f1, ⟨o', q1, q2, q3, q4, q5, l, cd', f2, f3⟩, f4⟩
  · have g1 := gd_k f8
    have g2 := rr_len r' kn pp
    have g3 := pp_len f1
    have e1 : (q ++ rr9 r' kn pp).length = q.length + (rr9 r' kn pp).length := List.length_append
    have e2 : (q ++ r').length = q.length + r'.length := List.length_append
    have e3 : (pp ++ 23 :: S).length = pp.length + (S.length + 1) := List.length_append
    rw [f2, zcl_s]
    dsimp only
    rw [if_neg one0]
    cases hY : isY tp L lim c' 41
    · right
      have ts := tsy_f (K := K) (P := P) (V := V) (W := W) f3 f4 N 41 fp hY
      rw [show nI 41 = (41 : Int32) from rfl] at ts
      rw [ts, zcl_s]
      dsimp only
      rw [if_pos rfl]
      refine ⟨1, rc'.2.2.1, one0, ⟨_, _, _, _, _, _, _, cd', by omega, rfl⟩, fun n hn => ?_⟩
      have h2 := ps9_le (tp := tp) (L := L) (lim := lim) c'
      obtain ⟨m, rfl⟩ : ∃ m, n = m + 1 + j := ⟨n - 1 - j, by omega⟩
      refine Eq.mpr (congrArg (FL9 s L lim 1 rc'.2.2.1) (f13 (m + 1))) ?_
      exact bh_no f3 f4 N hN (f10 (by omega)) (f11 (Nat.le_refl _)) f6 f7 f1 hh (by omega) (by omega) (Or.inl ⟨fun z => (by cases z), hY⟩) got' _ m
    · left
      obtain ⟨kc2, t1, t2⟩ := tsy_t hE f3 f4 N 41 fp hY
      rw [show nI 41 = (41 : Int32) from rfl] at t1
      obtain ⟨rc2, rd2, b1, b2, b4, b3⟩ := bh_cl (res := res) (nm := nm) (s := s) (fa := fa) (dp := d + 1) hE f3 f4 N hN (f10 (by omega)) (f11 (Nat.le_refl _)) hY f6 f7 f1 (by omega) (by omega) got' (nI (o + 1 + k))
      rw [rr_app] at b2 b3
      rw [t1, zcl_s]
      dsimp only
      rw [if_neg one0]
      refine ⟨c' + 1, k + 1, 0, kc2, rc2, rr9 r' kn pp, [], cd', got', st', rd2, j + 1, Or.inl rfl, ?_, t2, b1, by rw [rr_nil]; exact f5, b2, (sn_dr pp (23 :: S) (sn_dr (List.replicate kn 20) (pp ++ 23 :: S) f7)).2, by rw [rr_nil]; exact gd_wrap f8, by omega, by omega, fun z => absurd z (by omega), fun z => absurd z (by omega), by omega, fun m => ?_⟩
      · rw [rr_nil, show o + (k + 1) = o + 1 + k by omega]
      · rw [show m + (j + 1) = m + 1 + j by omega]
        refine (f13 (m + 1)).trans ((b3 m).trans ?_)
        rw [show o + (k + 1) = o + 1 + k by omega, show 0 + (([] : List Nat) ++ S).length = S.length from Nat.zero_add _]
  · right
    rw [f3, zcl_s]
    dsimp only
    rw [if_pos rfl]
    exact ⟨fl, pl, f1, ⟨_, _, _, _, _, _, l, cd', f2, rfl⟩, f4⟩
/-- what stands by itself -/
theorem one_leaf (hE : EV tp L lim sz K P V W) (N : Nat) (hN : 2010 ≤ N) (hd : d < 8) (ho : o < 20) (h : CQ tp L lim sz c kc) (hr : RC tp L lim c rc) (hC : CD9 q cd) (hR : RD9 q rd) (hT : ST9 S st) (hq : q.length ≤ 2 * o) (hS3 : S.length ≤ 3 * d + 2) (hps : ps9 tp L lim c + 1 ≤ ps9 tp L lim (c + 1)) {w : Nat} (hw : w < 3) (e38 : f_X12_operand N (nI L) rc.1 (nI lim) rc.2.1 rc.2.2.1 rc.2.2.2.1 rc.2.2.2.2.1 0 fa rc.2.2.2.2.2 got (nI q.length) (nI o) (nI S.length) (nI (d + 1)) 0 tp st rd s res nm = f_X12_operand_38 N (nI L) (nI lim) tp s res nm z4 z11 z16 rc.1 rc.2.1 rc.2.2.1 rc.2.2.2.1 rc.2.2.2.2.1 0 fa rc.2.2.2.2.2 got (nI q.length) (nI o) (nI S.length) (nI (d + 1)) 0 st rd) (hz4 : z4 = 0) (hz11 : z11 = 0) (hz16 : z16 = nI w) (hx : x2 = 0) (vj : kc.2.2.1 = nI (17 + w)) : Ou9 N tp L lim sz res nm b s fp fa 0 d q o S c (f_X6_readOne_58 N kO (nI sz) K P V W B.clocks B.meets B.clockName B.meetName (nI d) x2 (nI o) kc.1 kc.2.1 kc.2.2.1 kc.2.2.2.1 0 fp kc.2.2.2.2 (nI q.length) cd) (fun n => lpS9 N tp res nm L lim fa s n rc got (nI q.length) (nI o) (nI S.length) (nI (d + 1)) 0 st rd) := by
  obtain ⟨kc1, a1, a2⟩ := adv_ok hE h N
  obtain ⟨rc1, n1, n2⟩ := nex_ok hE hr N hN
  obtain ⟨rd2, c1, c2⟩ := sn_code N hR (by omega) (va := nI w) (vb := 0) (vc := 0) w 0 0 rfl rfl rfl
  obtain ⟨cd2, p1, p2⟩ := sn_put N hC (by omega) (vk := nI (17 + w)) (vs := 60) (vn := zmax 0 0) (w, 0, 0) (17 + w) 0 0 rfl rfl rfl (by unfold en9; dsimp only; rw [kw9_l (show w ≤ 8 by omega)])
  have R : f_X12_operand N (nI L) rc.1 (nI lim) rc.2.1 rc.2.2.1 rc.2.2.2.1 rc.2.2.2.2.1 0 fa rc.2.2.2.2.2 got (nI q.length) (nI o) (nI S.length) (nI (d + 1)) 0 tp st rd s res nm = some (1, rc1.1, rc1.2.1, rc1.2.2.1, rc1.2.2.2.1, rc1.2.2.2.2.1, 0, fa, rc1.2.2.2.2.2, got, nI (q.length + 1), nI (o + 1), nI S.length, nI (d + 1), 1, st, rd2) := by
    rw [e38]
    unfold f_X12_operand_38
    rw [if_neg (show ¬ nI o = 20 from nk9 (b := 20) (by omega) (by omega) (by omega)), if_pos (show nI (d + 1) ≤ 8 from nI_le (b := 8) (show d + 1 ≤ 8 by omega) (by omega)), zbn_s, nI_1 o, n1, zcl_s, if_pos hz4, if_pos hz11, hz16, if_neg (show ¬ (3 : Int32) ≤ nI w from nI_ge (b := 3) hw (by omega)), c1, zcl_s]
  unfold f_X6_readOne_58
  rw [if_neg (show ¬ (20 : Int32) ≤ nI o from nI_ge (b := 20) ho (by omega)), if_pos (show nI d < 8 from nI_lt (b := 8) hd (by omega)), zbn_s, nI_1 o, a1, zcl_s, if_pos hx, vj, if_neg (show ¬ nI (17 + w) = 16 from nk9 (b := 16) (by omega) (by omega) (by omega)), if_pos (show nI (17 + w) < 22 from nI_lt (b := 22) (by omega) (by omega))]
  unfold f_X6_readSingle f_X6_readSingle_75
  rw [if_neg (show ¬ nI (17 + w) = 20 from nk9 (b := 20) (by omega) (by omega) (by omega)), if_neg (show ¬ nI (17 + w) = 21 from nk9 (b := 21) (by omega) (by omega) (by omega)), p1, zcl_s, if_neg (show ¬ (0 : Int32) = -1 by decide), zcl_s]
  dsimp only
  rw [zbo1, zck_t]
  refine Or.inl ⟨c + 1, 1, 0, kc1, rc1, [(w, 0, 0)], [], cd2, got, st, rd2, 1, Or.inl rfl, ?_, a2, n2, by rw [rr_nil]; exact p2, c2, hT, by rw [rr_nil]; exact gd_leaf ⟨Or.inl (show w ≤ 8 by omega), fun z => absurd z.1 (show ¬ 5 ≤ w by omega), fun _ => rfl, Nat.zero_le _, fun z => absurd z (show ¬ w = 3 by omega), fun z => absurd z (show ¬ w = 4 by omega)⟩ (show w ≤ 8 by omega), by omega, by omega, fun z => absurd z (by omega), fun z => absurd z (by omega), by omega, fun m => ?_⟩
  · rw [rr_nil, sn_len]
  · rw [sn_len, show 0 + (([] : List Nat) ++ S).length = S.length from Nat.zero_add _]
    exact lp_op N m R
end SNR
