/-! ===== a sentence: names and numbers ===== -/
section SNS
variable {tp : Nat → Int32} {L lim sz c d o : Nat} {K P V : Nat → Int32} {W : Nat → Int64} {kc : KU} {rc : RU} {res nm : Nat → Int64} {b : MB} {B : CB} {s : Nat → Int32} {fp fa got x2 z4 z11 z16 : Int32} {kO : FT9} {q : List (Nat × Nat × Nat)} {S : List Nat} {cd st rd : Nat → Int32}
theorem one_by (hE : EV tp L lim sz K P V W) (N : Nat) (hN : 2010 ≤ N) (hd : d < 8) (ho : o < 20) (h : CQ tp L lim sz c kc) (hr : RC tp L lim c rc) (hC : CD9 q cd) (hR : RD9 q rd) (hT : ST9 S st) (hq : q.length ≤ 2 * o) (hS3 : S.length ≤ 3 * d + 2) (hps : ps9 tp L lim c + 1 ≤ ps9 tp L lim (c + 1)) (hv : RV res) (H : BR b B s nm) (e38 : f_X12_operand N (nI L) rc.1 (nI lim) rc.2.1 rc.2.2.1 rc.2.2.2.1 rc.2.2.2.2.1 0 fa rc.2.2.2.2.2 got (nI q.length) (nI o) (nI S.length) (nI (d + 1)) 0 tp st rd s res nm = f_X12_operand_38 N (nI L) (nI lim) tp s res nm z4 z11 z16 rc.1 rc.2.1 rc.2.2.1 rc.2.2.2.1 rc.2.2.2.2.1 0 fa rc.2.2.2.2.2 got (nI q.length) (nI o) (nI S.length) (nI (d + 1)) 0 st rd) (hz4 : z4 = 0) (hz11 : z11 = 0) (hz16 : z16 = 3) (hx : x2 = 0) (vj : kc.2.2.1 = 20) : Ou9 N tp L lim sz res nm b s fp fa 0 d q o S c (f_X6_readOne_58 N kO (nI sz) K P V W B.clocks B.meets B.clockName B.meetName (nI d) x2 (nI o) kc.1 kc.2.1 kc.2.2.1 kc.2.2.2.1 0 fp kc.2.2.2.2 (nI q.length) cd) (fun n => lpS9 N tp res nm L lim fa s n rc got (nI q.length) (nI o) (nI S.length) (nI (d + 1)) 0 st rd) := by
  obtain ⟨kc1, a1, a2⟩ := adv_ok hE h N
  obtain ⟨rc1, n1, n2⟩ := nex_ok hE hr N hN
  obtain ⟨kc2, a3, a4⟩ := adv_ok hE a2 N
  obtain ⟨rc2, n3, n4⟩ := nex_ok hE n2 N hN
  obtain ⟨nC, nM, nT⟩ := H.nms
  obtain ⟨⟨m1, m2, m3, m4, m5, m6, m7, m8, m9, -⟩, -⟩ := H
  have fn := fnm_ok a2 n2 hv N 0 b.C B.clockName nm hN m1 (by omega) nC fp fa got
  rw [show nI 0 = (0 : Int32) from rfl] at fn
  unfold f_X6_readOne_58
  rw [if_neg (show ¬ (20 : Int32) ≤ nI o from nI_ge (b := 20) ho (by omega)), if_pos (show nI d < 8 from nI_lt (b := 8) hd (by omega)), zbn_s, nI_1 o, a1, zcl_s, if_pos hx, vj, if_neg (show ¬ (20 : Int32) = 16 by decide), if_pos (show (20 : Int32) < 22 by decide)]
  unfold f_X6_readSingle f_X6_readSingle_75
  rw [if_pos rfl, m4]
  rcases fn with ⟨i, i1, i2, i3, i4⟩ | ⟨fk, g, i0, i2, i3⟩
  · obtain ⟨rd2, c1, c2⟩ := sn_code N hR (by omega) (va := 3) (vb := 0) (vc := nI i) 3 0 i rfl rfl rfl
    have zm : zmax (nI i) 0 = nI i := by
      unfold zmax
      rw [if_neg (show ¬ nI i < 0 from nI_nlt (b := 0) (Nat.zero_le _) (by omega))]
    obtain ⟨cd2, p1, p2⟩ := sn_put N hC (by omega) (vk := 20) (vs := 60) (vn := zmax (nI i) 0) (3, 0, i) 20 0 i rfl rfl zm (by unfold en9; dsimp only; rw [kw9_l (show 3 ≤ 8 by omega)])
    have R : f_X12_operand N (nI L) rc.1 (nI lim) rc.2.1 rc.2.2.1 rc.2.2.2.1 rc.2.2.2.2.1 0 fa rc.2.2.2.2.2 got (nI q.length) (nI o) (nI S.length) (nI (d + 1)) 0 tp st rd s res nm = some (1, rc2.1, rc2.2.1, rc2.2.2.1, rc2.2.2.2.1, rc2.2.2.2.2.1, 0, fa, rc2.2.2.2.2.2, nI i, nI (q.length + 1), nI (o + 1), nI S.length, nI (d + 1), 1, st, rd2) := by
      rw [e38]
      unfold f_X12_operand_38 f_X12_operand_181
      rw [if_neg (show ¬ nI o = 20 from nk9 (b := 20) (by omega) (by omega) (by omega)), if_pos (show nI (d + 1) ≤ 8 from nI_le (b := 8) (show d + 1 ≤ 8 by omega) (by omega)), zbn_s, nI_1 o, n1, zcl_s, if_pos hz4, if_pos hz11, hz16, if_pos (show (3 : Int32) ≤ 3 by decide), if_neg (show ¬ (5 : Int32) ≤ 3 by decide), if_pos rfl, m5, i3, zcl_s]
      dsimp only
      rw [if_neg one0, c1, zcl_s, n3, zcl_s]
    rw [i2, zcl_s, a3, zcl_s]
    dsimp only
    rw [p1, zcl_s, if_neg (show ¬ nI i = -1 from oI_sn (u := i) (by omega)), zcl_s]
    dsimp only
    rw [zbo1, zck_t]
    refine Or.inl ⟨c + 1 + 1, 1, 0, kc2, rc2, [(3, 0, i)], [], cd2, nI i, st, rd2, 1, Or.inl rfl, ?_, a4, n4, by rw [rr_nil]; exact p2, c2, hT, by rw [rr_nil]; exact gd_leaf ⟨Or.inl (show 3 ≤ 8 by omega), fun z => absurd z.1 (show ¬ 5 ≤ 3 by omega), fun _ => rfl, (show i ≤ 999 by omega), fun _ => i1, fun z => absurd z (show ¬ 3 = 4 by omega)⟩ (show 3 ≤ 8 by omega), by omega, by omega, fun z => absurd z (by omega), fun z => absurd z (by omega), by omega, fun m => ?_⟩
    · rw [rr_nil, sn_len]
    · rw [sn_len, show 0 + (([] : List Nat) ++ S).length = S.length from Nat.zero_add _]
      exact lp_op N m R
  · right
    have R : f_X12_operand N (nI L) rc.1 (nI lim) rc.2.1 rc.2.2.1 rc.2.2.2.1 rc.2.2.2.2.1 0 fa rc.2.2.2.2.2 got (nI q.length) (nI o) (nI S.length) (nI (d + 1)) 0 tp st rd s res nm = some (0, rc1.1, rc1.2.1, rc1.2.2.1, rc1.2.2.2.1, rc1.2.2.2.2.1, fk, rc1.2.2.1, rc1.2.2.2.2.2, g, nI q.length, nI (o + 1), nI S.length, nI (d + 1), 1, st, rd) := by
      rw [e38]
      unfold f_X12_operand_38 f_X12_operand_181
      rw [if_neg (show ¬ nI o = 20 from nk9 (b := 20) (by omega) (by omega) (by omega)), if_pos (show nI (d + 1) ≤ 8 from nI_le (b := 8) (show d + 1 ≤ 8 by omega) (by omega)), zbn_s, nI_1 o, n1, zcl_s, if_pos hz4, if_pos hz11, hz16, if_pos (show (3 : Int32) ≤ 3 by decide), if_neg (show ¬ (5 : Int32) ≤ 3 by decide), if_pos rfl, m5, i3, zcl_s]
      dsimp only
      rw [if_pos rfl]
    obtain ⟨l', cd3, p1, p2⟩ := sn_putF N q.length (by omega) 20 60 (zmax (-1) 0) cd
    rw [i2, zcl_s, a3, zcl_s]
    dsimp only
    rw [p2, zcl_s, if_pos rfl, zcl_s]
    dsimp only
    rw [zbo0, zck_t]
    refine ⟨fk, rc1.2.2.1, i0, ⟨_, _, _, _, _, _, l', cd3, p1, rfl⟩, fun n hn => ?_⟩
    obtain ⟨m, rfl⟩ : ∃ m, n = m + 1 := ⟨n - 1, by omega⟩
    exact lp_no N m R
theorem one_to (hE : EV tp L lim sz K P V W) (N : Nat) (hN : 2010 ≤ N) (hd : d < 8) (ho : o < 20) (h : CQ tp L lim sz c kc) (hr : RC tp L lim c rc) (hC : CD9 q cd) (hR : RD9 q rd) (hT : ST9 S st) (hq : q.length ≤ 2 * o) (hS3 : S.length ≤ 3 * d + 2) (hps : ps9 tp L lim c + 1 ≤ ps9 tp L lim (c + 1)) (hv : RV res) (H : BR b B s nm) (e38 : f_X12_operand N (nI L) rc.1 (nI lim) rc.2.1 rc.2.2.1 rc.2.2.2.1 rc.2.2.2.2.1 0 fa rc.2.2.2.2.2 got (nI q.length) (nI o) (nI S.length) (nI (d + 1)) 0 tp st rd s res nm = f_X12_operand_38 N (nI L) (nI lim) tp s res nm z4 z11 z16 rc.1 rc.2.1 rc.2.2.1 rc.2.2.2.1 rc.2.2.2.2.1 0 fa rc.2.2.2.2.2 got (nI q.length) (nI o) (nI S.length) (nI (d + 1)) 0 st rd) (hz4 : z4 = 0) (hz11 : z11 = 0) (hz16 : z16 = 4) (hx : x2 = 0) (vj : kc.2.2.1 = 21) : Ou9 N tp L lim sz res nm b s fp fa 0 d q o S c (f_X6_readOne_58 N kO (nI sz) K P V W B.clocks B.meets B.clockName B.meetName (nI d) x2 (nI o) kc.1 kc.2.1 kc.2.2.1 kc.2.2.2.1 0 fp kc.2.2.2.2 (nI q.length) cd) (fun n => lpS9 N tp res nm L lim fa s n rc got (nI q.length) (nI o) (nI S.length) (nI (d + 1)) 0 st rd) := by
  obtain ⟨kc1, a1, a2⟩ := adv_ok hE h N
  obtain ⟨rc1, n1, n2⟩ := nex_ok hE hr N hN
  obtain ⟨kc2, a3, a4⟩ := adv_ok hE a2 N
  obtain ⟨rc2, n3, n4⟩ := nex_ok hE n2 N hN
  obtain ⟨nC, nM, nT⟩ := H.nms
  obtain ⟨⟨m1, m2, m3, m4, m5, m6, m7, m8, m9, -⟩, -⟩ := H
  have fn := fnm_ok a2 n2 hv N 12 b.T B.meetName nm hN m3 (by omega) nT fp fa got
  rw [show nI 12 = (12 : Int32) from rfl] at fn
  unfold f_X6_readOne_58
  rw [if_neg (show ¬ (20 : Int32) ≤ nI o from nI_ge (b := 20) ho (by omega)), if_pos (show nI d < 8 from nI_lt (b := 8) hd (by omega)), zbn_s, nI_1 o, a1, zcl_s, if_pos hx, vj, if_neg (show ¬ (21 : Int32) = 16 by decide), if_pos (show (21 : Int32) < 22 by decide)]
  unfold f_X6_readSingle f_X6_readSingle_75
  rw [if_neg (show ¬ (21 : Int32) = 20 by decide), if_pos rfl, m8]
  rcases fn with ⟨i, i1, i2, i3, i4⟩ | ⟨fk, g, i0, i2, i3⟩
  · obtain ⟨rd2, c1, c2⟩ := sn_code N hR (by omega) (va := 4) (vb := 0) (vc := nI i) 4 0 i rfl rfl rfl
    have zm : zmax (nI i) 0 = nI i := by
      unfold zmax
      rw [if_neg (show ¬ nI i < 0 from nI_nlt (b := 0) (Nat.zero_le _) (by omega))]
    obtain ⟨cd2, p1, p2⟩ := sn_put N hC (by omega) (vk := 21) (vs := 60) (vn := zmax (nI i) 0) (4, 0, i) 21 0 i rfl rfl zm (by unfold en9; dsimp only; rw [kw9_l (show 4 ≤ 8 by omega)])
    have R : f_X12_operand N (nI L) rc.1 (nI lim) rc.2.1 rc.2.2.1 rc.2.2.2.1 rc.2.2.2.2.1 0 fa rc.2.2.2.2.2 got (nI q.length) (nI o) (nI S.length) (nI (d + 1)) 0 tp st rd s res nm = some (1, rc2.1, rc2.2.1, rc2.2.2.1, rc2.2.2.2.1, rc2.2.2.2.2.1, 0, fa, rc2.2.2.2.2.2, nI i, nI (q.length + 1), nI (o + 1), nI S.length, nI (d + 1), 1, st, rd2) := by
      rw [e38]
      unfold f_X12_operand_38 f_X12_operand_181
      rw [if_neg (show ¬ nI o = 20 from nk9 (b := 20) (by omega) (by omega) (by omega)), if_pos (show nI (d + 1) ≤ 8 from nI_le (b := 8) (show d + 1 ≤ 8 by omega) (by omega)), zbn_s, nI_1 o, n1, zcl_s, if_pos hz4, if_pos hz11, hz16, if_pos (show (3 : Int32) ≤ 4 by decide), if_neg (show ¬ (5 : Int32) ≤ 4 by decide), if_neg (show ¬ (4 : Int32) = 3 by decide), m9, i3, zcl_s]
      dsimp only
      rw [if_neg one0, c1, zcl_s, n3, zcl_s]
    rw [i2, zcl_s, a3, zcl_s]
    dsimp only
    rw [p1, zcl_s, if_neg (show ¬ nI i = -1 from oI_sn (u := i) (by omega)), zcl_s]
    dsimp only
    rw [zbo1, zck_t]
    refine Or.inl ⟨c + 1 + 1, 1, 0, kc2, rc2, [(4, 0, i)], [], cd2, nI i, st, rd2, 1, Or.inl rfl, ?_, a4, n4, by rw [rr_nil]; exact p2, c2, hT, by rw [rr_nil]; exact gd_leaf ⟨Or.inl (show 4 ≤ 8 by omega), fun z => absurd z.1 (show ¬ 5 ≤ 4 by omega), fun _ => rfl, (show i ≤ 999 by omega), fun z => absurd z (show ¬ 4 = 3 by omega), fun _ => i1⟩ (show 4 ≤ 8 by omega), by omega, by omega, fun z => absurd z (by omega), fun z => absurd z (by omega), by omega, fun m => ?_⟩
    · rw [rr_nil, sn_len]
    · rw [sn_len, show 0 + (([] : List Nat) ++ S).length = S.length from Nat.zero_add _]
      exact lp_op N m R
  · right
    have R : f_X12_operand N (nI L) rc.1 (nI lim) rc.2.1 rc.2.2.1 rc.2.2.2.1 rc.2.2.2.2.1 0 fa rc.2.2.2.2.2 got (nI q.length) (nI o) (nI S.length) (nI (d + 1)) 0 tp st rd s res nm = some (0, rc1.1, rc1.2.1, rc1.2.2.1, rc1.2.2.2.1, rc1.2.2.2.2.1, fk, rc1.2.2.1, rc1.2.2.2.2.2, g, nI q.length, nI (o + 1), nI S.length, nI (d + 1), 1, st, rd) := by
      rw [e38]
      unfold f_X12_operand_38 f_X12_operand_181
      rw [if_neg (show ¬ nI o = 20 from nk9 (b := 20) (by omega) (by omega) (by omega)), if_pos (show nI (d + 1) ≤ 8 from nI_le (b := 8) (show d + 1 ≤ 8 by omega) (by omega)), zbn_s, nI_1 o, n1, zcl_s, if_pos hz4, if_pos hz11, hz16, if_pos (show (3 : Int32) ≤ 4 by decide), if_neg (show ¬ (5 : Int32) ≤ 4 by decide), if_neg (show ¬ (4 : Int32) = 3 by decide), m9, i3, zcl_s]
      dsimp only
      rw [if_pos rfl]
    obtain ⟨l', cd3, p1, p2⟩ := sn_putF N q.length (by omega) 21 60 (zmax (-1) 0) cd
    rw [i2, zcl_s, a3, zcl_s]
    dsimp only
    rw [p2, zcl_s, if_pos rfl, zcl_s]
    dsimp only
    rw [zbo0, zck_t]
    refine ⟨fk, rc1.2.2.1, i0, ⟨_, _, _, _, _, _, l', cd3, p1, rfl⟩, fun n hn => ?_⟩
    obtain ⟨m, rfl⟩ : ∃ m, n = m + 1 := ⟨n - 1, by omega⟩
    exact lp_no N m R
/-- what is compared -/
theorem one_cmp (hE : EV tp L lim sz K P V W) (N : Nat) (hN : 2010 ≤ N) (hd : d < 8) (ho : o < 20) (h : CQ tp L lim sz c kc) (hr : RC tp L lim c rc) (hC : CD9 q cd) (hR : RD9 q rd) (hT : ST9 S st) (hq : q.length ≤ 2 * o) (hS3 : S.length ≤ 3 * d + 2) (hps : ps9 tp L lim c + 1 ≤ ps9 tp L lim (c + 1)) {w : Nat} (hw : 5 ≤ w) (hw2 : w ≤ 8) (e38 : f_X12_operand N (nI L) rc.1 (nI lim) rc.2.1 rc.2.2.1 rc.2.2.2.1 rc.2.2.2.2.1 0 fa rc.2.2.2.2.2 got (nI q.length) (nI o) (nI S.length) (nI (d + 1)) 0 tp st rd s res nm = f_X12_operand_38 N (nI L) (nI lim) tp s res nm z4 z11 z16 rc.1 rc.2.1 rc.2.2.1 rc.2.2.2.1 rc.2.2.2.2.1 0 fa rc.2.2.2.2.2 got (nI q.length) (nI o) (nI S.length) (nI (d + 1)) 0 st rd) (hz4 : z4 = 0) (hz11 : z11 = 0) (hz16 : z16 = nI w) (hx : x2 = 0) (vj : kc.2.2.1 = nI (17 + w)) : Ou9 N tp L lim sz res nm b s fp fa 0 d q o S c (f_X6_readOne_58 N kO (nI sz) K P V W B.clocks B.meets B.clockName B.meetName (nI d) x2 (nI o) kc.1 kc.2.1 kc.2.2.1 kc.2.2.2.1 0 fp kc.2.2.2.2 (nI q.length) cd) (fun n => lpS9 N tp res nm L lim fa s n rc got (nI q.length) (nI o) (nI S.length) (nI (d + 1)) 0 st rd) := by
  obtain ⟨kc1, a1, a2⟩ := adv_ok hE h N
  obtain ⟨rc1, n1, n2⟩ := nex_ok hE hr N hN
  obtain ⟨kc2, a3, a4⟩ := adv_ok hE a2 N
  obtain ⟨rc2, n3, n4⟩ := nex_ok hE n2 N hN
  obtain ⟨rc4, n5, n6⟩ := nex_ok hE n4 N hN
  unfold f_X6_readOne_58
  rw [if_neg (show ¬ (20 : Int32) ≤ nI o from nI_ge (b := 20) ho (by omega)), if_pos (show nI d < 8 from nI_lt (b := 8) hd (by omega)), zbn_s, nI_1 o, a1, zcl_s, if_pos hx, vj, if_neg (show ¬ nI (17 + w) = 16 from nk9 (b := 16) (by omega) (by omega) (by omega)), if_neg (show ¬ nI (17 + w) < 22 from nI_nlt (b := 22) (by omega) (by omega))]
  rcases cmp_cs a2 n2 with ⟨sg, s1, s2, s3, s4, s5, s6, s7⟩ | ⟨s1, s2⟩
  · rw [rc53 a2 n2 N sg s1 s2 s6]
    unfold f_X6_readComparison_53
    rw [a3, zcl_s]
    rcases num2 hE a4 n4 N fp with ⟨v, kc4, v1, v2, v3, v4, v5, v6⟩ | ⟨v1, v2⟩
    · obtain ⟨sg', e60⟩ : ∃ x, sg = 60 + x := ⟨sg - 60, by omega⟩
      obtain ⟨rd2, c1, c2⟩ := sn_code N hR (by omega) (va := nI w) (vb := nI sg) (vc := nI v) w sg v rfl rfl rfl
      have zm : zmax (nI v) 0 = nI v := by
        unfold zmax
        rw [if_neg (show ¬ nI v < 0 from nI_nlt (b := 0) (Nat.zero_le _) (by omega))]
      obtain ⟨cd2, p1, p2⟩ := sn_put N hC (by omega) (vk := nI (17 + w)) (vs := kc1.2.2.1) (vn := zmax (nI v) 0) (w, sg, v) (17 + w) sg' v rfl (by rw [s3, e60]) zm (by unfold en9; dsimp only; rw [kw9_l hw2, e60, Nat.add_sub_cancel_left])
      have R : f_X12_operand N (nI L) rc.1 (nI lim) rc.2.1 rc.2.2.1 rc.2.2.2.1 rc.2.2.2.2.1 0 fa rc.2.2.2.2.2 got (nI q.length) (nI o) (nI S.length) (nI (d + 1)) 0 tp st rd s res nm = some (1, rc4.1, rc4.2.1, rc4.2.2.1, rc4.2.2.2.1, rc4.2.2.2.2.1, 0, fa, rc4.2.2.2.2.2, got, nI (q.length + 1), nI (o + 1), nI S.length, nI (d + 1), 1, st, rd2) := by
        rw [e38]
        unfold f_X12_operand_38
        rw [if_neg (show ¬ nI o = 20 from nk9 (b := 20) (by omega) (by omega) (by omega)), if_pos (show nI (d + 1) ≤ 8 from nI_le (b := 8) (show d + 1 ≤ 8 by omega) (by omega)), zbn_s, nI_1 o, n1, zcl_s, if_pos hz4, if_pos hz11, hz16, if_pos (show (3 : Int32) ≤ nI w from nI_le (a := 3) (by omega) (by omega)), if_pos (show (5 : Int32) ≤ nI w from nI_le (a := 5) hw (by omega)), if_pos s4, if_neg (show ¬ rc1.2.2.2.2.1 < 60 by rw [s5]; exact nI_nlt (b := 60) s1 (by omega)), if_pos (show rc1.2.2.2.2.1 ≤ 62 by rw [s5]; exact nI_le (b := 62) s2 (by omega)), n3, zcl_s, if_pos v4, v5, s5, c1, zcl_s]
        rw [v5] at n5
        rw [n5, zcl_s]
      rw [v2, zcl_s]
      dsimp only
      rw [p1, zcl_s, if_neg (show ¬ nI v = -1 from oI_sn (u := v) (by omega)), zcl_s]
      dsimp only
      rw [zbo1, zck_t]
      refine Or.inl ⟨c + 1 + 1 + 1, 1, 0, kc4, rc4, [(w, sg, v)], [], cd2, got, st, rd2, 1, Or.inl rfl, ?_, v3, n6, by rw [rr_nil]; exact p2, c2, hT, by rw [rr_nil]; exact gd_leaf ⟨Or.inl hw2, fun _ => ⟨s1, s2⟩, fun z => absurd ⟨hw, hw2⟩ z, v1, fun z => absurd z (show ¬ w = 3 by omega), fun z => absurd z (show ¬ w = 4 by omega)⟩ hw2, by omega, by omega, fun z => absurd z (by omega), fun z => absurd z (by omega), by omega, fun m => ?_⟩
      · rw [rr_nil, sn_len]
      · rw [sn_len, show 0 + (([] : List Nat) ++ S).length = S.length from Nat.zero_add _]
        exact lp_op N m R
    · right
      have R : f_X12_operand N (nI L) rc.1 (nI lim) rc.2.1 rc.2.2.1 rc.2.2.2.1 rc.2.2.2.2.1 0 fa rc.2.2.2.2.2 got (nI q.length) (nI o) (nI S.length) (nI (d + 1)) 0 tp st rd s res nm = some (0, rc2.1, rc2.2.1, rc2.2.2.1, rc2.2.2.2.1, rc2.2.2.2.2.1, 1, rc2.2.2.1, rc2.2.2.2.2.2, got, nI q.length, nI (o + 1), nI S.length, nI (d + 1), 1, st, rd) := by
        rw [e38]
        unfold f_X12_operand_38 f_X12_bad
        rw [if_neg (show ¬ nI o = 20 from nk9 (b := 20) (by omega) (by omega) (by omega)), if_pos (show nI (d + 1) ≤ 8 from nI_le (b := 8) (show d + 1 ≤ 8 by omega) (by omega)), zbn_s, nI_1 o, n1, zcl_s, if_pos hz4, if_pos hz11, hz16, if_pos (show (3 : Int32) ≤ nI w from nI_le (a := 3) (by omega) (by omega)), if_pos (show (5 : Int32) ≤ nI w from nI_le (a := 5) hw (by omega)), if_pos s4, if_neg (show ¬ rc1.2.2.2.2.1 < 60 by rw [s5]; exact nI_nlt (b := 60) s1 (by omega)), if_pos (show rc1.2.2.2.2.1 ≤ 62 by rw [s5]; exact nI_le (b := 62) s2 (by omega)), n3, zcl_s, if_neg v2, zcl_s]
        dsimp only
        rw [zbo0, zck_t]
      obtain ⟨l', cd3, p1, p2⟩ := sn_putF N q.length (by omega) (nI (17 + w)) kc1.2.2.1 (zmax (-1) 0) cd
      rw [v1, zcl_s]
      dsimp only
      rw [p2, zcl_s, if_pos rfl, zcl_s]
      dsimp only
      rw [zbo0, zck_t]
      refine ⟨1, rc2.2.2.1, one0, ⟨_, _, _, _, _, _, l', cd3, p1, rfl⟩, fun n hn => ?_⟩
      obtain ⟨m, rfl⟩ : ∃ m, n = m + 1 := ⟨n - 1, by omega⟩
      exact lp_no N m R
  · right
    have R : f_X12_operand N (nI L) rc.1 (nI lim) rc.2.1 rc.2.2.1 rc.2.2.2.1 rc.2.2.2.2.1 0 fa rc.2.2.2.2.2 got (nI q.length) (nI o) (nI S.length) (nI (d + 1)) 0 tp st rd s res nm = some (0, rc1.1, rc1.2.1, rc1.2.2.1, rc1.2.2.2.1, rc1.2.2.2.2.1, 1, rc1.2.2.1, rc1.2.2.2.2.2, got, nI q.length, nI (o + 1), nI S.length, nI (d + 1), 1, st, rd) := by
      have e232 : f_X12_operand_232 N (nI L) (nI lim) tp s res nm rc1.1 rc1.2.1 rc1.2.2.1 rc1.2.2.2.1 rc1.2.2.2.2.1 0 fa rc1.2.2.2.2.2 got (nI q.length) (nI (o + 1)) (nI S.length) (nI (d + 1)) 1 st rd = some (0, rc1.1, rc1.2.1, rc1.2.2.1, rc1.2.2.2.1, rc1.2.2.2.2.1, 1, rc1.2.2.1, rc1.2.2.2.2.2, got, nI q.length, nI (o + 1), nI S.length, nI (d + 1), 1, st, rd) := by
        unfold f_X12_operand_232 f_X12_bad
        rw [zcl_s]
        dsimp only
        rw [zbo0, zck_t]
      rw [e38]
      unfold f_X12_operand_38
      rw [if_neg (show ¬ nI o = 20 from nk9 (b := 20) (by omega) (by omega) (by omega)), if_pos (show nI (d + 1) ≤ 8 from nI_le (b := 8) (show d + 1 ≤ 8 by omega) (by omega)), zbn_s, nI_1 o, n1, zcl_s, if_pos hz4, if_pos hz11, hz16, if_pos (show (3 : Int32) ≤ nI w from nI_le (a := 3) (by omega) (by omega)), if_pos (show (5 : Int32) ≤ nI w from nI_le (a := 5) hw (by omega))]
      rcases s2 with z | ⟨z, z2 | ⟨z2, z3⟩⟩
      · rw [if_neg z, e232]
      · rw [if_pos z, if_pos z2, e232]
      · rw [if_pos z, if_neg z2, if_neg z3, e232]
    rw [rcno a2 n2 N s1, zcl_s]
    dsimp only
    rw [zbo0, zck_t]
    refine ⟨1, rc1.2.2.1, one0, ⟨_, _, _, _, _, _, q.length, cd, by omega, rfl⟩, fun n hn => ?_⟩
    obtain ⟨m, rfl⟩ : ∃ m, n = m + 1 := ⟨n - 1, by omega⟩
    exact lp_no N m R
end SNS
