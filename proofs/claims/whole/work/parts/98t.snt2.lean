/-! ===== a sentence is read ===== -/
section SNT
variable {tp : Nat → Int32} {L lim sz : Nat} {K P V : Nat → Int32} {W : Nat → Int64} {res nm : Nat → Int64} {b : MB} {B : CB} {s : Nat → Int32} {fp fa : Int32}
theorem c49_ok (N : Nat) (kO : FT9) (kc : KU) (on ln : Int32) (cd : Nat → Int32) : f_X6_readOne_49 N kO (nI sz) K P V W B.clocks B.meets B.clockName B.meetName on kc.1 kc.2.1 kc.2.2.1 kc.2.2.2.1 0 fp kc.2.2.2.2 ln cd = some (0, on, kc.1, kc.2.1, kc.2.2.1, kc.2.2.2.1, 1, kc.2.1, kc.2.2.2.2, ln, cd) := by
  unfold f_X6_readOne_49
  rw [ref0, zcl_s]
  dsimp only
  rw [zbo0, zck_t]
theorem one_ok (hE : EV tp L lim sz K P V W) (hv : RV res) (H : BR b B s nm) (N : Nat) (hN : 2010 ≤ N) {d : Nat} (hd : d ≤ 8) {kO : FT9} (hk : d < 8 → Sp9 N tp L lim sz K P V W res nm b B s fp fa 0 (d + 1) kO) : Sp9 N tp L lim sz K P V W res nm b B s fp fa 0 d (f_X6_readOne N kO) := by
  intro c o kc rc q S cd got st rd h hr hC hR hT hq ho hS3 hh
  have wN := (kwd_ok h hr N 16 7237492 rfl).2
  have y40 := sym_ok h hr N 40
  rw [show nI 40 = (40 : Int32) from rfl] at y40
  have hpl := pl_at h hr
  rcases sn_kw h with ⟨j, j26, k3, vj, t1, hz⟩ | ⟨k3, hz⟩
  · have hy : isY tp L lim c 40 = false := by
      unfold isY
      exact decide_eq_false (fun z => by have := z.1; omega)
    have lf := leaf_k h hr N j26 hz
    rw [hz 16 7237492 rfl] at wN
    rw [hy] at y40
    have hps : ps9 tp L lim c + 1 ≤ ps9 tp L lim (c + 1) := by
      rw [ps9]
      exact (tk9_nx (ps9_le c)).2.2.1 (Or.inl t1)
    by_cases j16 : j < 16
    · right
      have R : f_X12_operand N (nI L) rc.1 (nI lim) rc.2.1 rc.2.2.1 rc.2.2.2.1 rc.2.2.2.2.1 0 fa rc.2.2.2.2.2 got (nI q.length) (nI o) (nI S.length) (nI (d + 1)) 0 tp st rd s res nm = some (0, rc.1, rc.2.1, rc.2.2.1, rc.2.2.2.1, rc.2.2.2.2.1, 1, rc.2.2.1, rc.2.2.2.2.2, got, nI q.length, nI o, nI S.length, nI (d + 1), 0, st, rd) := by
        unfold f_X12_operand f_X12_bad
        rw [wN, zcl_s, y40.2, zcl_s, lf, zcl_s, if_pos (show bI (decide (16 = j)) = 0 by rw [decide_eq_false (by omega)]; rfl), if_pos (show bI false = 0 from rfl), if_neg (show ¬ 0 ≤ lfI j by unfold lfI; rw [if_neg (by omega)]; decide), zcl_s]
        dsimp only
        rw [zbo0, zck_t]
      refine ⟨1, rc.2.2.1, one0, ⟨nI o, kc.1, kc.2.1, kc.2.2.1, kc.2.2.2.1, kc.2.2.2.2, q.length, cd, by omega, ?_⟩, fun n hn => ?_⟩
      · unfold f_X6_readOne
        rw [y40.1, zcl_s, if_pos (show bI false = 0 from rfl), if_pos k3, if_pos (show kc.2.2.1 < 16 by rw [vj]; exact nI_lt (b := 16) j16 (by omega)), c49_ok, hpl]
      · obtain ⟨m, rfl⟩ : ∃ m, n = m + 1 := ⟨n - 1, by omega⟩
        exact lp_no N m R
    · have e58 : f_X6_readOne N kO (nI d) (nI o) kc.1 kc.2.1 kc.2.2.1 kc.2.2.2.1 0 fp (nI sz) kc.2.2.2.2 K P V W (nI q.length) cd B.clocks B.meets B.clockName B.meetName = f_X6_readOne_58 N kO (nI sz) K P V W B.clocks B.meets B.clockName B.meetName (nI d) (bI false) (nI o) kc.1 kc.2.1 kc.2.2.1 kc.2.2.2.1 0 fp kc.2.2.2.2 (nI q.length) cd := by
        unfold f_X6_readOne
        rw [y40.1, zcl_s, if_pos (show bI false = 0 from rfl), if_pos k3, if_neg (show ¬ kc.2.2.1 < 16 by rw [vj]; exact nI_nlt (b := 16) (by omega) (by omega)), if_pos (show kc.2.2.1 ≤ 25 by rw [vj]; exact nI_le (b := 25) (by omega) (by omega))]
      rw [e58]
      have lf17 : 17 ≤ j → lfI j = nI (j - 17) := fun h17 => by unfold lfI; rw [if_pos h17]
      have e38 := op38 (L := L) (lim := lim) (tp := tp) (s := s) (res := res) (nm := nm) (fa := fa) N wN y40.2 lf (by
        by_cases e : 16 = j
        · exact Or.inl (by rw [decide_eq_true e]; decide)
        · exact Or.inr (Or.inr (by rw [lf17 (by omega)]; exact nI_le (a := 0) (Nat.zero_le _) (by omega)))) got (nI q.length) (nI o) (nI S.length) (nI (d + 1)) st rd
      by_cases x : o = 20 ∨ d = 8
      · right
        rw [four_c N hd ho x]
        refine ⟨4, rc.2.2.1, by decide, ⟨nI o, kc.1, kc.2.1, kc.2.2.1, kc.2.2.2.1, kc.2.2.2.2, q.length, cd, by omega, by rw [hpl]⟩, fun n hn => ?_⟩
        obtain ⟨m, rfl⟩ : ∃ m, n = m + 1 := ⟨n - 1, by omega⟩
        exact lp_no N m (e38.trans (four_r N hd ho x))
      · have hd8 : d < 8 := by omega
        have ho2 : o < 20 := by omega
        have hS4 : S.length ≤ 3 * d + 2 := by omega
        by_cases e16 : j = 16
        · subst e16
          exact one_not hE N hN hd8 ho2 h hr hC hR hT hq hS4 hps (hk hd8) e38 (by decide) rfl vj
        · have f0 : bI (decide (16 = j)) = 0 := by rw [decide_eq_false (by omega)]; rfl
          by_cases e20 : j < 20
          · exact one_leaf hE N hN hd8 ho2 h hr hC hR hT hq hS4 hps (w := j - 17) (by omega) e38 f0 rfl (lf17 (by omega)) rfl (by rw [vj, show 17 + (j - 17) = j by omega])
          · by_cases f20 : j = 20
            · subst f20
              exact one_by hE N hN hd8 ho2 h hr hC hR hT hq hS4 hps hv H e38 f0 rfl rfl rfl vj
            · by_cases f21 : j = 21
              · subst f21
                exact one_to hE N hN hd8 ho2 h hr hC hR hT hq hS4 hps hv H e38 f0 rfl rfl rfl vj
              · exact one_cmp hE N hN hd8 ho2 h hr hC hR hT hq hS4 hps (w := j - 17) (by omega) (by omega) e38 f0 rfl (lf17 (by omega)) rfl (by rw [vj, show 17 + (j - 17) = j by omega])
  · have lf := leaf_n h hr N hz
    rw [hz 16 7237492 rfl] at wN
    cases hy : isY tp L lim c 40
    · right
      rw [hy] at y40
      have R : f_X12_operand N (nI L) rc.1 (nI lim) rc.2.1 rc.2.2.1 rc.2.2.2.1 rc.2.2.2.2.1 0 fa rc.2.2.2.2.2 got (nI q.length) (nI o) (nI S.length) (nI (d + 1)) 0 tp st rd s res nm = some (0, rc.1, rc.2.1, rc.2.2.1, rc.2.2.2.1, rc.2.2.2.2.1, 1, rc.2.2.1, rc.2.2.2.2.2, got, nI q.length, nI o, nI S.length, nI (d + 1), 0, st, rd) := by
        unfold f_X12_operand f_X12_bad
        rw [wN, zcl_s, y40.2, zcl_s, lf, zcl_s, if_pos (show bI false = 0 from rfl), if_pos (show bI false = 0 from rfl), if_neg (show ¬ (0 : Int32) ≤ -1 by decide), zcl_s]
        dsimp only
        rw [zbo0, zck_t]
      refine ⟨1, rc.2.2.1, one0, ⟨nI o, kc.1, kc.2.1, kc.2.2.1, kc.2.2.2.1, kc.2.2.2.2, q.length, cd, by omega, ?_⟩, fun n hn => ?_⟩
      · unfold f_X6_readOne
        rw [y40.1, zcl_s, if_pos (show bI false = 0 from rfl), if_neg k3, c49_ok, hpl]
      · obtain ⟨m, rfl⟩ : ∃ m, n = m + 1 := ⟨n - 1, by omega⟩
        exact lp_no N m R
    · have t3 : (tk9 tp L lim (ps9 tp L lim c)).1 = 3 := by
        unfold isY at hy
        rw [decide_eq_true_iff] at hy
        exact hy.1
      rw [hy] at y40
      have hps : ps9 tp L lim c + 1 ≤ ps9 tp L lim (c + 1) := by
        rw [ps9]
        exact (tk9_nx (ps9_le c)).2.2.1 (Or.inr (Or.inr t3))
      have e58 : f_X6_readOne N kO (nI d) (nI o) kc.1 kc.2.1 kc.2.2.1 kc.2.2.2.1 0 fp (nI sz) kc.2.2.2.2 K P V W (nI q.length) cd B.clocks B.meets B.clockName B.meetName = f_X6_readOne_58 N kO (nI sz) K P V W B.clocks B.meets B.clockName B.meetName (nI d) (bI true) (nI o) kc.1 kc.2.1 kc.2.2.1 kc.2.2.2.1 0 fp kc.2.2.2.2 (nI q.length) cd := by
        unfold f_X6_readOne
        rw [y40.1, zcl_s, if_neg (show ¬ bI true = 0 by decide)]
      rw [e58]
      have e38 := op38 (L := L) (lim := lim) (tp := tp) (s := s) (res := res) (nm := nm) (fa := fa) N wN y40.2 lf (Or.inr (Or.inl (by decide))) got (nI q.length) (nI o) (nI S.length) (nI (d + 1)) st rd
      by_cases x : o = 20 ∨ d = 8
      · right
        rw [four_c N hd ho x]
        refine ⟨4, rc.2.2.1, by decide, ⟨nI o, kc.1, kc.2.1, kc.2.2.1, kc.2.2.2.1, kc.2.2.2.2, q.length, cd, by omega, by rw [hpl]⟩, fun n hn => ?_⟩
        obtain ⟨m, rfl⟩ : ∃ m, n = m + 1 := ⟨n - 1, by omega⟩
        exact lp_no N m (e38.trans (four_r N hd ho x))
      · have hd8 : d < 8 := by omega
        exact one_open hE N hN hd8 (by omega) h hr hC hR hT hq (by omega) hps (cn_ok hE N hN (by omega) (hk hd8)) e38 rfl (by decide) (by decide)
theorem rec_ok (hE : EV tp L lim sz K P V W) (hv : RV res) (H : BR b B s nm) (N : Nat) (hN : 2010 ≤ N) : ∀ n d, 9 ≤ n + d → d ≤ 8 → Sp9 N tp L lim sz K P V W res nm b B s fp fa 0 d (f_X6_rec N n) := by
  intro n
  induction n with
  | zero => intro d h1 h2; omega
  | succ n ih =>
    intro d h1 h2
    have e : f_X6_rec N (n + 1) = f_X6_readOne N (f_X6_rec N n) := rfl
    rw [e]
    exact one_ok hE hv H N hN h2 (fun h8 => ih (d + 1) (by omega) (by omega))
end SNT
theorem s146_ok (N : Nat) (hN : 200 ≤ N) (tp : Nat → Int32) (res nm : Nat → Int64) (th len size p lim tok at_ sp nu fl fa : Int32) (wd : Int64) (got on top deep wh : Int32) (st rd s : Nat → Int32) (m : Nat) (hm : m ≤ 40) : f_X12_sentence_146 N tp res nm N 0 th len size p lim tok at_ sp nu fl fa wd got (nI m) on top deep wh st rd s = some (on, th, len, size, p, lim, tok, at_, sp, nu, fl, fa, wd, got, nI m, on, top, deep, wh, st, rd, va_cpy rd s 0 154 (3 * m)) := by
  have e3 : (3 : Int32) * nI m = nI (3 * m) := by rw [show (3 : Int32) = nI 3 from rfl, pk_mul]
  have st9 : ∀ n i, i < 3 * m → f_X12_sentence_146 N tp res nm (n + 1) (nI i) th len size p lim tok at_ sp nu fl fa wd got (nI m) on top deep wh st rd (va_cpy rd s 0 154 i) = f_X12_sentence_146 N tp res nm n (nI (i + 1)) th len size p lim tok at_ sp nu fl fa wd got (nI m) on top deep wh st rd (va_cpy rd s 0 154 (i + 1)) := by
    intro n i hi
    rw [f_X12_sentence_146, e3, if_neg (nI_ge hi (by omega)), zin_nI (show i < 135 by omega) (by omega), zck_t, zbn_s, show (154 : Int32) = nI 154 from rfl, nI_add, zin_nI (show 154 + i < 334 by omega) (by omega), zck_t, zbn_s, zbn_s, nI_1, cl_n (show i < 2147483648 by omega), cl_n (show 154 + i < 2147483648 by omega), cp9_y]
  have fi : ∀ n, f_X12_sentence_146 N tp res nm (n + 1) (nI (3 * m)) th len size p lim tok at_ sp nu fl fa wd got (nI m) on top deep wh st rd (va_cpy rd s 0 154 (3 * m)) = some (on, th, len, size, p, lim, tok, at_, sp, nu, fl, fa, wd, got, nI m, on, top, deep, wh, st, rd, va_cpy rd s 0 154 (3 * m)) := by
    intro n
    rw [f_X12_sentence_146, e3, if_pos (nI_le (Nat.le_refl _) (by omega))]
  have := loopV (F := fun n i w => f_X12_sentence_146 N tp res nm n (nI i) th len size p lim tok at_ sp nu fl fa wd got (nI m) on top deep wh st rd w) (M := 3 * m) (fun i => va_cpy rd s 0 154 i) _ st9 fi N 0 (by omega) (by omega)
  rw [cp9_0] at this
  exact this
theorem p_sentence (N : Nat) (hN : 5000 ≤ N) : Ok9 (F_sentence N) (G_sentence N) := by
  intro k r hR
  obtain ⟨b, d, ⟨hB, h, hS⟩, hH, hI, ⟨L, hL, t1, t3, t4⟩, hf, hl, hm, ht, hv⟩ := hR
  obtain ⟨sz, K, P, V, W, kc, o1, o2, o3⟩ := opn_ok (tp := r.tape) (by9 := k.tape_bytes) (L := L) (lim := 200) N (by omega) hL (by omega) t4 k.tk.kind k.tk.place k.tk.value k.tk.word k.tk.fault k.tk.faultPlace k.tk.size k.tk.taken k.tk.kinds k.tk.places k.tk.values k.tk.words
  obtain ⟨rc, n1, n2⟩ := nx0_ok (tp := r.tape) (L := L) (lim := 200) N (by omega) hL (by omega) r.token r.tokAt r.span r.number r.word
  rw [show nI 200 = (200 : Int32) from rfl] at o1 n1
  rw [← t1] at o1
  rw [← t3] at n1
  have sp := cn_ok (fp := 0) (fa := r.faultAt) o2 N (by omega) (d := 0) (by omega) (rec_ok o2 hv hB N (by omega) 12 0 (by omega) (by omega)) 0 0 kc rc [] [] k.sentenceReader_draft_code r.got r.stack r.read o3 n2 (fun i x hx => by cases hx) (fun i x hx => by cases hx) trivial (Nat.zero_le _) (by omega) (by show 0 + 2 ≤ 2; omega) (fun x S' e => by cases e)
  have g0 : f_X12_sentence N r.thrown r.length r.size r.p r.limit r.token r.tokAt r.span r.number r.fault r.faultAt r.word r.got r.codes r.ones r.top r.deep r.isWhole r.tape r.stack r.read r.s r.reserved r.names = lpS9 N r.tape r.reserved r.names L 200 r.faultAt r.s N rc r.got (nI 0) (nI 0) (nI 0) (nI 1) 0 r.stack r.read := by
    unfold f_X12_sentence f_X12_taken
    rw [zcl_s]
    dsimp only
    rw [n1, zcl_s, t3]
    rfl
  have ps0 := ps9_le (tp := r.tape) (L := L) (lim := 200) 0
  rcases sp with ⟨c', m, kn, kc', rc', r', pp, cd', got', st', rd', j, f1, f2, f3, f4, f5, f6, f7, f8, f9, f0, f10, f11, f12, f13⟩ | ⟨fl, pl, f1, ⟨o', q1, q2, q3, q4, q5, l, cd', g2, f2⟩, f4⟩
  · have f2' : f_X6_readCondition N (f_X6_rec N 12) 0 0 kc.1 kc.2.1 kc.2.2.1 kc.2.2.2.1 0 0 (nI sz) kc.2.2.2.2 K P V W 0 k.sentenceReader_draft_code k.here.clocks k.here.meets k.here.clockName k.here.meetName = _ := f2
    have ps1 := ps9_le (tp := r.tape) (L := L) (lim := 200) c'
    have g1 := gd_k f8
    have g2 := rr_len r' kn pp
    have g3 := pp_len f1
    have lr : (([] : List (Nat × Nat × Nat)) ++ r').length = r'.length := rfl
    have lp : (pp ++ ([] : List Nat)).length = pp.length := by rw [List.append_nil]
    obtain ⟨M, eM⟩ : ∃ M, N = M + 2 + j := ⟨N - 2 - j, by omega⟩
    have fm := f13 (M + 2)
    rw [← eM] at fm
    rcases aend_ok f3 f4 N with ⟨e1, e2⟩ | ⟨e1, e2⟩
    · obtain ⟨rd2, b1, b2⟩ := bh_end (res := r.reserved) (nm := r.names) (s := r.s) (fa := r.faultAt) (dp := 0 + 1) f3 f4 N (by omega) f6 f7 f1 (by omega) (by omega) e2 got' (nI (0 + m))
      have i2 := (fm.trans (b2 M)).trans (s146_ok N (by omega) _ _ _ _ _ _ _ _ _ _ _ _ _ _ _ _ _ _ _ _ _ _ _ (rr9 r' kn pp).length (by omega))
      have i1 : f_X11_sentence N k.lastFault k.sentenceReader_ones k.sentenceReader_draft_length k.tk.kind k.tk.place k.tk.value k.tk.word k.tk.fault k.tk.faultPlace k.tk.size k.tk.taken k.tape_length k.tape_bytes k.tk.kinds k.tk.places k.tk.values k.tk.words k.sentenceReader_draft_code k.here.clocks k.here.meets k.here.clockName k.here.meetName k.here_sentence_length k.here_sentence_code = some (nI (0 + m), 0, nI (0 + m), nI (rr9 r' kn pp).length, kc'.1, kc'.2.1, kc'.2.2.1, kc'.2.2.2.1, 0, 0, nI sz, kc'.2.2.2.2, 0, K, P, V, W, cd', nI (rr9 r' kn pp).length, va_cpy cd' k.here_sentence_code 0 0 40) := by
        unfold f_X11_sentence f_X6_read f_X5_clear f_X11_closeText f_X6_readConditionC; rw [zcl_s, o1, zcl_s]; dsimp only; rw [f2', zcl_s]; dsimp only
        rw [if_neg one0, e1, zcl_s, if_neg one0, zcl_s]
        dsimp only
        rw [zcl_s]
        dsimp only
        rw [if_pos rfl]
        rfl
      have i3 := g0.trans i2
      have hs : ∀ i, i < 153 → va_cpy rd2 (upd r.s 153 (nI (rr9 r' kn pp).length)) 0 154 (3 * (rr9 r' kn pp).length) i = r.s i := fun i hi => by rw [cpo _ _ _ _ _ _ (by omega), pk_un (by omega)]
      refine ⟨nI (0 + m), _, _, by unfold F_sentence; rw [i1, zcl_s], by unfold G_sentence; rw [i3, zcl_s], ?_⟩
      refine ⟨b, d, ⟨hB.congS (fun i hi => hs i (by omega)), h.congS hs, ⟨(rr9 r' kn pp), by omega, rfl, ?_, fun i x hx => ?_, Or.inr ?_, ?_⟩⟩, hH.congS (fun i hi => hs i (by omega)), hI, ⟨0, Nat.zero_le _, rfl, rfl, fun i hi => absurd hi (by omega)⟩, rfl, hl, hm, ht, hv⟩
      · show va_cpy rd2 (upd r.s 153 (nI (rr9 r' kn pp).length)) 0 154 (3 * (rr9 r' kn pp).length) 153 = nI (rr9 r' kn pp).length
        rw [cpo _ _ _ _ _ _ (by omega), pk_us]
      · have hi : i < (rr9 r' kn pp).length := (List.getElem?_eq_some_iff.mp hx).1
        obtain ⟨x1, x2, x3⟩ := b1 i x hx
        refine ⟨?_, ?_, ?_, ?_, f8.1 x (List.mem_of_getElem? hx)⟩
        · show va_cpy cd' k.here_sentence_code 0 0 40 i = nI (en9 x)
          rw [cp00 _ _ (show i < 40 by omega)]
          exact f5 i x hx
        · show va_cpy rd2 (upd r.s 153 (nI (rr9 r' kn pp).length)) 0 154 (3 * (rr9 r' kn pp).length) (154 + 3 * i) = nI x.1
          rw [cpi _ _ _ _ _ _ (by omega) (by omega), show 0 + (154 + 3 * i - 154) = 3 * i by omega]
          exact x1
        · show va_cpy rd2 (upd r.s 153 (nI (rr9 r' kn pp).length)) 0 154 (3 * (rr9 r' kn pp).length) (155 + 3 * i) = nI x.2.1
          rw [cpi _ _ _ _ _ _ (by omega) (by omega), show 0 + (155 + 3 * i - 154) = 3 * i + 1 by omega]
          exact x2
        · show va_cpy rd2 (upd r.s 153 (nI (rr9 r' kn pp).length)) 0 154 (3 * (rr9 r' kn pp).length) (156 + 3 * i) = nI x.2.2
          rw [cpi _ _ _ _ _ _ (by omega) (by omega), show 0 + (156 + 3 * i - 154) = 3 * i + 2 by omega]
          exact x3
      · have g5 := f8.2.2.2 0 []
        rw [List.append_nil] at g5
        exact g5
      · have g6 := f8.2.2.1
        omega
    · have e := bh_no (res := r.reserved) (nm := r.names) (s := r.s) (fa := r.faultAt) (dp := 0 + 1) f3 f4 N (by omega) (f10 (by omega)) (f11 (Nat.le_refl _)) f6 f7 f1 (fun x S' z => by cases z) (by omega) (by omega) (Or.inr ⟨rfl, e2⟩) got' (nI (0 + m)) (M + 1)
      obtain ⟨p', tok', at', sp', nu', wd', got2, co', on', to', de', wh', st2, rd2, e⟩ := e
      have i2 := fm.trans e
      have i1 : f_X11_sentence N k.lastFault k.sentenceReader_ones k.sentenceReader_draft_length k.tk.kind k.tk.place k.tk.value k.tk.word k.tk.fault k.tk.faultPlace k.tk.size k.tk.taken k.tape_length k.tape_bytes k.tk.kinds k.tk.places k.tk.values k.tk.words k.sentenceReader_draft_code k.here.clocks k.here.meets k.here.clockName k.here.meetName k.here_sentence_length k.here_sentence_code = some (-1 - rc'.2.2.1, 1, nI (0 + m), nI (rr9 r' kn pp).length, kc'.1, kc'.2.1, kc'.2.2.1, kc'.2.2.2.1, 1, rc'.2.2.1, nI sz, kc'.2.2.2.2, 0, K, P, V, W, cd', k.here_sentence_length, k.here_sentence_code) := by
        unfold f_X11_sentence f_X6_read f_X5_clear f_X11_closeText f_X6_readConditionC; rw [zcl_s, o1, zcl_s]; dsimp only; rw [f2', zcl_s]; dsimp only
        rw [if_neg one0, e1, zcl_s, if_pos rfl, ref0, zcl_s, zcl_s]
        dsimp only
        rw [zcl_s]
        dsimp only
        rw [if_neg one0, pl_at f3 f4]
        rfl
      have i3 := g0.trans i2
      refine ⟨-1 - rc'.2.2.1, _, _, by unfold F_sentence; rw [i1, zcl_s], by unfold G_sentence; rw [i3, zcl_s], ?_⟩
      exact ⟨b, d, ⟨hB, h, hS⟩, hH, hI, ⟨0, Nat.zero_le _, rfl, rfl, fun i hi => absurd hi (by omega)⟩, rfl, hl, hm, ht, hv⟩
  · have f2' : f_X6_readCondition N (f_X6_rec N 12) 0 0 kc.1 kc.2.1 kc.2.2.1 kc.2.2.2.1 0 0 (nI sz) kc.2.2.2.2 K P V W 0 k.sentenceReader_draft_code k.here.clocks k.here.meets k.here.clockName k.here.meetName = _ := f2
    obtain ⟨p', tok', at', sp', nu', wd', got2, co', on', to', de', wh', st2, rd2, i2⟩ := f4 N (by omega)
    have i1 : f_X11_sentence N k.lastFault k.sentenceReader_ones k.sentenceReader_draft_length k.tk.kind k.tk.place k.tk.value k.tk.word k.tk.fault k.tk.faultPlace k.tk.size k.tk.taken k.tape_length k.tape_bytes k.tk.kinds k.tk.places k.tk.values k.tk.words k.sentenceReader_draft_code k.here.clocks k.here.meets k.here.clockName k.here.meetName k.here_sentence_length k.here_sentence_code = some (-1 - pl, fl, o', nI l, q1, q2, q3, q4, fl, pl, nI sz, q5, 0, K, P, V, W, cd', k.here_sentence_length, k.here_sentence_code) := by
      unfold f_X11_sentence f_X6_read f_X5_clear f_X11_closeText f_X6_readConditionC; rw [zcl_s, o1, zcl_s]; dsimp only; rw [f2', zcl_s]; dsimp only
      rw [if_pos rfl, zcl_s]
      dsimp only
      rw [zcl_s]
      dsimp only
      rw [if_neg f1]
    have i3 := g0.trans i2
    refine ⟨-1 - pl, _, _, by unfold F_sentence; rw [i1, zcl_s], by unfold G_sentence; rw [i3, zcl_s], ?_⟩
    exact ⟨b, d, ⟨hB, h, hS⟩, hH, hI, ⟨0, Nat.zero_le _, rfl, rfl, fun i hi => absurd hi (by omega)⟩, rfl, hl, hm, ht, hv⟩
