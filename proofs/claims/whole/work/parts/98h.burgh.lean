/-! ===== a burgh is taken over ===== -/
theorem fil6 (N : Nat) (x : Int32) (tl : Nat → Int32) (hN : 100 ≤ N) : ∃ gg, f_J7_fill_53178_n6 N x tl = some gg ∧ ∀ k, k < 6 → gg k = x := by
  unfold f_J7_fill_53178_n6
  refine loopP (F := fun n i gg => f_J7_fill_53178_n6_5 N n x (nI i) 6 gg) (M := 6) (Post := fun z => ∃ gg, z = some gg ∧ ∀ k, k < 6 → gg k = x) (fun i gg => ∀ k, k < i → gg k = x) ?_ ?_ N 0 tl (by omega) (by omega) (fun k hk => absurd hk (by omega))
  · intro n i gg hi hI
    left
    refine ⟨upd gg i x, ?_, fun k hk => ?_⟩
    · show f_J7_fill_53178_n6_5 N (n + 1) x (nI i) 6 gg = f_J7_fill_53178_n6_5 N n x (nI (i + 1)) 6 (upd gg i x)
      rw [f_J7_fill_53178_n6_5, if_neg (show ¬ (6 : Int32) ≤ nI i from nI_ge (b := 6) hi (by omega)), zin_nI hi (by omega), zck_t, zbn_s, zbn_s, nI_1, cl_n (show i < 2147483648 by omega)]
    · by_cases e : k = i
      · rw [e, pk_us]
      · rw [pk_un e]; exact hI k (by omega)
  · intro n gg hI
    refine ⟨gg, ?_, hI⟩
    show f_J7_fill_53178_n6_5 N (n + 1) x (nI 6) 6 gg = some gg
    rw [f_J7_fill_53178_n6_5, if_pos (show (6 : Int32) ≤ nI 6 by decide)]
theorem fil36 (N : Nat) (x : Int32) (tl : Nat → Int32) (hN : 100 ≤ N) : ∃ gg, f_J7_fill_53178_n36 N x tl = some gg ∧ ∀ k, k < 36 → gg k = x := by
  unfold f_J7_fill_53178_n36
  refine loopP (F := fun n i gg => f_J7_fill_53178_n36_5 N n x (nI i) 36 gg) (M := 36) (Post := fun z => ∃ gg, z = some gg ∧ ∀ k, k < 36 → gg k = x) (fun i gg => ∀ k, k < i → gg k = x) ?_ ?_ N 0 tl (by omega) (by omega) (fun k hk => absurd hk (by omega))
  · intro n i gg hi hI
    left
    refine ⟨upd gg i x, ?_, fun k hk => ?_⟩
    · show f_J7_fill_53178_n36_5 N (n + 1) x (nI i) 36 gg = f_J7_fill_53178_n36_5 N n x (nI (i + 1)) 36 (upd gg i x)
      rw [f_J7_fill_53178_n36_5, if_neg (show ¬ (36 : Int32) ≤ nI i from nI_ge (b := 36) hi (by omega)), zin_nI hi (by omega), zck_t, zbn_s, zbn_s, nI_1, cl_n (show i < 2147483648 by omega)]
    · by_cases e : k = i
      · rw [e, pk_us]
      · rw [pk_un e]; exact hI k (by omega)
  · intro n gg hI
    refine ⟨gg, ?_, hI⟩
    show f_J7_fill_53178_n36_5 N (n + 1) x (nI 36) 36 gg = some gg
    rw [f_J7_fill_53178_n36_5, if_pos (show (36 : Int32) ≤ nI 36 by decide)]
section BEG
variable {b : MB} {B : CB} {D : CY} {s : Nat → Int32} {nm : Nat → Int64}
theorem DY.beg (hB : BR b B s nm) (d1 : D.minute = 0) (d2 : D.out = 0) (d3 : D.stopped = 0) (d4 : ∀ c, c < 6 → D.ahead c = B.clockAhead c) (d5 : ∀ c, c < 6 → D.since c = 0) (d7 : ∀ e, e < 6 → D.due e = B.meetDue e) (d8 : ∀ i, i < 36 → D.left i = -1) (d9 : ∀ i, i < 36 → D.came i = -1) (s5 : ∀ i, 52 ≤ i → i < 57 → s i = 0) (s57 : ∀ k, k < 6 → s (57 + k) = s (10 + k)) (s63 : ∀ i, 63 ≤ i → i < 75 → s i = 0) (s75 : ∀ k, k < 6 → s (75 + k) = s (40 + k)) (s81 : ∀ i, 81 ≤ i → i < 153 → s i = 0) : DY b (MD.mk 0 (fun _ => 0) b.du0 (fun _ => 0) b.ah0 (fun _ => false) ((fun _ => false), (fun _ _ => none), (fun _ _ => none))) B D s := by
  obtain ⟨⟨a1, a2, a3, a4, a5, a6, a7, a8, a9, a10, a11, a12⟩, h1, h2, h3⟩ := hB
  have tcM : ∀ m, m < b.M → ∀ e, e < b.T → bt (B.masterMeets m) e = b.toC m e := by
    intro m hm e he
    obtain ⟨-, -, -, -, -, -, -, -, -, -, q11, -⟩ := h2 m hm
    rw [q11, bmk_bit (by omega) e, decide_eq_true he, Bool.true_and]
  have tcR : ∀ m, m < b.M → ∀ e, e < b.T → bt (s (46 + e)) m = b.toC m e := by
    intro m hm e he
    obtain ⟨-, -, -, -, q5, -⟩ := h3 e he
    rw [q5, bmk_bit (by omega) m, decide_eq_true hm, Bool.true_and]
  have c0 : cntM b.M b.T (fun _ _ => none) = 0 := by
    show sm9 (fun _ => sm9 (fun _ => (0 : Int)) b.T) b.M = 0
    rw [sm9_zero, sm9_zero]
  have l0 : latM b.M b.T b.du0 (fun _ _ => none) = 0 := by
    show sm9 (fun _ => sm9 (fun _ => (0 : Int)) b.T) b.M = 0
    rw [sm9_zero, sm9_zero]
  refine ⟨⟨⟨a4, a5, d1, Nat.zero_le _, by rw [d2, s5 53 (by omega) (by omega)], by rw [d3, s5 54 (by omega) (by omega)], fun i _ => by rw [d3, b_0]⟩, ⟨a1, fun c _ => by rw [d3, b_0]; rfl, fun c _ z => (by cases z), fun c hc => ?_, fun c hc => (h1 c hc).2.2.2.2.2.2.2.1, fun c hc => ⟨d5 c (by omega), Nat.zero_le _⟩⟩, ⟨a2, fun m hm => ?_⟩, ⟨a3, fun e he => ?_⟩, ⟨a6, a8, tcM⟩, ⟨fun m => by rw [d2, b_0]; simp [MD.x, MD.mk], fun m hm e he => ⟨d8 _ (by omega), d9 _ (by omega)⟩⟩, ⟨⟨a7, a9, s5 52 (by omega) (by omega), a1, a2, a3⟩, fun c hc => ⟨by rw [s5 54 (by omega) (by omega), b_0]; rfl, fun z => (by cases z), ?_, (h1 c hc).2.2.2.2.2.2.2.2.1, s63 (63 + c) (by omega) (by omega), Nat.zero_le _⟩, fun m hm => ?_, fun e he => ?_, tcR⟩, ⟨fun m => by rw [s5 53 (by omega) (by omega), b_0]; simp [MD.x, MD.mk], fun m hm e he => ⟨s81 _ (by omega) (by omega), s81 _ (by omega) (by omega)⟩, ?_, ?_⟩, fun m e u hu => (by cases hu), fun m e _ _ _ => ⟨fun _ u hu => (by cases hu), fun v hv => (by cases hv)⟩, fun c _ => Nat.le_refl _, fun c hc u hu => ?_⟩, fun m _ e _ _ => ⟨rfl, rfl⟩⟩
  · rw [d4 c (by omega)]; exact (h1 c hc).2.2.2.1
  · obtain ⟨q1, q2, q3, q4, q5, q6, q7, q8, q9, q10, q11, q12⟩ := h2 m hm
    exact ⟨q8, q10, q4, q6, q7, q1, q3⟩
  · obtain ⟨q1, q2, q3, q4, q5, q6⟩ := h3 e he
    refine ⟨by rw [d7 e (by omega)]; exact q1, q3, ?_⟩
    show b.du0 e < 2000
    omega
  · rw [s57 c (by omega)]; exact (h1 c hc).2.2.2.2.1
  · obtain ⟨q1, q2, q3, q4, q5, q6, q7, q8, q9, q10, q11, q12⟩ := h2 m hm
    exact ⟨q9, q10, q5, q6, q7, q2, q3⟩
  · obtain ⟨q1, q2, q3, q4, q5, q6⟩ := h3 e he
    refine ⟨by rw [s75 e (by omega)]; exact q2, q3, ?_⟩
    show b.du0 e < 2000
    omega
  · rw [s5 55 (by omega) (by omega)]
    show (0 : Int32) = iI (cntM b.M b.T (fun _ _ => none))
    rw [c0]; rfl
  · rw [s5 56 (by omega) (by omega)]
    show (0 : Int32) = iI (latM b.M b.T b.du0 (fun _ _ => none))
    rw [l0]; rfl
  · obtain ⟨-, -, -, -, -, q6, q7, -, -, q10, q11, -⟩ := h1 c hc
    show -99 ≤ (u : Int) + b.ah0 c + b.gn c * (((u : Int) - (0 : Nat)) / 60) ∧ (u : Int) + b.ah0 c + b.gn c * (((u : Int) - (0 : Nat)) / 60) ≤ 99 + 2 * u
    have := gk9 (g := b.gn c) (k := ((u : Int) - (0 : Nat)) / 60) q10 q11 (by omega)
    omega
end BEG
theorem p_burgh (N : Nat) (hN : 5000 ≤ N) : Ok9 (F_burgh N) (G_burgh N) := by
  intro k r hR
  obtain ⟨b, d, ⟨hB, h, hS⟩, hH, hI, ⟨L, hL, t1, t3, t4⟩, hf, hl, hm, ht, hv⟩ := hR
  obtain ⟨sz, K, P, V, W, kc, o1, o2, o3⟩ := opn_ok (tp := r.tape) (by9 := k.tape_bytes) (L := L) (lim := 900) N (by omega) hL (by omega) t4 k.tk.kind k.tk.place k.tk.value k.tk.word k.tk.fault k.tk.faultPlace k.tk.size k.tk.taken k.tk.kinds k.tk.places k.tk.values k.tk.words
  obtain ⟨rc, n1, n2⟩ := nx0_ok (tp := r.tape) (L := L) (lim := 900) N (by omega) hL (by omega) r.token r.tokAt r.span r.number r.word
  obtain ⟨h0, c1, c2, c3⟩ := X12_clears_ok N r.h (by omega)
  rw [show nI 900 = (900 : Int32) from rfl] at o1 n1
  have H0 : HB (MB.mk 0 0 0 15 (fun _ => 0) (fun _ => 0) (fun _ => 0) (fun _ => 0) (fun _ => 0) (fun _ => 0) (fun _ => 0) (fun _ _ => false)) (CB.mk 0 0 0 15 k.draft.clockName k.draft.clockCorner k.draft.clockAhead k.draft.clockGain k.draft.masterName k.draft.masterCorner k.draft.masterLate k.draft.masterClock k.draft.masterMeets k.draft.meetName k.draft.meetDue) h0 r.names :=
    ⟨⟨⟨Nat.zero_le _, Nat.zero_le _, Nat.zero_le _, rfl, c3 0 (by omega) (by omega), rfl, c3 1 (by omega) (by omega), rfl, c3 2 (by omega) (by omega), rfl, c2, by decide⟩, fun c hc => absurd hc (Nat.not_lt_zero _), fun c hc => absurd hc (Nat.not_lt_zero _), fun c hc => absurd hc (Nat.not_lt_zero _)⟩, fun i _ hi => ⟨c3 _ (by omega) (by omega), c3 _ (by omega) (by omega)⟩, fun i _ hi => c3 _ (by omega) (by omega)⟩
  have hps : ps9 r.tape L 900 0 = 0 := rfl
  have rd := rdB_ok (by9 := k.tape_bytes) (res := r.reserved) o2 hv N (by omega) 0 r.faultAt r.undoMany r.s N N 0 0 kc rc _ _ h0 r.names 0 r.got o3 n2 H0 (by omega) (by omega) (by omega)
  rcases rd with ⟨lines', wt', b', B', kc', rc', got', h', nm', x1, x2, x3, x4⟩ | ⟨z, w, x1, x2, x3, x4, x5, x6, x7, x8, x9, x10⟩
  · obtain ⟨s1, y1, y2, y3⟩ := b80_ok (tp := r.tape) (res := r.reserved) (th := 0) (len := 0) (size := nI L) (p := rc'.1) (lim := 900) (tok := rc'.2.1) (at_ := rc'.2.2.1) (span := rc'.2.2.2.1) (num := rc'.2.2.2.2.1) (flt := 0) (fa := r.faultAt) (word := rc'.2.2.2.2.2) (got := got') (lines := nI lines') (wt := wt') (um := r.undoMany) (hh := h') N nm' r.s (by omega)
    obtain ⟨nm2, y4, y5⟩ := b117_ok (tp := r.tape) (res := r.reserved) (th := 0) (len := 0) (size := nI L) (p := rc'.1) (lim := 900) (tok := rc'.2.1) (at_ := rc'.2.2.1) (span := rc'.2.2.2.1) (num := rc'.2.2.2.2.1) (flt := 0) (fa := r.faultAt) (word := rc'.2.2.2.2.2) (got := got') (lines := nI lines') (wt := wt') (um := r.undoMany) (hh := h') N nm' s1 (by omega)
    obtain ⟨s2, y6, y7, y8⟩ := b146_ok (tp := r.tape) (res := r.reserved) (th := 0) (len := 0) (size := nI L) (p := rc'.1) (lim := 900) (tok := rc'.2.1) (at_ := rc'.2.2.1) (span := rc'.2.2.2.1) (num := rc'.2.2.2.2.1) (flt := 0) (fa := r.faultAt) (word := rc'.2.2.2.2.2) (got := got') (lines := nI lines') (wt := wt') (um := r.undoMany) (hh := h') N nm2 s1 (by omega)
    have i2 : f_X12_burgh N r.thrown r.length r.size r.p r.limit r.token r.tokAt r.span r.number r.fault r.faultAt r.word r.got r.lines r.hasWait r.undoMany r.h r.tape r.reserved r.names r.s = some (nI lines', 0, 0, nI L, rc'.1, 900, rc'.2.1, rc'.2.2.1, rc'.2.2.2.1, rc'.2.2.2.2.1, 0, r.faultAt, rc'.2.2.2.2.2, got', nI lines', wt', 0, h', nm2, s2) := by
      unfold f_X12_burgh f_X12_taken
      rw [zcl_s, c1, zcl_s]
      dsimp only
      rw [t3, n1, zcl_s]
      have x2' : f_X12_burgh_35 N r.tape r.reserved N 0 0 (nI L) rc.1 900 rc.2.1 rc.2.2.1 rc.2.2.2.1 rc.2.2.2.2.1 0 r.faultAt rc.2.2.2.2.2 r.got 0 0 r.undoMany h0 r.names r.s = _ := x2
      rw [x2']
      exact y1.trans (y4.trans y6)
    obtain ⟨g1, e1, f1⟩ := fil6 N 0 k.day.since (by omega)
    obtain ⟨g2, e2, f2⟩ := fil6 N 0 k.day.stood (by omega)
    obtain ⟨g3, e3, f3⟩ := fil36 N (-1) k.day.left (by omega)
    obtain ⟨g4, e4, f4⟩ := fil36 N (-1) k.day.came (by omega)
    have i1 : f_X11_burgh N k.lastFault k.burghReader_waitTold k.draft.clocks k.draft.masters k.draft.meets k.draft.patience k.tk.kind k.tk.place k.tk.value k.tk.word k.tk.fault k.tk.faultPlace k.tk.size k.tk.taken k.tape_length k.tape_bytes k.tk.kinds k.tk.places k.tk.values k.tk.words k.draft.clockName k.draft.masterName k.draft.meetName k.draft.clockCorner k.draft.clockAhead k.draft.clockGain k.draft.masterCorner k.draft.masterLate k.draft.masterMeets k.draft.masterClock k.draft.meetDue k.here.clocks k.here.masters k.here.meets k.here.patience k.here.clockName k.here.clockCorner k.here.clockAhead k.here.clockGain k.here.masterName k.here.masterCorner k.here.masterLate k.here.masterClock k.here.masterMeets k.here.meetName k.here.meetDue k.day.minute k.day.out k.day.stopped k.day.ahead k.day.since k.day.stood k.day.due k.day.left k.day.came k.here_sentence_length k.history_size = some (nI lines', 0, wt', B'.clocks, B'.masters, B'.meets, B'.patience, kc'.1, kc'.2.1, kc'.2.2.1, kc'.2.2.2.1, 0, 0, nI sz, kc'.2.2.2.2, 0, K, P, V, W, B'.clockName, B'.masterName, B'.meetName, B'.clockCorner, B'.clockAhead, B'.clockGain, B'.masterCorner, B'.masterLate, B'.masterMeets, B'.masterClock, B'.meetDue, (CB.cpy B' k.here).clocks, (CB.cpy B' k.here).masters, (CB.cpy B' k.here).meets, (CB.cpy B' k.here).patience, (CB.cpy B' k.here).clockName, (CB.cpy B' k.here).clockCorner, (CB.cpy B' k.here).clockAhead, (CB.cpy B' k.here).clockGain, (CB.cpy B' k.here).masterName, (CB.cpy B' k.here).masterCorner, (CB.cpy B' k.here).masterLate, (CB.cpy B' k.here).masterClock, (CB.cpy B' k.here).masterMeets, (CB.cpy B' k.here).meetName, (CB.cpy B' k.here).meetDue, 0, 0, 0, va_cpy (CB.cpy B' k.here).clockAhead k.day.ahead 0 0 6, g1, g2, va_cpy (CB.cpy B' k.here).meetDue k.day.due 0 0 6, g3, g4, 0, 0) := by
      unfold f_X11_burgh f_X2_read f_X1_clear
      rw [t1, zcl_s, o1, zcl_s]
      dsimp only
      have x1' : f_X2_read_24 N (nI L) k.tape_bytes N 0 0 0 0 0 15 kc.1 kc.2.1 kc.2.2.1 kc.2.2.2.1 0 0 (nI sz) kc.2.2.2.2 K P V W k.draft.clockName k.draft.masterName k.draft.meetName k.draft.clockCorner k.draft.clockAhead k.draft.clockGain k.draft.masterCorner k.draft.masterLate k.draft.masterMeets k.draft.masterClock k.draft.meetDue = _ := x1
      rw [x1', zcl_s]
      unfold f_X11_closeText f_X3_begin f_X5_clear f_X4_forget f_X1_copyFrom
      rw [zcl_s]
      dsimp only
      rw [if_pos rfl, zbn_s, zbn_s, zbn_s, zbn_s, zbn_s, zbn_s, zbn_s, zbn_s, zbn_s, zbn_s, zbn_s, zcl_s]
      dsimp only
      rw [zbn_s, e1, zcl_s, e2, zcl_s, zbn_s, e3, zcl_s, e4, zcl_s, zcl_s]
      rfl
    have hs52 : ∀ i, i < 52 → s2 i = h' i := fun i hi => (y8 i (by omega) (by omega)).trans (y2 i hi)
    have hs0 : ∀ i, 52 ≤ i → i < 334 → ¬ (57 ≤ i ∧ i < 63) → ¬ (75 ≤ i ∧ i < 81) → s2 i = 0 := fun i i1 i2 i3 i4 => (y8 i i3 i4).trans (y3 i i1 i2)
    have hB2 : BR b' (CB.cpy B' k.here) s2 nm2 := ((x3.1.cpy k.here).congS hs52).congN (fun i hi => by rw [y5 i hi])
    refine ⟨nI lines', _, _, by unfold F_burgh; rw [i1, zcl_s], by unfold G_burgh; rw [i2, zcl_s], ?_⟩
    obtain ⟨p, n, p1, -, p3, -⟩ := hH
    refine ⟨b', _, ⟨hB2, DY.beg hB2 rfl rfl rfl (fun c hc => cp00 _ _ hc) f1 (fun e he => cp00 _ _ he) f3 f4 (fun i i1 i2 => hs0 i (by omega) (by omega) (by omega) (by omega)) (fun q hq => ?_) (fun i i1 i2 => hs0 i (by omega) (by omega) (by omega) (by omega)) (fun q hq => ?_) (fun i i1 i2 => hs0 i (by omega) (by omega) (by omega) (by omega)), ⟨[], Nat.zero_le _, rfl, hs0 153 (by omega) (by omega) (by omega) (by omega), fun i x hx => (by cases hx), Or.inl rfl, Nat.zero_le _⟩⟩, ⟨p, 0, p1, Nat.zero_le _, p3, rfl, rfl, fun i hi => absurd hi (by omega)⟩, hI, ⟨0, Nat.zero_le _, rfl, rfl, fun i hi => absurd hi (by omega)⟩, rfl, hl, hm, ht, hv⟩
    · show s2 (57 + q) = s2 (10 + q)
      rw [(y7 q hq).1, hs52 (10 + q) (by omega), y2 (10 + q) (by omega)]
    · show s2 (75 + q) = s2 (40 + q)
      rw [(y7 q hq).2, hs52 (40 + q) (by omega), y2 (40 + q) (by omega)]
  · have i2 : f_X12_burgh N r.thrown r.length r.size r.p r.limit r.token r.tokAt r.span r.number r.fault r.faultAt r.word r.got r.lines r.hasWait r.undoMany r.h r.tape r.reserved r.names r.s = some w := by
      unfold f_X12_burgh f_X12_taken
      rw [zcl_s, c1, zcl_s]
      dsimp only
      rw [t3, n1, zcl_s]
      exact x2
    have i1 : ∃ T, f_X11_burgh N k.lastFault k.burghReader_waitTold k.draft.clocks k.draft.masters k.draft.meets k.draft.patience k.tk.kind k.tk.place k.tk.value k.tk.word k.tk.fault k.tk.faultPlace k.tk.size k.tk.taken k.tape_length k.tape_bytes k.tk.kinds k.tk.places k.tk.values k.tk.words k.draft.clockName k.draft.masterName k.draft.meetName k.draft.clockCorner k.draft.clockAhead k.draft.clockGain k.draft.masterCorner k.draft.masterLate k.draft.masterMeets k.draft.masterClock k.draft.meetDue k.here.clocks k.here.masters k.here.meets k.here.patience k.here.clockName k.here.clockCorner k.here.clockAhead k.here.clockGain k.here.masterName k.here.masterCorner k.here.masterLate k.here.masterClock k.here.masterMeets k.here.meetName k.here.meetDue k.day.minute k.day.out k.day.stopped k.day.ahead k.day.since k.day.stood k.day.due k.day.left k.day.came k.here_sentence_length k.history_size = some T ∧ T.1 = -1 - z.2.2.2.2.2.2.2.2.2.2.2.1 ∧ F_burgh N k = some (T.1, (KS.mk k.here k.day k.trial (CB.mk z.2.2.1 z.2.2.2.1 z.2.2.2.2.1 z.2.2.2.2.2.1 z.2.2.2.2.2.2.2.2.2.2.2.2.2.2.2.2.2.2.1 z.2.2.2.2.2.2.2.2.2.2.2.2.2.2.2.2.2.2.2.2.2.1 z.2.2.2.2.2.2.2.2.2.2.2.2.2.2.2.2.2.2.2.2.2.2.1 z.2.2.2.2.2.2.2.2.2.2.2.2.2.2.2.2.2.2.2.2.2.2.2.1 z.2.2.2.2.2.2.2.2.2.2.2.2.2.2.2.2.2.2.2.1 z.2.2.2.2.2.2.2.2.2.2.2.2.2.2.2.2.2.2.2.2.2.2.2.2.1 z.2.2.2.2.2.2.2.2.2.2.2.2.2.2.2.2.2.2.2.2.2.2.2.2.2.1 z.2.2.2.2.2.2.2.2.2.2.2.2.2.2.2.2.2.2.2.2.2.2.2.2.2.2.2.1 z.2.2.2.2.2.2.2.2.2.2.2.2.2.2.2.2.2.2.2.2.2.2.2.2.2.2.1 z.2.2.2.2.2.2.2.2.2.2.2.2.2.2.2.2.2.2.2.2.1 z.2.2.2.2.2.2.2.2.2.2.2.2.2.2.2.2.2.2.2.2.2.2.2.2.2.2.2.2) (TK.mk z.2.2.2.2.2.2.1 z.2.2.2.2.2.2.2.1 z.2.2.2.2.2.2.2.2.1 z.2.2.2.2.2.2.2.2.2.1 z.2.2.2.2.2.2.2.2.2.2.1 z.2.2.2.2.2.2.2.2.2.2.2.1 z.2.2.2.2.2.2.2.2.2.2.2.2.1 z.2.2.2.2.2.2.2.2.2.2.2.2.2.1 z.2.2.2.2.2.2.2.2.2.2.2.2.2.2.1 z.2.2.2.2.2.2.2.2.2.2.2.2.2.2.2.1 z.2.2.2.2.2.2.2.2.2.2.2.2.2.2.2.2.1 z.2.2.2.2.2.2.2.2.2.2.2.2.2.2.2.2.2.1) k.hd k.ib k.im z.2.2.2.2.2.2.2.2.2.2.1 k.lastLateness 0 k.tape_bytes z.2.1 k.here_kept k.here_sentence_length k.history_next k.history_size k.watch_first k.watch_bestClock k.watch_found k.watch_tally k.ledger_lines k.ledger_judged k.ledger_why k.ledger_good k.ledger_minuteThen k.ledger_outThen k.ledger_verb k.ledger_who k.ledger_what k.sentenceReader_ones k.sentenceReader_draft_length k.sentenceReader_draft_code k.here_sentence_code k.here_sentence_stack k.images_kept k.images_sentence_length k.images_sentence_code)) := by
      have e : ∃ T, f_X11_burgh N k.lastFault k.burghReader_waitTold k.draft.clocks k.draft.masters k.draft.meets k.draft.patience k.tk.kind k.tk.place k.tk.value k.tk.word k.tk.fault k.tk.faultPlace k.tk.size k.tk.taken k.tape_length k.tape_bytes k.tk.kinds k.tk.places k.tk.values k.tk.words k.draft.clockName k.draft.masterName k.draft.meetName k.draft.clockCorner k.draft.clockAhead k.draft.clockGain k.draft.masterCorner k.draft.masterLate k.draft.masterMeets k.draft.masterClock k.draft.meetDue k.here.clocks k.here.masters k.here.meets k.here.patience k.here.clockName k.here.clockCorner k.here.clockAhead k.here.clockGain k.here.masterName k.here.masterCorner k.here.masterLate k.here.masterClock k.here.masterMeets k.here.meetName k.here.meetDue k.day.minute k.day.out k.day.stopped k.day.ahead k.day.since k.day.stood k.day.due k.day.left k.day.came k.here_sentence_length k.history_size = some T ∧ T = (-1 - z.2.2.2.2.2.2.2.2.2.2.2.1, z.2.2.2.2.2.2.2.2.2.2.1, z.2.1, z.2.2.1, z.2.2.2.1, z.2.2.2.2.1, z.2.2.2.2.2.1, z.2.2.2.2.2.2.1, z.2.2.2.2.2.2.2.1, z.2.2.2.2.2.2.2.2.1, z.2.2.2.2.2.2.2.2.2.1, z.2.2.2.2.2.2.2.2.2.2.1, z.2.2.2.2.2.2.2.2.2.2.2.1, z.2.2.2.2.2.2.2.2.2.2.2.2.1, z.2.2.2.2.2.2.2.2.2.2.2.2.2.1, 0, z.2.2.2.2.2.2.2.2.2.2.2.2.2.2.1, z.2.2.2.2.2.2.2.2.2.2.2.2.2.2.2.1, z.2.2.2.2.2.2.2.2.2.2.2.2.2.2.2.2.1, z.2.2.2.2.2.2.2.2.2.2.2.2.2.2.2.2.2.1, z.2.2.2.2.2.2.2.2.2.2.2.2.2.2.2.2.2.2.1, z.2.2.2.2.2.2.2.2.2.2.2.2.2.2.2.2.2.2.2.1, z.2.2.2.2.2.2.2.2.2.2.2.2.2.2.2.2.2.2.2.2.1, z.2.2.2.2.2.2.2.2.2.2.2.2.2.2.2.2.2.2.2.2.2.1, z.2.2.2.2.2.2.2.2.2.2.2.2.2.2.2.2.2.2.2.2.2.2.1, z.2.2.2.2.2.2.2.2.2.2.2.2.2.2.2.2.2.2.2.2.2.2.2.1, z.2.2.2.2.2.2.2.2.2.2.2.2.2.2.2.2.2.2.2.2.2.2.2.2.1, z.2.2.2.2.2.2.2.2.2.2.2.2.2.2.2.2.2.2.2.2.2.2.2.2.2.1, z.2.2.2.2.2.2.2.2.2.2.2.2.2.2.2.2.2.2.2.2.2.2.2.2.2.2.1, z.2.2.2.2.2.2.2.2.2.2.2.2.2.2.2.2.2.2.2.2.2.2.2.2.2.2.2.1, z.2.2.2.2.2.2.2.2.2.2.2.2.2.2.2.2.2.2.2.2.2.2.2.2.2.2.2.2, k.here.clocks, k.here.masters, k.here.meets, k.here.patience, k.here.clockName, k.here.clockCorner, k.here.clockAhead, k.here.clockGain, k.here.masterName, k.here.masterCorner, k.here.masterLate, k.here.masterClock, k.here.masterMeets, k.here.meetName, k.here.meetDue, k.day.minute, k.day.out, k.day.stopped, k.day.ahead, k.day.since, k.day.stood, k.day.due, k.day.left, k.day.came, k.here_sentence_length, k.history_size) := by
        unfold f_X11_burgh f_X2_read f_X1_clear
        rw [t1, zcl_s, o1, zcl_s]
        dsimp only
        have x1' : f_X2_read_24 N (nI L) k.tape_bytes N 0 0 0 0 0 15 kc.1 kc.2.1 kc.2.2.1 kc.2.2.2.1 0 0 (nI sz) kc.2.2.2.2 K P V W k.draft.clockName k.draft.masterName k.draft.meetName k.draft.clockCorner k.draft.clockAhead k.draft.clockGain k.draft.masterCorner k.draft.masterLate k.draft.masterMeets k.draft.masterClock k.draft.meetDue = some z := x1
        rw [x1', zcl_s]
        unfold f_X11_closeText
        rw [zcl_s, if_neg x3]
        exact ⟨_, rfl, rfl⟩
      obtain ⟨T, e1, e2⟩ := e
      refine ⟨T, e1, by rw [e2], ?_⟩
      unfold F_burgh
      rw [e1, zcl_s, e2]
      rfl
    obtain ⟨T, -, i3, i4⟩ := i1
    refine ⟨T.1, _, _, i4, by unfold G_burgh; rw [i2, zcl_s, i3, x4], ?_⟩
    refine ⟨b, d, ⟨?_, ?_, ?_⟩, ?_, hI, ⟨0, Nat.zero_le _, rfl, x6, fun i hi => absurd hi (by omega)⟩, x7.symm, hl, hm, ht, hv⟩
    · show BR b k.here w.2.2.2.2.2.2.2.2.2.2.2.2.2.2.2.2.2.2.2 w.2.2.2.2.2.2.2.2.2.2.2.2.2.2.2.2.2.2.1
      rw [x10]; exact hB.congN x9
    · show DY b d k.here k.day w.2.2.2.2.2.2.2.2.2.2.2.2.2.2.2.2.2.2.2
      rw [x10]; exact h
    · show SR b k.here_sentence_length k.here_sentence_code w.2.2.2.2.2.2.2.2.2.2.2.2.2.2.2.2.2.2.2
      rw [x10]; exact hS
    · show HR b k.here k.hd k.history_next k.history_size w.2.2.2.2.2.2.2.2.2.2.2.2.2.2.2.2.2.2.2 r.undone w.2.2.2.2.2.2.2.2.2.2.2.2.2.2.2.2.1
      rw [x10, x8]; exact hH
