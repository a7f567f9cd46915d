/-! ===== the law ===== -/
/-! THE CLAIM OUT OF ONE WALK OF THE LAW'S BODY. Your part is whole_start (and what it stands on); all else here is the same for every law, but numbers. -/
def R_law : String := "LateMastersLaw"
def lw_P (b : Addr) (xs : List Int32) (args : Array Value) (s : State) : Prop := args = #[.ref b] ∧ s.IntsAt b xs ∧ xs.length ≤ 3072 ∧ (Jvm.Cond.and given_1 narrow_1).before args s = true
def lw_Q (_ : Array Value) (s : State) (o : Outcome) (t : State) : Prop := o = .returned (some (.int 1)) ∧ Framed s o t [] 601024 7293034
def lw_Z (below : List Frame) (a : Array Value) (s : State) : State → Prop := fun t => ∃ o, t.status = .running ∧ Ended t below o ∧ lw_Q a s o t
/-- the law's own end, with 1 on the stack, nothing written that was there before, its room as the claim has it -/
theorem lw_ret {p : Program} {l : Launch} {e : Env} {s : State} {m : MethodId} {below : List Frame} {meth : Method} {c : Code} {b : Nat} (hx : p.tables.exec = Jvm.exec) (hb : c.code = code) (hr : meth.sig.returnType = ret) (hlocks : meth.locks = false) {pc : Nat} {H : Heap} {ls : Array Slot} (hdg : decode code pc = .ok (.ireturn, 1)) : W p l e room_1 s m #[Value.ref b] below meth c H [] 601024 7293034 (lw_Z below #[Value.ref b] s) (F0 m pc ls [.int 1]) := by
  intro T hT X
  obtain ⟨fs, hret, hrun, hended, hW, hframe⟩ := X.leave (v := some (.int 1)) (hlocks := hlocks) (fun h => by rw [hr] at h; cases h)
  have hmeth' : T.vm.method? m = some meth := X.method'
  refine ⟨T.setFrames fs, ?_, .returned (some (.int 1)), hrun, hended, rfl, ⟨_, rfl⟩, hW, hframe⟩
  jvm_step X.here [X.here.top, hx, hb, hdg, hmeth', hr, ret, narrow_b1]
  (try refine ⟨rfl, ?_⟩); (try refine ⟨rfl, ?_⟩)
  first | (intro acts; rw [hret _ acts rfl rfl rfl]) | rw [hret _ _ rfl rfl rfl]
  exact Steps.refl _
/-- what holds at the law's entry: the machine, the code, the tables' words (any of lw_tbl by 'hts w (by decide +kernel)'), the script of L ints xs at the cell b, what the Statement gives of the start (any of its parts by flat_of_before) -/
def lw_At (p : Program) (s : State) (m : MethodId) (meth : Method) (c : Code) (b L : Nat) (xs : Nat → Int32) : Prop :=
  p.tables.exec = Jvm.exec ∧ c.code = code ∧ meth.sig.returnType = ret ∧ c.maxLocals = 7 ∧ s.vm.findClass R_law = some m.cls ∧ (∀ w ∈ lw_tbl, w.before #[Value.ref b] s = true) ∧ va_X b L xs s s.heap ∧ b < s.heap.size ∧ meth.locks = false ∧ (Jvm.Cond.and given_1 narrow_1).before #[Value.ref b] s = true
theorem lz_le {j L : Nat} (hj : 6 * j ≤ L) (hL : L ≤ 3072) (h : ¬ (Int32.ofNat L - 6 < nI (6 * j))) : 6 * j + 6 ≤ L := by
  have e1 : Int32.ofNat L - 6 = iI ((L : Int) - 6) := by rw [show Int32.ofNat L = iI (L : Int) from iI_nat L, show (6 : Int32) = iI 6 from rfl, iI_sub]
  have e2 : nI (6 * j) = iI ((6 * j : Nat) : Int) := iI_nat _
  apply Decidable.byContradiction
  intro hc
  apply h
  rw [e1, e2]
  exact (iI_lt ⟨by omega, by omega⟩ ⟨by omega, by omega⟩).mpr (by omega)
set_option maxHeartbeats 4000000 in
theorem lw_loop {p : Program} {l : Launch} {e : Env} {s : State} {m : MethodId} {below : List Frame} {meth : Method} {c : Code} {G : va_G} {cy : Nat → ClassId} {E : Nat → Nat} {b L : Nat} {xs : Nat → Int32} {q q2 : Nat → Nat} {qo : Nat} (hlt : l.stackTraces = false) (hc1 : zxB s) (S : CallFix p m c cL_law 7 s #[Value.ref b] LT RL) (hF : zF G cy E (fun z => s.heap.size ≤ z) s) (hX : va_X b L xs s s.heap) (hbl : b < s.heap.size) (hr : meth.sig.returnType = ret) (hlocks : meth.locks = false) (hL : L ≤ 3072) :
    ∀ (n j : Nat) (H : Heap) (locs : List Loc) (ls : Array Slot) (k : KS) (r : RS), L < 6 * (j + n) → 6 * j ≤ L → lv_has ls 7 [(0, .ref b), (1, .ref (q 0)), (2, .ref (q2 0)), (3, .ref qo), (4, .int (nI (6 * j)))] → LInv G cy (fun z => s.heap.size ≤ z) s q q2 qo H locs k r → W p l e room_1 s m #[Value.ref b] below meth c H locs (400 + 20 * j) (14000 + 500 * j) (lw_Z below #[Value.ref b] s) (F0 m 23 ls []) := by
  intro n
  induction n with
  | zero => intro j H locs ls k r h1 h2; omega
  | succ n ih =>
    intro j H locs ls k r hfu hj hl hI
    obtain ⟨hx, hb, hml, hown, hts⟩ := id S
    have hbA : ¬ (fun z : Nat => s.heap.size ≤ z) b := Nat.not_le.mpr hbl
    obtain ⟨-, qv, mm, nn, ml, f, t, g, -, -, -, -, -, hH⟩ := id hI
    refine lv_iload hx hb dL_law_23 (lv_at hl 4 rfl) ?_
    refine lv_aload_n hx hb dL_law_25 rfl (lv_at hl 0 rfl) ?_
    refine va_slen hx hb hX hbl hbA hH.2.2 dL_law_26 ?_
    refine lv_bipush (v := 6) hx hb dL_law_27 (by decide) ?_
    refine lv_isub hx hb dL_law_29 ?_
    refine lv_icmp_gt (tgt := 1363) hx hb dL_law_30 (by decide) (fun hgt => ?_) (fun hgt => ?_)
    · refine lv_iconst (v := 1) hx hb dL_law_1363 (by decide) ?_
      refine va_forget (fun z hz => hH.2.2.2.2 z hz) ?_
      refine W.widen (k := 601024) (n := 7293034) (by omega) (by omega) ?_
      exact lw_ret hx hb hr hlocks dL_law_1364
    · have h6 : 6 * j + 6 ≤ L := lz_le hj hL hgt
      refine lv_aload_n hx hb dL_law_33 rfl (lv_at hl 0 rfl) ?_
      refine lv_iload hx hb dL_law_34 (lv_at hl 4 rfl) ?_
      refine va_sld hx hb hX hbl hbA hH.2.2 (zin_e (zin_nI (show 6 * j < L by omega) (by omega))) dL_law_36 ?_
      refine lv_bipush (v := 63) hx hb dL_law_37 (by decide) ?_
      refine lv_iand hx hb dL_law_39 ?_
      refine lv_topi (fun y hy => ?_)
      have kk : ∀ (H1 : Heap) (locs1 : List Loc) (ls' : Array Slot) (k' : KS) (r' : RS), lv_has ls' 7 [(0, .ref b), (1, .ref (q 0)), (2, .ref (q2 0)), (3, .ref qo), (4, .int (nI (6 * j)))] → LInv G cy (fun z => s.heap.size ≤ z) s q q2 qo H1 locs1 k' r' → W p l e room_1 s m #[Value.ref b] below meth c H1 locs1 (400 + 20 * j + 20) (14000 + 500 * j + 500) (lw_Z below #[Value.ref b] s) (F0 m 1357 ls' []) := by
        intro H1 locs1 ls' k' r' hl' hI'
        refine lv_iinc (k := 4) (v := nI (6 * (j + 1))) (lv' := [(4, .int (nI (6 * (j + 1)))), (0, .ref b), (1, .ref (q 0)), (2, .ref (q2 0)), (3, .ref qo)]) hx hb dL_law_1357 hl' rfl (by rw [show Int32.ofInt 6 = nI 6 from by decide, nI_add]; rfl) (by decide) rfl (fun ls2 hl2 => ?_)
        refine lv_goto (tgt := 23) hx hb dL_law_1360 (by decide) ?_
        refine W.widen (k := 400 + 20 * (j + 1)) (n := 14000 + 500 * (j + 1)) (by omega) (by omega) ?_
        exact ih (j + 1) H1 locs1 ls2 k' r' (by omega) (by omega) (lv_sub hl2 [1, 2, 3, 4, 0] rfl) hI'
      by_cases hc : ∃ c0 : Nat, c0 < 40 ∧ y = nI c0
      · obtain ⟨c0, h0, hy0⟩ := hc
        rw [hy0]
        exact lw_disp hlt hc1 S hF hX hbl hbA hl (fun i hi => by rw [nI_add]; exact zin_e (zin_nI (show 6 * j + i < L by omega) (by omega))) (by omega) (by omega) hI kk c0 h0
      · refine lv_tableOut (tgt := 1357) hx hb dL_law_40 ?_ (by decide) ?_
        · rcases Int.lt_or_le y.toInt 0 with h | h
          · exact Or.inl h
          · rcases Int.lt_or_le 39 y.toInt with h' | h'
            · exact Or.inr h'
            · obtain ⟨j9, g1, g2⟩ := nI_of (x := y) (fun z => by rw [Int32.lt_iff_toInt_lt] at z; have z2 : y.toInt < 0 := z; omega)
              have g3 : y.toInt = (j9 : Int) := by rw [g2]; exact nI_toInt g1
              exact absurd ⟨j9, by omega, g2⟩ hc
        · refine W.widen (k := 400 + 20 * j + 20) (n := 14000 + 500 * j + 500) (by omega) (by omega) ?_
          exact kk H locs ls k r hl hI
theorem lz_lat : sb_Lat (fun _ => 0) 0 (fun _ => 0) := by
  intro i hi
  exact absurd hi (Nat.not_lt_zero i)
theorem lz_fit : sb_Fit (fun _ => 0) := by
  intro i
  show fits FieldType.byte (Value.int 0) = true
  decide
set_option maxHeartbeats 4000000 in
set_option maxRecDepth 20000 in
/-- the law, from its entry -/
theorem whole_start {p : Program} {e : Env} {s : State} {m : MethodId} {below : List Frame} {meth : Method} {c : Code} (l : Launch) (hflags : l.flags = flags0) {b L : Nat} {xs : Nat → Int32} (hL : L ≤ 3072) (C0 : lw_At p s m meth c b L xs) : W p l e room_1 s m #[Value.ref b] below meth c s.heap [] 0 0 (lw_Z below #[Value.ref b] s) (entryFrame m ([Value.ref b] : List Value).toArray 7) := by
  obtain ⟨hx, hb, hr, hml, hown, hts0, hX, hbl, hlocks, hgv⟩ := id C0
  have hlt : l.stackTraces = false := by
    unfold Launch.stackTraces
    rw [hflags]
    decide +kernel
  have hts := zs_LT hts0
  have hc1 := zs_X hts0
  obtain ⟨G, cy, E, hF⟩ := zs_F hts0 hgv
  have S : CallFix p m c cL_law 7 s #[Value.ref b] LT RL := ⟨hx, hb, hml, hown, hts⟩
  obtain ⟨rf, hfill, hrf⟩ := fil36 5000 (-1) (fun _ => 0) (Nat.le_of_ble_eq_true rfl)
  obtain ⟨rs, rh, hini, hs3, hs0⟩ := ini_ok 5000 (Nat.le_of_ble_eq_true rfl)
  have hl := lv_entry ([.ref b]) (n := 7) (Nat.le_of_ble_eq_true rfl)
  rw [lg_entry_eq]
  generalize (lg_sl ([.ref b]) ++ List.replicate (7 - (lg_sl ([.ref b])).length) Slot.unset).toArray = ls at hl ⊢
  have hl : lv_has ls 7 [(0, .ref b)] := hl
  have hH : zH G (fun z : Nat => s.heap.size ≤ z) s s.heap [] [] := ⟨fun k q h => by simp at h, ⟨fun i j p q h => by simp at h, fun k q h => by simp at h⟩, va_S.rf⟩
  refine z_new (C := RX11) (T := TX11) (N := 13) (ci := 12) (fs := [.null, .null, .null, .null, .null, .null, .null, .null, .null, .null, .null, .int 0, .int 0]) S hF hH (fun w h => (gk_wsX110 w h).1) tyX11 tyX11_ok mw_1733.1 mw_1734.1 mw_450.1 rfl (fun j hj => by rcases (show j = 0 ∨ j = 1 ∨ j = 2 ∨ j = 3 ∨ j = 4 ∨ j = 5 ∨ j = 6 ∨ j = 7 ∨ j = 8 ∨ j = 9 ∨ j = 10 ∨ j = 11 ∨ j = 12 by omega) with rfl | rfl | rfl | rfl | rfl | rfl | rfl | rfl | rfl | rfl | rfl | rfl | rfl <;> rfl) (Nat.le_of_ble_eq_true rfl) (Nat.le_of_ble_eq_true rfl) dL_law_0 (fun qx H hH => ?_)
  refine lv_dup hx hb dL_law_3 rfl ?_
  refine z_calleIy [] (rest := [.ref qx]) (As := []) S hF hH (c_X11_init l G cy E 5000 rf hfill qx) (cwI 0 hts gv_X11_init rfl rfl rfl (hts _ mw_450.1) (hts _ mw_1737.1) (hts _ mw_1738.1) rfl (by decide +kernel) ⟨Nat.le_of_ble_eq_true rfl, Nat.le_of_ble_eq_true rfl⟩) rfl rfl hl.1 (Nat.le_of_ble_eq_true rfl) dL_law_4 ⟨Nat.le_of_ble_eq_true rfl, Nat.le_of_ble_eq_true rfl⟩ (fun x H locs _ hH => ?_)
  have hH := zH_pick _ ki_nd (ki_KW cy rf qx x) hH
  refine lv_astore_n (lv' := [(1, .ref qx), (0, .ref b)]) hx hb dL_law_7 rfl hl (by decide) rfl (fun ls hl => ?_)
  refine z_new (C := RX12) (T := TX12) (N := 46) (ci := 13) (fs := [.int 0, .null, .int 0, .int 0, .int 0, .int 0, .null, .null, .null, .null, .null, .int 0, .int 0, .int 0, .int 0, .int 0, .int 0, .long 0, .int 0, .int 0, .int 0, .null, .null, .int 0, .null, .int 0, .int 0, .int 0, .null, .int 0, .null, .int 0, .int 0, .int 0, .null, .int 0, .null, .int 0, .int 0, .int 0, .int 0, .int 0, .null, .null, .null, .null]) S hF hH (fun w h => (gk_wsX120 w h).1) tyX12 tyX12_ok mw_1735.1 mw_1736.1 mw_247.1 rfl (fun j hj => by rcases (show j = 0 ∨ j = 1 ∨ j = 2 ∨ j = 3 ∨ j = 4 ∨ j = 5 ∨ j = 6 ∨ j = 7 ∨ j = 8 ∨ j = 9 ∨ j = 10 ∨ j = 11 ∨ j = 12 ∨ j = 13 ∨ j = 14 ∨ j = 15 ∨ j = 16 ∨ j = 17 ∨ j = 18 ∨ j = 19 ∨ j = 20 ∨ j = 21 ∨ j = 22 ∨ j = 23 ∨ j = 24 ∨ j = 25 ∨ j = 26 ∨ j = 27 ∨ j = 28 ∨ j = 29 ∨ j = 30 ∨ j = 31 ∨ j = 32 ∨ j = 33 ∨ j = 34 ∨ j = 35 ∨ j = 36 ∨ j = 37 ∨ j = 38 ∨ j = 39 ∨ j = 40 ∨ j = 41 ∨ j = 42 ∨ j = 43 ∨ j = 44 ∨ j = 45 by omega) with rfl | rfl | rfl | rfl | rfl | rfl | rfl | rfl | rfl | rfl | rfl | rfl | rfl | rfl | rfl | rfl | rfl | rfl | rfl | rfl | rfl | rfl | rfl | rfl | rfl | rfl | rfl | rfl | rfl | rfl | rfl | rfl | rfl | rfl | rfl | rfl | rfl | rfl | rfl | rfl | rfl | rfl | rfl | rfl | rfl | rfl <;> rfl) (Nat.le_of_ble_eq_true rfl) (Nat.le_of_ble_eq_true rfl) dL_law_8 (fun qm H hH => ?_)
  refine lv_dup hx hb dL_law_11 rfl ?_
  refine z_calleI _ (rest := [.ref qm]) (As := []) (st1 := [.ref qm]) S hF hH (c_X12_init l G cy E 5000 rs rh rvf hini qm) (cwI 0 hts gv_X12_init rfl rfl rfl (hts _ mw_247.1) (hts _ mw_1739.1) (hts _ mw_1740.1) rfl (by decide +kernel) ⟨Nat.le_of_ble_eq_true rfl, Nat.le_of_ble_eq_true rfl⟩) rfl rfl rfl hl.1 (Nat.le_of_ble_eq_true rfl) dL_law_12 ⟨Nat.le_of_ble_eq_true rfl, Nat.le_of_ble_eq_true rfl⟩ (fun y H locs hH => ?_)
  have hH : zH G (fun z : Nat => s.heap.size ≤ z) s H locs ((KW cy (kqx qx x) (k00 rf) ++ DW cy (kqx qx x) (x.2 9 0) 16 0 0 (fun _ => 0)) ++ RW cy (rqx qm y) (r00 rs rh rvf)) := hH
  refine lv_astore_n (lv' := [(2, .ref qm), (1, .ref qx), (0, .ref b)]) hx hb dL_law_15 rfl hl (by decide) rfl (fun ls hl => ?_)
  refine lv_iconst (v := 1) hx hb dL_law_16 (by decide) ?_
  refine z_newa (atype := .long) (N' := 1) (a0 := (1, .inr (.inl (fun _ => 0)))) S hF hH 2 mw_70.1 rfl (fun _ => rfl) (by decide) (by decide) (Nat.le_of_ble_eq_true rfl) (Nat.le_of_ble_eq_true rfl) (Nat.le_of_ble_eq_true rfl) dL_law_17 (fun qo H hH => ?_)
  have hH : zH G (fun z : Nat => s.heap.size ≤ z) s H locs (KW cy (kqx qx x) (k00 rf) ++ (DW cy (kqx qx x) (x.2 9 0) 16 0 0 (fun _ => 0) ++ (RW cy (rqx qm y) (r00 rs rh rvf) ++ OW cy qo (fun _ => 0)))) := by
    rw [List.append_assoc, List.append_assoc] at hH
    exact hH
  refine lv_astore_n (lv' := [(3, .ref qo), (2, .ref qm), (1, .ref qx), (0, .ref b)]) hx hb dL_law_19 rfl hl (by decide) rfl (fun ls hl => ?_)
  refine lv_iconst (v := 0) hx hb dL_law_20 (by decide) ?_
  refine lv_istore (lv' := [(4, .int 0), (3, .ref qo), (2, .ref qm), (1, .ref qx), (0, .ref b)]) hx hb dL_law_21 hl (by decide) rfl (fun ls hl => ?_)
  refine W.widen (k := 400 + 20 * 0) (n := 14000 + 500 * 0) (Nat.le_of_ble_eq_true rfl) (Nat.le_of_ble_eq_true rfl) ?_
  exact lw_loop (q := kqx qx x) (q2 := rqx qm y) (qo := qo) hlt hc1 S hF hX hbl hr hlocks hL (L + 1) 0 H locs ls (k00 rf) (r00 rs rh rvf) (by omega) (by omega) (lv_sub hl [4, 3, 2, 1, 0] rfl) ⟨rel_00 rf rs rh hrf hs3 hs0, x.2 9 0, 16, 0, 0, fun _ => 0, fun _ => 0, fun _ => 0, Or.inl rfl, by omega, lz_lat, lz_fit, ⟨rfl, fun i hi => absurd hi (Nat.not_lt_zero i)⟩, hH⟩
