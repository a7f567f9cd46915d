/-! ===== rows of the law ===== -/
/-- the dial: its object and its bytes -/
def DW (cy : Nat → ClassId) (q : Nat → Nat) (qv mm nn : Nat) (ml : Int32) (f : Nat → Int32) : va_W := [((q 11), .inr (0, [.ref qv, .int 0, .int ml, .int (nI nn)])), (qv, .inl (cy 0, mm, .inl f))]
def OW (cy : Nat → ClassId) (qo : Nat) (g : Nat → Int64) : va_W := [(qo, .inl (cy 2, 1, .inr (.inl g)))]
/-- what holds between two calls of the law -/
def LInv (G : va_G) (cy : Nat → ClassId) (A : Nat → Prop) (s : State) (q q2 : Nat → Nat) (qo : Nat) (H : Heap) (locs : List Loc) (k : KS) (r : RS) : Prop := Rel k r ∧ ∃ (qv mm nn : Nat) (ml : Int32) (f : Nat → Int32) (t : Nat → Nat) (g : Nat → Int64), (mm = 16 ∨ mm = 34) ∧ nn ≤ mm ∧ sb_Lat t nn f ∧ sb_Fit f ∧ TX (t, nn) r.textMany r.text ∧ zH G A s H locs (KW cy q k ++ (DW cy q qv mm nn ml f ++ (RW cy q2 r ++ OW cy qo g)))
theorem zk_R2 {W D D' P : va_W} (hD : D.length = 2) (hD' : D'.length = 2) (i : Nat) (h0 : i ≠ W.length) (h1 : i ≠ W.length + 1) : (W ++ (D' ++ P))[i]? = (W ++ (D ++ P))[i]? := by
  by_cases h : i < W.length
  · rw [List.getElem?_append_left h, List.getElem?_append_left h]
  · have h2 : W.length ≤ i := by omega
    have h3 : D'.length ≤ i - W.length := by omega
    have h4 : D.length ≤ i - W.length := by omega
    rw [List.getElem?_append_right h2, List.getElem?_append_right h2, List.getElem?_append_right h3, List.getElem?_append_right h4, hD, hD']
section ZLW
variable {p : Program} {l : Launch} {e : Env} {R : Room} {s : State} {m : MethodId} {args : Array Value} {below : List Frame} {meth : Method} {c : Code} {H : Heap} {locs : List Loc} {cells slots : Nat} {Q : State → Prop}
variable {cc : ByteArray} {pc nL : Nat} {ls : Array Slot} {rest : List Value} {G : va_G} {cy : Nat → ClassId} {E : Nat → Nat} {A : Nat → Prop} {ws ws' : va_W} {Ts : List Cond} {own : String}
/-- an int of the script -/
theorem lz_arg (hx : p.tables.exec = Jvm.exec) (hb : c.code = cc) {b L : Nat} {xs : Nat → Int32} (hX : va_X b L xs s s.heap) (hbl : b < s.heap.size) (hbA : ¬ A b) (hH : zH G A s H locs ws) {v w : Int32} {n : Int} (h0 : ls[0]? = some (.val (.ref b))) (h4 : ls[4]? = some (.val (.int v))) (hv : Int32.ofInt n = w) (hin : vp_in (v + w) L)
    (d0 : decode cc pc = .ok (.aload_n 0, 1)) (d1 : decode cc (pc + 1) = .ok (.iload 4, 2)) (d3 : decode cc (pc + 3) = .ok (.iconst n, 1)) (d4 : decode cc (pc + 4) = .ok (.iadd, 1)) (d5 : decode cc (pc + 5) = .ok (.iaload, 1))
    (k : W p l e R s m args below meth c H locs cells slots Q (F0 m (pc + 6) ls (.int (xs (v + w).toNatClampNeg) :: rest))) : W p l e R s m args below meth c H locs cells slots Q (F0 m pc ls rest) :=
  lv_aload_n hx hb d0 rfl h0 (lv_iload hx hb d1 h4 (lv_iconst hx hb d3 hv (lv_iadd hx hb d4 (va_sld hx hb hX hbl hbA hH.2.2 hin d5 k))))
theorem z_callK0 (P : va_W) {W9 W' : va_W} {v : Int32} {n index maxL b ci : Nat} {y : MethodName} {wy : List Cond} {rm : Room} {As : List Value} {C : String} {bytes : ByteArray} {ret : Option FieldType} (S : CallFix p m c cc nL s args Ts own) (hF : zF G cy E A s) (hH : zH G A s H locs (W9 ++ P)) (hM : KM l G cy E y wy rm As v W9 W' b ci) (cw : CallW R s args own C index y bytes maxL ret wy rm 0 0 n)
    {T : u_T} {N : Nat} (hcl : vwCl[ci]? = some (C, T, N)) {st0 : List Value} (hst : st0 = As.reverse ++ .ref b :: rest) (hna : As.length = n) (hl : ls.size = nL) (hW : (rest.map fun v => v.category).sum ≤ 8) (hdg : decode cc pc = .ok (.invokevirtual index, 3)) (hf : cells ≤ R.cells ∧ slots ≤ R.slots)
    (kk : ∀ (H1 : Heap) (locs1 : List Loc), zH G A s H1 locs1 (W' ++ P) → W p l e R s m args below meth c H1 locs1 cells slots Q (F0 m (pc + 3) ls (.int v :: rest))) : W p l e R s m args below meth c H locs cells slots Q (F0 m pc ls st0) :=
  z_callK [] P S hF hH hM cw hcl hst hna hl hW hdg hf kk
theorem z_callK2 (Y D P : va_W) {W9 W' : va_W} {v : Int32} {n index maxL b ci : Nat} {y : MethodName} {wy : List Cond} {rm : Room} {As : List Value} {C : String} {bytes : ByteArray} {ret : Option FieldType} (S : CallFix p m c cc nL s args Ts own) (hF : zF G cy E A s) (hH : zH G A s H locs (Y ++ (D ++ (W9 ++ P)))) (hM : KM l G cy E y wy rm As v W9 W' b ci) (cw : CallW R s args own C index y bytes maxL ret wy rm 0 0 n)
    {T : u_T} {N : Nat} (hcl : vwCl[ci]? = some (C, T, N)) {st0 : List Value} (hst : st0 = As.reverse ++ .ref b :: rest) (hna : As.length = n) (hl : ls.size = nL) (hW : (rest.map fun v => v.category).sum ≤ 8) (hdg : decode cc pc = .ok (.invokevirtual index, 3)) (hf : cells ≤ R.cells ∧ slots ≤ R.slots)
    (kk : ∀ (H1 : Heap) (locs1 : List Loc), zH G A s H1 locs1 (Y ++ (D ++ (W' ++ P))) → W p l e R s m args below meth c H1 locs1 cells slots Q (F0 m (pc + 3) ls (.int v :: rest))) : W p l e R s m args below meth c H locs cells slots Q (F0 m pc ls st0) :=
  z_callK (Y ++ D) P S hF (by rw [List.append_assoc]; exact hH) hM cw hcl hst hna hl hW hdg hf (fun H1 locs1 h => kk H1 locs1 (by rw [List.append_assoc] at h; exact h))
/-- a call that may leave new cells in place of some: by places -/
theorem z_callqy {α : Type} {wc : va_W} {oc : α → Option Value} {w1 wsx : α → va_W} {Pp : α → Prop} {mc ms : Nat} {st0 : List Value} {a9 : Array Value} {free : Addr → Prop} (hH : zH G A s H locs ws) (hF : zF G cy E A s) (isC : List Nat) (hC : isC.map (fun i => ws[i]?) = wc.map some) (hC' : ∀ x, isC.map (fun i => (wsx x)[i]?) = (w1 x).map some) (hR : ∀ x (i : Nat), i ∉ isC → (wsx x)[i]? = ws[i]?)
    (hfr : free = va_A wc H.size) (hr : va_Run p l e R s m args below meth c H locs cells slots mc ms (F0 m pc ls st0) rest (zQy G wc oc w1 Pp H.size a9) free)
    (kk : ∀ (x : α) (H1 : Heap) (locs1 : List Loc), Pp x → zH G A s H1 locs1 (wsx x) → W p l e R s m args below meth c H1 locs1 (cells + mc) (slots + ms) Q (F0 m (pc + 3) ls ((oc x).toList ++ rest))) : W p l e R s m args below meth c H locs cells slots Q (F0 m pc ls st0) := by
  subst hfr
  obtain ⟨hP, hD, hS⟩ := hH
  have hFc := va_free (wc := wc) hD hS hF.2.2 isC hC
  intro T hT X
  obtain ⟨v, st₀, t, T', L, h0, X', hL, e1, e2, ⟨⟨x, px, hv, hP1, hD1⟩, hz, hk⟩, st⟩ := hr T hT X
  cases hv
  rw [h0] at hz hk
  have hS2 : va_S A s.heap T'.heap (locs ++ L) := ⟨Nat.le_trans hS.1 (by rw [e1]; exact hz), fun q h1 h2 => by rw [e1, hk q (Nat.lt_of_lt_of_le h1 hS.1) (fun z => h2 (hFc q z))]; exact hS.2.1 q h1 h2, fun q hq => by
      rcases List.mem_append.mp hq with h | h
      · exact hS.2.2 q h
      · exact hFc _ (hL q h)⟩
  have hno : ∀ (j : Nat) (q : Nat × va_E), ws[j]? = some q → j ∉ isC → ¬ va_A wc H.size q.1 := by
    intro j q hj hjn z
    rcases z with ⟨k2, e9, h9⟩ | h9
    · have h1 : (isC.map (fun i => ws[i]?))[k2]? = some (some (q.1, e9)) := by rw [hC, List.getElem?_map, h9]; rfl
      rw [List.getElem?_map] at h1
      cases hi : isC[k2]? with
      | none => rw [hi] at h1; cases h1
      | some i =>
        rw [hi] at h1
        have hik := hD.1 i j (q.1, e9) q (Option.some.inj h1) hj rfl
        subst hik
        exact hjn (List.mem_of_getElem? hi)
    · have := (hP j q hj).lt
      omega
  have hin : ∀ (i : Nat) (q : Nat × va_E), (wsx x)[i]? = some q → i ∈ isC → ∃ j : Nat, isC[j]? = some i ∧ (w1 x)[j]? = some q := by
    intro i q hi hm
    obtain ⟨j, hj⟩ := List.mem_iff_getElem?.mp hm
    obtain ⟨y, g1, g2⟩ := zk_at (hC' x) hj
    rw [hi] at g2
    cases g2
    exact ⟨j, hj, g1⟩
  have hD3 : va_D A (wsx x) := by
    refine ⟨fun i j a b hi hj hab => ?_, fun i q hi => ?_⟩
    · by_cases mi : i ∈ isC
      · obtain ⟨ji, f1, f2⟩ := hin i a hi mi
        by_cases mj : j ∈ isC
        · obtain ⟨jj, f3, f4⟩ := hin j b hj mj
          have := hD1.1 ji jj a b f2 f4 hab
          subst this
          rw [f1] at f3
          exact Option.some.inj f3
        · have g := hno j b ((hR x j mj).symm.trans hj) mj
          rw [← hab] at g
          exact absurd (hD1.2 ji a f2) g
      · have g := hno i a ((hR x i mi).symm.trans hi) mi
        by_cases mj : j ∈ isC
        · obtain ⟨jj, f3, f4⟩ := hin j b hj mj
          rw [hab] at g
          exact absurd (hD1.2 jj b f4) g
        · exact hD.1 i j a b ((hR x i mi).symm.trans hi) ((hR x j mj).symm.trans hj) hab
    · by_cases mi : i ∈ isC
      · obtain ⟨ji, f1, f2⟩ := hin i q hi mi
        exact hFc _ (hD1.2 ji q f2)
      · exact hD.2 i q ((hR x i mi).symm.trans hi)
  have hP3 : va_P G vwCl (wsx x) T'.heap := by
    intro i q hi
    rw [e1]
    by_cases mi : i ∈ isC
    · obtain ⟨ji, f1, f2⟩ := hin i q hi mi
      exact hP1 ji q f2
    · have f1 := (hR x i mi).symm.trans hi
      exact (hP i q f1).kept (hk q.1 (hP i q f1).lt (hno i q f1 mi))
  obtain ⟨t2, a1, b1⟩ := kk x T'.heap (locs ++ L) px ⟨hP3, hD3, hS2⟩ T' rfl X'
  exact ⟨t2, st t2 a1, b1⟩
theorem z_callVqy {α : Type} {wc : va_W} {oc : α → Option Value} {w1 wsx : α → va_W} {Pp : α → Prop} {mc ms n index maxL : Nat} {y : MethodName} {wy : List Cond} {rm : Room} {b : Nat} {As : List Value} {C : String} {bytes : ByteArray} {ret : Option FieldType} (S : CallFix p m c cc nL s args Ts own) (hF : zF G cy E A s) (hH : zH G A s H locs ws) (hM : zMy l G cy E y wy rm (.ref b :: As) wc oc w1 Pp mc ms) (cw : CallW R s args own C index y bytes maxL ret wy rm mc ms n)
    (ci q0 : Nat) {T : u_T} {N : Nat} {fs : List Value} (hcl : vwCl[ci]? = some (C, T, N)) (hrec : wc[q0]? = some (b, .inr (ci, fs))) (isC : List Nat) (hnC : va_nd isC = true) (hC : isC.map (fun i => ws[i]?) = wc.map some) (hC' : ∀ x, isC.map (fun i => (wsx x)[i]?) = (w1 x).map some) (hR : ∀ x (i : Nat), i ∉ isC → (wsx x)[i]? = ws[i]?)
    {st0 : List Value} (hst : st0 = As.reverse ++ .ref b :: rest) (hna : As.length = n) (hl : ls.size = nL) (hW : (rest.map fun v => v.category).sum ≤ 8) (hdg : decode cc pc = .ok (.invokevirtual index, 3)) (hf : cells + mc ≤ R.cells ∧ slots + ms ≤ R.slots)
    (kk : ∀ (x : α) (H1 : Heap) (locs1 : List Loc), Pp x → zH G A s H1 locs1 (wsx x) → W p l e R s m args below meth c H1 locs1 (cells + mc) (slots + ms) Q (F0 m (pc + 3) ls ((oc x).toList ++ rest))) : W p l e R s m args below meth c H locs cells slots Q (F0 m pc ls st0) := by
  have hPc : va_P G vwCl wc H := ((z_ask hH hF isC hC hnC (.ref b :: As)) { s with heap := H } rfl (State.WarmedH.refl s)).2.2.1
  exact z_callqy hH hF isC hC hC' hR rfl (va_runV (As := As) (rest := rest) S (hM H.size) cw ⟨zPre_blind, va_recv hF.1 hPc hcl hrec, z_ask hH hF isC hC hnC _⟩ rfl hna hl hst (lv_room hW) hdg hf) kk
/-- a constructor, its object alone in the world's end -/
theorem z_calleIy {α : Type} (wr : va_W) {wc : va_W} {oc : α → Option Value} {w1 : α → va_W} {Pp : α → Prop} {mc ms n index maxL : Nat} {y : MethodName} {wy : List Cond} {rm : Room} {b : Nat} {As : List Value} {bytes : ByteArray} (S : CallFix p m c cc nL s args Ts own) (hF : zF G cy E A s) (hH : zH G A s H locs (wr ++ wc)) (hM : zMy l G cy E y wy rm (.ref b :: As) wc oc w1 Pp mc ms) (cw : CallB R s args own index y bytes maxL none wy rm mc ms n ∧ y.name = "<init>" ∧ (Cond.instanceMethod y).before args s = true)
    {st0 : List Value} (hst : st0 = As.reverse ++ .ref b :: rest) (hna : As.length = n) (hl : ls.size = nL) (hW : (rest.map fun v => v.category).sum ≤ 8) (hdg : decode cc pc = .ok (.invokespecial index, 3)) (hf : cells + mc ≤ R.cells ∧ slots + ms ≤ R.slots)
    (kk : ∀ (x : α) (H1 : Heap) (locs1 : List Loc), Pp x → zH G A s H1 locs1 (wr ++ w1 x) → W p l e R s m args below meth c H1 locs1 (cells + mc) (slots + ms) Q (F0 m (pc + 3) ls ((oc x).toList ++ rest))) : W p l e R s m args below meth c H locs cells slots Q (F0 m pc ls st0) := by
  have hr : va_Run p l e R s m args below meth c H locs cells slots mc ms (F0 m pc ls st0) rest (zQy G wc oc w1 Pp H.size (Value.ref b :: As).toArray) (va_A wc H.size) := va_runI (As := As) (rest := rest) S (hM H.size) cw ⟨zPre_blind, z_aske hH hF _⟩ rfl hna hl hst (lv_room hW) hdg hf
  have hC : (List.range' wr.length wc.length).map (fun i => (wr ++ wc)[i]?) = wc.map some := zr_c wr wc
  have hR : (List.range' 0 wr.length).map (fun i => (wr ++ wc)[i]?) = wr.map some := zr_r wr wc
  obtain ⟨hP, hD, hS⟩ := hH
  have hFc := va_free (wc := wc) hD hS hF.2.2 _ hC
  intro T hT X
  obtain ⟨v, st₀, t, T', L, h0, X', hL, e1, e2, ⟨⟨x, px, hv, hP1, hD1⟩, hz, hk⟩, st⟩ := hr T hT X
  cases hv
  rw [h0] at hz hk
  obtain ⟨hP2, hD2⟩ := va_join (wr := wr) (w1 := w1 x) hP hD _ _ hC hR (zr_nd _ _) (fun i h1 h2 => by rw [List.mem_range'_1] at h1 h2; omega) hk hFc hP1 hD1
  have hS2 : va_S A s.heap T'.heap (locs ++ L) := ⟨Nat.le_trans hS.1 (by rw [e1]; exact hz), fun q h1 h2 => by rw [e1, hk q (Nat.lt_of_lt_of_le h1 hS.1) (fun z => h2 (hFc q z))]; exact hS.2.1 q h1 h2, fun q hq => by
      rcases List.mem_append.mp hq with h | h
      · exact hS.2.2 q h
      · exact hFc _ (hL q h)⟩
  obtain ⟨t2, a1, b1⟩ := kk x T'.heap (locs ++ L) px ⟨by rw [e1]; exact hP2, hD2, hS2⟩ T' rfl X'
  exact ⟨t2, st t2 a1, b1⟩
theorem zH_pick (is : List Nat) (hnd : va_nd is = true) (h : is.map (fun i => ws[i]?) = ws'.map some) (hH : zH G A s H locs ws) : zH G A s H locs ws' := by
  obtain ⟨hP, hD, hS⟩ := hH
  refine ⟨fun k q hq => ?_, hD.sub is hnd h, hS⟩
  have h1 : (is.map (fun i => ws[i]?))[k]? = some (some q) := by rw [h, List.getElem?_map, hq]; rfl
  rw [List.getElem?_map] at h1
  cases hi : is[k]? with
  | none => rw [hi] at h1; cases h1
  | some i => rw [hi] at h1; exact hP i q (Option.some.inj h1)
/-- the law's own three, over the out row in front of the class's cells -/
theorem z_callO (P : va_W) {W9 wc : va_W} {o o' : Nat × va_E} (ho : o'.1 = o.1) {oc : Option Value} {mc ms n index maxL : Nat} {y : MethodName} {wy : List Cond} {rm : Room} {As : List Value} {bytes : ByteArray} {ret : Option FieldType} {hh : List (Nat × Nat × Nat × Nat)} (S : CallFix p m c cc nL s args Ts own) (hF : zF G cy E A s) (hc1 : zxB s) (hH : zH G A s H locs (o :: (W9 ++ P))) (isC : List Nat) (hnd : va_nd isC = true) (hC : isC.map (fun i => W9[i]?) = wc.map some) (hM : zMc l G cy E y wy rm As (o :: wc) (o' :: wc) oc mc ms) (cw : vx_CSW R s args own index y bytes maxL ret hh wy rm mc ms n)
    {st0 : List Value} (hst : st0 = As.reverse ++ rest) (hna : As.length = n) (hl : ls.size = nL) (hW : (rest.map fun v => v.category).sum ≤ 8) (hdg : decode cc pc = .ok (.invokestatic index, 3)) (hf : cells + mc ≤ R.cells ∧ slots + ms ≤ R.slots)
    (kk : ∀ (H1 : Heap) (locs1 : List Loc), zH G A s H1 locs1 (o' :: (W9 ++ P)) → W p l e R s m args below meth c H1 locs1 (cells + mc) (slots + ms) Q (F0 m (pc + 3) ls (oc.toList ++ rest))) : W p l e R s m args below meth c H locs cells slots Q (F0 m pc ls st0) := by
  have hC2 : ((0 : Nat) :: isC.map (fun i => i + 1)).map (fun i => (o :: (W9 ++ P))[i]?) = (o :: wc).map some := by
    have h1 := zk_pl (P := P) hC
    rw [List.map_cons, List.map_cons, List.map_map, ← h1]
    rfl
  have hnd2 : va_nd ((0 : Nat) :: isC.map (fun i => i + 1)) = true := by
    have h1 : ∀ l : List Nat, va_nd l = true → va_nd (l.map (fun i => i + 1)) = true := by
      intro l
      induction l with
      | nil => intro _; rfl
      | cons a l ih =>
        intro h
        simp only [va_nd, Bool.and_eq_true, decide_eq_true_eq] at h
        simp only [List.map_cons, va_nd, Bool.and_eq_true, decide_eq_true_eq]
        refine ⟨fun hm => ?_, ih h.2⟩
        obtain ⟨b, hb, hab⟩ := List.mem_map.mp hm
        have : b = a := by omega
        exact h.1 (this ▸ hb)
    simp only [va_nd, Bool.and_eq_true, decide_eq_true_eq]
    refine ⟨fun hm => ?_, h1 isC hnd⟩
    obtain ⟨b, hb, hab⟩ := List.mem_map.mp hm
    omega
  refine z_callq hH hF _ hC2 ?_ rfl (vx_runSW (As := As) (rest := rest) S (hM H.size) cw ⟨zc_blind, zc_ask hc1 hH hF _ hC2 hnd2 _⟩ rfl hna hl hst (lv_room hW) hdg hf) kk
  intro k q hk
  cases k with
  | zero =>
    have : o' = q := Option.some.inj hk
    subst this
    exact ⟨o, rfl, ho.symm, Or.inl ⟨0, rfl, rfl⟩⟩
  | succ k =>
    have hk : (W9 ++ P)[k]? = some q := hk
    refine ⟨q, hk, rfl, ?_⟩
    by_cases hm : k ∈ isC
    · obtain ⟨j, hj⟩ := List.mem_iff_getElem?.mp hm
      obtain ⟨y9, g1, g2⟩ := zk_at (zk_pl (P := P) hC) hj
      rw [hk] at g2
      cases g2
      refine Or.inl ⟨j + 1, ?_, g1⟩
      show (isC.map (fun i => i + 1))[j]? = some (k + 1)
      rw [List.getElem?_map, hj]
      rfl
    · refine Or.inr ⟨fun h => ?_, rfl⟩
      rcases List.mem_cons.mp h with h | h
      · omega
      · obtain ⟨b, hb, hab⟩ := List.mem_map.mp h
        have : b = k := by omega
        exact hm (this ▸ hb)
end ZLW
