/-! ===== String constants: length and charAt ===== -/
/-- byte j of constant i -/
def zch (i j : Nat) : Int32 := (zsB.getD i []).getD j 0
theorem zch_ok : ∀ i, i < 6 → ∀ j, j < 140 → zi2c (zch i j &&& 255) = zch i j ∧ narrow .char (.int (zch i j)) = .int (zch i j) := by decide +kernel
section ZS
variable {p : Program} {l : Launch} {e : Env} {R : Room} {s : State} {m : MethodId} {args : Array Value} {below : List Frame} {meth : Method} {c : Code} {H : Heap} {locs : List Loc} {cells slots : Nat} {Q : State → Prop}
variable {cc : ByteArray} {pc nL : Nat} {ls : Array Slot} {rest : List Value} {G : va_G} {cy : Nat → ClassId} {E : Nat → Nat} {A : Nat → Prop} {a : Nat} {ws ws' w w' : va_W} {Ts : List Cond} {own : String}
/-- a virtual call whose receiver is none of the world's cells -/
theorem z_callVr {wc w1 : va_W} {oc : Option Value} {mc ms n index maxL : Nat} {y : MethodName} {wy : List Cond} {rm : Room} {b : Nat} {As : List Value} {C : String} {bytes : ByteArray} {ret : Option FieldType} (S : CallFix p m c cc nL s args Ts own) (hF : zF G cy E A s) (hH : zH G A s H locs ws) (hM : zM l G cy E y wy rm (.ref b :: As) wc w1 oc mc ms) (cw : CallW R s args own C index y bytes maxL ret wy rm mc ms n)
    (hrec : ∃ cell : Cell, H[b]? = some cell ∧ cell.vm.isStatics = false ∧ s.vm.findClass C = some cell.cls) (isC : List Nat) (hC : isC.map (fun i => ws[i]?) = wc.map some) (hnC : va_nd isC = true) (had : w1.map (fun q => q.1) = wc.map (fun q => q.1)) (hput : zput ws isC w1 = ws')
    {st0 st1 : List Value} (hst : st0 = As.reverse ++ .ref b :: rest) (hst1 : oc.toList ++ rest = st1) (hna : As.length = n) (hl : ls.size = nL) (hW : (rest.map fun v => v.category).sum ≤ 8) (hdg : decode cc pc = .ok (.invokevirtual index, 3)) (hf : cells + mc ≤ R.cells ∧ slots + ms ≤ R.slots)
    (kk : ∀ (H1 : Heap) (locs1 : List Loc), zH G A s H1 locs1 ws' → W p l e R s m args below meth c H1 locs1 (cells + mc) (slots + ms) Q (F0 m (pc + 3) ls st1)) : W p l e R s m args below meth c H locs cells slots Q (F0 m pc ls st0) :=
  z_call hH hF isC hC hnC had hput rfl (va_runV (As := As) (rest := rest) S (hM H.size) cw ⟨zPre_blind, hrec, z_ask hH hF isC hC hnC _⟩ rfl hna hl hst (lv_room hW) hdg hf) (fun H1 locs1 h9 => by rw [hst1]; exact kk H1 locs1 h9)
theorem z_cret (S : CallFix p m c cc nL s args Ts own) {ty : FieldType} (hr : meth.sig.returnType = some ty) (hlocks : meth.locks = false) (hH : zH G (va_A w s.heap.size) s H locs w') {v : Int32} (hv : narrow ty (.int v) = .int v) (hdg : decode cc pc = .ok (.ireturn, 1)) : W p l e R s m args below meth c H locs cells slots (MQ below (zQ G w w' s.heap.size (some (.int v))) args s cells slots (va_A w s.heap.size)) (F0 m pc ls [.int v]) :=
  W.zret S.1 S.2.1 hr hv (z_end hH) hH.2.2.2.2 hdg hlocks
theorem z_srec (hF : zF G cy E A s) (hH : zH G A s H locs ws) {i : Nat} (hi : i < 6) : ∃ cell : Cell, H[E i]? = some cell ∧ cell.vm.isStatics = false ∧ s.vm.findClass RJ0 = some cell.cls := vk_recv hF.2.1.2.2.2.2.1 hi hH.2.2
end ZS
abbrev rm_J0_coder_7d493 : Room := { frames := 0, cells := 0, slots := 0, locals := 0 }
set_option maxHeartbeats 4000000 in
set_option maxRecDepth 100000 in
theorem c_J0_coder_7d493 (l : Launch) (G : va_G) (cy : Nat → ClassId) (E : Nat → Nat) (i : Nat) (hi : i < 6) : zM l G cy E yJ0_coder_7d493 wsJ0_coder_7d493 rm_J0_coder_7d493 [.ref (E i)] [] [] (some (.int 0)) 0 0 := by
  refine z_body (cc := cJ0_coder_7d493) (maxL := 1) (ret := some .byte) (by decide) rfl (Nat.le_of_ble_eq_true rfl) ?_
  intro p e s m below meth c ls S hr hlocks hnm hF hH hl
  have S : CallFix p m c cJ0_coder_7d493 1 s ([.ref (E i)] : List Value).toArray wsJ0_coder_7d493 RJ0 := S
  obtain ⟨hx, hb, hml, hown, hts⟩ := id S
  have hl : lv_has ls 1 [(0, .ref (E i))] := hl
  refine va_gets (v := .int 1) hx hb hF.2.1.2.2.1 hH.2.2 hown (hts _ (List.mem_of_getElem? (i := 1) rfl)) (fun _ h9 => h9) dJ0_coder_7d493_0 ?_
  refine lv_if_eq (tgt := 13) hx hb dJ0_coder_7d493_3 (by decide) (fun b9 => absurd b9 (by decide)) (fun _ => ?_)
  refine lv_aload_n hx hb dJ0_coder_7d493_6 rfl (lv_at hl 0 rfl) ?_
  refine vk_getf hx hb (hF.2.1.2.2.2.2.1.1 i hi).2.1 hH.2.2 hown (hts _ (List.mem_of_getElem? (i := 2) rfl)) (fun _ h9 => h9) dJ0_coder_7d493_7 ?_
  refine lv_goto (tgt := 14) hx hb dJ0_coder_7d493_10 (by decide) ?_
  exact z_cret S hr hlocks hH rfl dJ0_coder_7d493_14
abbrev rm_J0_length_8abf5 : Room := { frames := 1, cells := 0, slots := 0, locals := 20 }
set_option maxHeartbeats 4000000 in
set_option maxRecDepth 100000 in
theorem c_J0_length_8abf5 (l : Launch) (G : va_G) (cy : Nat → ClassId) (E : Nat → Nat) (i : Nat) (hi : i < 6) : zM l G cy E yJ0_length_8abf5 wsJ0_length_8abf5 rm_J0_length_8abf5 [.ref (E i)] [] [] (some (.int (Int32.ofNat (zsL.getD i 0)))) 0 0 := by
  refine z_body (cc := cJ0_length_8abf5) (maxL := 1) (ret := some .int) (by decide) rfl (Nat.le_of_ble_eq_true rfl) ?_
  intro p e s m below meth c ls S hr hlocks hnm hF hH hl
  have S : CallFix p m c cJ0_length_8abf5 1 s ([.ref (E i)] : List Value).toArray wsJ0_length_8abf5 RJ0 := S
  obtain ⟨hx, hb, hml, hown, hts⟩ := id S
  have hl : lv_has ls 1 [(0, .ref (E i))] := hl
  have hk := hF.2.1.2.2.2.2.1.1 i hi
  refine lv_aload_n hx hb dJ0_length_8abf5_0 rfl (lv_at hl 0 rfl) ?_
  refine vk_getf hx hb hk.2.2.1 hH.2.2 hown (hts _ (List.mem_of_getElem? (i := 1) rfl)) (fun _ h9 => h9) dJ0_length_8abf5_1 ?_
  refine va_tlen hx hb hk.2.2.2 hH.2.2 rfl dJ0_length_8abf5_4 ?_
  refine lv_aload_n hx hb dJ0_length_8abf5_5 rfl (lv_at hl 0 rfl) ?_
  refine z_callVr (As := []) (rest := [.int (Int32.ofNat (zsL.getD i 0))]) (st1 := [.int 0, .int (Int32.ofNat (zsL.getD i 0))]) (ws' := []) S hF hH (c_J0_coder_7d493 l G cy E i hi) (cwV 0 hts gJ0_length_8abf5_J0_coder_7d493 rfl rfl rfl (by decide +kernel) ⟨Nat.le_of_ble_eq_true rfl, Nat.le_of_ble_eq_true rfl⟩) (z_srec hF hH hi) [] rfl (by decide) rfl rfl rfl rfl rfl hl.1 (Nat.le_of_ble_eq_true rfl) dJ0_length_8abf5_6 ⟨Nat.le_of_ble_eq_true rfl, Nat.le_of_ble_eq_true rfl⟩ (fun H locs hH => ?_)
  refine lv_ishr hx hb dJ0_length_8abf5_9 ?_
  have e0 : (Int32.ofNat (zsL.getD i 0) >>> ((0 : Int32) &&& 31)) = Int32.ofNat (zsL.getD i 0) := by
    have hh : ∀ i, i < 6 → (Int32.ofNat (zsL.getD i 0) >>> ((0 : Int32) &&& 31)) = Int32.ofNat (zsL.getD i 0) := by decide +kernel
    exact hh i hi
  rw [e0]
  exact z_iret S hr hlocks hH dJ0_length_8abf5_10
abbrev rm_J0_isLatin1_aae02 : Room := { frames := 0, cells := 0, slots := 0, locals := 0 }
set_option maxHeartbeats 4000000 in
set_option maxRecDepth 100000 in
theorem c_J0_isLatin1_aae02 (l : Launch) (G : va_G) (cy : Nat → ClassId) (E : Nat → Nat) (i : Nat) (hi : i < 6) : zM l G cy E yJ0_isLatin1_aae02 wsJ0_isLatin1_aae02 rm_J0_isLatin1_aae02 [.ref (E i)] [] [] (some (.int 1)) 0 0 := by
  refine z_body (cc := cJ0_isLatin1_aae02) (maxL := 1) (ret := some .boolean) (by decide) rfl (Nat.le_of_ble_eq_true rfl) ?_
  intro p e s m below meth c ls S hr hlocks hnm hF hH hl
  have S : CallFix p m c cJ0_isLatin1_aae02 1 s ([.ref (E i)] : List Value).toArray wsJ0_isLatin1_aae02 RJ0 := S
  obtain ⟨hx, hb, hml, hown, hts⟩ := id S
  have hl : lv_has ls 1 [(0, .ref (E i))] := hl
  refine va_gets (v := .int 1) hx hb hF.2.1.2.2.1 hH.2.2 hown (hts _ (List.mem_of_getElem? (i := 1) rfl)) (fun _ h9 => h9) dJ0_isLatin1_aae02_0 ?_
  refine lv_if_eq (tgt := 17) hx hb dJ0_isLatin1_aae02_3 (by decide) (fun b9 => absurd b9 (by decide)) (fun _ => ?_)
  refine lv_aload_n hx hb dJ0_isLatin1_aae02_6 rfl (lv_at hl 0 rfl) ?_
  refine vk_getf hx hb (hF.2.1.2.2.2.2.1.1 i hi).2.1 hH.2.2 hown (hts _ (List.mem_of_getElem? (i := 2) rfl)) (fun _ h9 => h9) dJ0_isLatin1_aae02_7 ?_
  refine lv_if_ne (tgt := 17) hx hb dJ0_isLatin1_aae02_10 (by decide) (fun b9 => absurd rfl b9) (fun _ => ?_)
  refine lv_iconst (v := 1) hx hb dJ0_isLatin1_aae02_13 (by decide) ?_
  refine lv_goto (tgt := 18) hx hb dJ0_isLatin1_aae02_14 (by decide) ?_
  exact z_cret S hr hlocks hH rfl dJ0_isLatin1_aae02_18
abbrev rm_J3_checkIndex_8e157 : Room := { frames := 0, cells := 0, slots := 0, locals := 0 }
set_option maxHeartbeats 4000000 in
set_option maxRecDepth 100000 in
theorem c_J3_checkIndex_8e157 (l : Launch) (G : va_G) (cy : Nat → ClassId) (E : Nat → Nat) (x y : Int32) (o : Option Nat) (h1 : ¬ x < 0) (h2 : x < y) : zM l G cy E yJ3_checkIndex_8e157 wsJ3_checkIndex_8e157 rm_J3_checkIndex_8e157 [.int x, .int y, va_rf o] [] [] (some (.int x)) 0 0 := by
  have key : ∀ v : Value, v.category = 1 → (lg_sl [.int x, .int y, v]).length ≤ 3 → (lv_args 0 [.int x, .int y, v] = [(0, .int x), (1, .int y), (2, v)]) → zM l G cy E yJ3_checkIndex_8e157 wsJ3_checkIndex_8e157 rm_J3_checkIndex_8e157 [.int x, .int y, v] [] [] (some (.int x)) 0 0 := by
    intro v hv hlen hla
    refine z_body (cc := cJ3_checkIndex_8e157) (maxL := 3) (ret := some .int) (by decide) rfl hlen ?_
    intro p e s m below meth c ls S hr hlocks hnm hF hH hl
    have S : CallFix p m c cJ3_checkIndex_8e157 3 s ([.int x, .int y, v] : List Value).toArray wsJ3_checkIndex_8e157 RJ3 := S
    obtain ⟨hx, hb, hml, hown, hts⟩ := id S
    rw [hla] at hl
    refine lv_iload_n hx hb dJ3_checkIndex_8e157_0 rfl (lv_at hl 0 rfl) ?_
    refine lv_if_lt (tgt := 9) hx hb dJ3_checkIndex_8e157_1 (by decide) (fun b9 => absurd b9 h1) (fun _ => ?_)
    refine lv_iload_n hx hb dJ3_checkIndex_8e157_4 rfl (lv_at hl 0 rfl) ?_
    refine lv_iload_n hx hb dJ3_checkIndex_8e157_5 rfl (lv_at hl 1 rfl) ?_
    refine lv_icmp_lt (tgt := 16) hx hb dJ3_checkIndex_8e157_6 (by decide) (fun _ => ?_) (fun b9 => absurd h2 b9)
    refine lv_iload_n hx hb dJ3_checkIndex_8e157_16 rfl (lv_at hl 0 rfl) ?_
    exact z_iret S hr hlocks hH dJ3_checkIndex_8e157_17
  cases o with
  | none => exact key .null rfl (Nat.le_of_ble_eq_true rfl) rfl
  | some t => exact key (.ref t) rfl (Nat.le_of_ble_eq_true rfl) rfl
abbrev rm_J0_checkIndex_df160 : Room := { frames := 1, cells := 0, slots := 0, locals := 22 }
set_option maxHeartbeats 4000000 in
set_option maxRecDepth 100000 in
theorem c_J0_checkIndex_df160 (l : Launch) (G : va_G) (cy : Nat → ClassId) (E : Nat → Nat) (x y : Int32) (h1 : ¬ x < 0) (h2 : x < y) : zM l G cy E yJ0_checkIndex_df160 wsJ0_checkIndex_df160 rm_J0_checkIndex_df160 [.int x, .int y] [] [] none 0 0 := by
  refine z_body (cc := cJ0_checkIndex_df160) (maxL := 2) (ret := none) (by decide) rfl (Nat.le_of_ble_eq_true rfl) ?_
  intro p e s m below meth c ls S hr hlocks hnm hF hH hl
  have S : CallFix p m c cJ0_checkIndex_df160 2 s ([.int x, .int y] : List Value).toArray wsJ0_checkIndex_df160 RJ0 := S
  obtain ⟨hx, hb, hml, hown, hts⟩ := id S
  have hl : lv_has ls 2 [(0, .int x), (1, .int y)] := hl
  obtain ⟨o, ho⟩ : ∃ o : Option Nat, va_Z "jdk/internal/util/Preconditions" "SIOOBE_FORMATTER" "Ljava/util/function/BiFunction;" (va_rf o) (va_A [] s.heap.size) s s.heap := by
    rcases hF.2.1.2.2.2.1 with h9 | ⟨t, h9⟩
    · exact ⟨none, h9⟩
    · exact ⟨some t, h9⟩
  refine lv_iload_n hx hb dJ0_checkIndex_df160_0 rfl (lv_at hl 0 rfl) ?_
  refine lv_iload_n hx hb dJ0_checkIndex_df160_1 rfl (lv_at hl 1 rfl) ?_
  refine va_gets (v := va_rf o) hx hb ho hH.2.2 hown (hts _ (List.mem_of_getElem? (i := 1) rfl)) (fun _ h9 => h9) dJ0_checkIndex_df160_2 ?_
  refine z_callS (As := [.int x, .int y, va_rf o]) (rest := []) (st1 := [.int x]) (ws' := []) S hF hH (c_J3_checkIndex_8e157 l G cy E x y o h1 h2) (va_cwS 3 hts gJ0_checkIndex_df160_J3_checkIndex_8e157 rfl rfl rfl (by decide +kernel) ⟨Nat.le_of_ble_eq_true rfl, Nat.le_of_ble_eq_true rfl⟩) [] rfl (by decide) rfl rfl rfl rfl rfl hl.1 (Nat.le_of_ble_eq_true rfl) dJ0_checkIndex_df160_5 ⟨Nat.le_of_ble_eq_true rfl, Nat.le_of_ble_eq_true rfl⟩ (fun H locs hH => ?_)
  refine lv_pop hx hb dJ0_checkIndex_df160_8 rfl ?_
  exact z_vret S hr hlocks hH dJ0_checkIndex_df160_9
theorem z_ofNat_lt {x : Int32} {n : Nat} (h : zin x n = true) (hn : n < 2 ^ 31) : ¬ x < 0 ∧ x < Int32.ofNat n := by
  have h1 := of_decide_eq_true h
  have h2 : (Int32.ofNat n).toInt = (n : Int) := nI_toInt hn
  refine ⟨fun h3 => ?_, ?_⟩
  · have := Int32.lt_iff_toInt_lt.mp h3
    simp at this
    omega
  · exact Int32.lt_iff_toInt_lt.mpr (by rw [h2]; exact h1.2)
abbrev rm_J1_charAt_3b067 : Room := { frames := 2, cells := 0, slots := 0, locals := 43 }
set_option maxHeartbeats 4000000 in
set_option maxRecDepth 100000 in
/-- StringLatin1.charAt of a constant's bytes -/
theorem c_J1_charAt_3b067 (l : Launch) (G : va_G) (cy : Nat → ClassId) (E : Nat → Nat) (i : Nat) (hi : i < 6) (x : Int32) (h : zin x (zsL.getD i 0) = true) : zM l G cy E yJ1_charAt_3b067 wsJ1_charAt_3b067 rm_J1_charAt_3b067 [.ref (E (i + 10)), .int x] [] [] (some (.int (zch i x.toNatClampNeg))) 0 0 := by
  refine z_body (cc := cJ1_charAt_3b067) (maxL := 2) (ret := some .char) (by decide) rfl (Nat.le_of_ble_eq_true rfl) ?_
  intro p e s m below meth c ls S hr hlocks hnm hF hH hl
  have S : CallFix p m c cJ1_charAt_3b067 2 s ([.ref (E (i + 10)), .int x] : List Value).toArray wsJ1_charAt_3b067 RJ1 := S
  obtain ⟨hx, hb, hml, hown, hts⟩ := id S
  have hl : lv_has ls 2 [(0, .ref (E (i + 10))), (1, .int x)] := hl
  have hk := hF.2.1.2.2.2.2.1.1 i hi
  have hle : ∀ i, i < 6 → zsL.getD i 0 < 140 := by decide +kernel
  have hle := hle i hi
  obtain ⟨g1, g2⟩ := z_ofNat_lt h (Nat.lt_trans hle (by decide))
  refine lv_iload_n hx hb dJ1_charAt_3b067_0 rfl (lv_at hl 1 rfl) ?_
  refine lv_aload_n hx hb dJ1_charAt_3b067_1 rfl (lv_at hl 0 rfl) ?_
  refine va_tlen hx hb hk.2.2.2 hH.2.2 rfl dJ1_charAt_3b067_2 ?_
  refine z_callS (As := [.int x, .int (Int32.ofNat (zsL.getD i 0))]) (rest := []) (st1 := []) (ws' := []) S hF hH (c_J0_checkIndex_df160 l G cy E x (Int32.ofNat (zsL.getD i 0)) g1 g2) (va_cwS 2 hts gJ1_charAt_3b067_J0_checkIndex_df160 rfl rfl rfl (by decide +kernel) ⟨Nat.le_of_ble_eq_true rfl, Nat.le_of_ble_eq_true rfl⟩) [] rfl (by decide) rfl rfl rfl rfl rfl hl.1 (Nat.le_of_ble_eq_true rfl) dJ1_charAt_3b067_3 ⟨Nat.le_of_ble_eq_true rfl, Nat.le_of_ble_eq_true rfl⟩ (fun H locs hH => ?_)
  refine lv_aload_n hx hb dJ1_charAt_3b067_6 rfl (lv_at hl 0 rfl) ?_
  refine lv_iload_n hx hb dJ1_charAt_3b067_7 rfl (lv_at hl 1 rfl) ?_
  refine va_tb (v := .int (zch i x.toNatClampNeg)) hx hb hk.2.2.2 hH.2.2 (zin_e h) rfl dJ1_charAt_3b067_8 ?_
  refine lv_sipush (v := 255) hx hb dJ1_charAt_3b067_9 (by decide) ?_
  refine lv_iand hx hb dJ1_charAt_3b067_12 ?_
  have hj : x.toNatClampNeg < 140 := by
    have h1 := of_decide_eq_true h
    have : x.toInt.toNat < 140 := by omega
    exact this
  obtain ⟨k1, k2⟩ := zch_ok i hi _ hj
  refine lv_i2c (v := zch i x.toNatClampNeg) hx hb dJ1_charAt_3b067_13 k1 ?_
  exact z_cret S hr hlocks hH k2 dJ1_charAt_3b067_14
abbrev rm_J0_charAt_5068e : Room := { frames := 3, cells := 0, slots := 0, locals := 64 }
set_option maxHeartbeats 4000000 in
set_option maxRecDepth 100000 in
theorem c_J0_charAt_5068e (l : Launch) (G : va_G) (cy : Nat → ClassId) (E : Nat → Nat) (i : Nat) (hi : i < 6) (x : Int32) (h : zin x (zsL.getD i 0) = true) : zM l G cy E yJ0_charAt_5068e wsJ0_charAt_5068e rm_J0_charAt_5068e [.ref (E i), .int x] [] [] (some (.int (zch i x.toNatClampNeg))) 0 0 := by
  refine z_body (cc := cJ0_charAt_5068e) (maxL := 2) (ret := some .char) (by decide) rfl (Nat.le_of_ble_eq_true rfl) ?_
  intro p e s m below meth c ls S hr hlocks hnm hF hH hl
  have S : CallFix p m c cJ0_charAt_5068e 2 s ([.ref (E i), .int x] : List Value).toArray wsJ0_charAt_5068e RJ0 := S
  obtain ⟨hx, hb, hml, hown, hts⟩ := id S
  have hl : lv_has ls 2 [(0, .ref (E i)), (1, .int x)] := hl
  have hk := hF.2.1.2.2.2.2.1.1 i hi
  refine lv_aload_n hx hb dJ0_charAt_5068e_0 rfl (lv_at hl 0 rfl) ?_
  refine z_callVr (As := []) (rest := []) (st1 := [.int 1]) (ws' := []) S hF hH (c_J0_isLatin1_aae02 l G cy E i hi) (cwV 0 hts gJ0_charAt_5068e_J0_isLatin1_aae02 rfl rfl rfl (by decide +kernel) ⟨Nat.le_of_ble_eq_true rfl, Nat.le_of_ble_eq_true rfl⟩) (z_srec hF hH hi) [] rfl (by decide) rfl rfl rfl rfl rfl hl.1 (Nat.le_of_ble_eq_true rfl) dJ0_charAt_5068e_1 ⟨Nat.le_of_ble_eq_true rfl, Nat.le_of_ble_eq_true rfl⟩ (fun H locs hH => ?_)
  refine lv_if_eq (tgt := 16) hx hb dJ0_charAt_5068e_4 (by decide) (fun b9 => absurd b9 (by decide)) (fun _ => ?_)
  refine lv_aload_n hx hb dJ0_charAt_5068e_7 rfl (lv_at hl 0 rfl) ?_
  refine vk_getf hx hb hk.2.2.1 hH.2.2 hown (hts _ (List.mem_of_getElem? (i := 1) rfl)) (fun _ h9 => h9) dJ0_charAt_5068e_8 ?_
  refine lv_iload_n hx hb dJ0_charAt_5068e_11 rfl (lv_at hl 1 rfl) ?_
  refine z_callS (As := [.ref (E (i + 10)), .int x]) (rest := []) (st1 := [.int (zch i x.toNatClampNeg)]) (ws' := []) S hF hH (c_J1_charAt_3b067 l G cy E i hi x h) (va_cwS 2 hts gJ0_charAt_5068e_J1_charAt_3b067 rfl rfl rfl (by decide +kernel) ⟨Nat.le_of_ble_eq_true rfl, Nat.le_of_ble_eq_true rfl⟩) [] rfl (by decide) rfl rfl rfl rfl rfl hl.1 (Nat.le_of_ble_eq_true rfl) dJ0_charAt_5068e_12 ⟨Nat.le_of_ble_eq_true rfl, Nat.le_of_ble_eq_true rfl⟩ (fun H locs hH => ?_)
  have hj : x.toNatClampNeg < 140 := by
    have h1 := of_decide_eq_true h
    have hle : ∀ i, i < 6 → zsL.getD i 0 < 140 := by decide +kernel
    have hle := hle i hi
    have : x.toInt.toNat < 140 := by omega
    exact this
  exact z_cret S hr hlocks hH (zch_ok i hi _ hj).2 dJ0_charAt_5068e_15
