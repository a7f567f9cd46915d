/-! ===== StringBuilder: what the dial does, by its own code ===== -/
theorem iJ5_isLatin1_aae02_J4 : ∀ w ∈ wsJ40, w ∈ wsJ5_isLatin1_aae02 := fun _ h => List.mem_cons_of_mem _ (List.mem_append_right _ h)
abbrev rm_c_isLat : Room := { frames := 0, cells := 0, slots := 0, locals := 0 }
set_option maxHeartbeats 4000000 in
set_option maxRecDepth 100000 in
theorem c_isLat (l : Launch) (G : va_G) (cy : Nat → ClassId) (E : Nat → Nat) (q_d q_v mm nn : Nat) (ml : Int32) (f : Nat → Int32) : zMy l G cy E yJ5_isLatin1_aae02 wsJ5_isLatin1_aae02 rm_c_isLat [.ref q_d] [(q_d, .inr (0, [.ref q_v, .int 0, .int ml, .int (nI nn)])), (q_v, .inl (cy 0, mm, .inl f))] (fun _ : Unit => some (.int 1)) (fun _ : Unit => [(q_d, .inr (0, [.ref q_v, .int 0, .int ml, .int (nI nn)])), (q_v, .inl (cy 0, mm, .inl f))]) (fun _ => True) 0 0 := by
  refine z_bodyy (cc := cJ5_isLatin1_aae02) (maxL := 1) (ret := some .boolean) (by decide +kernel) rfl (Nat.le_of_ble_eq_true rfl) ?_
  intro p e s m below meth c ls S hr hlocks hnm hF hH hl
  have S : CallFix p m c cJ5_isLatin1_aae02 1 s ([.ref q_d] : List Value).toArray wsJ5_isLatin1_aae02 RJ5 := S
  obtain ⟨hx, hb, hml, hown, hts⟩ := id S
  have hl : lv_has ls 1 [(0, .ref q_d)] := hl
  refine va_gets (v := .int 1) hx hb hF.2.1.2.2.1 hH.2.2 hown (hts _ (List.mem_of_getElem? (i := 1) rfl)) (fun _ h9 => h9) dJ5_isLatin1_aae02_0 ?_
  refine lv_if_eq (tgt := 17) hx hb dJ5_isLatin1_aae02_3 (by decide) (fun b9 => absurd b9 (by decide)) (fun _ => ?_)
  refine lv_aload_n hx hb dJ5_isLatin1_aae02_6 rfl (lv_at hl 0 rfl) ?_
  refine z_get S hF hH iJ5_isLatin1_aae02_J4 0 rfl rfl 1 (by decide) (List.mem_of_getElem? (i := 2) rfl) rfl dJ5_isLatin1_aae02_7 ?_
  refine lv_if_ne (tgt := 17) hx hb dJ5_isLatin1_aae02_10 (by decide) (fun b9 => absurd rfl b9) (fun _ => ?_)
  refine lv_iconst (v := 1) hx hb dJ5_isLatin1_aae02_13 (by decide) ?_
  refine lv_goto (tgt := 18) hx hb dJ5_isLatin1_aae02_14 (by decide) ?_
  exact z_nrety S hr hlocks () trivial hH rfl rfl dJ5_isLatin1_aae02_18

theorem iJ5_length_8abf5_J4 : ∀ w ∈ wsJ40, w ∈ wsJ5_length_8abf5 := fun _ h => List.mem_cons_of_mem _ (List.mem_append_right _ h)
abbrev rm_c_len5 : Room := { frames := 0, cells := 0, slots := 0, locals := 0 }
set_option maxHeartbeats 4000000 in
set_option maxRecDepth 100000 in
theorem c_len5 (l : Launch) (G : va_G) (cy : Nat → ClassId) (E : Nat → Nat) (q_d q_v mm nn : Nat) (ml : Int32) (f : Nat → Int32) : zMy l G cy E yJ5_length_8abf5 wsJ5_length_8abf5 rm_c_len5 [.ref q_d] [(q_d, .inr (0, [.ref q_v, .int 0, .int ml, .int (nI nn)])), (q_v, .inl (cy 0, mm, .inl f))] (fun _ : Unit => some (.int (nI nn))) (fun _ : Unit => [(q_d, .inr (0, [.ref q_v, .int 0, .int ml, .int (nI nn)])), (q_v, .inl (cy 0, mm, .inl f))]) (fun _ => True) 0 0 := by
  refine z_bodyy (cc := cJ5_length_8abf5) (maxL := 1) (ret := some .int) (by decide +kernel) rfl (Nat.le_of_ble_eq_true rfl) ?_
  intro p e s m below meth c ls S hr hlocks hnm hF hH hl
  have S : CallFix p m c cJ5_length_8abf5 1 s ([.ref q_d] : List Value).toArray wsJ5_length_8abf5 RJ5 := S
  obtain ⟨hx, hb, hml, hown, hts⟩ := id S
  have hl : lv_has ls 1 [(0, .ref q_d)] := hl
  refine lv_aload_n hx hb dJ5_length_8abf5_0 rfl (lv_at hl 0 rfl) ?_
  refine z_get S hF hH iJ5_length_8abf5_J4 0 rfl rfl 3 (by decide) (List.mem_of_getElem? (i := 1) rfl) rfl dJ5_length_8abf5_1 ?_
  exact z_irety S hr hlocks () trivial hH rfl dJ5_length_8abf5_4

abbrev rm_c_len4 : Room := { frames := 1, cells := 0, slots := 0, locals := 30 }
set_option maxHeartbeats 4000000 in
set_option maxRecDepth 100000 in
theorem c_len4 (l : Launch) (G : va_G) (cy : Nat → ClassId) (E : Nat → Nat) (q_d q_v mm nn : Nat) (ml : Int32) (f : Nat → Int32) : zMy l G cy E yJ4_length_8abf5 wsJ4_length_8abf5 rm_c_len4 [.ref q_d] [(q_d, .inr (0, [.ref q_v, .int 0, .int ml, .int (nI nn)])), (q_v, .inl (cy 0, mm, .inl f))] (fun _ : Unit => some (.int (nI nn))) (fun _ : Unit => [(q_d, .inr (0, [.ref q_v, .int 0, .int ml, .int (nI nn)])), (q_v, .inl (cy 0, mm, .inl f))]) (fun _ => True) 0 0 := by
  refine z_bodyy (cc := cJ4_length_8abf5) (maxL := 1) (ret := some .int) (by decide +kernel) rfl (Nat.le_of_ble_eq_true rfl) ?_
  intro p e s m below meth c ls S hr hlocks hnm hF hH hl
  have S : CallFix p m c cJ4_length_8abf5 1 s ([.ref q_d] : List Value).toArray wsJ4_length_8abf5 RJ4 := S
  obtain ⟨hx, hb, hml, hown, hts⟩ := id S
  have hl : lv_has ls 1 [(0, .ref q_d)] := hl
  refine lv_aload_n hx hb dJ4_length_8abf5_0 rfl (lv_at hl 0 rfl) ?_
  refine z_callSUy (wsx := (fun _ : Unit => [(q_d, .inr (0, [.ref q_v, .int 0, .int ml, .int (nI nn)])), (q_v, .inl (cy 0, mm, .inl f))])) (As := []) (rest := []) (hF.1.1 0 _ rfl).2 S hF hH (c_len5 l G cy E q_d q_v mm nn ml f) (va_cwSU 0 hts gJ4_length_8abf5_J5_length_8abf5_s343 rfl rfl rfl (by decide +kernel) ⟨Nat.le_of_ble_eq_true rfl, Nat.le_of_ble_eq_true rfl⟩) 0 0 rfl rfl [0, 1] [] [0, 1] rfl rfl (by decide) (by decide) (by decide) (by decide) (fun _ => rfl) rfl rfl hl.1 (Nat.le_of_ble_eq_true rfl) dJ4_length_8abf5_1 ⟨Nat.le_of_ble_eq_true rfl, Nat.le_of_ble_eq_true rfl⟩ (fun _ H locs _ hH => ?_)
  have hH : zH G (va_A [(q_d, .inr (0, [.ref q_v, .int 0, .int ml, .int (nI nn)])), (q_v, .inl (cy 0, mm, .inl f))] s.heap.size) s H locs [(q_d, .inr (0, [.ref q_v, .int 0, .int ml, .int (nI nn)])), (q_v, .inl (cy 0, mm, .inl f))] := hH
  exact z_irety S hr hlocks () trivial hH rfl dJ4_length_8abf5_4

abbrev rm_c_canE : Room := { frames := 0, cells := 0, slots := 0, locals := 0 }
set_option maxHeartbeats 4000000 in
set_option maxRecDepth 100000 in
theorem c_canE (l : Launch) (G : va_G) (cy : Nat → ClassId) (E : Nat → Nat) (c0 : Nat) (hc : c0 < 256) : zMy l G cy E yJ1_canEncode_fc78d wsJ1_canEncode_fc78d rm_c_canE [.int (nI c0)] [] (fun _ : Unit => some (.int 1)) (fun _ : Unit => []) (fun _ => True) 0 0 := by
  refine z_bodyy (cc := cJ1_canEncode_fc78d) (maxL := 1) (ret := some .boolean) (by decide +kernel) rfl (Nat.le_of_ble_eq_true rfl) ?_
  intro p e s m below meth c ls S hr hlocks hnm hF hH hl
  have S : CallFix p m c cJ1_canEncode_fc78d 1 s ([.int (nI c0)] : List Value).toArray wsJ1_canEncode_fc78d RJ1 := S
  obtain ⟨hx, hb, hml, hown, hts⟩ := id S
  have hl : lv_has ls 1 [(0, .int (nI c0))] := hl
  refine lv_iload_n hx hb dJ1_canEncode_fc78d_0 rfl (lv_at hl 0 rfl) ?_
  refine lv_sipush (v := 255) hx hb dJ1_canEncode_fc78d_1 (by decide) ?_
  refine lv_icmp_gt (tgt := 11) hx hb dJ1_canEncode_fc78d_4 (by decide) (fun b9 => absurd b9 (show ¬ nI 255 < nI c0 from nI_nlt (by omega) (by omega))) (fun _ => ?_)
  refine lv_iconst (v := 1) hx hb dJ1_canEncode_fc78d_7 (by decide) ?_
  refine lv_goto (tgt := 12) hx hb dJ1_canEncode_fc78d_8 (by decide) ?_
  exact z_nrety S hr hlocks () trivial hH rfl rfl dJ1_canEncode_fc78d_12

abbrev rm_c_newL : Room := { frames := 1, cells := 0, slots := 0, locals := 21 }
set_option maxHeartbeats 4000000 in
set_option maxRecDepth 100000 in
theorem c_newL (l : Launch) (G : va_G) (cy : Nat → ClassId) (E : Nat → Nat) (g : Nat) (hg : g ≤ 18) : zMy l G cy E yJ8_newLength_cabcc wsJ8_newLength_cabcc rm_c_newL [.int (nI 16), .int (nI g), .int (nI 18)] [] (fun _ : Unit => some (.int (nI 34))) (fun _ : Unit => []) (fun _ => True) 0 0 := by
  refine z_bodyy (cc := cJ8_newLength_cabcc) (maxL := 4) (ret := some .int) (by decide +kernel) rfl (Nat.le_of_ble_eq_true rfl) ?_
  intro p e s m below meth c ls S hr hlocks hnm hF hH hl
  have S : CallFix p m c cJ8_newLength_cabcc 4 s ([.int (nI 16), .int (nI g), .int (nI 18)] : List Value).toArray wsJ8_newLength_cabcc RJ8 := S
  obtain ⟨hx, hb, hml, hown, hts⟩ := id S
  have hl : lv_has ls 4 [(0, .int (nI 16)), (1, .int (nI g)), (2, .int (nI 18))] := hl
  have hg9 : nI 34 = (nI 16) + (zmax (nI g) (nI 18)) := by
    unfold zmax
    by_cases h9 : g < 18
    · rw [if_pos (nI_lt h9 (by omega))]; rfl
    · obtain rfl : g = 18 := by omega
      rfl
  refine lv_iload_n hx hb dJ8_newLength_cabcc_0 rfl (lv_at hl 0 rfl) ?_
  refine lv_iload_n hx hb dJ8_newLength_cabcc_1 rfl (lv_at hl 1 rfl) ?_
  refine lv_iload_n hx hb dJ8_newLength_cabcc_2 rfl (lv_at hl 2 rfl) ?_
  refine z_mmax S hl.1 (List.mem_of_getElem? (i := 1) rfl) (List.mem_of_getElem? (i := 2) rfl) (List.mem_of_getElem? (i := 3) rfl) (List.mem_of_getElem? (i := 4) rfl) (Nat.le_of_ble_eq_true rfl) (Nat.le_of_ble_eq_true rfl) (Nat.le_of_ble_eq_true rfl) (Nat.le_of_ble_eq_true rfl) dJ8_newLength_cabcc_3 ?_
  refine lv_iadd hx hb dJ8_newLength_cabcc_6 ?_
  refine z_top (show ((nI 34) : Int32) = ((nI 16) + (zmax (nI g) (nI 18))) from hg9) ?_
  refine lv_istore_n (lv' := [(3, .int (nI 34)), (0, .int (nI 16)), (1, .int (nI g)), (2, .int (nI 18))]) hx hb dJ8_newLength_cabcc_7 rfl hl (by decide) rfl (fun ls hl => ?_)
  refine lv_iconst (v := 0) hx hb dJ8_newLength_cabcc_8 (by decide) ?_
  refine lv_iload_n hx hb dJ8_newLength_cabcc_9 rfl (lv_at hl 0 rfl) ?_
  refine lv_icmp_ge (tgt := 21) hx hb dJ8_newLength_cabcc_10 (by decide) (fun b9 => absurd b9 (by decide)) (fun _ => ?_)
  refine lv_iload_n hx hb dJ8_newLength_cabcc_13 rfl (lv_at hl 0 rfl) ?_
  refine lv_ldc (v := 2147483639) hx hb hown (hts _ (List.mem_of_getElem? (i := 5) rfl)) dJ8_newLength_cabcc_14 ?_
  refine lv_icmp_gt (tgt := 21) hx hb dJ8_newLength_cabcc_16 (by decide) (fun b9 => absurd b9 (by decide)) (fun _ => ?_)
  refine lv_iload_n hx hb dJ8_newLength_cabcc_19 rfl (lv_at hl 0 rfl) ?_
  exact z_irety S hr hlocks () trivial hH rfl dJ8_newLength_cabcc_20

theorem iJ5_newCapacity_0f7a4_J4 : ∀ w ∈ wsJ40, w ∈ wsJ5_newCapacity_0f7a4 := fun _ h => List.mem_cons_of_mem _ (List.mem_append_right _ h)
abbrev rm_c_newC : Room := { frames := 2, cells := 0, slots := 0, locals := 60 }
set_option maxHeartbeats 4000000 in
set_option maxRecDepth 100000 in
theorem c_newC (l : Launch) (G : va_G) (cy : Nat → ClassId) (E : Nat → Nat) (q_d q_v nn q : Nat) (ml : Int32) (f : Nat → Int32) (h1 : 16 ≤ q) (h2 : q ≤ 34) : zMy l G cy E yJ5_newCapacity_0f7a4 wsJ5_newCapacity_0f7a4 rm_c_newC [.ref q_d, .int (nI q)] [(q_d, .inr (0, [.ref q_v, .int 0, .int ml, .int (nI nn)])), (q_v, .inl (cy 0, 16, .inl f))] (fun _ : Unit => some (.int (nI 34))) (fun _ : Unit => [(q_d, .inr (0, [.ref q_v, .int 0, .int ml, .int (nI nn)])), (q_v, .inl (cy 0, 16, .inl f))]) (fun _ => True) 0 0 := by
  refine z_bodyy (cc := cJ5_newCapacity_0f7a4) (maxL := 6) (ret := some .int) (by decide +kernel) rfl (Nat.le_of_ble_eq_true rfl) ?_
  intro p e s m below meth c ls S hr hlocks hnm hF hH hl
  have S : CallFix p m c cJ5_newCapacity_0f7a4 6 s ([.ref q_d, .int (nI q)] : List Value).toArray wsJ5_newCapacity_0f7a4 RJ5 := S
  obtain ⟨hx, hb, hml, hown, hts⟩ := id S
  have hl : lv_has ls 6 [(0, .ref q_d), (1, .int (nI q))] := hl
  refine lv_aload_n hx hb dJ5_newCapacity_0f7a4_0 rfl (lv_at hl 0 rfl) ?_
  refine z_get S hF hH iJ5_newCapacity_0f7a4_J4 0 rfl rfl 0 (by decide) (List.mem_of_getElem? (i := 1) rfl) rfl dJ5_newCapacity_0f7a4_1 ?_
  refine z_alen (v := (nI 16)) S hF hH 1 0 rfl rfl rfl dJ5_newCapacity_0f7a4_4 ?_
  refine lv_istore_n (lv' := [(2, .int (nI 16)), (0, .ref q_d), (1, .int (nI q))]) hx hb dJ5_newCapacity_0f7a4_5 rfl hl (by decide) rfl (fun ls hl => ?_)
  refine lv_iload_n hx hb dJ5_newCapacity_0f7a4_6 rfl (lv_at hl 2 rfl) ?_
  refine lv_aload_n hx hb dJ5_newCapacity_0f7a4_7 rfl (lv_at hl 1 rfl) ?_
  refine z_get S hF hH iJ5_newCapacity_0f7a4_J4 0 rfl rfl 1 (by decide) (List.mem_of_getElem? (i := 2) rfl) rfl dJ5_newCapacity_0f7a4_8 ?_
  refine lv_ishl hx hb dJ5_newCapacity_0f7a4_11 ?_
  refine z_top (show ((nI q) : Int32) = ((nI q) <<< ((0 : Int32) &&& 31)) from (sb_shl0 (nI q)).symm) ?_
  refine lv_istore_n (lv' := [(3, .int (nI q)), (2, .int (nI 16)), (0, .ref q_d), (1, .int (nI q))]) hx hb dJ5_newCapacity_0f7a4_12 rfl hl (by decide) rfl (fun ls hl => ?_)
  refine lv_iload_n hx hb dJ5_newCapacity_0f7a4_13 rfl (lv_at hl 0 rfl) ?_
  refine lv_iload_n hx hb dJ5_newCapacity_0f7a4_14 rfl (lv_at hl 1 rfl) ?_
  refine lv_isub hx hb dJ5_newCapacity_0f7a4_15 ?_
  refine z_top (show ((nI (q - 16)) : Int32) = ((nI q) - (nI 16)) from (pk_sub (a := q) (b := 16) (by omega)).symm) ?_
  refine lv_istore (lv' := [(4, .int (nI (q - 16))), (3, .int (nI q)), (2, .int (nI 16)), (0, .ref q_d), (1, .int (nI q))]) hx hb dJ5_newCapacity_0f7a4_16 hl (by decide) rfl (fun ls hl => ?_)
  refine lv_iload_n hx hb dJ5_newCapacity_0f7a4_18 rfl (lv_at hl 2 rfl) ?_
  refine lv_iload hx hb dJ5_newCapacity_0f7a4_19 (lv_at hl 0 rfl) ?_
  refine lv_iload_n hx hb dJ5_newCapacity_0f7a4_21 rfl (lv_at hl 2 rfl) ?_
  refine lv_iconst (v := 2) hx hb dJ5_newCapacity_0f7a4_22 (by decide) ?_
  refine lv_aload_n hx hb dJ5_newCapacity_0f7a4_23 rfl (lv_at hl 3 rfl) ?_
  refine z_get S hF hH iJ5_newCapacity_0f7a4_J4 0 rfl rfl 1 (by decide) (List.mem_of_getElem? (i := 2) rfl) rfl dJ5_newCapacity_0f7a4_24 ?_
  refine lv_ishl hx hb dJ5_newCapacity_0f7a4_27 ?_
  refine z_top (show (2 : Int32) = ((2 : Int32) <<< ((0 : Int32) &&& 31)) from (sb_shl0 2).symm) ?_
  refine lv_iadd hx hb dJ5_newCapacity_0f7a4_28 ?_
  refine z_top (show ((nI 18) : Int32) = ((nI 16) + (2 : Int32)) from rfl) ?_
  refine z_callSy (wsx := (fun _ : Unit => [(q_d, .inr (0, [.ref q_v, .int 0, .int ml, .int (nI nn)])), (q_v, .inl (cy 0, 16, .inl f))])) (As := [.int (nI 16), .int (nI (q - 16)), .int (nI 18)]) (rest := []) S hF hH (c_newL l G cy E (q - 16) (by omega)) (va_cwS 3 hts gJ5_newCapacity_0f7a4_J8_newLength_cabcc rfl rfl rfl (by decide +kernel) ⟨Nat.le_of_ble_eq_true rfl, Nat.le_of_ble_eq_true rfl⟩) [] [0, 1] [0, 1] rfl rfl (by decide) (by decide) (by decide) (by decide) (fun _ => rfl) rfl rfl hl.1 (Nat.le_of_ble_eq_true rfl) dJ5_newCapacity_0f7a4_29 ⟨Nat.le_of_ble_eq_true rfl, Nat.le_of_ble_eq_true rfl⟩ (fun _ H locs _ hH => ?_)
  have hH : zH G (va_A [(q_d, .inr (0, [.ref q_v, .int 0, .int ml, .int (nI nn)])), (q_v, .inl (cy 0, 16, .inl f))] s.heap.size) s H locs [(q_d, .inr (0, [.ref q_v, .int 0, .int ml, .int (nI nn)])), (q_v, .inl (cy 0, 16, .inl f))] := hH
  refine lv_istore (lv' := [(5, .int (nI 34)), (4, .int (nI (q - 16))), (3, .int (nI q)), (2, .int (nI 16)), (0, .ref q_d), (1, .int (nI q))]) hx hb dJ5_newCapacity_0f7a4_32 hl (by decide) rfl (fun ls hl => ?_)
  refine lv_iload hx hb dJ5_newCapacity_0f7a4_34 (lv_at hl 0 rfl) ?_
  refine lv_ldc (v := 2147483647) hx hb hown (hts _ (List.mem_of_getElem? (i := 3) rfl)) dJ5_newCapacity_0f7a4_36 ?_
  refine lv_icmp_ne (tgt := 51) hx hb dJ5_newCapacity_0f7a4_38 (by decide) (fun _ => ?_) (fun b9 => absurd b9 (by decide))
  refine lv_iload hx hb dJ5_newCapacity_0f7a4_51 (lv_at hl 0 rfl) ?_
  refine lv_aload_n hx hb dJ5_newCapacity_0f7a4_53 rfl (lv_at hl 4 rfl) ?_
  refine z_get S hF hH iJ5_newCapacity_0f7a4_J4 0 rfl rfl 1 (by decide) (List.mem_of_getElem? (i := 2) rfl) rfl dJ5_newCapacity_0f7a4_54 ?_
  refine lv_ishr hx hb dJ5_newCapacity_0f7a4_57 ?_
  refine z_top (show ((nI 34) : Int32) = ((nI 34) >>> ((0 : Int32) &&& 31)) from (sb_shr0 (nI 34)).symm) ?_
  exact z_irety S hr hlocks () trivial hH rfl dJ5_newCapacity_0f7a4_58

abbrev rm_c_copyOf : Room := { frames := 1, cells := 1, slots := 34, locals := 60 }
set_option maxHeartbeats 4000000 in
set_option maxRecDepth 100000 in
theorem c_copyOf (l : Launch) (G : va_G) (cy : Nat → ClassId) (E : Nat → Nat) (q_v : Nat) (f : Nat → Int32) (hfit : sb_Fit f) : zMy l G cy E yJ7_copyOf_9075b wsJ7_copyOf_9075b rm_c_copyOf [.ref q_v, .int (nI 34)] [(q_v, .inl (cy 0, 16, .inl f))] (fun x : Nat => some (.ref x)) (fun x : Nat => [(q_v, .inl (cy 0, 16, .inl f)), (x, .inl (cy 0, 34, .inl (va_cpy f (fun _ => 0) 0 0 16)))]) (fun _ => True) 1 34 := by
  refine z_bodyy (cc := cJ7_copyOf_9075b) (maxL := 3) (ret := some (.array .byte)) (by decide +kernel) rfl (Nat.le_of_ble_eq_true rfl) ?_
  intro p e s m below meth c ls S hr hlocks hnm hF hH hl
  have S : CallFix p m c cJ7_copyOf_9075b 3 s ([.ref q_v, .int (nI 34)] : List Value).toArray wsJ7_copyOf_9075b RJ7 := S
  obtain ⟨hx, hb, hml, hown, hts⟩ := id S
  have hl : lv_has ls 3 [(0, .ref q_v), (1, .int (nI 34))] := hl
  refine lv_iload_n hx hb dJ7_copyOf_9075b_0 rfl (lv_at hl 1 rfl) ?_
  refine lv_aload_n hx hb dJ7_copyOf_9075b_1 rfl (lv_at hl 0 rfl) ?_
  refine z_alen (v := (nI 16)) S hF hH 0 0 rfl rfl rfl dJ7_copyOf_9075b_2 ?_
  refine lv_icmp_ne (tgt := 14) hx hb dJ7_copyOf_9075b_3 (by decide) (fun _ => ?_) (fun b9 => absurd b9 (show ¬ nI 34 = nI 16 by decide))
  refine lv_iload_n hx hb dJ7_copyOf_9075b_14 rfl (lv_at hl 1 rfl) ?_
  refine z_newa (atype := .byte) (N' := 34) (a0 := (34, .inl (fun _ => 0))) S hF hH 0 (List.mem_of_getElem? (i := 7) rfl) rfl (fun _ => rfl) (by decide) rfl (Nat.le_of_ble_eq_true rfl) (Nat.le_of_ble_eq_true rfl) (Nat.le_of_ble_eq_true rfl) dJ7_copyOf_9075b_15 (fun x H hH => ?_)
  have hH : zH G (va_A [(q_v, .inl (cy 0, 16, .inl f))] s.heap.size) s H _ [(q_v, .inl (cy 0, 16, .inl f)), (x, .inl (cy 0, 34, .inl (fun _ => 0)))] := hH
  refine W.widen (k := 1) (n := 34) (Nat.le_of_ble_eq_true rfl) (Nat.le_of_ble_eq_true rfl) ?_
  refine lv_astore_n (lv' := [(2, .ref x), (0, .ref q_v), (1, .int (nI 34))]) hx hb dJ7_copyOf_9075b_17 rfl hl (by decide) rfl (fun ls hl => ?_)
  refine lv_aload_n hx hb dJ7_copyOf_9075b_18 rfl (lv_at hl 1 rfl) ?_
  refine lv_iconst (v := 0) hx hb dJ7_copyOf_9075b_19 (by decide) ?_
  refine lv_aload_n hx hb dJ7_copyOf_9075b_20 rfl (lv_at hl 0 rfl) ?_
  refine lv_iconst (v := 0) hx hb dJ7_copyOf_9075b_21 (by decide) ?_
  refine lv_aload_n hx hb dJ7_copyOf_9075b_22 rfl (lv_at hl 1 rfl) ?_
  refine z_alen (v := (nI 16)) S hF hH 0 0 rfl rfl rfl dJ7_copyOf_9075b_23 ?_
  refine lv_iload_n hx hb dJ7_copyOf_9075b_24 rfl (lv_at hl 2 rfl) ?_
  refine z_mmin S hl.1 (List.mem_of_getElem? (i := 8) rfl) (List.mem_of_getElem? (i := 9) rfl) (List.mem_of_getElem? (i := 10) rfl) (List.mem_of_getElem? (i := 11) rfl) (Nat.le_of_ble_eq_true rfl) (Nat.le_of_ble_eq_true rfl) (Nat.le_of_ble_eq_true rfl) (Nat.le_of_ble_eq_true rfl) dJ7_copyOf_9075b_25 ?_
  refine z_top (show ((nI 16) : Int32) = (zmin (nI 16) (nI 34)) from rfl) ?_
  refine z_copyb (ws' := [(q_v, .inl (cy 0, 16, .inl f)), (x, .inl (cy 0, 34, .inl (va_cpy f (fun _ => 0) 0 0 16)))]) S hF hH hl.1 (List.mem_of_getElem? (i := 12) rfl) (List.mem_of_getElem? (i := 13) rfl) (List.mem_of_getElem? (i := 14) rfl) (List.mem_of_getElem? (i := 15) rfl) 0 1 rfl rfl 0 0 16 rfl rfl rfl (by decide) (by decide) (by decide) (Nat.le_of_ble_eq_true rfl) (Nat.le_of_ble_eq_true rfl) hfit (Nat.le_of_ble_eq_true rfl) (by decide +kernel) rfl dJ7_copyOf_9075b_28 (fun H locs hH => ?_)
  refine lv_aload_n hx hb dJ7_copyOf_9075b_31 rfl (lv_at hl 0 rfl) ?_
  exact z_arety S hr (Or.inr ⟨_, rfl⟩) hlocks x trivial hH rfl dJ7_copyOf_9075b_32

theorem iJ5_ensureCapacityInternal_d00df_J4 : ∀ w ∈ wsJ40, w ∈ wsJ5_ensureCapacityInternal_d00df := fun _ h => List.mem_cons_of_mem _ (List.mem_append_right _ h)
abbrev rm_c_ens : Room := { frames := 3, cells := 1, slots := 34, locals := 90 }
set_option maxHeartbeats 4000000 in
set_option maxRecDepth 100000 in
theorem c_ens (l : Launch) (G : va_G) (cy : Nat → ClassId) (E : Nat → Nat) (q_d q_v mm nn q : Nat) (ml : Int32) (f : Nat → Int32) (hm : mm = 16 ∨ mm = 34) (hq : q ≤ 34) (hfit : sb_Fit f) : zMy l G cy E yJ5_ensureCapacityInternal_d00df wsJ5_ensureCapacityInternal_d00df rm_c_ens [.ref q_d, .int (nI q)] [(q_d, .inr (0, [.ref q_v, .int 0, .int ml, .int (nI nn)])), (q_v, .inl (cy 0, mm, .inl f))] (fun _ : Nat × Nat × (Nat → Int32) => none) (fun x : Nat × Nat × (Nat → Int32) => [(q_d, .inr (0, [.ref x.1, .int 0, .int ml, .int (nI nn)])), (x.1, .inl (cy 0, x.2.1, .inl x.2.2))]) (fun x : Nat × Nat × (Nat → Int32) => q ≤ x.2.1 ∧ mm ≤ x.2.1 ∧ (x.2.1 = 16 ∨ x.2.1 = 34) ∧ sb_Fit x.2.2 ∧ ∀ j, j < mm → x.2.2 j = f j) 1 34 := by
  refine z_bodyy (cc := cJ5_ensureCapacityInternal_d00df) (maxL := 3) (ret := none) (by decide +kernel) rfl (Nat.le_of_ble_eq_true rfl) ?_
  intro p e s m below meth c ls S hr hlocks hnm hF hH hl
  have S : CallFix p m c cJ5_ensureCapacityInternal_d00df 3 s ([.ref q_d, .int (nI q)] : List Value).toArray wsJ5_ensureCapacityInternal_d00df RJ5 := S
  obtain ⟨hx, hb, hml, hown, hts⟩ := id S
  have hl : lv_has ls 3 [(0, .ref q_d), (1, .int (nI q))] := hl
  refine lv_aload_n hx hb dJ5_ensureCapacityInternal_d00df_0 rfl (lv_at hl 0 rfl) ?_
  refine z_get S hF hH iJ5_ensureCapacityInternal_d00df_J4 0 rfl rfl 0 (by decide) (List.mem_of_getElem? (i := 1) rfl) rfl dJ5_ensureCapacityInternal_d00df_1 ?_
  refine z_alen (v := (nI mm)) S hF hH 1 0 rfl rfl rfl dJ5_ensureCapacityInternal_d00df_4 ?_
  refine lv_aload_n hx hb dJ5_ensureCapacityInternal_d00df_5 rfl (lv_at hl 0 rfl) ?_
  refine z_get S hF hH iJ5_ensureCapacityInternal_d00df_J4 0 rfl rfl 1 (by decide) (List.mem_of_getElem? (i := 2) rfl) rfl dJ5_ensureCapacityInternal_d00df_6 ?_
  refine lv_ishr hx hb dJ5_ensureCapacityInternal_d00df_9 ?_
  refine z_top (show ((nI mm) : Int32) = ((nI mm) >>> ((0 : Int32) &&& 31)) from (sb_shr0 (nI mm)).symm) ?_
  refine lv_istore_n (lv' := [(2, .int (nI mm)), (0, .ref q_d), (1, .int (nI q))]) hx hb dJ5_ensureCapacityInternal_d00df_10 rfl hl (by decide) rfl (fun ls hl => ?_)
  refine lv_iload_n hx hb dJ5_ensureCapacityInternal_d00df_11 rfl (lv_at hl 2 rfl) ?_
  refine lv_iload_n hx hb dJ5_ensureCapacityInternal_d00df_12 rfl (lv_at hl 0 rfl) ?_
  refine lv_isub hx hb dJ5_ensureCapacityInternal_d00df_13 ?_
  have e1 : (nI q - nI mm).toInt = (q : Int) - mm := pk_sub_toInt (by omega) (by omega)
  by_cases h9 : q ≤ mm
  · refine lv_if_le (tgt := 38) hx hb dJ5_ensureCapacityInternal_d00df_14 (by decide) (fun _ => ?_) (fun b9 => absurd (show nI q - nI mm ≤ 0 by rw [Int32.le_iff_toInt_le, e1, Int32.toInt_zero]; omega) b9)
    refine W.widen (k := 1) (n := 34) (Nat.le_of_ble_eq_true rfl) (Nat.le_of_ble_eq_true rfl) ?_
    exact z_vrety S hr hlocks (q_v, mm, f) ⟨h9, Nat.le_refl _, hm, hfit, fun _ _ => rfl⟩ hH dJ5_ensureCapacityInternal_d00df_38
  · refine lv_if_le (tgt := 38) hx hb dJ5_ensureCapacityInternal_d00df_14 (by decide) (fun b9 => absurd b9 (fun b8 => h9 (by rw [Int32.le_iff_toInt_le, e1, Int32.toInt_zero] at b8; omega))) (fun _ => ?_)
    obtain rfl : mm = 16 := by omega
    refine lv_aload_n hx hb dJ5_ensureCapacityInternal_d00df_17 rfl (lv_at hl 1 rfl) ?_
    refine lv_aload_n hx hb dJ5_ensureCapacityInternal_d00df_18 rfl (lv_at hl 1 rfl) ?_
    refine z_get S hF hH iJ5_ensureCapacityInternal_d00df_J4 0 rfl rfl 0 (by decide) (List.mem_of_getElem? (i := 1) rfl) rfl dJ5_ensureCapacityInternal_d00df_19 ?_
    refine lv_aload_n hx hb dJ5_ensureCapacityInternal_d00df_22 rfl (lv_at hl 1 rfl) ?_
    refine lv_iload_n hx hb dJ5_ensureCapacityInternal_d00df_23 rfl (lv_at hl 2 rfl) ?_
    refine z_callUy (wsx := (fun _ : Unit => [(q_d, .inr (0, [.ref q_v, .int 0, .int ml, .int (nI nn)])), (q_v, .inl (cy 0, 16, .inl f))])) (As := [.int (nI q)]) (rest := [.ref q_v, .ref q_d]) S hF hH (c_newC l G cy E q_d q_v nn q ml f (by omega) (by omega)) (va_cwU 1 hts gJ5_ensureCapacityInternal_d00df_J5_newCapacity_0f7a4_u104J4 rfl rfl rfl rfl (by decide +kernel) ⟨Nat.le_of_ble_eq_true rfl, Nat.le_of_ble_eq_true rfl⟩) 0 0 rfl rfl [0, 1] [] [0, 1] rfl rfl (by decide) (by decide) (by decide) (by decide) (fun _ => rfl) rfl rfl hl.1 (Nat.le_of_ble_eq_true rfl) dJ5_ensureCapacityInternal_d00df_24 ⟨Nat.le_of_ble_eq_true rfl, Nat.le_of_ble_eq_true rfl⟩ (fun _ H locs _ hH => ?_)
    have hH : zH G (va_A [(q_d, .inr (0, [.ref q_v, .int 0, .int ml, .int (nI nn)])), (q_v, .inl (cy 0, 16, .inl f))] s.heap.size) s H locs [(q_d, .inr (0, [.ref q_v, .int 0, .int ml, .int (nI nn)])), (q_v, .inl (cy 0, 16, .inl f))] := hH
    refine lv_aload_n hx hb dJ5_ensureCapacityInternal_d00df_27 rfl (lv_at hl 1 rfl) ?_
    refine z_get S hF hH iJ5_ensureCapacityInternal_d00df_J4 0 rfl rfl 1 (by decide) (List.mem_of_getElem? (i := 2) rfl) rfl dJ5_ensureCapacityInternal_d00df_28 ?_
    refine lv_ishl hx hb dJ5_ensureCapacityInternal_d00df_31 ?_
    refine z_top (show ((nI 34) : Int32) = ((nI 34) <<< ((0 : Int32) &&& 31)) from (sb_shl0 (nI 34)).symm) ?_
    refine z_callSy (wsx := (fun x : Nat => [(q_d, .inr (0, [.ref q_v, .int 0, .int ml, .int (nI nn)])), (q_v, .inl (cy 0, 16, .inl f)), (x, .inl (cy 0, 34, .inl (va_cpy f (fun _ => 0) 0 0 16)))])) (As := [.ref q_v, .int (nI 34)]) (rest := [.ref q_d]) S hF hH (c_copyOf l G cy E q_v f hfit) (va_cwS 2 hts gJ5_ensureCapacityInternal_d00df_J7_copyOf_9075b rfl rfl rfl (by decide +kernel) ⟨Nat.le_of_ble_eq_true rfl, Nat.le_of_ble_eq_true rfl⟩) [1] [0] [0, 1, 2] rfl rfl (by decide) (by decide) (by decide) (by decide) (fun _ => rfl) rfl rfl hl.1 (Nat.le_of_ble_eq_true rfl) dJ5_ensureCapacityInternal_d00df_32 ⟨Nat.le_of_ble_eq_true rfl, Nat.le_of_ble_eq_true rfl⟩ (fun x H locs _ hH => ?_)
    have hH : zH G (va_A [(q_d, .inr (0, [.ref q_v, .int 0, .int ml, .int (nI nn)])), (q_v, .inl (cy 0, 16, .inl f))] s.heap.size) s H locs [(q_d, .inr (0, [.ref q_v, .int 0, .int ml, .int (nI nn)])), (q_v, .inl (cy 0, 16, .inl f)), (x, .inl (cy 0, 34, .inl (va_cpy f (fun _ => 0) 0 0 16)))] := hH
    refine z_put (ws' := [(q_d, .inr (0, [.ref x, .int 0, .int ml, .int (nI nn)])), (q_v, .inl (cy 0, 16, .inl f)), (x, .inl (cy 0, 34, .inl (va_cpy f (fun _ => 0) 0 0 16)))]) S hF hH iJ5_ensureCapacityInternal_d00df_J4 tyJ4 tyJ4_ok nmJ4 0 rfl rfl 0 (by decide) (List.mem_of_getElem? (i := 1) rfl) rfl rfl rfl (Nat.le_of_ble_eq_true rfl) rfl dJ5_ensureCapacityInternal_d00df_35 (fun H locs hH => ?_)
    exact z_vrety S hr hlocks (x, 34, va_cpy f (fun _ => 0) 0 0 16) ⟨show q ≤ 34 by omega, show 16 ≤ 34 by omega, Or.inr rfl, sb_fitC hfit sb_fit0, fun j hj => show va_cpy f (fun _ => 0) 0 0 16 j = f j from sb_cpy0 hj⟩ (z_sub hH [0, 2] (by decide) rfl) dJ5_ensureCapacityInternal_d00df_38

theorem iJ5_append_3fe6f_J4 : ∀ w ∈ wsJ40, w ∈ wsJ5_append_3fe6f := fun _ h => List.mem_cons_of_mem _ (List.mem_append_right _ h)
abbrev rm_c_apC5 : Room := { frames := 4, cells := 1, slots := 34, locals := 120 }
set_option maxHeartbeats 4000000 in
set_option maxRecDepth 100000 in
theorem c_apC5 (l : Launch) (G : va_G) (cy : Nat → ClassId) (E : Nat → Nat) (q_d q_v mm nn : Nat) (ml : Int32) (f : Nat → Int32) (t : Nat → Nat) (c0 : Nat) (hm : mm = 16 ∨ mm = 34) (hn : nn ≤ mm) (hL : sb_Lat t nn f) (hfit : sb_Fit f) (h34 : nn + 1 ≤ 34) (hc : c0 < 256) : zMy l G cy E yJ5_append_3fe6f wsJ5_append_3fe6f rm_c_apC5 [.ref q_d, .int (nI c0)] [(q_d, .inr (0, [.ref q_v, .int 0, .int ml, .int (nI nn)])), (q_v, .inl (cy 0, mm, .inl f))] (fun _ : Nat × Nat × (Nat → Int32) => some (.ref q_d)) (fun x : Nat × Nat × (Nat → Int32) => [(q_d, .inr (0, [.ref x.1, .int 0, .int ml, .int (nI (nn + 1))])), (x.1, .inl (cy 0, x.2.1, .inl x.2.2))]) (fun x : Nat × Nat × (Nat → Int32) => (x.2.1 = 16 ∨ x.2.1 = 34) ∧ nn + 1 ≤ x.2.1 ∧ sb_Lat (sb_cat t nn (fun _ => c0)) (nn + 1) x.2.2 ∧ sb_Fit x.2.2) 1 34 := by
  refine z_bodyy (cc := cJ5_append_3fe6f) (maxL := 2) (ret := some (.object "java/lang/AbstractStringBuilder")) (by decide +kernel) rfl (Nat.le_of_ble_eq_true rfl) ?_
  intro p e s m below meth c ls S hr hlocks hnm hF hH hl
  have S : CallFix p m c cJ5_append_3fe6f 2 s ([.ref q_d, .int (nI c0)] : List Value).toArray wsJ5_append_3fe6f RJ5 := S
  obtain ⟨hx, hb, hml, hown, hts⟩ := id S
  have hl : lv_has ls 2 [(0, .ref q_d), (1, .int (nI c0))] := hl
  refine lv_aload_n hx hb dJ5_append_3fe6f_0 rfl (lv_at hl 0 rfl) ?_
  refine lv_aload_n hx hb dJ5_append_3fe6f_1 rfl (lv_at hl 0 rfl) ?_
  refine z_get S hF hH iJ5_append_3fe6f_J4 0 rfl rfl 3 (by decide) (List.mem_of_getElem? (i := 1) rfl) rfl dJ5_append_3fe6f_2 ?_
  refine lv_iconst (v := 1) hx hb dJ5_append_3fe6f_5 (by decide) ?_
  refine lv_iadd hx hb dJ5_append_3fe6f_6 ?_
  refine z_top (show ((nI (nn + 1)) : Int32) = ((nI nn) + (1 : Int32)) from (nI_1 nn).symm) ?_
  refine z_callUy (wsx := (fun x : Nat × Nat × (Nat → Int32) => [(q_d, .inr (0, [.ref x.1, .int 0, .int ml, .int (nI nn)])), (x.1, .inl (cy 0, x.2.1, .inl x.2.2))])) (As := [.int (nI (nn + 1))]) (rest := []) S hF hH (c_ens l G cy E q_d q_v mm nn (nn + 1) ml f hm (by omega) hfit) (va_cwU 1 hts gJ5_append_3fe6f_J5_ensureCapacityInternal_d00df_u100J4 rfl rfl rfl rfl (by decide +kernel) ⟨Nat.le_of_ble_eq_true rfl, Nat.le_of_ble_eq_true rfl⟩) 0 0 rfl rfl [0, 1] [] [0, 1] rfl rfl (by decide) (by decide) (by decide) (by decide) (fun _ => rfl) rfl rfl hl.1 (Nat.le_of_ble_eq_true rfl) dJ5_append_3fe6f_7 ⟨Nat.le_of_ble_eq_true rfl, Nat.le_of_ble_eq_true rfl⟩ (fun x H locs px hH => ?_)
  have hH : zH G (va_A [(q_d, .inr (0, [.ref q_v, .int 0, .int ml, .int (nI nn)])), (q_v, .inl (cy 0, mm, .inl f))] s.heap.size) s H locs [(q_d, .inr (0, [.ref x.1, .int 0, .int ml, .int (nI nn)])), (x.1, .inl (cy 0, x.2.1, .inl x.2.2))] := hH
  have px1 : nn + 1 ≤ x.2.1 := px.1
  have px3 : x.2.1 = 16 ∨ x.2.1 = 34 := px.2.2.1
  refine lv_aload_n hx hb dJ5_append_3fe6f_10 rfl (lv_at hl 0 rfl) ?_
  refine z_callUy (wsx := (fun _ : Unit => [(q_d, .inr (0, [.ref x.1, .int 0, .int ml, .int (nI nn)])), (x.1, .inl (cy 0, x.2.1, .inl x.2.2))])) (As := []) (rest := []) S hF hH (c_isLat l G cy E q_d x.1 x.2.1 nn ml x.2.2) (va_cwU 0 hts gJ5_append_3fe6f_J5_isLatin1_aae02_u83J4 rfl rfl rfl rfl (by decide +kernel) ⟨Nat.le_of_ble_eq_true rfl, Nat.le_of_ble_eq_true rfl⟩) 0 0 rfl rfl [0, 1] [] [0, 1] rfl rfl (by decide) (by decide) (by decide) (by decide) (fun _ => rfl) rfl rfl hl.1 (Nat.le_of_ble_eq_true rfl) dJ5_append_3fe6f_11 ⟨Nat.le_of_ble_eq_true rfl, Nat.le_of_ble_eq_true rfl⟩ (fun _ H locs _ hH => ?_)
  have hH : zH G (va_A [(q_d, .inr (0, [.ref q_v, .int 0, .int ml, .int (nI nn)])), (q_v, .inl (cy 0, mm, .inl f))] s.heap.size) s H locs [(q_d, .inr (0, [.ref x.1, .int 0, .int ml, .int (nI nn)])), (x.1, .inl (cy 0, x.2.1, .inl x.2.2))] := hH
  refine lv_if_eq (tgt := 45) hx hb dJ5_append_3fe6f_14 (by decide) (fun b9 => absurd b9 (by decide)) (fun _ => ?_)
  refine lv_iload_n hx hb dJ5_append_3fe6f_17 rfl (lv_at hl 1 rfl) ?_
  refine z_callSy (wsx := (fun _ : Unit => [(q_d, .inr (0, [.ref x.1, .int 0, .int ml, .int (nI nn)])), (x.1, .inl (cy 0, x.2.1, .inl x.2.2))])) (As := [.int (nI c0)]) (rest := []) S hF hH (c_canE l G cy E c0 hc) (va_cwS 1 hts gJ5_append_3fe6f_J1_canEncode_fc78d rfl rfl rfl (by decide +kernel) ⟨Nat.le_of_ble_eq_true rfl, Nat.le_of_ble_eq_true rfl⟩) [] [0, 1] [0, 1] rfl rfl (by decide) (by decide) (by decide) (by decide) (fun _ => rfl) rfl rfl hl.1 (Nat.le_of_ble_eq_true rfl) dJ5_append_3fe6f_18 ⟨Nat.le_of_ble_eq_true rfl, Nat.le_of_ble_eq_true rfl⟩ (fun _ H locs _ hH => ?_)
  have hH : zH G (va_A [(q_d, .inr (0, [.ref q_v, .int 0, .int ml, .int (nI nn)])), (q_v, .inl (cy 0, mm, .inl f))] s.heap.size) s H locs [(q_d, .inr (0, [.ref x.1, .int 0, .int ml, .int (nI nn)])), (x.1, .inl (cy 0, x.2.1, .inl x.2.2))] := hH
  refine lv_if_eq (tgt := 45) hx hb dJ5_append_3fe6f_21 (by decide) (fun b9 => absurd b9 (by decide)) (fun _ => ?_)
  refine lv_aload_n hx hb dJ5_append_3fe6f_24 rfl (lv_at hl 0 rfl) ?_
  refine z_get S hF hH iJ5_append_3fe6f_J4 0 rfl rfl 0 (by decide) (List.mem_of_getElem? (i := 2) rfl) rfl dJ5_append_3fe6f_25 ?_
  refine lv_aload_n hx hb dJ5_append_3fe6f_28 rfl (lv_at hl 0 rfl) ?_
  refine lv_dup hx hb dJ5_append_3fe6f_29 rfl ?_
  refine z_get S hF hH iJ5_append_3fe6f_J4 0 rfl rfl 3 (by decide) (List.mem_of_getElem? (i := 1) rfl) rfl dJ5_append_3fe6f_30 ?_
  refine lv_dup_x1 hx hb dJ5_append_3fe6f_33 rfl rfl ?_
  refine lv_iconst (v := 1) hx hb dJ5_append_3fe6f_34 (by decide) ?_
  refine lv_iadd hx hb dJ5_append_3fe6f_35 ?_
  refine z_top (show ((nI (nn + 1)) : Int32) = ((nI nn) + (1 : Int32)) from (nI_1 nn).symm) ?_
  refine z_put (ws' := [(q_d, .inr (0, [.ref x.1, .int 0, .int ml, .int (nI (nn + 1))])), (x.1, .inl (cy 0, x.2.1, .inl x.2.2))]) S hF hH iJ5_append_3fe6f_J4 tyJ4 tyJ4_ok nmJ4 0 rfl rfl 3 (by decide) (List.mem_of_getElem? (i := 1) rfl) rfl rfl rfl (Nat.le_of_ble_eq_true rfl) rfl dJ5_append_3fe6f_36 (fun H locs hH => ?_)
  refine lv_iload_n hx hb dJ5_append_3fe6f_39 rfl (lv_at hl 1 rfl) ?_
  refine lv_i2b (v := (Int8.toInt32 (Int32.toInt8 (nI c0)))) hx hb dJ5_append_3fe6f_40 rfl ?_
  refine z_top (show ((sb_b c0) : Int32) = (Int8.toInt32 (Int32.toInt8 (nI c0))) from rfl) ?_
  refine z_bast (ws' := [(q_d, .inr (0, [.ref x.1, .int 0, .int ml, .int (nI (nn + 1))])), (x.1, .inl (cy 0, x.2.1, .inl (upd x.2.2 nn (sb_b c0))))]) (j := nn) S hF hH 1 rfl (zy_in (by omega) (by omega)) (nI_clamp (by omega)) (by rw [zy_bb c0 hc]; rfl) dJ5_append_3fe6f_41 (fun H locs hH => ?_)
  refine lv_goto (tgt := 75) hx hb dJ5_append_3fe6f_42 (by decide) ?_
  refine lv_aload_n hx hb dJ5_append_3fe6f_75 rfl (lv_at hl 0 rfl) ?_
  exact z_arety S hr (Or.inl ⟨_, rfl⟩) hlocks (x.1, x.2.1, upd x.2.2 nn (sb_b c0)) (show (x.2.1 = 16 ∨ x.2.1 = 34) ∧ nn + 1 ≤ x.2.1 ∧ sb_Lat (sb_cat t nn (fun _ => c0)) (nn + 1) (upd x.2.2 nn (sb_b c0)) ∧ sb_Fit (upd x.2.2 nn (sb_b c0)) from ⟨px.2.2.1, px.1, sb_latPut (w := 1) hL (fun j hj => by rw [pk_un (by omega)]; exact px.2.2.2.2 j (by omega)) (fun i hi => by obtain rfl : i = 0 := (by omega); exact ⟨hc, pk_us⟩), sb_fitU px.2.2.2.1 (sb_fitB c0)⟩) hH rfl dJ5_append_3fe6f_76

abbrev rm_c_apC : Room := { frames := 5, cells := 1, slots := 34, locals := 150 }
set_option maxHeartbeats 4000000 in
set_option maxRecDepth 100000 in
theorem c_apC (l : Launch) (G : va_G) (cy : Nat → ClassId) (E : Nat → Nat) (q_d q_v mm nn : Nat) (ml : Int32) (f : Nat → Int32) (t : Nat → Nat) (c0 : Nat) (hm : mm = 16 ∨ mm = 34) (hn : nn ≤ mm) (hL : sb_Lat t nn f) (hfit : sb_Fit f) (h34 : nn + 1 ≤ 34) (hc : c0 < 256) : zMy l G cy E yJ4_append_cf468 wsJ4_append_cf468 rm_c_apC [.ref q_d, .int (nI c0)] [(q_d, .inr (0, [.ref q_v, .int 0, .int ml, .int (nI nn)])), (q_v, .inl (cy 0, mm, .inl f))] (fun _ : Nat × Nat × (Nat → Int32) => some (.ref q_d)) (fun x : Nat × Nat × (Nat → Int32) => [(q_d, .inr (0, [.ref x.1, .int 0, .int ml, .int (nI (nn + 1))])), (x.1, .inl (cy 0, x.2.1, .inl x.2.2))]) (fun x : Nat × Nat × (Nat → Int32) => (x.2.1 = 16 ∨ x.2.1 = 34) ∧ nn + 1 ≤ x.2.1 ∧ sb_Lat (sb_cat t nn (fun _ => c0)) (nn + 1) x.2.2 ∧ sb_Fit x.2.2) 1 34 := by
  refine z_bodyy (cc := cJ4_append_cf468) (maxL := 2) (ret := some (.object "java/lang/StringBuilder")) (by decide +kernel) rfl (Nat.le_of_ble_eq_true rfl) ?_
  intro p e s m below meth c ls S hr hlocks hnm hF hH hl
  have S : CallFix p m c cJ4_append_cf468 2 s ([.ref q_d, .int (nI c0)] : List Value).toArray wsJ4_append_cf468 RJ4 := S
  obtain ⟨hx, hb, hml, hown, hts⟩ := id S
  have hl : lv_has ls 2 [(0, .ref q_d), (1, .int (nI c0))] := hl
  refine lv_aload_n hx hb dJ4_append_cf468_0 rfl (lv_at hl 0 rfl) ?_
  refine lv_iload_n hx hb dJ4_append_cf468_1 rfl (lv_at hl 1 rfl) ?_
  refine z_callSUy (wsx := (fun x : Nat × Nat × (Nat → Int32) => [(q_d, .inr (0, [.ref x.1, .int 0, .int ml, .int (nI (nn + 1))])), (x.1, .inl (cy 0, x.2.1, .inl x.2.2))])) (As := [.int (nI c0)]) (rest := []) (hF.1.1 0 _ rfl).2 S hF hH (c_apC5 l G cy E q_d q_v mm nn ml f t c0 hm hn hL hfit h34 hc) (va_cwSU 1 hts gJ4_append_cf468_J5_append_3fe6f_s50 rfl rfl rfl (by decide +kernel) ⟨Nat.le_of_ble_eq_true rfl, Nat.le_of_ble_eq_true rfl⟩) 0 0 rfl rfl [0, 1] [] [0, 1] rfl rfl (by decide) (by decide) (by decide) (by decide) (fun _ => rfl) rfl rfl hl.1 (Nat.le_of_ble_eq_true rfl) dJ4_append_cf468_2 ⟨Nat.le_of_ble_eq_true rfl, Nat.le_of_ble_eq_true rfl⟩ (fun x H locs px hH => ?_)
  have hH : zH G (va_A [(q_d, .inr (0, [.ref q_v, .int 0, .int ml, .int (nI nn)])), (q_v, .inl (cy 0, mm, .inl f))] s.heap.size) s H locs [(q_d, .inr (0, [.ref x.1, .int 0, .int ml, .int (nI (nn + 1))])), (x.1, .inl (cy 0, x.2.1, .inl x.2.2))] := hH
  refine lv_pop hx hb dJ4_append_cf468_5 rfl ?_
  refine lv_aload_n hx hb dJ4_append_cf468_6 rfl (lv_at hl 0 rfl) ?_
  exact z_arety S hr (Or.inl ⟨_, rfl⟩) hlocks x px hH rfl dJ4_append_cf468_7

