/-! ===== StringBuilder: emptied, asked for a letter, made ===== -/
theorem zy_chr : ∀ c, c < 256 → zi2c (nI c) = nI c ∧ narrow .char (.int (nI c)) = .int (nI c) := by decide +kernel
theorem zy_min {a b : Nat} (h : a ≤ b) (hb : b < 2 ^ 31) : zmin (nI a) (nI b) = nI a := by unfold zmin; exact if_neg (nI_nlt h hb)
theorem iJ5_setLength_d00df_J4 : ∀ w ∈ wsJ40, w ∈ wsJ5_setLength_d00df := fun _ h => List.mem_cons_of_mem _ (List.mem_append_right _ h)
abbrev rm_c_sL5 : Room := { frames := 4, cells := 1, slots := 34, locals := 120 }
set_option maxHeartbeats 4000000 in
set_option maxRecDepth 100000 in
theorem c_sL5 (l : Launch) (G : va_G) (cy : Nat → ClassId) (E : Nat → Nat) (q_d q_v mm nn : Nat) (ml : Int32) (f : Nat → Int32) (hm : mm = 16 ∨ mm = 34) (hn : nn ≤ mm) (hfit : sb_Fit f) : zMy l G cy E yJ5_setLength_d00df wsJ5_setLength_d00df rm_c_sL5 [.ref q_d, .int 0] [(q_d, .inr (0, [.ref q_v, .int 0, .int ml, .int (nI nn)])), (q_v, .inl (cy 0, mm, .inl f))] (fun _ : Nat × Nat × (Nat → Int32) => none) (fun x : Nat × Nat × (Nat → Int32) => [(q_d, .inr (0, [.ref x.1, .int 0, .int (if nn = 0 then ml else 1), .int (nI 0)])), (x.1, .inl (cy 0, x.2.1, .inl x.2.2))]) (fun x : Nat × Nat × (Nat → Int32) => (x.2.1 = 16 ∨ x.2.1 = 34) ∧ sb_Fit x.2.2) 1 34 := by
  refine z_bodyy (cc := cJ5_setLength_d00df) (maxL := 2) (ret := none) (by decide +kernel) rfl (Nat.le_of_ble_eq_true rfl) ?_
  intro p e s m below meth c ls S hr hlocks hnm hF hH hl
  have S : CallFix p m c cJ5_setLength_d00df 2 s ([.ref q_d, .int 0] : List Value).toArray wsJ5_setLength_d00df RJ5 := S
  obtain ⟨hx, hb, hml, hown, hts⟩ := id S
  have hl : lv_has ls 2 [(0, .ref q_d), (1, .int 0)] := hl
  refine lv_iload_n hx hb dJ5_setLength_d00df_0 rfl (lv_at hl 1 rfl) ?_
  refine lv_if_ge (tgt := 13) hx hb dJ5_setLength_d00df_1 (by decide) (fun _ => ?_) (fun b9 => absurd (by decide) b9)
  refine lv_aload_n hx hb dJ5_setLength_d00df_13 rfl (lv_at hl 0 rfl) ?_
  refine lv_iload_n hx hb dJ5_setLength_d00df_14 rfl (lv_at hl 1 rfl) ?_
  refine z_callUy (wsx := (fun x : Nat × Nat × (Nat → Int32) => [(q_d, .inr (0, [.ref x.1, .int 0, .int ml, .int (nI nn)])), (x.1, .inl (cy 0, x.2.1, .inl x.2.2))])) (As := [.int 0]) (rest := []) S hF hH (c_ens l G cy E q_d q_v mm nn 0 ml f hm (by omega) hfit) (va_cwU 1 hts gJ5_setLength_d00df_J5_ensureCapacityInternal_d00df_u100J4 rfl rfl rfl rfl (by decide +kernel) ⟨Nat.le_of_ble_eq_true rfl, Nat.le_of_ble_eq_true rfl⟩) 0 0 rfl rfl [0, 1] [] [0, 1] rfl rfl (by decide) (by decide) (by decide) (by decide) (fun _ => rfl) rfl rfl hl.1 (Nat.le_of_ble_eq_true rfl) dJ5_setLength_d00df_15 ⟨Nat.le_of_ble_eq_true rfl, Nat.le_of_ble_eq_true rfl⟩ (fun x H locs px hH => ?_)
  have hH : zH G (va_A [(q_d, .inr (0, [.ref q_v, .int 0, .int ml, .int (nI nn)])), (q_v, .inl (cy 0, mm, .inl f))] s.heap.size) s H locs [(q_d, .inr (0, [.ref x.1, .int 0, .int ml, .int (nI nn)])), (x.1, .inl (cy 0, x.2.1, .inl x.2.2))] := hH
  refine lv_aload_n hx hb dJ5_setLength_d00df_18 rfl (lv_at hl 0 rfl) ?_
  refine z_get S hF hH iJ5_setLength_d00df_J4 0 rfl rfl 3 (by decide) (List.mem_of_getElem? (i := 1) rfl) rfl dJ5_setLength_d00df_19 ?_
  refine lv_iload_n hx hb dJ5_setLength_d00df_22 rfl (lv_at hl 1 rfl) ?_
  refine lv_icmp_ge (tgt := 63) hx hb dJ5_setLength_d00df_23 (by decide) (fun _ => ?_) (fun b9 => absurd (show (0 : Int32) ≤ nI nn from nI_le (a := 0) (Nat.zero_le _) (by omega)) b9)
  refine lv_aload_n hx hb dJ5_setLength_d00df_63 rfl (lv_at hl 0 rfl) ?_
  refine z_get S hF hH iJ5_setLength_d00df_J4 0 rfl rfl 3 (by decide) (List.mem_of_getElem? (i := 1) rfl) rfl dJ5_setLength_d00df_64 ?_
  refine lv_iload_n hx hb dJ5_setLength_d00df_67 rfl (lv_at hl 1 rfl) ?_
  by_cases h9 : nn = 0
  · refine lv_icmp_le (tgt := 76) hx hb dJ5_setLength_d00df_68 (by decide) (fun _ => ?_) (fun b9 => absurd (show nI nn ≤ 0 by rw [h9]; decide) b9)
    refine lv_aload_n hx hb dJ5_setLength_d00df_76 rfl (lv_at hl 0 rfl) ?_
    refine lv_iload_n hx hb dJ5_setLength_d00df_77 rfl (lv_at hl 1 rfl) ?_
    refine z_put (ws' := [(q_d, .inr (0, [.ref x.1, .int 0, .int ml, .int 0])), (x.1, .inl (cy 0, x.2.1, .inl x.2.2))]) S hF hH iJ5_setLength_d00df_J4 tyJ4 tyJ4_ok nmJ4 0 rfl rfl 3 (by decide) (List.mem_of_getElem? (i := 1) rfl) rfl rfl rfl (Nat.le_of_ble_eq_true rfl) rfl dJ5_setLength_d00df_78 (fun H locs hH => ?_)
    exact z_vrety S hr hlocks x ⟨px.2.2.1, px.2.2.2.1⟩ (show zH G _ s H locs [(q_d, .inr (0, [.ref x.1, .int 0, .int (if nn = 0 then ml else 1), .int (nI 0)])), (x.1, .inl (cy 0, x.2.1, .inl x.2.2))] from by rw [if_pos h9]; exact hH) dJ5_setLength_d00df_81
  · refine lv_icmp_le (tgt := 76) hx hb dJ5_setLength_d00df_68 (by decide) (fun b9 => absurd b9 (show ¬ nI nn ≤ 0 from nI_ge (a := 0) (by omega) (by omega))) (fun _ => ?_)
    refine lv_aload_n hx hb dJ5_setLength_d00df_71 rfl (lv_at hl 0 rfl) ?_
    refine lv_iconst (v := 1) hx hb dJ5_setLength_d00df_72 (by decide) ?_
    refine z_put (ws' := [(q_d, .inr (0, [.ref x.1, .int 0, .int 1, .int (nI nn)])), (x.1, .inl (cy 0, x.2.1, .inl x.2.2))]) S hF hH iJ5_setLength_d00df_J4 tyJ4 tyJ4_ok nmJ4 0 rfl rfl 2 (by decide) (List.mem_of_getElem? (i := 3) rfl) rfl rfl rfl (Nat.le_of_ble_eq_true rfl) rfl dJ5_setLength_d00df_73 (fun H locs hH => ?_)
    refine lv_aload_n hx hb dJ5_setLength_d00df_76 rfl (lv_at hl 0 rfl) ?_
    refine lv_iload_n hx hb dJ5_setLength_d00df_77 rfl (lv_at hl 1 rfl) ?_
    refine z_put (ws' := [(q_d, .inr (0, [.ref x.1, .int 0, .int 1, .int 0])), (x.1, .inl (cy 0, x.2.1, .inl x.2.2))]) S hF hH iJ5_setLength_d00df_J4 tyJ4 tyJ4_ok nmJ4 0 rfl rfl 3 (by decide) (List.mem_of_getElem? (i := 1) rfl) rfl rfl rfl (Nat.le_of_ble_eq_true rfl) rfl dJ5_setLength_d00df_78 (fun H locs hH => ?_)
    exact z_vrety S hr hlocks x ⟨px.2.2.1, px.2.2.2.1⟩ (show zH G _ s H locs [(q_d, .inr (0, [.ref x.1, .int 0, .int (if nn = 0 then ml else 1), .int (nI 0)])), (x.1, .inl (cy 0, x.2.1, .inl x.2.2))] from by rw [if_neg h9]; exact hH) dJ5_setLength_d00df_81

abbrev rm_c_sL : Room := { frames := 5, cells := 1, slots := 34, locals := 150 }
set_option maxHeartbeats 4000000 in
set_option maxRecDepth 100000 in
theorem c_sL (l : Launch) (G : va_G) (cy : Nat → ClassId) (E : Nat → Nat) (q_d q_v mm nn : Nat) (ml : Int32) (f : Nat → Int32) (hm : mm = 16 ∨ mm = 34) (hn : nn ≤ mm) (hfit : sb_Fit f) : zMy l G cy E yJ4_setLength_d00df wsJ4_setLength_d00df rm_c_sL [.ref q_d, .int 0] [(q_d, .inr (0, [.ref q_v, .int 0, .int ml, .int (nI nn)])), (q_v, .inl (cy 0, mm, .inl f))] (fun _ : Nat × Nat × (Nat → Int32) => none) (fun x : Nat × Nat × (Nat → Int32) => [(q_d, .inr (0, [.ref x.1, .int 0, .int (if nn = 0 then ml else 1), .int (nI 0)])), (x.1, .inl (cy 0, x.2.1, .inl x.2.2))]) (fun x : Nat × Nat × (Nat → Int32) => (x.2.1 = 16 ∨ x.2.1 = 34) ∧ sb_Fit x.2.2) 1 34 := by
  refine z_bodyy (cc := cJ4_setLength_d00df) (maxL := 2) (ret := none) (by decide +kernel) rfl (Nat.le_of_ble_eq_true rfl) ?_
  intro p e s m below meth c ls S hr hlocks hnm hF hH hl
  have S : CallFix p m c cJ4_setLength_d00df 2 s ([.ref q_d, .int 0] : List Value).toArray wsJ4_setLength_d00df RJ4 := S
  obtain ⟨hx, hb, hml, hown, hts⟩ := id S
  have hl : lv_has ls 2 [(0, .ref q_d), (1, .int 0)] := hl
  refine lv_aload_n hx hb dJ4_setLength_d00df_0 rfl (lv_at hl 0 rfl) ?_
  refine lv_iload_n hx hb dJ4_setLength_d00df_1 rfl (lv_at hl 1 rfl) ?_
  refine z_callSUy (wsx := (fun x : Nat × Nat × (Nat → Int32) => [(q_d, .inr (0, [.ref x.1, .int 0, .int (if nn = 0 then ml else 1), .int (nI 0)])), (x.1, .inl (cy 0, x.2.1, .inl x.2.2))])) (As := [.int 0]) (rest := []) (hF.1.1 0 _ rfl).2 S hF hH (c_sL5 l G cy E q_d q_v mm nn ml f hm hn hfit) (va_cwSU 1 hts gJ4_setLength_d00df_J5_setLength_d00df_s333 rfl rfl rfl (by decide +kernel) ⟨Nat.le_of_ble_eq_true rfl, Nat.le_of_ble_eq_true rfl⟩) 0 0 rfl rfl [0, 1] [] [0, 1] rfl rfl (by decide) (by decide) (by decide) (by decide) (fun _ => rfl) rfl rfl hl.1 (Nat.le_of_ble_eq_true rfl) dJ4_setLength_d00df_2 ⟨Nat.le_of_ble_eq_true rfl, Nat.le_of_ble_eq_true rfl⟩ (fun x H locs px hH => ?_)
  have hH : zH G (va_A [(q_d, .inr (0, [.ref q_v, .int 0, .int ml, .int (nI nn)])), (q_v, .inl (cy 0, mm, .inl f))] s.heap.size) s H locs [(q_d, .inr (0, [.ref x.1, .int 0, .int (if nn = 0 then ml else 1), .int (nI 0)])), (x.1, .inl (cy 0, x.2.1, .inl x.2.2))] := hH
  exact z_vrety S hr hlocks x px hH dJ4_setLength_d00df_5

theorem iJ5_charAt_5068e_J4 : ∀ w ∈ wsJ40, w ∈ wsJ5_charAt_5068e := fun _ h => List.mem_cons_of_mem _ (List.mem_append_right _ h)
abbrev rm_c_cA5 : Room := { frames := 2, cells := 0, slots := 0, locals := 60 }
set_option maxHeartbeats 4000000 in
set_option maxRecDepth 100000 in
theorem c_cA5 (l : Launch) (G : va_G) (cy : Nat → ClassId) (E : Nat → Nat) (q_d q_v mm nn : Nat) (ml : Int32) (f : Nat → Int32) (t : Nat → Nat) (i : Nat) (hn : nn ≤ mm) (hm : mm ≤ 34) (hL : sb_Lat t nn f) (hi : i < nn) : zMy l G cy E yJ5_charAt_5068e wsJ5_charAt_5068e rm_c_cA5 [.ref q_d, .int (nI i)] [(q_d, .inr (0, [.ref q_v, .int 0, .int ml, .int (nI nn)])), (q_v, .inl (cy 0, mm, .inl f))] (fun _ : Unit => some (.int (nI (t i)))) (fun _ : Unit => [(q_d, .inr (0, [.ref q_v, .int 0, .int ml, .int (nI nn)])), (q_v, .inl (cy 0, mm, .inl f))]) (fun _ => True) 0 0 := by
  refine z_bodyy (cc := cJ5_charAt_5068e) (maxL := 5) (ret := some .char) (by decide +kernel) rfl (Nat.le_of_ble_eq_true rfl) ?_
  intro p e s m below meth c ls S hr hlocks hnm hF hH hl
  have S : CallFix p m c cJ5_charAt_5068e 5 s ([.ref q_d, .int (nI i)] : List Value).toArray wsJ5_charAt_5068e RJ5 := S
  obtain ⟨hx, hb, hml, hown, hts⟩ := id S
  have hl : lv_has ls 5 [(0, .ref q_d), (1, .int (nI i))] := hl
  refine lv_aload_n hx hb dJ5_charAt_5068e_0 rfl (lv_at hl 0 rfl) ?_
  refine z_get S hF hH iJ5_charAt_5068e_J4 0 rfl rfl 1 (by decide) (List.mem_of_getElem? (i := 1) rfl) rfl dJ5_charAt_5068e_1 ?_
  refine lv_istore_n (lv' := [(2, .int 0), (0, .ref q_d), (1, .int (nI i))]) hx hb dJ5_charAt_5068e_4 rfl hl (by decide) rfl (fun ls hl => ?_)
  refine lv_aload_n hx hb dJ5_charAt_5068e_5 rfl (lv_at hl 1 rfl) ?_
  refine z_get S hF hH iJ5_charAt_5068e_J4 0 rfl rfl 0 (by decide) (List.mem_of_getElem? (i := 2) rfl) rfl dJ5_charAt_5068e_6 ?_
  refine lv_astore_n (lv' := [(3, .ref q_v), (2, .int 0), (0, .ref q_d), (1, .int (nI i))]) hx hb dJ5_charAt_5068e_9 rfl hl (by decide) rfl (fun ls hl => ?_)
  refine lv_aload_n hx hb dJ5_charAt_5068e_10 rfl (lv_at hl 2 rfl) ?_
  refine z_get S hF hH iJ5_charAt_5068e_J4 0 rfl rfl 3 (by decide) (List.mem_of_getElem? (i := 3) rfl) rfl dJ5_charAt_5068e_11 ?_
  refine lv_aload_n hx hb dJ5_charAt_5068e_14 rfl (lv_at hl 0 rfl) ?_
  refine z_alen (v := (nI mm)) S hF hH 1 0 rfl rfl rfl dJ5_charAt_5068e_15 ?_
  refine lv_iload_n hx hb dJ5_charAt_5068e_16 rfl (lv_at hl 1 rfl) ?_
  refine lv_ishr hx hb dJ5_charAt_5068e_17 ?_
  refine z_top (show ((nI mm) : Int32) = ((nI mm) >>> ((0 : Int32) &&& 31)) from (sb_shr0 (nI mm)).symm) ?_
  refine z_mmin S hl.1 (List.mem_of_getElem? (i := 4) rfl) (List.mem_of_getElem? (i := 5) rfl) (List.mem_of_getElem? (i := 6) rfl) (List.mem_of_getElem? (i := 7) rfl) (Nat.le_of_ble_eq_true rfl) (Nat.le_of_ble_eq_true rfl) (Nat.le_of_ble_eq_true rfl) (Nat.le_of_ble_eq_true rfl) dJ5_charAt_5068e_18 ?_
  refine z_top (show ((nI nn) : Int32) = (zmin (nI nn) (nI mm)) from (zy_min hn (by omega)).symm) ?_
  refine lv_istore (lv' := [(4, .int (nI nn)), (3, .ref q_v), (2, .int 0), (0, .ref q_d), (1, .int (nI i))]) hx hb dJ5_charAt_5068e_21 hl (by decide) rfl (fun ls hl => ?_)
  refine lv_iload_n hx hb dJ5_charAt_5068e_23 rfl (lv_at hl 4 rfl) ?_
  refine lv_iload hx hb dJ5_charAt_5068e_24 (lv_at hl 0 rfl) ?_
  refine z_callS (As := [.int (nI i), .int (nI nn)]) (rest := []) (st1 := []) (ws' := [(q_d, .inr (0, [.ref q_v, .int 0, .int ml, .int (nI nn)])), (q_v, .inl (cy 0, mm, .inl f))]) S hF hH (c_J0_checkIndex_df160 l G cy E (nI i) (nI nn) (nI_nlt (b := 0) (Nat.zero_le _) (by omega)) (nI_lt hi (by omega))) (va_cwS 2 hts gJ5_charAt_5068e_J0_checkIndex_df160 rfl rfl rfl (by decide +kernel) ⟨Nat.le_of_ble_eq_true rfl, Nat.le_of_ble_eq_true rfl⟩) [] rfl (by decide) rfl rfl rfl rfl rfl hl.1 (Nat.le_of_ble_eq_true rfl) dJ5_charAt_5068e_26 ⟨Nat.le_of_ble_eq_true rfl, Nat.le_of_ble_eq_true rfl⟩ (fun H locs hH => ?_)
  refine lv_iload_n hx hb dJ5_charAt_5068e_29 rfl (lv_at hl 2 rfl) ?_
  refine lv_if_ne (tgt := 42) hx hb dJ5_charAt_5068e_30 (by decide) (fun b9 => absurd rfl b9) (fun _ => ?_)
  refine lv_aload_n hx hb dJ5_charAt_5068e_33 rfl (lv_at hl 1 rfl) ?_
  refine lv_iload_n hx hb dJ5_charAt_5068e_34 rfl (lv_at hl 4 rfl) ?_
  refine z_bald (j := i) S hF hH 1 rfl (zy_in (by omega) (by omega)) (nI_clamp (by omega)) dJ5_charAt_5068e_35 ?_
  refine lv_sipush (v := 255) hx hb dJ5_charAt_5068e_36 (by decide) ?_
  refine lv_iand hx hb dJ5_charAt_5068e_39 ?_
  refine z_top (show ((nI (t i)) : Int32) = ((f i) &&& (255 : Int32)) from (show nI (t i) = f i &&& 255 by rw [(hL i hi).2, (sb_byte _ (hL i hi).1).1])) ?_
  refine lv_i2c (v := nI (t i)) hx hb dJ5_charAt_5068e_40 (zy_chr _ (hL i hi).1).1 ?_
  exact z_nrety S hr hlocks () trivial hH rfl (zy_chr _ (hL i hi).1).2 dJ5_charAt_5068e_41

abbrev rm_c_cA : Room := { frames := 3, cells := 0, slots := 0, locals := 90 }
set_option maxHeartbeats 4000000 in
set_option maxRecDepth 100000 in
theorem c_cA (l : Launch) (G : va_G) (cy : Nat → ClassId) (E : Nat → Nat) (q_d q_v mm nn : Nat) (ml : Int32) (f : Nat → Int32) (t : Nat → Nat) (i : Nat) (hn : nn ≤ mm) (hm : mm ≤ 34) (hL : sb_Lat t nn f) (hi : i < nn) : zMy l G cy E yJ4_charAt_5068e wsJ4_charAt_5068e rm_c_cA [.ref q_d, .int (nI i)] [(q_d, .inr (0, [.ref q_v, .int 0, .int ml, .int (nI nn)])), (q_v, .inl (cy 0, mm, .inl f))] (fun _ : Unit => some (.int (nI (t i)))) (fun _ : Unit => [(q_d, .inr (0, [.ref q_v, .int 0, .int ml, .int (nI nn)])), (q_v, .inl (cy 0, mm, .inl f))]) (fun _ => True) 0 0 := by
  refine z_bodyy (cc := cJ4_charAt_5068e) (maxL := 2) (ret := some .char) (by decide +kernel) rfl (Nat.le_of_ble_eq_true rfl) ?_
  intro p e s m below meth c ls S hr hlocks hnm hF hH hl
  have S : CallFix p m c cJ4_charAt_5068e 2 s ([.ref q_d, .int (nI i)] : List Value).toArray wsJ4_charAt_5068e RJ4 := S
  obtain ⟨hx, hb, hml, hown, hts⟩ := id S
  have hl : lv_has ls 2 [(0, .ref q_d), (1, .int (nI i))] := hl
  refine lv_aload_n hx hb dJ4_charAt_5068e_0 rfl (lv_at hl 0 rfl) ?_
  refine lv_iload_n hx hb dJ4_charAt_5068e_1 rfl (lv_at hl 1 rfl) ?_
  refine z_callSUy (wsx := (fun _ : Unit => [(q_d, .inr (0, [.ref q_v, .int 0, .int ml, .int (nI nn)])), (q_v, .inl (cy 0, mm, .inl f))])) (As := [.int (nI i)]) (rest := []) (hF.1.1 0 _ rfl).2 S hF hH (c_cA5 l G cy E q_d q_v mm nn ml f t i hn hm hL hi) (va_cwSU 1 hts gJ4_charAt_5068e_J5_charAt_5068e_s329 rfl rfl rfl (by decide +kernel) ⟨Nat.le_of_ble_eq_true rfl, Nat.le_of_ble_eq_true rfl⟩) 0 0 rfl rfl [0, 1] [] [0, 1] rfl rfl (by decide) (by decide) (by decide) (by decide) (fun _ => rfl) rfl rfl hl.1 (Nat.le_of_ble_eq_true rfl) dJ4_charAt_5068e_2 ⟨Nat.le_of_ble_eq_true rfl, Nat.le_of_ble_eq_true rfl⟩ (fun _ H locs _ hH => ?_)
  have hH : zH G (va_A [(q_d, .inr (0, [.ref q_v, .int 0, .int ml, .int (nI nn)])), (q_v, .inl (cy 0, mm, .inl f))] s.heap.size) s H locs [(q_d, .inr (0, [.ref q_v, .int 0, .int ml, .int (nI nn)])), (q_v, .inl (cy 0, mm, .inl f))] := hH
  exact z_nrety S hr hlocks () trivial hH rfl (zy_chr _ (hL i hi).1).2 dJ4_charAt_5068e_5

theorem iJ5_init_d00df_J4 : ∀ w ∈ wsJ40, w ∈ wsJ5_init_d00df := fun _ h => List.mem_cons_of_mem _ (List.mem_append_right _ h)
abbrev rm_c_J5_init : Room := { frames := 1, cells := 1, slots := 16, locals := 60 }
set_option maxHeartbeats 4000000 in
set_option maxRecDepth 100000 in
theorem c_J5_init (l : Launch) (G : va_G) (cy : Nat → ClassId) (E : Nat → Nat) (q_d : Nat) : zMx l G cy E yJ5_init_d00df wsJ5_init_d00df rm_c_J5_init [.ref q_d, .int 16] [(q_d, .inr (0, [.null, .int 0, .int 0, .int 0]))] (fun q => [(q_d, .inr (0, [.ref (q 0), .int 0, .int 0, .int 0])), ((q 0), .inl (cy 0, 16, .inl (fun _ => 0)))]) none 1 16 := by
  refine z_bodyx (cc := cJ5_init_d00df) (maxL := 2) (ret := none) (by decide +kernel) rfl (Nat.le_of_ble_eq_true rfl) ?_
  intro p e s m below meth c ls S hr hlocks hnm hF hH hl
  have S : CallFix p m c cJ5_init_d00df 2 s ([.ref q_d, .int 16] : List Value).toArray wsJ5_init_d00df RJ5 := S
  obtain ⟨hx, hb, hml, hown, hts⟩ := id S
  have hl : lv_has ls 2 [(0, .ref q_d), (1, .int 16)] := hl
  refine lv_aload_n hx hb dJ5_init_d00df_0 rfl (lv_at hl 0 rfl) ?_
  refine z_obj S hl.1 (List.mem_of_getElem? (i := 1) rfl) (List.mem_of_getElem? (i := 2) rfl) (List.mem_of_getElem? (i := 3) rfl) dJ5_init_d00df_1 (Nat.le_of_ble_eq_true rfl) (Nat.le_of_ble_eq_true rfl) ?_
  refine va_gets (v := .int 1) hx hb hF.2.1.2.2.1 hH.2.2 hown (hts _ (List.mem_of_getElem? (i := 4) rfl)) (fun _ h9 => h9) dJ5_init_d00df_4 ?_
  refine lv_if_eq (tgt := 25) hx hb dJ5_init_d00df_7 (by decide) (fun b9 => absurd b9 (by decide)) (fun _ => ?_)
  refine lv_aload_n hx hb dJ5_init_d00df_10 rfl (lv_at hl 0 rfl) ?_
  refine lv_iload_n hx hb dJ5_init_d00df_11 rfl (lv_at hl 1 rfl) ?_
  refine z_newa (atype := .byte) (N' := 16) (a0 := (16, .inl (fun _ => 0))) S hF hH 0 (List.mem_of_getElem? (i := 5) rfl) rfl (fun _ => rfl) (by decide) rfl (Nat.le_of_ble_eq_true rfl) (Nat.le_of_ble_eq_true rfl) (Nat.le_of_ble_eq_true rfl) dJ5_init_d00df_12 (fun q0 H hH => ?_)
  have hH : zH G (va_A [(q_d, .inr (0, [.null, .int 0, .int 0, .int 0]))] s.heap.size) s H _ [(q_d, .inr (0, [.null, .int 0, .int 0, .int 0])), (q0, .inl (cy 0, 16, .inl (fun _ => 0)))] := hH
  refine W.widen (k := 1) (n := 16) (Nat.le_of_ble_eq_true rfl) (Nat.le_of_ble_eq_true rfl) ?_
  refine z_put (ws' := [(q_d, .inr (0, [.ref q0, .int 0, .int 0, .int 0])), (q0, .inl (cy 0, 16, .inl (fun _ => 0)))]) S hF hH iJ5_init_d00df_J4 tyJ4 tyJ4_ok nmJ4 0 rfl rfl 0 (by decide) (List.mem_of_getElem? (i := 6) rfl) rfl rfl rfl (Nat.le_of_ble_eq_true rfl) rfl dJ5_init_d00df_14 (fun H locs hH => ?_)
  refine lv_aload_n hx hb dJ5_init_d00df_17 rfl (lv_at hl 0 rfl) ?_
  refine lv_iconst (v := 0) hx hb dJ5_init_d00df_18 (by decide) ?_
  refine z_put (ws' := [(q_d, .inr (0, [.ref q0, .int 0, .int 0, .int 0])), (q0, .inl (cy 0, 16, .inl (fun _ => 0)))]) S hF hH iJ5_init_d00df_J4 tyJ4 tyJ4_ok nmJ4 0 rfl rfl 1 (by decide) (List.mem_of_getElem? (i := 7) rfl) rfl rfl rfl (Nat.le_of_ble_eq_true rfl) rfl dJ5_init_d00df_19 (fun H locs hH => ?_)
  refine lv_goto (tgt := 38) hx hb dJ5_init_d00df_22 (by decide) ?_
  exact z_vretx S hr hlocks (fun _ => q0) hH dJ5_init_d00df_38

abbrev rm_c_J4_init : Room := { frames := 2, cells := 1, slots := 16, locals := 90 }
set_option maxHeartbeats 4000000 in
set_option maxRecDepth 100000 in
theorem c_J4_init (l : Launch) (G : va_G) (cy : Nat → ClassId) (E : Nat → Nat) (q_d : Nat) : zMx l G cy E yJ4_init_da8c8 wsJ4_init_da8c8 rm_c_J4_init [.ref q_d] [(q_d, .inr (0, [.null, .int 0, .int 0, .int 0]))] (fun q => [(q_d, .inr (0, [.ref (q 0), .int 0, .int 0, .int 0])), ((q 0), .inl (cy 0, 16, .inl (fun _ => 0)))]) none 1 16 := by
  refine z_bodyx (cc := cJ4_init_da8c8) (maxL := 1) (ret := none) (by decide +kernel) rfl (Nat.le_of_ble_eq_true rfl) ?_
  intro p e s m below meth c ls S hr hlocks hnm hF hH hl
  have S : CallFix p m c cJ4_init_da8c8 1 s ([.ref q_d] : List Value).toArray wsJ4_init_da8c8 RJ4 := S
  obtain ⟨hx, hb, hml, hown, hts⟩ := id S
  have hl : lv_has ls 1 [(0, .ref q_d)] := hl
  refine lv_aload_n hx hb dJ4_init_da8c8_0 rfl (lv_at hl 0 rfl) ?_
  refine lv_bipush (v := 16) hx hb dJ4_init_da8c8_1 (by decide) ?_
  refine z_callIx (wsx := (fun q => [(q_d, .inr (0, [.ref (q 0), .int 0, .int 0, .int 0])), ((q 0), .inl (cy 0, 16, .inl (fun _ => 0)))])) (As := [.int 16]) (rest := []) (st1 := []) S hF hH (c_J5_init l G cy E q_d) (cwI 1 hts gJ4_init_da8c8_J5_init_d00df rfl rfl rfl (hts _ (List.mem_of_getElem? (i := 3) rfl)) (hts _ (List.mem_of_getElem? (i := 1) rfl)) (hts _ (List.mem_of_getElem? (i := 2) rfl)) rfl (by decide +kernel) ⟨Nat.le_of_ble_eq_true rfl, Nat.le_of_ble_eq_true rfl⟩) [0] [] [0, 1] rfl rfl (by decide) (by decide) (by decide) (by decide) (fun _ => rfl) rfl rfl rfl hl.1 (Nat.le_of_ble_eq_true rfl) dJ4_init_da8c8_3 ⟨Nat.le_of_ble_eq_true rfl, Nat.le_of_ble_eq_true rfl⟩ (fun q H locs hH => ?_)
  exact z_vretx S hr hlocks q hH dJ4_init_da8c8_6

