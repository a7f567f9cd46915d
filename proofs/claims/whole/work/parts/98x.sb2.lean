/-! ===== StringBuilder: numbers, texts, its length, its letters ===== -/
theorem zy_ss : (∀ v, v < 10 → ¬ (-nI v ≤ (-10 : Int32))) ∧ (∀ v, v < 12 → 10 ≤ v → (-nI v ≤ (-10 : Int32))) ∧ (∀ v, v < 12 → ¬ (-nI v ≤ (-100 : Int32))) ∧ (∀ v, v < 12 → (-100 : Int32) < -nI v) ∧ (∀ v, v < 10 → (-9 : Int32) ≤ -nI v) ∧ (∀ v, v < 12 → 10 ≤ v → ¬ ((-9 : Int32) ≤ -nI v)) := by decide +kernel
theorem zy_m1 {p : Nat} (h : 1 ≤ p) : nI p + -1 = nI (p - 1) := by rw [show (-1 : Int32) = -(1 : Int32) from rfl, ← Int32.sub_eq_add_neg]; exact pk_sub (a := p) (b := 1) h
abbrev rm_c_ss1 : Room := { frames := 0, cells := 0, slots := 0, locals := 0 }
set_option maxHeartbeats 4000000 in
set_option maxRecDepth 100000 in
theorem c_ss1 (l : Launch) (G : va_G) (cy : Nat → ClassId) (E : Nat → Nat) (v : Nat) (hv : v < 10) : zMy l G cy E yJ6_stringSize_0f7a4 wsJ6_stringSize_0f7a4 rm_c_ss1 [.int (nI v)] [] (fun _ : Unit => some (.int (nI 1))) (fun _ : Unit => []) (fun _ => True) 0 0 := by
  refine z_bodyy (cc := cJ6_stringSize_0f7a4) (maxL := 4) (ret := some .int) (by decide +kernel) rfl (Nat.le_of_ble_eq_true rfl) ?_
  intro p e s m below meth c ls S hr hlocks hnm hF hH hl
  have S : CallFix p m c cJ6_stringSize_0f7a4 4 s ([.int (nI v)] : List Value).toArray wsJ6_stringSize_0f7a4 RJ6 := S
  obtain ⟨hx, hb, hml, hown, hts⟩ := id S
  have hl : lv_has ls 4 [(0, .int (nI v))] := hl
  refine lv_iconst (v := 1) hx hb dJ6_stringSize_0f7a4_0 (by decide) ?_
  refine lv_istore_n (lv' := [(1, .int 1), (0, .int (nI v))]) hx hb dJ6_stringSize_0f7a4_1 rfl hl (by decide) rfl (fun ls hl => ?_)
  refine lv_iload_n hx hb dJ6_stringSize_0f7a4_2 rfl (lv_at hl 1 rfl) ?_
  refine lv_if_lt (tgt := 11) hx hb dJ6_stringSize_0f7a4_3 (by decide) (fun b9 => absurd b9 (show ¬ nI v < 0 from nI_nlt (b := 0) (Nat.zero_le _) (by omega))) (fun _ => ?_)
  refine lv_iconst (v := 0) hx hb dJ6_stringSize_0f7a4_6 (by decide) ?_
  refine lv_istore_n (lv' := [(1, .int 0), (0, .int (nI v))]) hx hb dJ6_stringSize_0f7a4_7 rfl hl (by decide) rfl (fun ls hl => ?_)
  refine lv_iload_n hx hb dJ6_stringSize_0f7a4_8 rfl (lv_at hl 1 rfl) ?_
  refine lv_ineg hx hb dJ6_stringSize_0f7a4_9 ?_
  refine lv_istore_n (lv' := [(0, .int (-(nI v))), (1, .int 0)]) hx hb dJ6_stringSize_0f7a4_10 rfl hl (by decide) rfl (fun ls hl => ?_)
  refine lv_bipush (v := (-10)) hx hb dJ6_stringSize_0f7a4_11 (by decide) ?_
  refine lv_istore_n (lv' := [(2, .int (-10)), (0, .int (-(nI v))), (1, .int 0)]) hx hb dJ6_stringSize_0f7a4_13 rfl hl (by decide) rfl (fun ls hl => ?_)
  refine lv_iconst (v := 1) hx hb dJ6_stringSize_0f7a4_14 (by decide) ?_
  refine lv_istore_n (lv' := [(3, .int 1), (2, .int (-10)), (0, .int (-(nI v))), (1, .int 0)]) hx hb dJ6_stringSize_0f7a4_15 rfl hl (by decide) rfl (fun ls hl => ?_)
  refine lv_iload_n hx hb dJ6_stringSize_0f7a4_16 rfl (lv_at hl 0 rfl) ?_
  refine lv_bipush (v := 10) hx hb dJ6_stringSize_0f7a4_17 (by decide) ?_
  refine lv_icmp_ge (tgt := 42) hx hb dJ6_stringSize_0f7a4_19 (by decide) (fun b9 => absurd b9 (by decide)) (fun _ => ?_)
  refine lv_iload_n hx hb dJ6_stringSize_0f7a4_22 rfl (lv_at hl 2 rfl) ?_
  refine lv_iload_n hx hb dJ6_stringSize_0f7a4_23 rfl (lv_at hl 1 rfl) ?_
  refine lv_icmp_le (tgt := 31) hx hb dJ6_stringSize_0f7a4_24 (by decide) (fun b9 => absurd b9 (zy_ss.1 v hv)) (fun _ => ?_)
  refine lv_iload_n hx hb dJ6_stringSize_0f7a4_27 rfl (lv_at hl 0 rfl) ?_
  refine lv_iload_n hx hb dJ6_stringSize_0f7a4_28 rfl (lv_at hl 3 rfl) ?_
  refine lv_iadd hx hb dJ6_stringSize_0f7a4_29 ?_
  refine z_top (show ((nI 1) : Int32) = ((1 : Int32) + (0 : Int32)) from rfl) ?_
  exact z_irety S hr hlocks () trivial hH rfl dJ6_stringSize_0f7a4_30

abbrev rm_c_ss2 : Room := { frames := 0, cells := 0, slots := 0, locals := 0 }
set_option maxHeartbeats 4000000 in
set_option maxRecDepth 100000 in
theorem c_ss2 (l : Launch) (G : va_G) (cy : Nat → ClassId) (E : Nat → Nat) (v : Nat) (hv : v < 12) (h10 : 10 ≤ v) : zMy l G cy E yJ6_stringSize_0f7a4 wsJ6_stringSize_0f7a4 rm_c_ss2 [.int (nI v)] [] (fun _ : Unit => some (.int (nI 2))) (fun _ : Unit => []) (fun _ => True) 0 0 := by
  refine z_bodyy (cc := cJ6_stringSize_0f7a4) (maxL := 4) (ret := some .int) (by decide +kernel) rfl (Nat.le_of_ble_eq_true rfl) ?_
  intro p e s m below meth c ls S hr hlocks hnm hF hH hl
  have S : CallFix p m c cJ6_stringSize_0f7a4 4 s ([.int (nI v)] : List Value).toArray wsJ6_stringSize_0f7a4 RJ6 := S
  obtain ⟨hx, hb, hml, hown, hts⟩ := id S
  have hl : lv_has ls 4 [(0, .int (nI v))] := hl
  refine lv_iconst (v := 1) hx hb dJ6_stringSize_0f7a4_0 (by decide) ?_
  refine lv_istore_n (lv' := [(1, .int 1), (0, .int (nI v))]) hx hb dJ6_stringSize_0f7a4_1 rfl hl (by decide) rfl (fun ls hl => ?_)
  refine lv_iload_n hx hb dJ6_stringSize_0f7a4_2 rfl (lv_at hl 1 rfl) ?_
  refine lv_if_lt (tgt := 11) hx hb dJ6_stringSize_0f7a4_3 (by decide) (fun b9 => absurd b9 (show ¬ nI v < 0 from nI_nlt (b := 0) (Nat.zero_le _) (by omega))) (fun _ => ?_)
  refine lv_iconst (v := 0) hx hb dJ6_stringSize_0f7a4_6 (by decide) ?_
  refine lv_istore_n (lv' := [(1, .int 0), (0, .int (nI v))]) hx hb dJ6_stringSize_0f7a4_7 rfl hl (by decide) rfl (fun ls hl => ?_)
  refine lv_iload_n hx hb dJ6_stringSize_0f7a4_8 rfl (lv_at hl 1 rfl) ?_
  refine lv_ineg hx hb dJ6_stringSize_0f7a4_9 ?_
  refine lv_istore_n (lv' := [(0, .int (-(nI v))), (1, .int 0)]) hx hb dJ6_stringSize_0f7a4_10 rfl hl (by decide) rfl (fun ls hl => ?_)
  refine lv_bipush (v := (-10)) hx hb dJ6_stringSize_0f7a4_11 (by decide) ?_
  refine lv_istore_n (lv' := [(2, .int (-10)), (0, .int (-(nI v))), (1, .int 0)]) hx hb dJ6_stringSize_0f7a4_13 rfl hl (by decide) rfl (fun ls hl => ?_)
  refine lv_iconst (v := 1) hx hb dJ6_stringSize_0f7a4_14 (by decide) ?_
  refine lv_istore_n (lv' := [(3, .int 1), (2, .int (-10)), (0, .int (-(nI v))), (1, .int 0)]) hx hb dJ6_stringSize_0f7a4_15 rfl hl (by decide) rfl (fun ls hl => ?_)
  refine lv_iload_n hx hb dJ6_stringSize_0f7a4_16 rfl (lv_at hl 0 rfl) ?_
  refine lv_bipush (v := 10) hx hb dJ6_stringSize_0f7a4_17 (by decide) ?_
  refine lv_icmp_ge (tgt := 42) hx hb dJ6_stringSize_0f7a4_19 (by decide) (fun b9 => absurd b9 (by decide)) (fun _ => ?_)
  refine lv_iload_n hx hb dJ6_stringSize_0f7a4_22 rfl (lv_at hl 2 rfl) ?_
  refine lv_iload_n hx hb dJ6_stringSize_0f7a4_23 rfl (lv_at hl 1 rfl) ?_
  refine lv_icmp_le (tgt := 31) hx hb dJ6_stringSize_0f7a4_24 (by decide) (fun _ => ?_) (fun b9 => absurd (zy_ss.2.1 v hv h10) b9)
  refine lv_bipush (v := 10) hx hb dJ6_stringSize_0f7a4_31 (by decide) ?_
  refine lv_iload_n hx hb dJ6_stringSize_0f7a4_33 rfl (lv_at hl 1 rfl) ?_
  refine lv_imul hx hb dJ6_stringSize_0f7a4_34 ?_
  refine z_top (show ((-100) : Int32) = ((10 : Int32) * ((-10) : Int32)) from by decide) ?_
  refine lv_istore_n (lv' := [(2, .int (-100)), (3, .int 1), (0, .int (-(nI v))), (1, .int 0)]) hx hb dJ6_stringSize_0f7a4_35 rfl hl (by decide) rfl (fun ls hl => ?_)
  refine lv_iinc (v := 2) (lv' := [(3, .int 2), (2, .int (-100)), (0, .int (-(nI v))), (1, .int 0)]) hx hb dJ6_stringSize_0f7a4_36 hl (k := 1) rfl (by decide) (by decide) rfl (fun ls hl => ?_)
  refine lv_goto (tgt := 16) hx hb dJ6_stringSize_0f7a4_39 (by decide) ?_
  refine lv_iload_n hx hb dJ6_stringSize_0f7a4_16 rfl (lv_at hl 0 rfl) ?_
  refine lv_bipush (v := 10) hx hb dJ6_stringSize_0f7a4_17 (by decide) ?_
  refine lv_icmp_ge (tgt := 42) hx hb dJ6_stringSize_0f7a4_19 (by decide) (fun b9 => absurd b9 (by decide)) (fun _ => ?_)
  refine lv_iload_n hx hb dJ6_stringSize_0f7a4_22 rfl (lv_at hl 2 rfl) ?_
  refine lv_iload_n hx hb dJ6_stringSize_0f7a4_23 rfl (lv_at hl 1 rfl) ?_
  refine lv_icmp_le (tgt := 31) hx hb dJ6_stringSize_0f7a4_24 (by decide) (fun b9 => absurd b9 (zy_ss.2.2.1 v hv)) (fun _ => ?_)
  refine lv_iload_n hx hb dJ6_stringSize_0f7a4_27 rfl (lv_at hl 0 rfl) ?_
  refine lv_iload_n hx hb dJ6_stringSize_0f7a4_28 rfl (lv_at hl 3 rfl) ?_
  refine lv_iadd hx hb dJ6_stringSize_0f7a4_29 ?_
  refine z_top (show ((nI 2) : Int32) = ((2 : Int32) + (0 : Int32)) from rfl) ?_
  exact z_irety S hr hlocks () trivial hH rfl dJ6_stringSize_0f7a4_30

abbrev rm_c_gc1 : Room := { frames := 0, cells := 0, slots := 0, locals := 0 }
set_option maxHeartbeats 4000000 in
set_option maxRecDepth 100000 in
theorem c_gc1 (l : Launch) (G : va_G) (cy : Nat → ClassId) (E : Nat → Nat) (q_v mm nn v : Nat) (f : Nat → Int32) (hv : v < 10) (hn : nn + 1 ≤ mm) (hm : mm ≤ 34) : zMy l G cy E yJ6_getChars_ba4f3 wsJ6_getChars_ba4f3 rm_c_gc1 [.int (nI v), .int (nI (nn + 1)), .ref q_v] [(q_v, .inl (cy 0, mm, .inl f))] (fun _ : Unit => some (.int (nI nn))) (fun _ : Unit => [(q_v, .inl (cy 0, mm, .inl (upd f (nn + 0) (sb_b (48 + v % 10)))))]) (fun _ => True) 0 0 := by
  refine z_bodyy (cc := cJ6_getChars_ba4f3) (maxL := 7) (ret := some .int) (by decide +kernel) rfl (Nat.le_of_ble_eq_true rfl) ?_
  intro p e s m below meth c ls S hr hlocks hnm hF hH hl
  have S : CallFix p m c cJ6_getChars_ba4f3 7 s ([.int (nI v), .int (nI (nn + 1)), .ref q_v] : List Value).toArray wsJ6_getChars_ba4f3 RJ6 := S
  obtain ⟨hx, hb, hml, hown, hts⟩ := id S
  have hl : lv_has ls 7 [(0, .int (nI v)), (1, .int (nI (nn + 1))), (2, .ref q_v)] := hl
  refine lv_iload_n hx hb dJ6_getChars_ba4f3_0 rfl (lv_at hl 1 rfl) ?_
  refine lv_istore (lv' := [(5, .int (nI (nn + 1))), (0, .int (nI v)), (1, .int (nI (nn + 1))), (2, .ref q_v)]) hx hb dJ6_getChars_ba4f3_1 hl (by decide) rfl (fun ls hl => ?_)
  refine lv_iload_n hx hb dJ6_getChars_ba4f3_3 rfl (lv_at hl 1 rfl) ?_
  refine lv_if_ge (tgt := 11) hx hb dJ6_getChars_ba4f3_4 (by decide) (fun _ => ?_) (fun b9 => absurd (show (0 : Int32) ≤ nI v from nI_le (a := 0) (Nat.zero_le _) (by omega)) b9)
  refine lv_iconst (v := 0) hx hb dJ6_getChars_ba4f3_11 (by decide) ?_
  refine lv_istore (lv' := [(6, .int 0), (5, .int (nI (nn + 1))), (0, .int (nI v)), (1, .int (nI (nn + 1))), (2, .ref q_v)]) hx hb dJ6_getChars_ba4f3_12 hl (by decide) rfl (fun ls hl => ?_)
  refine lv_iload hx hb dJ6_getChars_ba4f3_14 (lv_at hl 0 rfl) ?_
  refine lv_if_ne (tgt := 22) hx hb dJ6_getChars_ba4f3_16 (by decide) (fun b9 => absurd rfl b9) (fun _ => ?_)
  refine lv_iload_n hx hb dJ6_getChars_ba4f3_19 rfl (lv_at hl 2 rfl) ?_
  refine lv_ineg hx hb dJ6_getChars_ba4f3_20 ?_
  refine lv_istore_n (lv' := [(0, .int (-(nI v))), (6, .int 0), (5, .int (nI (nn + 1))), (1, .int (nI (nn + 1))), (2, .ref q_v)]) hx hb dJ6_getChars_ba4f3_21 rfl hl (by decide) rfl (fun ls hl => ?_)
  refine lv_iload_n hx hb dJ6_getChars_ba4f3_22 rfl (lv_at hl 0 rfl) ?_
  refine lv_bipush (v := (-100)) hx hb dJ6_getChars_ba4f3_23 (by decide) ?_
  refine lv_icmp_gt (tgt := 72) hx hb dJ6_getChars_ba4f3_25 (by decide) (fun _ => ?_) (fun b9 => absurd (zy_ss.2.2.2.1 v (by omega)) b9)
  refine lv_aload_n hx hb dJ6_getChars_ba4f3_72 rfl (lv_at hl 4 rfl) ?_
  refine lv_iinc (v := (nI (nn + 0))) (lv' := [(5, .int (nI (nn + 0))), (0, .int (-(nI v))), (6, .int 0), (1, .int (nI (nn + 1))), (2, .ref q_v)]) hx hb dJ6_getChars_ba4f3_73 hl (k := 2) rfl (by rw [show (nI (nn + 0)) = (nI (nn + 1)) + (-1) from (zy_m1 (p := nn + 1) (by omega)).symm]; exact congrArg (fun z => (nI (nn + 1)) + z) (by decide)) (by decide) rfl (fun ls hl => ?_)
  refine lv_iload hx hb dJ6_getChars_ba4f3_76 (lv_at hl 0 rfl) ?_
  refine va_gets (v := .ref (E 20)) hx hb hF.2.1.2.2.2.2.2.2.2.2.1.1 hH.2.2 hown (hts _ (List.mem_of_getElem? (i := 1) rfl)) (fun _ h9 => h9) dJ6_getChars_ba4f3_78 ?_
  refine lv_iload_n hx hb dJ6_getChars_ba4f3_81 rfl (lv_at hl 1 rfl) ?_
  refine lv_ineg hx hb dJ6_getChars_ba4f3_82 ?_
  refine z_top (show ((nI v) : Int32) = (-(-(nI v))) from (Int32.neg_neg).symm) ?_
  refine va_tb (v := .int (nI (48 + v % 10))) hx hb hF.2.1.2.2.2.2.2.2.2.2.1.2 hH.2.2 (zin_e (zy_in (j := v) (n := 100) (by omega) (by decide))) (by rw [nI_clamp (by omega)]; rfl) dJ6_getChars_ba4f3_83 ?_
  refine z_bast (ws' := [(q_v, .inl (cy 0, mm, .inl (upd f (nn + 0) (sb_b (48 + v % 10)))))]) (j := nn + 0) S hF hH 0 rfl (zy_in (by omega) (by omega)) (nI_clamp (by omega)) rfl dJ6_getChars_ba4f3_84 (fun H locs hH => ?_)
  refine lv_iload_n hx hb dJ6_getChars_ba4f3_85 rfl (lv_at hl 1 rfl) ?_
  refine lv_bipush (v := (-9)) hx hb dJ6_getChars_ba4f3_86 (by decide) ?_
  refine lv_icmp_ge (tgt := 104) hx hb dJ6_getChars_ba4f3_88 (by decide) (fun _ => ?_) (fun b9 => absurd (zy_ss.2.2.2.2.1 v hv) b9)
  refine lv_iload hx hb dJ6_getChars_ba4f3_104 (lv_at hl 2 rfl) ?_
  refine lv_if_eq (tgt := 118) hx hb dJ6_getChars_ba4f3_106 (by decide) (fun _ => ?_) (fun b9 => absurd rfl b9)
  refine lv_iload hx hb dJ6_getChars_ba4f3_118 (lv_at hl 0 rfl) ?_
  exact z_irety S hr hlocks () trivial hH rfl dJ6_getChars_ba4f3_120

abbrev rm_c_gc2 : Room := { frames := 0, cells := 0, slots := 0, locals := 0 }
set_option maxHeartbeats 4000000 in
set_option maxRecDepth 100000 in
theorem c_gc2 (l : Launch) (G : va_G) (cy : Nat → ClassId) (E : Nat → Nat) (q_v mm nn v : Nat) (f : Nat → Int32) (hv : v < 12) (h10 : 10 ≤ v) (hn : nn + 2 ≤ mm) (hm : mm ≤ 34) : zMy l G cy E yJ6_getChars_ba4f3 wsJ6_getChars_ba4f3 rm_c_gc2 [.int (nI v), .int (nI (nn + 2)), .ref q_v] [(q_v, .inl (cy 0, mm, .inl f))] (fun _ : Unit => some (.int (nI nn))) (fun _ : Unit => [(q_v, .inl (cy 0, mm, .inl (upd (upd f (nn + 1) (sb_b (48 + v % 10))) (nn) (sb_b (48 + v / 10)))))]) (fun _ => True) 0 0 := by
  refine z_bodyy (cc := cJ6_getChars_ba4f3) (maxL := 7) (ret := some .int) (by decide +kernel) rfl (Nat.le_of_ble_eq_true rfl) ?_
  intro p e s m below meth c ls S hr hlocks hnm hF hH hl
  have S : CallFix p m c cJ6_getChars_ba4f3 7 s ([.int (nI v), .int (nI (nn + 2)), .ref q_v] : List Value).toArray wsJ6_getChars_ba4f3 RJ6 := S
  obtain ⟨hx, hb, hml, hown, hts⟩ := id S
  have hl : lv_has ls 7 [(0, .int (nI v)), (1, .int (nI (nn + 2))), (2, .ref q_v)] := hl
  refine lv_iload_n hx hb dJ6_getChars_ba4f3_0 rfl (lv_at hl 1 rfl) ?_
  refine lv_istore (lv' := [(5, .int (nI (nn + 2))), (0, .int (nI v)), (1, .int (nI (nn + 2))), (2, .ref q_v)]) hx hb dJ6_getChars_ba4f3_1 hl (by decide) rfl (fun ls hl => ?_)
  refine lv_iload_n hx hb dJ6_getChars_ba4f3_3 rfl (lv_at hl 1 rfl) ?_
  refine lv_if_ge (tgt := 11) hx hb dJ6_getChars_ba4f3_4 (by decide) (fun _ => ?_) (fun b9 => absurd (show (0 : Int32) ≤ nI v from nI_le (a := 0) (Nat.zero_le _) (by omega)) b9)
  refine lv_iconst (v := 0) hx hb dJ6_getChars_ba4f3_11 (by decide) ?_
  refine lv_istore (lv' := [(6, .int 0), (5, .int (nI (nn + 2))), (0, .int (nI v)), (1, .int (nI (nn + 2))), (2, .ref q_v)]) hx hb dJ6_getChars_ba4f3_12 hl (by decide) rfl (fun ls hl => ?_)
  refine lv_iload hx hb dJ6_getChars_ba4f3_14 (lv_at hl 0 rfl) ?_
  refine lv_if_ne (tgt := 22) hx hb dJ6_getChars_ba4f3_16 (by decide) (fun b9 => absurd rfl b9) (fun _ => ?_)
  refine lv_iload_n hx hb dJ6_getChars_ba4f3_19 rfl (lv_at hl 2 rfl) ?_
  refine lv_ineg hx hb dJ6_getChars_ba4f3_20 ?_
  refine lv_istore_n (lv' := [(0, .int (-(nI v))), (6, .int 0), (5, .int (nI (nn + 2))), (1, .int (nI (nn + 2))), (2, .ref q_v)]) hx hb dJ6_getChars_ba4f3_21 rfl hl (by decide) rfl (fun ls hl => ?_)
  refine lv_iload_n hx hb dJ6_getChars_ba4f3_22 rfl (lv_at hl 0 rfl) ?_
  refine lv_bipush (v := (-100)) hx hb dJ6_getChars_ba4f3_23 (by decide) ?_
  refine lv_icmp_gt (tgt := 72) hx hb dJ6_getChars_ba4f3_25 (by decide) (fun _ => ?_) (fun b9 => absurd (zy_ss.2.2.2.1 v (by omega)) b9)
  refine lv_aload_n hx hb dJ6_getChars_ba4f3_72 rfl (lv_at hl 4 rfl) ?_
  refine lv_iinc (v := (nI (nn + 1))) (lv' := [(5, .int (nI (nn + 1))), (0, .int (-(nI v))), (6, .int 0), (1, .int (nI (nn + 2))), (2, .ref q_v)]) hx hb dJ6_getChars_ba4f3_73 hl (k := 2) rfl (by rw [show (nI (nn + 1)) = (nI (nn + 2)) + (-1) from (zy_m1 (p := nn + 2) (by omega)).symm]; exact congrArg (fun z => (nI (nn + 2)) + z) (by decide)) (by decide) rfl (fun ls hl => ?_)
  refine lv_iload hx hb dJ6_getChars_ba4f3_76 (lv_at hl 0 rfl) ?_
  refine va_gets (v := .ref (E 20)) hx hb hF.2.1.2.2.2.2.2.2.2.2.1.1 hH.2.2 hown (hts _ (List.mem_of_getElem? (i := 1) rfl)) (fun _ h9 => h9) dJ6_getChars_ba4f3_78 ?_
  refine lv_iload_n hx hb dJ6_getChars_ba4f3_81 rfl (lv_at hl 1 rfl) ?_
  refine lv_ineg hx hb dJ6_getChars_ba4f3_82 ?_
  refine z_top (show ((nI v) : Int32) = (-(-(nI v))) from (Int32.neg_neg).symm) ?_
  refine va_tb (v := .int (nI (48 + v % 10))) hx hb hF.2.1.2.2.2.2.2.2.2.2.1.2 hH.2.2 (zin_e (zy_in (j := v) (n := 100) (by omega) (by decide))) (by rw [nI_clamp (by omega)]; rfl) dJ6_getChars_ba4f3_83 ?_
  refine z_bast (ws' := [(q_v, .inl (cy 0, mm, .inl (upd f (nn + 1) (sb_b (48 + v % 10)))))]) (j := nn + 1) S hF hH 0 rfl (zy_in (by omega) (by omega)) (nI_clamp (by omega)) rfl dJ6_getChars_ba4f3_84 (fun H locs hH => ?_)
  refine lv_iload_n hx hb dJ6_getChars_ba4f3_85 rfl (lv_at hl 1 rfl) ?_
  refine lv_bipush (v := (-9)) hx hb dJ6_getChars_ba4f3_86 (by decide) ?_
  refine lv_icmp_ge (tgt := 104) hx hb dJ6_getChars_ba4f3_88 (by decide) (fun b9 => absurd b9 (zy_ss.2.2.2.2.2 v hv h10)) (fun _ => ?_)
  refine lv_aload_n hx hb dJ6_getChars_ba4f3_91 rfl (lv_at hl 4 rfl) ?_
  refine lv_iinc (v := (nI nn)) (lv' := [(5, .int (nI nn)), (0, .int (-(nI v))), (6, .int 0), (1, .int (nI (nn + 2))), (2, .ref q_v)]) hx hb dJ6_getChars_ba4f3_92 hl (k := 0) rfl (by rw [show (nI nn) = (nI (nn + 1)) + (-1) from (zy_m1 (p := nn + 1) (by omega)).symm]; exact congrArg (fun z => (nI (nn + 1)) + z) (by decide)) (by decide) rfl (fun ls hl => ?_)
  refine lv_iload hx hb dJ6_getChars_ba4f3_95 (lv_at hl 0 rfl) ?_
  refine va_gets (v := .ref (E 21)) hx hb hF.2.1.2.2.2.2.2.2.2.2.2.1 hH.2.2 hown (hts _ (List.mem_of_getElem? (i := 2) rfl)) (fun _ h9 => h9) dJ6_getChars_ba4f3_97 ?_
  refine lv_iload_n hx hb dJ6_getChars_ba4f3_100 rfl (lv_at hl 1 rfl) ?_
  refine lv_ineg hx hb dJ6_getChars_ba4f3_101 ?_
  refine z_top (show ((nI v) : Int32) = (-(-(nI v))) from (Int32.neg_neg).symm) ?_
  refine va_tb (v := .int (nI (48 + v / 10))) hx hb hF.2.1.2.2.2.2.2.2.2.2.2.2 hH.2.2 (zin_e (zy_in (j := v) (n := 100) (by omega) (by decide))) (by rw [nI_clamp (by omega)]; rfl) dJ6_getChars_ba4f3_102 ?_
  refine z_bast (ws' := [(q_v, .inl (cy 0, mm, .inl (upd (upd f (nn + 1) (sb_b (48 + v % 10))) (nn) (sb_b (48 + v / 10)))))]) (j := nn) S hF hH 0 rfl (zy_in (by omega) (by omega)) (nI_clamp (by omega)) rfl dJ6_getChars_ba4f3_103 (fun H locs hH => ?_)
  refine lv_iload hx hb dJ6_getChars_ba4f3_104 (lv_at hl 2 rfl) ?_
  refine lv_if_eq (tgt := 118) hx hb dJ6_getChars_ba4f3_106 (by decide) (fun _ => ?_) (fun b9 => absurd rfl b9)
  refine lv_iload hx hb dJ6_getChars_ba4f3_118 (lv_at hl 0 rfl) ?_
  exact z_irety S hr hlocks () trivial hH rfl dJ6_getChars_ba4f3_120

theorem iJ5_append_c97b9_J4 : ∀ w ∈ wsJ40, w ∈ wsJ5_append_c97b9 := fun _ h => List.mem_cons_of_mem _ (List.mem_append_right _ h)
abbrev rm_c_apI51 : Room := { frames := 4, cells := 1, slots := 34, locals := 120 }
set_option maxHeartbeats 4000000 in
set_option maxRecDepth 100000 in
theorem c_apI51 (l : Launch) (G : va_G) (cy : Nat → ClassId) (E : Nat → Nat) (q_d q_v mm nn : Nat) (ml : Int32) (f : Nat → Int32) (t : Nat → Nat) (v : Nat) (hm : mm = 16 ∨ mm = 34) (hn : nn ≤ mm) (hL : sb_Lat t nn f) (hfit : sb_Fit f) (h34 : nn + 1 ≤ 34) (hv : v < 10) : zMy l G cy E yJ5_append_c97b9 wsJ5_append_c97b9 rm_c_apI51 [.ref q_d, .int (nI v)] [(q_d, .inr (0, [.ref q_v, .int 0, .int ml, .int (nI nn)])), (q_v, .inl (cy 0, mm, .inl f))] (fun _ : Nat × Nat × (Nat → Int32) => some (.ref q_d)) (fun x : Nat × Nat × (Nat → Int32) => [(q_d, .inr (0, [.ref x.1, .int 0, .int ml, .int (nI (nn + 1))])), (x.1, .inl (cy 0, x.2.1, .inl x.2.2))]) (fun x : Nat × Nat × (Nat → Int32) => (x.2.1 = 16 ∨ x.2.1 = 34) ∧ nn + 1 ≤ x.2.1 ∧ sb_Lat (sb_cat t nn (fun _ => 48 + v)) (nn + 1) x.2.2 ∧ sb_Fit x.2.2) 1 34 := by
  refine z_bodyy (cc := cJ5_append_c97b9) (maxL := 4) (ret := some (.object "java/lang/AbstractStringBuilder")) (by decide +kernel) rfl (Nat.le_of_ble_eq_true rfl) ?_
  intro p e s m below meth c ls S hr hlocks hnm hF hH hl
  have S : CallFix p m c cJ5_append_c97b9 4 s ([.ref q_d, .int (nI v)] : List Value).toArray wsJ5_append_c97b9 RJ5 := S
  obtain ⟨hx, hb, hml, hown, hts⟩ := id S
  have hl : lv_has ls 4 [(0, .ref q_d), (1, .int (nI v))] := hl
  refine lv_aload_n hx hb dJ5_append_c97b9_0 rfl (lv_at hl 0 rfl) ?_
  refine z_get S hF hH iJ5_append_c97b9_J4 0 rfl rfl 3 (by decide) (List.mem_of_getElem? (i := 1) rfl) rfl dJ5_append_c97b9_1 ?_
  refine lv_istore_n (lv' := [(2, .int (nI nn)), (0, .ref q_d), (1, .int (nI v))]) hx hb dJ5_append_c97b9_4 rfl hl (by decide) rfl (fun ls hl => ?_)
  refine lv_iload_n hx hb dJ5_append_c97b9_5 rfl (lv_at hl 0 rfl) ?_
  refine lv_iload_n hx hb dJ5_append_c97b9_6 rfl (lv_at hl 2 rfl) ?_
  refine z_callSy (wsx := (fun _ : Unit => [(q_d, .inr (0, [.ref q_v, .int 0, .int ml, .int (nI nn)])), (q_v, .inl (cy 0, mm, .inl f))])) (As := [.int (nI v)]) (rest := [.int (nI nn)]) S hF hH (c_ss1 l G cy E v hv) (va_cwS 1 hts gJ5_append_c97b9_J6_stringSize_0f7a4 rfl rfl rfl (by decide +kernel) ⟨Nat.le_of_ble_eq_true rfl, Nat.le_of_ble_eq_true rfl⟩) [] [0, 1] [0, 1] rfl rfl (by decide) (by decide) (by decide) (by decide) (fun _ => rfl) rfl rfl hl.1 (Nat.le_of_ble_eq_true rfl) dJ5_append_c97b9_7 ⟨Nat.le_of_ble_eq_true rfl, Nat.le_of_ble_eq_true rfl⟩ (fun _ H locs _ hH => ?_)
  have hH : zH G (va_A [(q_d, .inr (0, [.ref q_v, .int 0, .int ml, .int (nI nn)])), (q_v, .inl (cy 0, mm, .inl f))] s.heap.size) s H locs [(q_d, .inr (0, [.ref q_v, .int 0, .int ml, .int (nI nn)])), (q_v, .inl (cy 0, mm, .inl f))] := hH
  refine lv_iadd hx hb dJ5_append_c97b9_10 ?_
  refine z_top (show ((nI (nn + 1)) : Int32) = ((nI nn) + (nI 1)) from (nI_add nn 1).symm) ?_
  refine lv_istore_n (lv' := [(3, .int (nI (nn + 1))), (2, .int (nI nn)), (0, .ref q_d), (1, .int (nI v))]) hx hb dJ5_append_c97b9_11 rfl hl (by decide) rfl (fun ls hl => ?_)
  refine lv_aload_n hx hb dJ5_append_c97b9_12 rfl (lv_at hl 2 rfl) ?_
  refine lv_iload_n hx hb dJ5_append_c97b9_13 rfl (lv_at hl 0 rfl) ?_
  refine z_callUy (wsx := (fun x : Nat × Nat × (Nat → Int32) => [(q_d, .inr (0, [.ref x.1, .int 0, .int ml, .int (nI nn)])), (x.1, .inl (cy 0, x.2.1, .inl x.2.2))])) (As := [.int (nI (nn + 1))]) (rest := []) S hF hH (c_ens l G cy E q_d q_v mm nn (nn + 1) ml f hm (by omega) hfit) (va_cwU 1 hts gJ5_append_c97b9_J5_ensureCapacityInternal_d00df_u100J4 rfl rfl rfl rfl (by decide +kernel) ⟨Nat.le_of_ble_eq_true rfl, Nat.le_of_ble_eq_true rfl⟩) 0 0 rfl rfl [0, 1] [] [0, 1] rfl rfl (by decide) (by decide) (by decide) (by decide) (fun _ => rfl) rfl rfl hl.1 (Nat.le_of_ble_eq_true rfl) dJ5_append_c97b9_14 ⟨Nat.le_of_ble_eq_true rfl, Nat.le_of_ble_eq_true rfl⟩ (fun x H locs px hH => ?_)
  have hH : zH G (va_A [(q_d, .inr (0, [.ref q_v, .int 0, .int ml, .int (nI nn)])), (q_v, .inl (cy 0, mm, .inl f))] s.heap.size) s H locs [(q_d, .inr (0, [.ref x.1, .int 0, .int ml, .int (nI nn)])), (x.1, .inl (cy 0, x.2.1, .inl x.2.2))] := hH
  have px1 : nn + 1 ≤ x.2.1 := px.1
  have px3 : x.2.1 = 16 ∨ x.2.1 = 34 := px.2.2.1
  refine lv_aload_n hx hb dJ5_append_c97b9_17 rfl (lv_at hl 2 rfl) ?_
  refine z_callUy (wsx := (fun _ : Unit => [(q_d, .inr (0, [.ref x.1, .int 0, .int ml, .int (nI nn)])), (x.1, .inl (cy 0, x.2.1, .inl x.2.2))])) (As := []) (rest := []) S hF hH (c_isLat l G cy E q_d x.1 x.2.1 nn ml x.2.2) (va_cwU 0 hts gJ5_append_c97b9_J5_isLatin1_aae02_u83J4 rfl rfl rfl rfl (by decide +kernel) ⟨Nat.le_of_ble_eq_true rfl, Nat.le_of_ble_eq_true rfl⟩) 0 0 rfl rfl [0, 1] [] [0, 1] rfl rfl (by decide) (by decide) (by decide) (by decide) (fun _ => rfl) rfl rfl hl.1 (Nat.le_of_ble_eq_true rfl) dJ5_append_c97b9_18 ⟨Nat.le_of_ble_eq_true rfl, Nat.le_of_ble_eq_true rfl⟩ (fun _ H locs _ hH => ?_)
  have hH : zH G (va_A [(q_d, .inr (0, [.ref q_v, .int 0, .int ml, .int (nI nn)])), (q_v, .inl (cy 0, mm, .inl f))] s.heap.size) s H locs [(q_d, .inr (0, [.ref x.1, .int 0, .int ml, .int (nI nn)])), (x.1, .inl (cy 0, x.2.1, .inl x.2.2))] := hH
  refine lv_if_eq (tgt := 37) hx hb dJ5_append_c97b9_21 (by decide) (fun b9 => absurd b9 (by decide)) (fun _ => ?_)
  refine lv_iload_n hx hb dJ5_append_c97b9_24 rfl (lv_at hl 3 rfl) ?_
  refine lv_iload_n hx hb dJ5_append_c97b9_25 rfl (lv_at hl 0 rfl) ?_
  refine lv_aload_n hx hb dJ5_append_c97b9_26 rfl (lv_at hl 2 rfl) ?_
  refine z_get S hF hH iJ5_append_c97b9_J4 0 rfl rfl 0 (by decide) (List.mem_of_getElem? (i := 2) rfl) rfl dJ5_append_c97b9_27 ?_
  refine z_callSy (wsx := (fun _ : Unit => [(q_d, .inr (0, [.ref x.1, .int 0, .int ml, .int (nI nn)])), (x.1, .inl (cy 0, x.2.1, .inl (upd x.2.2 (nn + 0) (sb_b (48 + v % 10)))))])) (As := [.int (nI v), .int (nI (nn + 1)), .ref x.1]) (rest := []) S hF hH (c_gc1 l G cy E x.1 x.2.1 nn v x.2.2 hv px1 (by omega)) (va_cwS 3 hts gJ5_append_c97b9_J6_getChars_ba4f3 rfl rfl rfl (by decide +kernel) ⟨Nat.le_of_ble_eq_true rfl, Nat.le_of_ble_eq_true rfl⟩) [1] [0] [0, 1] rfl rfl (by decide) (by decide) (by decide) (by decide) (fun _ => rfl) rfl rfl hl.1 (Nat.le_of_ble_eq_true rfl) dJ5_append_c97b9_30 ⟨Nat.le_of_ble_eq_true rfl, Nat.le_of_ble_eq_true rfl⟩ (fun _ H locs _ hH => ?_)
  have hH : zH G (va_A [(q_d, .inr (0, [.ref q_v, .int 0, .int ml, .int (nI nn)])), (q_v, .inl (cy 0, mm, .inl f))] s.heap.size) s H locs [(q_d, .inr (0, [.ref x.1, .int 0, .int ml, .int (nI nn)])), (x.1, .inl (cy 0, x.2.1, .inl (upd x.2.2 (nn + 0) (sb_b (48 + v % 10)))))] := hH
  refine lv_pop hx hb dJ5_append_c97b9_33 rfl ?_
  refine lv_goto (tgt := 48) hx hb dJ5_append_c97b9_34 (by decide) ?_
  refine lv_aload_n hx hb dJ5_append_c97b9_48 rfl (lv_at hl 2 rfl) ?_
  refine lv_iload_n hx hb dJ5_append_c97b9_49 rfl (lv_at hl 0 rfl) ?_
  refine z_put (ws' := [(q_d, .inr (0, [.ref x.1, .int 0, .int ml, .int (nI (nn + 1))])), (x.1, .inl (cy 0, x.2.1, .inl (upd x.2.2 (nn + 0) (sb_b (48 + v % 10)))))]) S hF hH iJ5_append_c97b9_J4 tyJ4 tyJ4_ok nmJ4 0 rfl rfl 3 (by decide) (List.mem_of_getElem? (i := 1) rfl) rfl rfl rfl (Nat.le_of_ble_eq_true rfl) rfl dJ5_append_c97b9_50 (fun H locs hH => ?_)
  refine lv_aload_n hx hb dJ5_append_c97b9_53 rfl (lv_at hl 2 rfl) ?_
  exact z_arety S hr (Or.inl ⟨_, rfl⟩) hlocks (x.1, x.2.1, (upd x.2.2 (nn + 0) (sb_b (48 + v % 10)))) (show (x.2.1 = 16 ∨ x.2.1 = 34) ∧ nn + 1 ≤ x.2.1 ∧ sb_Lat (sb_cat t nn (fun _ => 48 + v)) (nn + 1) (upd x.2.2 (nn + 0) (sb_b (48 + v % 10))) ∧ sb_Fit (upd x.2.2 (nn + 0) (sb_b (48 + v % 10))) from ⟨px3, px1, sb_latPut (w := 1) hL (fun j hj => by rw [pk_un (by omega)]; exact px.2.2.2.2 j (by omega)) (fun i hi => by obtain rfl : i = 0 := (by omega); exact ⟨by omega, by rw [pk_us, show v % 10 = v by omega]⟩), sb_fitU px.2.2.2.1 (sb_fitB _)⟩) hH rfl dJ5_append_c97b9_54

abbrev rm_c_apI1 : Room := { frames := 5, cells := 1, slots := 34, locals := 150 }
set_option maxHeartbeats 4000000 in
set_option maxRecDepth 100000 in
theorem c_apI1 (l : Launch) (G : va_G) (cy : Nat → ClassId) (E : Nat → Nat) (q_d q_v mm nn : Nat) (ml : Int32) (f : Nat → Int32) (t : Nat → Nat) (v : Nat) (hm : mm = 16 ∨ mm = 34) (hn : nn ≤ mm) (hL : sb_Lat t nn f) (hfit : sb_Fit f) (h34 : nn + 1 ≤ 34) (hv : v < 10) : zMy l G cy E yJ4_append_bf812 wsJ4_append_bf812 rm_c_apI1 [.ref q_d, .int (nI v)] [(q_d, .inr (0, [.ref q_v, .int 0, .int ml, .int (nI nn)])), (q_v, .inl (cy 0, mm, .inl f))] (fun _ : Nat × Nat × (Nat → Int32) => some (.ref q_d)) (fun x : Nat × Nat × (Nat → Int32) => [(q_d, .inr (0, [.ref x.1, .int 0, .int ml, .int (nI (nn + 1))])), (x.1, .inl (cy 0, x.2.1, .inl x.2.2))]) (fun x : Nat × Nat × (Nat → Int32) => (x.2.1 = 16 ∨ x.2.1 = 34) ∧ nn + 1 ≤ x.2.1 ∧ sb_Lat (sb_cat t nn (fun _ => 48 + v)) (nn + 1) x.2.2 ∧ sb_Fit x.2.2) 1 34 := by
  refine z_bodyy (cc := cJ4_append_bf812) (maxL := 2) (ret := some (.object "java/lang/StringBuilder")) (by decide +kernel) rfl (Nat.le_of_ble_eq_true rfl) ?_
  intro p e s m below meth c ls S hr hlocks hnm hF hH hl
  have S : CallFix p m c cJ4_append_bf812 2 s ([.ref q_d, .int (nI v)] : List Value).toArray wsJ4_append_bf812 RJ4 := S
  obtain ⟨hx, hb, hml, hown, hts⟩ := id S
  have hl : lv_has ls 2 [(0, .ref q_d), (1, .int (nI v))] := hl
  refine lv_aload_n hx hb dJ4_append_bf812_0 rfl (lv_at hl 0 rfl) ?_
  refine lv_iload_n hx hb dJ4_append_bf812_1 rfl (lv_at hl 1 rfl) ?_
  refine z_callSUy (wsx := (fun x : Nat × Nat × (Nat → Int32) => [(q_d, .inr (0, [.ref x.1, .int 0, .int ml, .int (nI (nn + 1))])), (x.1, .inl (cy 0, x.2.1, .inl x.2.2))])) (As := [.int (nI v)]) (rest := []) (hF.1.1 0 _ rfl).2 S hF hH (c_apI51 l G cy E q_d q_v mm nn ml f t v hm hn hL hfit h34 hv) (va_cwSU 1 hts gJ4_append_bf812_J5_append_c97b9_s53 rfl rfl rfl (by decide +kernel) ⟨Nat.le_of_ble_eq_true rfl, Nat.le_of_ble_eq_true rfl⟩) 0 0 rfl rfl [0, 1] [] [0, 1] rfl rfl (by decide) (by decide) (by decide) (by decide) (fun _ => rfl) rfl rfl hl.1 (Nat.le_of_ble_eq_true rfl) dJ4_append_bf812_2 ⟨Nat.le_of_ble_eq_true rfl, Nat.le_of_ble_eq_true rfl⟩ (fun x H locs px hH => ?_)
  have hH : zH G (va_A [(q_d, .inr (0, [.ref q_v, .int 0, .int ml, .int (nI nn)])), (q_v, .inl (cy 0, mm, .inl f))] s.heap.size) s H locs [(q_d, .inr (0, [.ref x.1, .int 0, .int ml, .int (nI (nn + 1))])), (x.1, .inl (cy 0, x.2.1, .inl x.2.2))] := hH
  refine lv_pop hx hb dJ4_append_bf812_5 rfl ?_
  refine lv_aload_n hx hb dJ4_append_bf812_6 rfl (lv_at hl 0 rfl) ?_
  exact z_arety S hr (Or.inl ⟨_, rfl⟩) hlocks x px hH rfl dJ4_append_bf812_7

abbrev rm_c_apI52 : Room := { frames := 4, cells := 1, slots := 34, locals := 120 }
set_option maxHeartbeats 4000000 in
set_option maxRecDepth 100000 in
theorem c_apI52 (l : Launch) (G : va_G) (cy : Nat → ClassId) (E : Nat → Nat) (q_d q_v mm nn : Nat) (ml : Int32) (f : Nat → Int32) (t : Nat → Nat) (v : Nat) (hm : mm = 16 ∨ mm = 34) (hn : nn ≤ mm) (hL : sb_Lat t nn f) (hfit : sb_Fit f) (h34 : nn + 2 ≤ 34) (hv : v < 12) (h10 : 10 ≤ v) : zMy l G cy E yJ5_append_c97b9 wsJ5_append_c97b9 rm_c_apI52 [.ref q_d, .int (nI v)] [(q_d, .inr (0, [.ref q_v, .int 0, .int ml, .int (nI nn)])), (q_v, .inl (cy 0, mm, .inl f))] (fun _ : Nat × Nat × (Nat → Int32) => some (.ref q_d)) (fun x : Nat × Nat × (Nat → Int32) => [(q_d, .inr (0, [.ref x.1, .int 0, .int ml, .int (nI (nn + 2))])), (x.1, .inl (cy 0, x.2.1, .inl x.2.2))]) (fun x : Nat × Nat × (Nat → Int32) => (x.2.1 = 16 ∨ x.2.1 = 34) ∧ nn + 2 ≤ x.2.1 ∧ sb_Lat (sb_cat t nn (fun i => if i = 0 then 48 + v / 10 else 48 + v % 10)) (nn + 2) x.2.2 ∧ sb_Fit x.2.2) 1 34 := by
  refine z_bodyy (cc := cJ5_append_c97b9) (maxL := 4) (ret := some (.object "java/lang/AbstractStringBuilder")) (by decide +kernel) rfl (Nat.le_of_ble_eq_true rfl) ?_
  intro p e s m below meth c ls S hr hlocks hnm hF hH hl
  have S : CallFix p m c cJ5_append_c97b9 4 s ([.ref q_d, .int (nI v)] : List Value).toArray wsJ5_append_c97b9 RJ5 := S
  obtain ⟨hx, hb, hml, hown, hts⟩ := id S
  have hl : lv_has ls 4 [(0, .ref q_d), (1, .int (nI v))] := hl
  refine lv_aload_n hx hb dJ5_append_c97b9_0 rfl (lv_at hl 0 rfl) ?_
  refine z_get S hF hH iJ5_append_c97b9_J4 0 rfl rfl 3 (by decide) (List.mem_of_getElem? (i := 1) rfl) rfl dJ5_append_c97b9_1 ?_
  refine lv_istore_n (lv' := [(2, .int (nI nn)), (0, .ref q_d), (1, .int (nI v))]) hx hb dJ5_append_c97b9_4 rfl hl (by decide) rfl (fun ls hl => ?_)
  refine lv_iload_n hx hb dJ5_append_c97b9_5 rfl (lv_at hl 0 rfl) ?_
  refine lv_iload_n hx hb dJ5_append_c97b9_6 rfl (lv_at hl 2 rfl) ?_
  refine z_callSy (wsx := (fun _ : Unit => [(q_d, .inr (0, [.ref q_v, .int 0, .int ml, .int (nI nn)])), (q_v, .inl (cy 0, mm, .inl f))])) (As := [.int (nI v)]) (rest := [.int (nI nn)]) S hF hH (c_ss2 l G cy E v hv h10) (va_cwS 1 hts gJ5_append_c97b9_J6_stringSize_0f7a4 rfl rfl rfl (by decide +kernel) ⟨Nat.le_of_ble_eq_true rfl, Nat.le_of_ble_eq_true rfl⟩) [] [0, 1] [0, 1] rfl rfl (by decide) (by decide) (by decide) (by decide) (fun _ => rfl) rfl rfl hl.1 (Nat.le_of_ble_eq_true rfl) dJ5_append_c97b9_7 ⟨Nat.le_of_ble_eq_true rfl, Nat.le_of_ble_eq_true rfl⟩ (fun _ H locs _ hH => ?_)
  have hH : zH G (va_A [(q_d, .inr (0, [.ref q_v, .int 0, .int ml, .int (nI nn)])), (q_v, .inl (cy 0, mm, .inl f))] s.heap.size) s H locs [(q_d, .inr (0, [.ref q_v, .int 0, .int ml, .int (nI nn)])), (q_v, .inl (cy 0, mm, .inl f))] := hH
  refine lv_iadd hx hb dJ5_append_c97b9_10 ?_
  refine z_top (show ((nI (nn + 2)) : Int32) = ((nI nn) + (nI 2)) from (nI_add nn 2).symm) ?_
  refine lv_istore_n (lv' := [(3, .int (nI (nn + 2))), (2, .int (nI nn)), (0, .ref q_d), (1, .int (nI v))]) hx hb dJ5_append_c97b9_11 rfl hl (by decide) rfl (fun ls hl => ?_)
  refine lv_aload_n hx hb dJ5_append_c97b9_12 rfl (lv_at hl 2 rfl) ?_
  refine lv_iload_n hx hb dJ5_append_c97b9_13 rfl (lv_at hl 0 rfl) ?_
  refine z_callUy (wsx := (fun x : Nat × Nat × (Nat → Int32) => [(q_d, .inr (0, [.ref x.1, .int 0, .int ml, .int (nI nn)])), (x.1, .inl (cy 0, x.2.1, .inl x.2.2))])) (As := [.int (nI (nn + 2))]) (rest := []) S hF hH (c_ens l G cy E q_d q_v mm nn (nn + 2) ml f hm (by omega) hfit) (va_cwU 1 hts gJ5_append_c97b9_J5_ensureCapacityInternal_d00df_u100J4 rfl rfl rfl rfl (by decide +kernel) ⟨Nat.le_of_ble_eq_true rfl, Nat.le_of_ble_eq_true rfl⟩) 0 0 rfl rfl [0, 1] [] [0, 1] rfl rfl (by decide) (by decide) (by decide) (by decide) (fun _ => rfl) rfl rfl hl.1 (Nat.le_of_ble_eq_true rfl) dJ5_append_c97b9_14 ⟨Nat.le_of_ble_eq_true rfl, Nat.le_of_ble_eq_true rfl⟩ (fun x H locs px hH => ?_)
  have hH : zH G (va_A [(q_d, .inr (0, [.ref q_v, .int 0, .int ml, .int (nI nn)])), (q_v, .inl (cy 0, mm, .inl f))] s.heap.size) s H locs [(q_d, .inr (0, [.ref x.1, .int 0, .int ml, .int (nI nn)])), (x.1, .inl (cy 0, x.2.1, .inl x.2.2))] := hH
  have px1 : nn + 2 ≤ x.2.1 := px.1
  have px3 : x.2.1 = 16 ∨ x.2.1 = 34 := px.2.2.1
  refine lv_aload_n hx hb dJ5_append_c97b9_17 rfl (lv_at hl 2 rfl) ?_
  refine z_callUy (wsx := (fun _ : Unit => [(q_d, .inr (0, [.ref x.1, .int 0, .int ml, .int (nI nn)])), (x.1, .inl (cy 0, x.2.1, .inl x.2.2))])) (As := []) (rest := []) S hF hH (c_isLat l G cy E q_d x.1 x.2.1 nn ml x.2.2) (va_cwU 0 hts gJ5_append_c97b9_J5_isLatin1_aae02_u83J4 rfl rfl rfl rfl (by decide +kernel) ⟨Nat.le_of_ble_eq_true rfl, Nat.le_of_ble_eq_true rfl⟩) 0 0 rfl rfl [0, 1] [] [0, 1] rfl rfl (by decide) (by decide) (by decide) (by decide) (fun _ => rfl) rfl rfl hl.1 (Nat.le_of_ble_eq_true rfl) dJ5_append_c97b9_18 ⟨Nat.le_of_ble_eq_true rfl, Nat.le_of_ble_eq_true rfl⟩ (fun _ H locs _ hH => ?_)
  have hH : zH G (va_A [(q_d, .inr (0, [.ref q_v, .int 0, .int ml, .int (nI nn)])), (q_v, .inl (cy 0, mm, .inl f))] s.heap.size) s H locs [(q_d, .inr (0, [.ref x.1, .int 0, .int ml, .int (nI nn)])), (x.1, .inl (cy 0, x.2.1, .inl x.2.2))] := hH
  refine lv_if_eq (tgt := 37) hx hb dJ5_append_c97b9_21 (by decide) (fun b9 => absurd b9 (by decide)) (fun _ => ?_)
  refine lv_iload_n hx hb dJ5_append_c97b9_24 rfl (lv_at hl 3 rfl) ?_
  refine lv_iload_n hx hb dJ5_append_c97b9_25 rfl (lv_at hl 0 rfl) ?_
  refine lv_aload_n hx hb dJ5_append_c97b9_26 rfl (lv_at hl 2 rfl) ?_
  refine z_get S hF hH iJ5_append_c97b9_J4 0 rfl rfl 0 (by decide) (List.mem_of_getElem? (i := 2) rfl) rfl dJ5_append_c97b9_27 ?_
  refine z_callSy (wsx := (fun _ : Unit => [(q_d, .inr (0, [.ref x.1, .int 0, .int ml, .int (nI nn)])), (x.1, .inl (cy 0, x.2.1, .inl (upd (upd x.2.2 (nn + 1) (sb_b (48 + v % 10))) (nn) (sb_b (48 + v / 10)))))])) (As := [.int (nI v), .int (nI (nn + 2)), .ref x.1]) (rest := []) S hF hH (c_gc2 l G cy E x.1 x.2.1 nn v x.2.2 hv h10 px1 (by omega)) (va_cwS 3 hts gJ5_append_c97b9_J6_getChars_ba4f3 rfl rfl rfl (by decide +kernel) ⟨Nat.le_of_ble_eq_true rfl, Nat.le_of_ble_eq_true rfl⟩) [1] [0] [0, 1] rfl rfl (by decide) (by decide) (by decide) (by decide) (fun _ => rfl) rfl rfl hl.1 (Nat.le_of_ble_eq_true rfl) dJ5_append_c97b9_30 ⟨Nat.le_of_ble_eq_true rfl, Nat.le_of_ble_eq_true rfl⟩ (fun _ H locs _ hH => ?_)
  have hH : zH G (va_A [(q_d, .inr (0, [.ref q_v, .int 0, .int ml, .int (nI nn)])), (q_v, .inl (cy 0, mm, .inl f))] s.heap.size) s H locs [(q_d, .inr (0, [.ref x.1, .int 0, .int ml, .int (nI nn)])), (x.1, .inl (cy 0, x.2.1, .inl (upd (upd x.2.2 (nn + 1) (sb_b (48 + v % 10))) (nn) (sb_b (48 + v / 10)))))] := hH
  refine lv_pop hx hb dJ5_append_c97b9_33 rfl ?_
  refine lv_goto (tgt := 48) hx hb dJ5_append_c97b9_34 (by decide) ?_
  refine lv_aload_n hx hb dJ5_append_c97b9_48 rfl (lv_at hl 2 rfl) ?_
  refine lv_iload_n hx hb dJ5_append_c97b9_49 rfl (lv_at hl 0 rfl) ?_
  refine z_put (ws' := [(q_d, .inr (0, [.ref x.1, .int 0, .int ml, .int (nI (nn + 2))])), (x.1, .inl (cy 0, x.2.1, .inl (upd (upd x.2.2 (nn + 1) (sb_b (48 + v % 10))) (nn) (sb_b (48 + v / 10)))))]) S hF hH iJ5_append_c97b9_J4 tyJ4 tyJ4_ok nmJ4 0 rfl rfl 3 (by decide) (List.mem_of_getElem? (i := 1) rfl) rfl rfl rfl (Nat.le_of_ble_eq_true rfl) rfl dJ5_append_c97b9_50 (fun H locs hH => ?_)
  refine lv_aload_n hx hb dJ5_append_c97b9_53 rfl (lv_at hl 2 rfl) ?_
  exact z_arety S hr (Or.inl ⟨_, rfl⟩) hlocks (x.1, x.2.1, (upd (upd x.2.2 (nn + 1) (sb_b (48 + v % 10))) (nn) (sb_b (48 + v / 10)))) (show (x.2.1 = 16 ∨ x.2.1 = 34) ∧ nn + 2 ≤ x.2.1 ∧ sb_Lat (sb_cat t nn (fun i => if i = 0 then 48 + v / 10 else 48 + v % 10)) (nn + 2) (upd (upd x.2.2 (nn + 1) (sb_b (48 + v % 10))) (nn) (sb_b (48 + v / 10))) ∧ sb_Fit (upd (upd x.2.2 (nn + 1) (sb_b (48 + v % 10))) (nn) (sb_b (48 + v / 10))) from ⟨px3, px1, sb_latPut (w := 2) hL (fun j hj => by rw [pk_un (by omega), pk_un (by omega)]; exact px.2.2.2.2 j (by omega)) (fun i hi => by rcases (show i = 0 ∨ i = 1 by omega) with rfl | rfl; exact ⟨by show 48 + v / 10 < 256; omega, show upd (upd x.2.2 (nn + 1) (sb_b (48 + v % 10))) nn (sb_b (48 + v / 10)) nn = sb_b (48 + v / 10) from pk_us⟩; exact ⟨by show 48 + v % 10 < 256; omega, by rw [pk_un (by omega), pk_us]; rfl⟩), sb_fitU (sb_fitU px.2.2.2.1 (sb_fitB _)) (sb_fitB _)⟩) hH rfl dJ5_append_c97b9_54

abbrev rm_c_apI2 : Room := { frames := 5, cells := 1, slots := 34, locals := 150 }
set_option maxHeartbeats 4000000 in
set_option maxRecDepth 100000 in
theorem c_apI2 (l : Launch) (G : va_G) (cy : Nat → ClassId) (E : Nat → Nat) (q_d q_v mm nn : Nat) (ml : Int32) (f : Nat → Int32) (t : Nat → Nat) (v : Nat) (hm : mm = 16 ∨ mm = 34) (hn : nn ≤ mm) (hL : sb_Lat t nn f) (hfit : sb_Fit f) (h34 : nn + 2 ≤ 34) (hv : v < 12) (h10 : 10 ≤ v) : zMy l G cy E yJ4_append_bf812 wsJ4_append_bf812 rm_c_apI2 [.ref q_d, .int (nI v)] [(q_d, .inr (0, [.ref q_v, .int 0, .int ml, .int (nI nn)])), (q_v, .inl (cy 0, mm, .inl f))] (fun _ : Nat × Nat × (Nat → Int32) => some (.ref q_d)) (fun x : Nat × Nat × (Nat → Int32) => [(q_d, .inr (0, [.ref x.1, .int 0, .int ml, .int (nI (nn + 2))])), (x.1, .inl (cy 0, x.2.1, .inl x.2.2))]) (fun x : Nat × Nat × (Nat → Int32) => (x.2.1 = 16 ∨ x.2.1 = 34) ∧ nn + 2 ≤ x.2.1 ∧ sb_Lat (sb_cat t nn (fun i => if i = 0 then 48 + v / 10 else 48 + v % 10)) (nn + 2) x.2.2 ∧ sb_Fit x.2.2) 1 34 := by
  refine z_bodyy (cc := cJ4_append_bf812) (maxL := 2) (ret := some (.object "java/lang/StringBuilder")) (by decide +kernel) rfl (Nat.le_of_ble_eq_true rfl) ?_
  intro p e s m below meth c ls S hr hlocks hnm hF hH hl
  have S : CallFix p m c cJ4_append_bf812 2 s ([.ref q_d, .int (nI v)] : List Value).toArray wsJ4_append_bf812 RJ4 := S
  obtain ⟨hx, hb, hml, hown, hts⟩ := id S
  have hl : lv_has ls 2 [(0, .ref q_d), (1, .int (nI v))] := hl
  refine lv_aload_n hx hb dJ4_append_bf812_0 rfl (lv_at hl 0 rfl) ?_
  refine lv_iload_n hx hb dJ4_append_bf812_1 rfl (lv_at hl 1 rfl) ?_
  refine z_callSUy (wsx := (fun x : Nat × Nat × (Nat → Int32) => [(q_d, .inr (0, [.ref x.1, .int 0, .int ml, .int (nI (nn + 2))])), (x.1, .inl (cy 0, x.2.1, .inl x.2.2))])) (As := [.int (nI v)]) (rest := []) (hF.1.1 0 _ rfl).2 S hF hH (c_apI52 l G cy E q_d q_v mm nn ml f t v hm hn hL hfit h34 hv h10) (va_cwSU 1 hts gJ4_append_bf812_J5_append_c97b9_s53 rfl rfl rfl (by decide +kernel) ⟨Nat.le_of_ble_eq_true rfl, Nat.le_of_ble_eq_true rfl⟩) 0 0 rfl rfl [0, 1] [] [0, 1] rfl rfl (by decide) (by decide) (by decide) (by decide) (fun _ => rfl) rfl rfl hl.1 (Nat.le_of_ble_eq_true rfl) dJ4_append_bf812_2 ⟨Nat.le_of_ble_eq_true rfl, Nat.le_of_ble_eq_true rfl⟩ (fun x H locs px hH => ?_)
  have hH : zH G (va_A [(q_d, .inr (0, [.ref q_v, .int 0, .int ml, .int (nI nn)])), (q_v, .inl (cy 0, mm, .inl f))] s.heap.size) s H locs [(q_d, .inr (0, [.ref x.1, .int 0, .int ml, .int (nI (nn + 2))])), (x.1, .inl (cy 0, x.2.1, .inl x.2.2))] := hH
  refine lv_pop hx hb dJ4_append_bf812_5 rfl ?_
  refine lv_aload_n hx hb dJ4_append_bf812_6 rfl (lv_at hl 0 rfl) ?_
  exact z_arety S hr (Or.inl ⟨_, rfl⟩) hlocks x px hH rfl dJ4_append_bf812_7

theorem zy_ch : ∀ i, i < 6 → ∀ j, j < 140 → fits .byte (.int (zch i j)) = true ∧ (j < zsL.getD i 0 → (zch i j).toInt.toNat < 128 ∧ zch i j = sb_b (zch i j).toInt.toNat) := by decide +kernel
theorem zy_c1 (j : Nat) (h : 7 ≤ j) : zch 1 j = 0 := by
  show ((zsB.getD 1 [])[j]?).getD 0 = 0
  rw [List.getElem?_eq_none (show (zsB.getD 1 []).length ≤ j from h)]
  rfl
theorem zy_c2 (j : Nat) (h : 8 ≤ j) : zch 2 j = 0 := by
  show ((zsB.getD 2 [])[j]?).getD 0 = 0
  rw [List.getElem?_eq_none (show (zsB.getD 2 []).length ≤ j from h)]
  rfl
abbrev rm_c_gB1 : Room := { frames := 2, cells := 0, slots := 0, locals := 80 }
set_option maxHeartbeats 4000000 in
set_option maxRecDepth 100000 in
theorem c_gB1 (l : Launch) (G : va_G) (cy : Nat → ClassId) (E : Nat → Nat) (q_v mm nn : Nat) (f : Nat → Int32) (hn : nn + 7 ≤ mm) (hm : mm ≤ 34) : zMy l G cy E yJ0_getBytes_840e7 wsJ0_getBytes_840e7 rm_c_gB1 [.ref (E 1), .ref q_v, .int (nI nn), .int 0] [(q_v, .inl (cy 0, mm, .inl f))] (fun _ : Unit => none) (fun _ : Unit => [(q_v, .inl (cy 0, mm, .inl (va_cpy (zch 1) f 0 nn 7)))]) (fun _ => True) 0 0 := by
  refine z_bodyy (cc := cJ0_getBytes_840e7) (maxL := 4) (ret := none) (by decide +kernel) rfl (Nat.le_of_ble_eq_true rfl) ?_
  intro p e s m below meth c ls S hr hlocks hnm hF hH hl
  have S : CallFix p m c cJ0_getBytes_840e7 4 s ([.ref (E 1), .ref q_v, .int (nI nn), .int 0] : List Value).toArray wsJ0_getBytes_840e7 RJ0 := S
  obtain ⟨hx, hb, hml, hown, hts⟩ := id S
  have hl : lv_has ls 4 [(0, .ref (E 1)), (1, .ref q_v), (2, .int (nI nn)), (3, .int 0)] := hl
  have hk := hF.2.1.2.2.2.2.1.1 1 (by decide)
  refine lv_aload_n hx hb dJ0_getBytes_840e7_0 rfl (lv_at hl 0 rfl) ?_
  refine z_callVr (As := []) (rest := []) (st1 := [.int 0]) (ws' := [(q_v, .inl (cy 0, mm, .inl f))]) S hF hH (c_J0_coder_7d493 l G cy E 1 (by decide)) (cwV 0 hts gJ0_getBytes_840e7_J0_coder_7d493 rfl rfl rfl (by decide +kernel) ⟨Nat.le_of_ble_eq_true rfl, Nat.le_of_ble_eq_true rfl⟩) (z_srec hF hH (by decide)) [] rfl (by decide) rfl rfl rfl rfl rfl hl.1 (Nat.le_of_ble_eq_true rfl) dJ0_getBytes_840e7_1 ⟨Nat.le_of_ble_eq_true rfl, Nat.le_of_ble_eq_true rfl⟩ (fun H locs hH => ?_)
  refine lv_iload_n hx hb dJ0_getBytes_840e7_4 rfl (lv_at hl 3 rfl) ?_
  refine lv_icmp_ne (tgt := 28) hx hb dJ0_getBytes_840e7_5 (by decide) (fun b9 => absurd rfl b9) (fun _ => ?_)
  refine lv_aload_n hx hb dJ0_getBytes_840e7_8 rfl (lv_at hl 0 rfl) ?_
  refine vk_getf hx hb hk.2.2.1 hH.2.2 hown (hts _ (List.mem_of_getElem? (i := 1) rfl)) (fun _ h9 => h9) dJ0_getBytes_840e7_9 ?_
  refine lv_iconst (v := 0) hx hb dJ0_getBytes_840e7_12 (by decide) ?_
  refine lv_aload_n hx hb dJ0_getBytes_840e7_13 rfl (lv_at hl 1 rfl) ?_
  refine lv_iload_n hx hb dJ0_getBytes_840e7_14 rfl (lv_at hl 2 rfl) ?_
  refine lv_iload_n hx hb dJ0_getBytes_840e7_15 rfl (lv_at hl 3 rfl) ?_
  refine lv_ishl hx hb dJ0_getBytes_840e7_16 ?_
  refine z_top (show ((nI nn) : Int32) = ((nI nn) <<< ((0 : Int32) &&& 31)) from (sb_shl0 (nI nn)).symm) ?_
  refine lv_aload_n hx hb dJ0_getBytes_840e7_17 rfl (lv_at hl 0 rfl) ?_
  refine vk_getf hx hb hk.2.2.1 hH.2.2 hown (hts _ (List.mem_of_getElem? (i := 1) rfl)) (fun _ h9 => h9) dJ0_getBytes_840e7_18 ?_
  refine va_tlen (v := nI 7) hx hb hk.2.2.2 hH.2.2 rfl dJ0_getBytes_840e7_21 ?_
  refine z_copyt (f := zch 1) (ws' := [(q_v, .inl (cy 0, mm, .inl (va_cpy (zch 1) f 0 nn 7)))]) S hF hH hl.1 (List.mem_of_getElem? (i := 2) rfl) (List.mem_of_getElem? (i := 3) rfl) (List.mem_of_getElem? (i := 4) rfl) (List.mem_of_getElem? (i := 5) rfl) hk.2.2.2 0 rfl 0 nn 7 rfl (nI_clamp (by omega)) rfl (by decide) (nI_nlt (b := 0) (Nat.zero_le _) (by omega)) (by decide) (by decide) hn (fun j hj => (zy_ch 1 (by decide) (0 + j) (by omega)).1) (Nat.le_of_ble_eq_true rfl) (by decide +kernel) rfl dJ0_getBytes_840e7_22 (fun H locs hH => ?_)
  refine lv_goto (tgt := 43) hx hb dJ0_getBytes_840e7_25 (by decide) ?_
  exact z_vrety S hr hlocks () trivial hH dJ0_getBytes_840e7_43

theorem iJ5_inflateIfNeededFor_a7421_J4 : ∀ w ∈ wsJ40, w ∈ wsJ5_inflateIfNeededFor_a7421 := fun _ h => List.mem_cons_of_mem _ (List.mem_append_right _ h)
abbrev rm_c_iN1 : Room := { frames := 1, cells := 0, slots := 0, locals := 40 }
set_option maxHeartbeats 4000000 in
set_option maxRecDepth 100000 in
theorem c_iN1 (l : Launch) (G : va_G) (cy : Nat → ClassId) (E : Nat → Nat) (q_d q_v mm nn : Nat) (ml : Int32) (f : Nat → Int32) : zMy l G cy E yJ5_inflateIfNeededFor_a7421 wsJ5_inflateIfNeededFor_a7421 rm_c_iN1 [.ref q_d, .ref (E 1)] [(q_d, .inr (0, [.ref q_v, .int 0, .int ml, .int (nI nn)])), (q_v, .inl (cy 0, mm, .inl f))] (fun _ : Unit => none) (fun _ : Unit => [(q_d, .inr (0, [.ref q_v, .int 0, .int ml, .int (nI nn)])), (q_v, .inl (cy 0, mm, .inl f))]) (fun _ => True) 0 0 := by
  refine z_bodyy (cc := cJ5_inflateIfNeededFor_a7421) (maxL := 2) (ret := none) (by decide +kernel) rfl (Nat.le_of_ble_eq_true rfl) ?_
  intro p e s m below meth c ls S hr hlocks hnm hF hH hl
  have S : CallFix p m c cJ5_inflateIfNeededFor_a7421 2 s ([.ref q_d, .ref (E 1)] : List Value).toArray wsJ5_inflateIfNeededFor_a7421 RJ5 := S
  obtain ⟨hx, hb, hml, hown, hts⟩ := id S
  have hl : lv_has ls 2 [(0, .ref q_d), (1, .ref (E 1))] := hl
  refine va_gets (v := .int 1) hx hb hF.2.1.2.2.1 hH.2.2 hown (hts _ (List.mem_of_getElem? (i := 1) rfl)) (fun _ h9 => h9) dJ5_inflateIfNeededFor_a7421_0 ?_
  refine lv_if_eq (tgt := 21) hx hb dJ5_inflateIfNeededFor_a7421_3 (by decide) (fun b9 => absurd b9 (by decide)) (fun _ => ?_)
  refine lv_aload_n hx hb dJ5_inflateIfNeededFor_a7421_6 rfl (lv_at hl 0 rfl) ?_
  refine z_get S hF hH iJ5_inflateIfNeededFor_a7421_J4 0 rfl rfl 1 (by decide) (List.mem_of_getElem? (i := 2) rfl) rfl dJ5_inflateIfNeededFor_a7421_7 ?_
  refine lv_aload_n hx hb dJ5_inflateIfNeededFor_a7421_10 rfl (lv_at hl 1 rfl) ?_
  refine z_callVr (As := []) (rest := [.int 0]) (st1 := [.int 0, .int 0]) (ws' := [(q_d, .inr (0, [.ref q_v, .int 0, .int ml, .int (nI nn)])), (q_v, .inl (cy 0, mm, .inl f))]) S hF hH (c_J0_coder_7d493 l G cy E 1 (by decide)) (cwV 0 hts gJ5_inflateIfNeededFor_a7421_J0_coder_7d493 rfl rfl rfl (by decide +kernel) ⟨Nat.le_of_ble_eq_true rfl, Nat.le_of_ble_eq_true rfl⟩) (z_srec hF hH (by decide)) [] rfl (by decide) rfl rfl rfl rfl rfl hl.1 (Nat.le_of_ble_eq_true rfl) dJ5_inflateIfNeededFor_a7421_11 ⟨Nat.le_of_ble_eq_true rfl, Nat.le_of_ble_eq_true rfl⟩ (fun H locs hH => ?_)
  refine lv_icmp_eq (tgt := 21) hx hb dJ5_inflateIfNeededFor_a7421_14 (by decide) (fun _ => ?_) (fun b9 => absurd rfl b9)
  exact z_vrety S hr hlocks () trivial hH dJ5_inflateIfNeededFor_a7421_21

theorem iJ5_putStringAt_47b60_J4 : ∀ w ∈ wsJ40, w ∈ wsJ5_putStringAt_47b60 := fun _ h => List.mem_cons_of_mem _ (List.mem_append_right _ h)
abbrev rm_c_pS1 : Room := { frames := 3, cells := 0, slots := 0, locals := 120 }
set_option maxHeartbeats 4000000 in
set_option maxRecDepth 100000 in
theorem c_pS1 (l : Launch) (G : va_G) (cy : Nat → ClassId) (E : Nat → Nat) (q_d q_v mm nn : Nat) (ml : Int32) (f : Nat → Int32) (hn : nn + 7 ≤ mm) (hm : mm ≤ 34) : zMy l G cy E yJ5_putStringAt_47b60 wsJ5_putStringAt_47b60 rm_c_pS1 [.ref q_d, .int (nI nn), .ref (E 1)] [(q_d, .inr (0, [.ref q_v, .int 0, .int ml, .int (nI nn)])), (q_v, .inl (cy 0, mm, .inl f))] (fun _ : Unit => none) (fun _ : Unit => [(q_d, .inr (0, [.ref q_v, .int 0, .int ml, .int (nI nn)])), (q_v, .inl (cy 0, mm, .inl (va_cpy (zch 1) f 0 nn 7)))]) (fun _ => True) 0 0 := by
  refine z_bodyy (cc := cJ5_putStringAt_47b60) (maxL := 3) (ret := none) (by decide +kernel) rfl (Nat.le_of_ble_eq_true rfl) ?_
  intro p e s m below meth c ls S hr hlocks hnm hF hH hl
  have S : CallFix p m c cJ5_putStringAt_47b60 3 s ([.ref q_d, .int (nI nn), .ref (E 1)] : List Value).toArray wsJ5_putStringAt_47b60 RJ5 := S
  obtain ⟨hx, hb, hml, hown, hts⟩ := id S
  have hl : lv_has ls 3 [(0, .ref q_d), (1, .int (nI nn)), (2, .ref (E 1))] := hl
  refine lv_aload_n hx hb dJ5_putStringAt_47b60_0 rfl (lv_at hl 0 rfl) ?_
  refine lv_aload_n hx hb dJ5_putStringAt_47b60_1 rfl (lv_at hl 2 rfl) ?_
  refine z_callUy (wsx := (fun _ : Unit => [(q_d, .inr (0, [.ref q_v, .int 0, .int ml, .int (nI nn)])), (q_v, .inl (cy 0, mm, .inl f))])) (As := [.ref (E 1)]) (rest := []) S hF hH (c_iN1 l G cy E q_d q_v mm nn ml f) (va_cwU 1 hts gJ5_putStringAt_47b60_J5_inflateIfNeededFor_a7421_u397J4 rfl rfl rfl rfl (by decide +kernel) ⟨Nat.le_of_ble_eq_true rfl, Nat.le_of_ble_eq_true rfl⟩) 0 0 rfl rfl [0, 1] [] [0, 1] rfl rfl (by decide) (by decide) (by decide) (by decide) (fun _ => rfl) rfl rfl hl.1 (Nat.le_of_ble_eq_true rfl) dJ5_putStringAt_47b60_2 ⟨Nat.le_of_ble_eq_true rfl, Nat.le_of_ble_eq_true rfl⟩ (fun _ H locs _ hH => ?_)
  have hH : zH G (va_A [(q_d, .inr (0, [.ref q_v, .int 0, .int ml, .int (nI nn)])), (q_v, .inl (cy 0, mm, .inl f))] s.heap.size) s H locs [(q_d, .inr (0, [.ref q_v, .int 0, .int ml, .int (nI nn)])), (q_v, .inl (cy 0, mm, .inl f))] := hH
  refine lv_aload_n hx hb dJ5_putStringAt_47b60_5 rfl (lv_at hl 2 rfl) ?_
  refine lv_aload_n hx hb dJ5_putStringAt_47b60_6 rfl (lv_at hl 0 rfl) ?_
  refine z_get S hF hH iJ5_putStringAt_47b60_J4 0 rfl rfl 0 (by decide) (List.mem_of_getElem? (i := 1) rfl) rfl dJ5_putStringAt_47b60_7 ?_
  refine lv_iload_n hx hb dJ5_putStringAt_47b60_10 rfl (lv_at hl 1 rfl) ?_
  refine lv_aload_n hx hb dJ5_putStringAt_47b60_11 rfl (lv_at hl 0 rfl) ?_
  refine z_get S hF hH iJ5_putStringAt_47b60_J4 0 rfl rfl 1 (by decide) (List.mem_of_getElem? (i := 2) rfl) rfl dJ5_putStringAt_47b60_12 ?_
  refine z_callVry (wsx := (fun _ : Unit => [(q_d, .inr (0, [.ref q_v, .int 0, .int ml, .int (nI nn)])), (q_v, .inl (cy 0, mm, .inl (va_cpy (zch 1) f 0 nn 7)))])) (As := [.ref q_v, .int (nI nn), .int 0]) (rest := []) S hF hH (c_gB1 l G cy E q_v mm nn f hn hm) (cwV 3 hts gJ5_putStringAt_47b60_J0_getBytes_840e7 rfl rfl rfl (by decide +kernel) ⟨Nat.le_of_ble_eq_true rfl, Nat.le_of_ble_eq_true rfl⟩) (z_srec hF hH (by decide)) [1] [0] [0, 1] rfl rfl (by decide) (by decide) (by decide) (by decide) (fun _ => rfl) rfl rfl hl.1 (Nat.le_of_ble_eq_true rfl) dJ5_putStringAt_47b60_15 ⟨Nat.le_of_ble_eq_true rfl, Nat.le_of_ble_eq_true rfl⟩ (fun _ H locs _ hH => ?_)
  have hH : zH G (va_A [(q_d, .inr (0, [.ref q_v, .int 0, .int ml, .int (nI nn)])), (q_v, .inl (cy 0, mm, .inl f))] s.heap.size) s H locs [(q_d, .inr (0, [.ref q_v, .int 0, .int ml, .int (nI nn)])), (q_v, .inl (cy 0, mm, .inl (va_cpy (zch 1) f 0 nn 7)))] := hH
  exact z_vrety S hr hlocks () trivial hH dJ5_putStringAt_47b60_18

theorem iJ5_append_cf1ce_J4 : ∀ w ∈ wsJ40, w ∈ wsJ5_append_cf1ce := fun _ h => List.mem_cons_of_mem _ (List.mem_append_right _ h)
abbrev rm_c_apS51 : Room := { frames := 5, cells := 1, slots := 34, locals := 160 }
set_option maxHeartbeats 4000000 in
set_option maxRecDepth 100000 in
theorem c_apS51 (l : Launch) (G : va_G) (cy : Nat → ClassId) (E : Nat → Nat) (q_d q_v mm nn : Nat) (ml : Int32) (f : Nat → Int32) (t : Nat → Nat) (hm : mm = 16 ∨ mm = 34) (hn : nn ≤ mm) (hL : sb_Lat t nn f) (hfit : sb_Fit f) (h34 : nn + 7 ≤ 34) : zMy l G cy E yJ5_append_cf1ce wsJ5_append_cf1ce rm_c_apS51 [.ref q_d, .ref (E 1)] [(q_d, .inr (0, [.ref q_v, .int 0, .int ml, .int (nI nn)])), (q_v, .inl (cy 0, mm, .inl f))] (fun _ : Nat × Nat × (Nat → Int32) => some (.ref q_d)) (fun x : Nat × Nat × (Nat → Int32) => [(q_d, .inr (0, [.ref x.1, .int 0, .int ml, .int (nI (nn + 7))])), (x.1, .inl (cy 0, x.2.1, .inl x.2.2))]) (fun x : Nat × Nat × (Nat → Int32) => (x.2.1 = 16 ∨ x.2.1 = 34) ∧ nn + 7 ≤ x.2.1 ∧ sb_Lat (sb_cat t nn (fun j => (zch 1 j).toInt.toNat)) (nn + 7) x.2.2 ∧ sb_Fit x.2.2) 1 34 := by
  refine z_bodyy (cc := cJ5_append_cf1ce) (maxL := 3) (ret := some (.object "java/lang/AbstractStringBuilder")) (by decide +kernel) rfl (Nat.le_of_ble_eq_true rfl) ?_
  intro p e s m below meth c ls S hr hlocks hnm hF hH hl
  have S : CallFix p m c cJ5_append_cf1ce 3 s ([.ref q_d, .ref (E 1)] : List Value).toArray wsJ5_append_cf1ce RJ5 := S
  obtain ⟨hx, hb, hml, hown, hts⟩ := id S
  have hl : lv_has ls 3 [(0, .ref q_d), (1, .ref (E 1))] := hl
  refine lv_aload_n hx hb dJ5_append_cf1ce_0 rfl (lv_at hl 1 rfl) ?_
  refine lv_ifnonnull (tgt := 9) hx hb dJ5_append_cf1ce_1 (by decide) ?_
  refine lv_aload_n hx hb dJ5_append_cf1ce_9 rfl (lv_at hl 1 rfl) ?_
  refine z_callVr (As := []) (rest := []) (st1 := [.int (nI 7)]) (ws' := [(q_d, .inr (0, [.ref q_v, .int 0, .int ml, .int (nI nn)])), (q_v, .inl (cy 0, mm, .inl f))]) S hF hH (c_J0_length_8abf5 l G cy E 1 (by decide)) (cwV 0 hts gJ5_append_cf1ce_J0_length_8abf5 rfl rfl rfl (by decide +kernel) ⟨Nat.le_of_ble_eq_true rfl, Nat.le_of_ble_eq_true rfl⟩) (z_srec hF hH (by decide)) [] rfl (by decide) rfl rfl rfl rfl rfl hl.1 (Nat.le_of_ble_eq_true rfl) dJ5_append_cf1ce_10 ⟨Nat.le_of_ble_eq_true rfl, Nat.le_of_ble_eq_true rfl⟩ (fun H locs hH => ?_)
  refine lv_istore_n (lv' := [(2, .int (nI 7)), (0, .ref q_d), (1, .ref (E 1))]) hx hb dJ5_append_cf1ce_13 rfl hl (by decide) rfl (fun ls hl => ?_)
  refine lv_aload_n hx hb dJ5_append_cf1ce_14 rfl (lv_at hl 1 rfl) ?_
  refine lv_aload_n hx hb dJ5_append_cf1ce_15 rfl (lv_at hl 1 rfl) ?_
  refine z_get S hF hH iJ5_append_cf1ce_J4 0 rfl rfl 3 (by decide) (List.mem_of_getElem? (i := 1) rfl) rfl dJ5_append_cf1ce_16 ?_
  refine lv_iload_n hx hb dJ5_append_cf1ce_19 rfl (lv_at hl 0 rfl) ?_
  refine lv_iadd hx hb dJ5_append_cf1ce_20 ?_
  refine z_top (show ((nI (nn + 7)) : Int32) = ((nI nn) + (nI 7)) from (nI_add nn 7).symm) ?_
  refine z_callUy (wsx := (fun x : Nat × Nat × (Nat → Int32) => [(q_d, .inr (0, [.ref x.1, .int 0, .int ml, .int (nI nn)])), (x.1, .inl (cy 0, x.2.1, .inl x.2.2))])) (As := [.int (nI (nn + 7))]) (rest := []) S hF hH (c_ens l G cy E q_d q_v mm nn (nn + 7) ml f hm (by omega) hfit) (va_cwU 1 hts gJ5_append_cf1ce_J5_ensureCapacityInternal_d00df_u100J4 rfl rfl rfl rfl (by decide +kernel) ⟨Nat.le_of_ble_eq_true rfl, Nat.le_of_ble_eq_true rfl⟩) 0 0 rfl rfl [0, 1] [] [0, 1] rfl rfl (by decide) (by decide) (by decide) (by decide) (fun _ => rfl) rfl rfl hl.1 (Nat.le_of_ble_eq_true rfl) dJ5_append_cf1ce_21 ⟨Nat.le_of_ble_eq_true rfl, Nat.le_of_ble_eq_true rfl⟩ (fun x H locs px hH => ?_)
  have hH : zH G (va_A [(q_d, .inr (0, [.ref q_v, .int 0, .int ml, .int (nI nn)])), (q_v, .inl (cy 0, mm, .inl f))] s.heap.size) s H locs [(q_d, .inr (0, [.ref x.1, .int 0, .int ml, .int (nI nn)])), (x.1, .inl (cy 0, x.2.1, .inl x.2.2))] := hH
  have px1 : nn + 7 ≤ x.2.1 := px.1
  have px3 : x.2.1 = 16 ∨ x.2.1 = 34 := px.2.2.1
  refine lv_aload_n hx hb dJ5_append_cf1ce_24 rfl (lv_at hl 1 rfl) ?_
  refine lv_aload_n hx hb dJ5_append_cf1ce_25 rfl (lv_at hl 1 rfl) ?_
  refine z_get S hF hH iJ5_append_cf1ce_J4 0 rfl rfl 3 (by decide) (List.mem_of_getElem? (i := 1) rfl) rfl dJ5_append_cf1ce_26 ?_
  refine lv_aload_n hx hb dJ5_append_cf1ce_29 rfl (lv_at hl 2 rfl) ?_
  refine z_callUy (wsx := (fun _ : Unit => [(q_d, .inr (0, [.ref x.1, .int 0, .int ml, .int (nI nn)])), (x.1, .inl (cy 0, x.2.1, .inl (va_cpy (zch 1) x.2.2 0 nn 7)))])) (As := [.int (nI nn), .ref (E 1)]) (rest := []) S hF hH (c_pS1 l G cy E q_d x.1 x.2.1 nn ml x.2.2 px1 (by omega)) (va_cwU 2 hts gJ5_append_cf1ce_J5_putStringAt_47b60_u208J4 rfl rfl rfl rfl (by decide +kernel) ⟨Nat.le_of_ble_eq_true rfl, Nat.le_of_ble_eq_true rfl⟩) 0 0 rfl rfl [0, 1] [] [0, 1] rfl rfl (by decide) (by decide) (by decide) (by decide) (fun _ => rfl) rfl rfl hl.1 (Nat.le_of_ble_eq_true rfl) dJ5_append_cf1ce_30 ⟨Nat.le_of_ble_eq_true rfl, Nat.le_of_ble_eq_true rfl⟩ (fun _ H locs _ hH => ?_)
  have hH : zH G (va_A [(q_d, .inr (0, [.ref q_v, .int 0, .int ml, .int (nI nn)])), (q_v, .inl (cy 0, mm, .inl f))] s.heap.size) s H locs [(q_d, .inr (0, [.ref x.1, .int 0, .int ml, .int (nI nn)])), (x.1, .inl (cy 0, x.2.1, .inl (va_cpy (zch 1) x.2.2 0 nn 7)))] := hH
  refine lv_aload_n hx hb dJ5_append_cf1ce_33 rfl (lv_at hl 1 rfl) ?_
  refine lv_dup hx hb dJ5_append_cf1ce_34 rfl ?_
  refine z_get S hF hH iJ5_append_cf1ce_J4 0 rfl rfl 3 (by decide) (List.mem_of_getElem? (i := 1) rfl) rfl dJ5_append_cf1ce_35 ?_
  refine lv_iload_n hx hb dJ5_append_cf1ce_38 rfl (lv_at hl 0 rfl) ?_
  refine lv_iadd hx hb dJ5_append_cf1ce_39 ?_
  refine z_top (show ((nI (nn + 7)) : Int32) = ((nI nn) + (nI 7)) from (nI_add nn 7).symm) ?_
  refine z_put (ws' := [(q_d, .inr (0, [.ref x.1, .int 0, .int ml, .int (nI (nn + 7))])), (x.1, .inl (cy 0, x.2.1, .inl (va_cpy (zch 1) x.2.2 0 nn 7)))]) S hF hH iJ5_append_cf1ce_J4 tyJ4 tyJ4_ok nmJ4 0 rfl rfl 3 (by decide) (List.mem_of_getElem? (i := 1) rfl) rfl rfl rfl (Nat.le_of_ble_eq_true rfl) rfl dJ5_append_cf1ce_40 (fun H locs hH => ?_)
  refine lv_aload_n hx hb dJ5_append_cf1ce_43 rfl (lv_at hl 1 rfl) ?_
  exact z_arety S hr (Or.inl ⟨_, rfl⟩) hlocks (x.1, x.2.1, (va_cpy (zch 1) x.2.2 0 nn 7)) (show (x.2.1 = 16 ∨ x.2.1 = 34) ∧ nn + 7 ≤ x.2.1 ∧ sb_Lat (sb_cat t nn (fun j => (zch 1 j).toInt.toNat)) (nn + 7) (va_cpy (zch 1) x.2.2 0 nn 7) ∧ sb_Fit (va_cpy (zch 1) x.2.2 0 nn 7) from ⟨px3, px1, sb_latPut (w := 7) hL (fun j hj => by rw [pk_cpy_out (by omega)]; exact px.2.2.2.2 j (by omega)) (fun j hj => by have h8 := (zy_ch 1 (by decide) j (by omega)).2 hj; exact ⟨by show (zch 1 j).toInt.toNat < 256; omega, by rw [pk_cpy_in (by omega) (by omega), show 0 + (nn + j - nn) = j by omega]; exact h8.2⟩), sb_fitC (fun j => by by_cases h9 : j < 140; exact (zy_ch 1 (by decide) j h9).1; rw [zy_c1 j (by omega)]; rfl) px.2.2.2.1⟩) hH rfl dJ5_append_cf1ce_44

abbrev rm_c_apS1 : Room := { frames := 6, cells := 1, slots := 34, locals := 200 }
set_option maxHeartbeats 4000000 in
set_option maxRecDepth 100000 in
theorem c_apS1 (l : Launch) (G : va_G) (cy : Nat → ClassId) (E : Nat → Nat) (q_d q_v mm nn : Nat) (ml : Int32) (f : Nat → Int32) (t : Nat → Nat) (hm : mm = 16 ∨ mm = 34) (hn : nn ≤ mm) (hL : sb_Lat t nn f) (hfit : sb_Fit f) (h34 : nn + 7 ≤ 34) : zMy l G cy E yJ4_append_15ec4 wsJ4_append_15ec4 rm_c_apS1 [.ref q_d, .ref (E 1)] [(q_d, .inr (0, [.ref q_v, .int 0, .int ml, .int (nI nn)])), (q_v, .inl (cy 0, mm, .inl f))] (fun _ : Nat × Nat × (Nat → Int32) => some (.ref q_d)) (fun x : Nat × Nat × (Nat → Int32) => [(q_d, .inr (0, [.ref x.1, .int 0, .int ml, .int (nI (nn + 7))])), (x.1, .inl (cy 0, x.2.1, .inl x.2.2))]) (fun x : Nat × Nat × (Nat → Int32) => (x.2.1 = 16 ∨ x.2.1 = 34) ∧ nn + 7 ≤ x.2.1 ∧ sb_Lat (sb_cat t nn (fun j => (zch 1 j).toInt.toNat)) (nn + 7) x.2.2 ∧ sb_Fit x.2.2) 1 34 := by
  refine z_bodyy (cc := cJ4_append_15ec4) (maxL := 2) (ret := some (.object "java/lang/StringBuilder")) (by decide +kernel) rfl (Nat.le_of_ble_eq_true rfl) ?_
  intro p e s m below meth c ls S hr hlocks hnm hF hH hl
  have S : CallFix p m c cJ4_append_15ec4 2 s ([.ref q_d, .ref (E 1)] : List Value).toArray wsJ4_append_15ec4 RJ4 := S
  obtain ⟨hx, hb, hml, hown, hts⟩ := id S
  have hl : lv_has ls 2 [(0, .ref q_d), (1, .ref (E 1))] := hl
  refine lv_aload_n hx hb dJ4_append_15ec4_0 rfl (lv_at hl 0 rfl) ?_
  refine lv_aload_n hx hb dJ4_append_15ec4_1 rfl (lv_at hl 1 rfl) ?_
  refine z_callSUy (wsx := (fun x : Nat × Nat × (Nat → Int32) => [(q_d, .inr (0, [.ref x.1, .int 0, .int ml, .int (nI (nn + 7))])), (x.1, .inl (cy 0, x.2.1, .inl x.2.2))])) (As := [.ref (E 1)]) (rest := []) (hF.1.1 0 _ rfl).2 S hF hH (c_apS51 l G cy E q_d q_v mm nn ml f t hm hn hL hfit h34) (va_cwSU 1 hts gJ4_append_15ec4_J5_append_cf1ce_s29 rfl rfl rfl (by decide +kernel) ⟨Nat.le_of_ble_eq_true rfl, Nat.le_of_ble_eq_true rfl⟩) 0 0 rfl rfl [0, 1] [] [0, 1] rfl rfl (by decide) (by decide) (by decide) (by decide) (fun _ => rfl) rfl rfl hl.1 (Nat.le_of_ble_eq_true rfl) dJ4_append_15ec4_2 ⟨Nat.le_of_ble_eq_true rfl, Nat.le_of_ble_eq_true rfl⟩ (fun x H locs px hH => ?_)
  have hH : zH G (va_A [(q_d, .inr (0, [.ref q_v, .int 0, .int ml, .int (nI nn)])), (q_v, .inl (cy 0, mm, .inl f))] s.heap.size) s H locs [(q_d, .inr (0, [.ref x.1, .int 0, .int ml, .int (nI (nn + 7))])), (x.1, .inl (cy 0, x.2.1, .inl x.2.2))] := hH
  refine lv_pop hx hb dJ4_append_15ec4_5 rfl ?_
  refine lv_aload_n hx hb dJ4_append_15ec4_6 rfl (lv_at hl 0 rfl) ?_
  exact z_arety S hr (Or.inl ⟨_, rfl⟩) hlocks x px hH rfl dJ4_append_15ec4_7

abbrev rm_c_gB2 : Room := { frames := 2, cells := 0, slots := 0, locals := 80 }
set_option maxHeartbeats 4000000 in
set_option maxRecDepth 100000 in
theorem c_gB2 (l : Launch) (G : va_G) (cy : Nat → ClassId) (E : Nat → Nat) (q_v mm nn : Nat) (f : Nat → Int32) (hn : nn + 8 ≤ mm) (hm : mm ≤ 34) : zMy l G cy E yJ0_getBytes_840e7 wsJ0_getBytes_840e7 rm_c_gB2 [.ref (E 2), .ref q_v, .int (nI nn), .int 0] [(q_v, .inl (cy 0, mm, .inl f))] (fun _ : Unit => none) (fun _ : Unit => [(q_v, .inl (cy 0, mm, .inl (va_cpy (zch 2) f 0 nn 8)))]) (fun _ => True) 0 0 := by
  refine z_bodyy (cc := cJ0_getBytes_840e7) (maxL := 4) (ret := none) (by decide +kernel) rfl (Nat.le_of_ble_eq_true rfl) ?_
  intro p e s m below meth c ls S hr hlocks hnm hF hH hl
  have S : CallFix p m c cJ0_getBytes_840e7 4 s ([.ref (E 2), .ref q_v, .int (nI nn), .int 0] : List Value).toArray wsJ0_getBytes_840e7 RJ0 := S
  obtain ⟨hx, hb, hml, hown, hts⟩ := id S
  have hl : lv_has ls 4 [(0, .ref (E 2)), (1, .ref q_v), (2, .int (nI nn)), (3, .int 0)] := hl
  have hk := hF.2.1.2.2.2.2.1.1 2 (by decide)
  refine lv_aload_n hx hb dJ0_getBytes_840e7_0 rfl (lv_at hl 0 rfl) ?_
  refine z_callVr (As := []) (rest := []) (st1 := [.int 0]) (ws' := [(q_v, .inl (cy 0, mm, .inl f))]) S hF hH (c_J0_coder_7d493 l G cy E 2 (by decide)) (cwV 0 hts gJ0_getBytes_840e7_J0_coder_7d493 rfl rfl rfl (by decide +kernel) ⟨Nat.le_of_ble_eq_true rfl, Nat.le_of_ble_eq_true rfl⟩) (z_srec hF hH (by decide)) [] rfl (by decide) rfl rfl rfl rfl rfl hl.1 (Nat.le_of_ble_eq_true rfl) dJ0_getBytes_840e7_1 ⟨Nat.le_of_ble_eq_true rfl, Nat.le_of_ble_eq_true rfl⟩ (fun H locs hH => ?_)
  refine lv_iload_n hx hb dJ0_getBytes_840e7_4 rfl (lv_at hl 3 rfl) ?_
  refine lv_icmp_ne (tgt := 28) hx hb dJ0_getBytes_840e7_5 (by decide) (fun b9 => absurd rfl b9) (fun _ => ?_)
  refine lv_aload_n hx hb dJ0_getBytes_840e7_8 rfl (lv_at hl 0 rfl) ?_
  refine vk_getf hx hb hk.2.2.1 hH.2.2 hown (hts _ (List.mem_of_getElem? (i := 1) rfl)) (fun _ h9 => h9) dJ0_getBytes_840e7_9 ?_
  refine lv_iconst (v := 0) hx hb dJ0_getBytes_840e7_12 (by decide) ?_
  refine lv_aload_n hx hb dJ0_getBytes_840e7_13 rfl (lv_at hl 1 rfl) ?_
  refine lv_iload_n hx hb dJ0_getBytes_840e7_14 rfl (lv_at hl 2 rfl) ?_
  refine lv_iload_n hx hb dJ0_getBytes_840e7_15 rfl (lv_at hl 3 rfl) ?_
  refine lv_ishl hx hb dJ0_getBytes_840e7_16 ?_
  refine z_top (show ((nI nn) : Int32) = ((nI nn) <<< ((0 : Int32) &&& 31)) from (sb_shl0 (nI nn)).symm) ?_
  refine lv_aload_n hx hb dJ0_getBytes_840e7_17 rfl (lv_at hl 0 rfl) ?_
  refine vk_getf hx hb hk.2.2.1 hH.2.2 hown (hts _ (List.mem_of_getElem? (i := 1) rfl)) (fun _ h9 => h9) dJ0_getBytes_840e7_18 ?_
  refine va_tlen (v := nI 8) hx hb hk.2.2.2 hH.2.2 rfl dJ0_getBytes_840e7_21 ?_
  refine z_copyt (f := zch 2) (ws' := [(q_v, .inl (cy 0, mm, .inl (va_cpy (zch 2) f 0 nn 8)))]) S hF hH hl.1 (List.mem_of_getElem? (i := 2) rfl) (List.mem_of_getElem? (i := 3) rfl) (List.mem_of_getElem? (i := 4) rfl) (List.mem_of_getElem? (i := 5) rfl) hk.2.2.2 0 rfl 0 nn 8 rfl (nI_clamp (by omega)) rfl (by decide) (nI_nlt (b := 0) (Nat.zero_le _) (by omega)) (by decide) (by decide) hn (fun j hj => (zy_ch 2 (by decide) (0 + j) (by omega)).1) (Nat.le_of_ble_eq_true rfl) (by decide +kernel) rfl dJ0_getBytes_840e7_22 (fun H locs hH => ?_)
  refine lv_goto (tgt := 43) hx hb dJ0_getBytes_840e7_25 (by decide) ?_
  exact z_vrety S hr hlocks () trivial hH dJ0_getBytes_840e7_43

abbrev rm_c_iN2 : Room := { frames := 1, cells := 0, slots := 0, locals := 40 }
set_option maxHeartbeats 4000000 in
set_option maxRecDepth 100000 in
theorem c_iN2 (l : Launch) (G : va_G) (cy : Nat → ClassId) (E : Nat → Nat) (q_d q_v mm nn : Nat) (ml : Int32) (f : Nat → Int32) : zMy l G cy E yJ5_inflateIfNeededFor_a7421 wsJ5_inflateIfNeededFor_a7421 rm_c_iN2 [.ref q_d, .ref (E 2)] [(q_d, .inr (0, [.ref q_v, .int 0, .int ml, .int (nI nn)])), (q_v, .inl (cy 0, mm, .inl f))] (fun _ : Unit => none) (fun _ : Unit => [(q_d, .inr (0, [.ref q_v, .int 0, .int ml, .int (nI nn)])), (q_v, .inl (cy 0, mm, .inl f))]) (fun _ => True) 0 0 := by
  refine z_bodyy (cc := cJ5_inflateIfNeededFor_a7421) (maxL := 2) (ret := none) (by decide +kernel) rfl (Nat.le_of_ble_eq_true rfl) ?_
  intro p e s m below meth c ls S hr hlocks hnm hF hH hl
  have S : CallFix p m c cJ5_inflateIfNeededFor_a7421 2 s ([.ref q_d, .ref (E 2)] : List Value).toArray wsJ5_inflateIfNeededFor_a7421 RJ5 := S
  obtain ⟨hx, hb, hml, hown, hts⟩ := id S
  have hl : lv_has ls 2 [(0, .ref q_d), (1, .ref (E 2))] := hl
  refine va_gets (v := .int 1) hx hb hF.2.1.2.2.1 hH.2.2 hown (hts _ (List.mem_of_getElem? (i := 1) rfl)) (fun _ h9 => h9) dJ5_inflateIfNeededFor_a7421_0 ?_
  refine lv_if_eq (tgt := 21) hx hb dJ5_inflateIfNeededFor_a7421_3 (by decide) (fun b9 => absurd b9 (by decide)) (fun _ => ?_)
  refine lv_aload_n hx hb dJ5_inflateIfNeededFor_a7421_6 rfl (lv_at hl 0 rfl) ?_
  refine z_get S hF hH iJ5_inflateIfNeededFor_a7421_J4 0 rfl rfl 1 (by decide) (List.mem_of_getElem? (i := 2) rfl) rfl dJ5_inflateIfNeededFor_a7421_7 ?_
  refine lv_aload_n hx hb dJ5_inflateIfNeededFor_a7421_10 rfl (lv_at hl 1 rfl) ?_
  refine z_callVr (As := []) (rest := [.int 0]) (st1 := [.int 0, .int 0]) (ws' := [(q_d, .inr (0, [.ref q_v, .int 0, .int ml, .int (nI nn)])), (q_v, .inl (cy 0, mm, .inl f))]) S hF hH (c_J0_coder_7d493 l G cy E 2 (by decide)) (cwV 0 hts gJ5_inflateIfNeededFor_a7421_J0_coder_7d493 rfl rfl rfl (by decide +kernel) ⟨Nat.le_of_ble_eq_true rfl, Nat.le_of_ble_eq_true rfl⟩) (z_srec hF hH (by decide)) [] rfl (by decide) rfl rfl rfl rfl rfl hl.1 (Nat.le_of_ble_eq_true rfl) dJ5_inflateIfNeededFor_a7421_11 ⟨Nat.le_of_ble_eq_true rfl, Nat.le_of_ble_eq_true rfl⟩ (fun H locs hH => ?_)
  refine lv_icmp_eq (tgt := 21) hx hb dJ5_inflateIfNeededFor_a7421_14 (by decide) (fun _ => ?_) (fun b9 => absurd rfl b9)
  exact z_vrety S hr hlocks () trivial hH dJ5_inflateIfNeededFor_a7421_21

abbrev rm_c_pS2 : Room := { frames := 3, cells := 0, slots := 0, locals := 120 }
set_option maxHeartbeats 4000000 in
set_option maxRecDepth 100000 in
theorem c_pS2 (l : Launch) (G : va_G) (cy : Nat → ClassId) (E : Nat → Nat) (q_d q_v mm nn : Nat) (ml : Int32) (f : Nat → Int32) (hn : nn + 8 ≤ mm) (hm : mm ≤ 34) : zMy l G cy E yJ5_putStringAt_47b60 wsJ5_putStringAt_47b60 rm_c_pS2 [.ref q_d, .int (nI nn), .ref (E 2)] [(q_d, .inr (0, [.ref q_v, .int 0, .int ml, .int (nI nn)])), (q_v, .inl (cy 0, mm, .inl f))] (fun _ : Unit => none) (fun _ : Unit => [(q_d, .inr (0, [.ref q_v, .int 0, .int ml, .int (nI nn)])), (q_v, .inl (cy 0, mm, .inl (va_cpy (zch 2) f 0 nn 8)))]) (fun _ => True) 0 0 := by
  refine z_bodyy (cc := cJ5_putStringAt_47b60) (maxL := 3) (ret := none) (by decide +kernel) rfl (Nat.le_of_ble_eq_true rfl) ?_
  intro p e s m below meth c ls S hr hlocks hnm hF hH hl
  have S : CallFix p m c cJ5_putStringAt_47b60 3 s ([.ref q_d, .int (nI nn), .ref (E 2)] : List Value).toArray wsJ5_putStringAt_47b60 RJ5 := S
  obtain ⟨hx, hb, hml, hown, hts⟩ := id S
  have hl : lv_has ls 3 [(0, .ref q_d), (1, .int (nI nn)), (2, .ref (E 2))] := hl
  refine lv_aload_n hx hb dJ5_putStringAt_47b60_0 rfl (lv_at hl 0 rfl) ?_
  refine lv_aload_n hx hb dJ5_putStringAt_47b60_1 rfl (lv_at hl 2 rfl) ?_
  refine z_callUy (wsx := (fun _ : Unit => [(q_d, .inr (0, [.ref q_v, .int 0, .int ml, .int (nI nn)])), (q_v, .inl (cy 0, mm, .inl f))])) (As := [.ref (E 2)]) (rest := []) S hF hH (c_iN2 l G cy E q_d q_v mm nn ml f) (va_cwU 1 hts gJ5_putStringAt_47b60_J5_inflateIfNeededFor_a7421_u397J4 rfl rfl rfl rfl (by decide +kernel) ⟨Nat.le_of_ble_eq_true rfl, Nat.le_of_ble_eq_true rfl⟩) 0 0 rfl rfl [0, 1] [] [0, 1] rfl rfl (by decide) (by decide) (by decide) (by decide) (fun _ => rfl) rfl rfl hl.1 (Nat.le_of_ble_eq_true rfl) dJ5_putStringAt_47b60_2 ⟨Nat.le_of_ble_eq_true rfl, Nat.le_of_ble_eq_true rfl⟩ (fun _ H locs _ hH => ?_)
  have hH : zH G (va_A [(q_d, .inr (0, [.ref q_v, .int 0, .int ml, .int (nI nn)])), (q_v, .inl (cy 0, mm, .inl f))] s.heap.size) s H locs [(q_d, .inr (0, [.ref q_v, .int 0, .int ml, .int (nI nn)])), (q_v, .inl (cy 0, mm, .inl f))] := hH
  refine lv_aload_n hx hb dJ5_putStringAt_47b60_5 rfl (lv_at hl 2 rfl) ?_
  refine lv_aload_n hx hb dJ5_putStringAt_47b60_6 rfl (lv_at hl 0 rfl) ?_
  refine z_get S hF hH iJ5_putStringAt_47b60_J4 0 rfl rfl 0 (by decide) (List.mem_of_getElem? (i := 1) rfl) rfl dJ5_putStringAt_47b60_7 ?_
  refine lv_iload_n hx hb dJ5_putStringAt_47b60_10 rfl (lv_at hl 1 rfl) ?_
  refine lv_aload_n hx hb dJ5_putStringAt_47b60_11 rfl (lv_at hl 0 rfl) ?_
  refine z_get S hF hH iJ5_putStringAt_47b60_J4 0 rfl rfl 1 (by decide) (List.mem_of_getElem? (i := 2) rfl) rfl dJ5_putStringAt_47b60_12 ?_
  refine z_callVry (wsx := (fun _ : Unit => [(q_d, .inr (0, [.ref q_v, .int 0, .int ml, .int (nI nn)])), (q_v, .inl (cy 0, mm, .inl (va_cpy (zch 2) f 0 nn 8)))])) (As := [.ref q_v, .int (nI nn), .int 0]) (rest := []) S hF hH (c_gB2 l G cy E q_v mm nn f hn hm) (cwV 3 hts gJ5_putStringAt_47b60_J0_getBytes_840e7 rfl rfl rfl (by decide +kernel) ⟨Nat.le_of_ble_eq_true rfl, Nat.le_of_ble_eq_true rfl⟩) (z_srec hF hH (by decide)) [1] [0] [0, 1] rfl rfl (by decide) (by decide) (by decide) (by decide) (fun _ => rfl) rfl rfl hl.1 (Nat.le_of_ble_eq_true rfl) dJ5_putStringAt_47b60_15 ⟨Nat.le_of_ble_eq_true rfl, Nat.le_of_ble_eq_true rfl⟩ (fun _ H locs _ hH => ?_)
  have hH : zH G (va_A [(q_d, .inr (0, [.ref q_v, .int 0, .int ml, .int (nI nn)])), (q_v, .inl (cy 0, mm, .inl f))] s.heap.size) s H locs [(q_d, .inr (0, [.ref q_v, .int 0, .int ml, .int (nI nn)])), (q_v, .inl (cy 0, mm, .inl (va_cpy (zch 2) f 0 nn 8)))] := hH
  exact z_vrety S hr hlocks () trivial hH dJ5_putStringAt_47b60_18

abbrev rm_c_apS52 : Room := { frames := 5, cells := 1, slots := 34, locals := 160 }
set_option maxHeartbeats 4000000 in
set_option maxRecDepth 100000 in
theorem c_apS52 (l : Launch) (G : va_G) (cy : Nat → ClassId) (E : Nat → Nat) (q_d q_v mm nn : Nat) (ml : Int32) (f : Nat → Int32) (t : Nat → Nat) (hm : mm = 16 ∨ mm = 34) (hn : nn ≤ mm) (hL : sb_Lat t nn f) (hfit : sb_Fit f) (h34 : nn + 8 ≤ 34) : zMy l G cy E yJ5_append_cf1ce wsJ5_append_cf1ce rm_c_apS52 [.ref q_d, .ref (E 2)] [(q_d, .inr (0, [.ref q_v, .int 0, .int ml, .int (nI nn)])), (q_v, .inl (cy 0, mm, .inl f))] (fun _ : Nat × Nat × (Nat → Int32) => some (.ref q_d)) (fun x : Nat × Nat × (Nat → Int32) => [(q_d, .inr (0, [.ref x.1, .int 0, .int ml, .int (nI (nn + 8))])), (x.1, .inl (cy 0, x.2.1, .inl x.2.2))]) (fun x : Nat × Nat × (Nat → Int32) => (x.2.1 = 16 ∨ x.2.1 = 34) ∧ nn + 8 ≤ x.2.1 ∧ sb_Lat (sb_cat t nn (fun j => (zch 2 j).toInt.toNat)) (nn + 8) x.2.2 ∧ sb_Fit x.2.2) 1 34 := by
  refine z_bodyy (cc := cJ5_append_cf1ce) (maxL := 3) (ret := some (.object "java/lang/AbstractStringBuilder")) (by decide +kernel) rfl (Nat.le_of_ble_eq_true rfl) ?_
  intro p e s m below meth c ls S hr hlocks hnm hF hH hl
  have S : CallFix p m c cJ5_append_cf1ce 3 s ([.ref q_d, .ref (E 2)] : List Value).toArray wsJ5_append_cf1ce RJ5 := S
  obtain ⟨hx, hb, hml, hown, hts⟩ := id S
  have hl : lv_has ls 3 [(0, .ref q_d), (1, .ref (E 2))] := hl
  refine lv_aload_n hx hb dJ5_append_cf1ce_0 rfl (lv_at hl 1 rfl) ?_
  refine lv_ifnonnull (tgt := 9) hx hb dJ5_append_cf1ce_1 (by decide) ?_
  refine lv_aload_n hx hb dJ5_append_cf1ce_9 rfl (lv_at hl 1 rfl) ?_
  refine z_callVr (As := []) (rest := []) (st1 := [.int (nI 8)]) (ws' := [(q_d, .inr (0, [.ref q_v, .int 0, .int ml, .int (nI nn)])), (q_v, .inl (cy 0, mm, .inl f))]) S hF hH (c_J0_length_8abf5 l G cy E 2 (by decide)) (cwV 0 hts gJ5_append_cf1ce_J0_length_8abf5 rfl rfl rfl (by decide +kernel) ⟨Nat.le_of_ble_eq_true rfl, Nat.le_of_ble_eq_true rfl⟩) (z_srec hF hH (by decide)) [] rfl (by decide) rfl rfl rfl rfl rfl hl.1 (Nat.le_of_ble_eq_true rfl) dJ5_append_cf1ce_10 ⟨Nat.le_of_ble_eq_true rfl, Nat.le_of_ble_eq_true rfl⟩ (fun H locs hH => ?_)
  refine lv_istore_n (lv' := [(2, .int (nI 8)), (0, .ref q_d), (1, .ref (E 2))]) hx hb dJ5_append_cf1ce_13 rfl hl (by decide) rfl (fun ls hl => ?_)
  refine lv_aload_n hx hb dJ5_append_cf1ce_14 rfl (lv_at hl 1 rfl) ?_
  refine lv_aload_n hx hb dJ5_append_cf1ce_15 rfl (lv_at hl 1 rfl) ?_
  refine z_get S hF hH iJ5_append_cf1ce_J4 0 rfl rfl 3 (by decide) (List.mem_of_getElem? (i := 1) rfl) rfl dJ5_append_cf1ce_16 ?_
  refine lv_iload_n hx hb dJ5_append_cf1ce_19 rfl (lv_at hl 0 rfl) ?_
  refine lv_iadd hx hb dJ5_append_cf1ce_20 ?_
  refine z_top (show ((nI (nn + 8)) : Int32) = ((nI nn) + (nI 8)) from (nI_add nn 8).symm) ?_
  refine z_callUy (wsx := (fun x : Nat × Nat × (Nat → Int32) => [(q_d, .inr (0, [.ref x.1, .int 0, .int ml, .int (nI nn)])), (x.1, .inl (cy 0, x.2.1, .inl x.2.2))])) (As := [.int (nI (nn + 8))]) (rest := []) S hF hH (c_ens l G cy E q_d q_v mm nn (nn + 8) ml f hm (by omega) hfit) (va_cwU 1 hts gJ5_append_cf1ce_J5_ensureCapacityInternal_d00df_u100J4 rfl rfl rfl rfl (by decide +kernel) ⟨Nat.le_of_ble_eq_true rfl, Nat.le_of_ble_eq_true rfl⟩) 0 0 rfl rfl [0, 1] [] [0, 1] rfl rfl (by decide) (by decide) (by decide) (by decide) (fun _ => rfl) rfl rfl hl.1 (Nat.le_of_ble_eq_true rfl) dJ5_append_cf1ce_21 ⟨Nat.le_of_ble_eq_true rfl, Nat.le_of_ble_eq_true rfl⟩ (fun x H locs px hH => ?_)
  have hH : zH G (va_A [(q_d, .inr (0, [.ref q_v, .int 0, .int ml, .int (nI nn)])), (q_v, .inl (cy 0, mm, .inl f))] s.heap.size) s H locs [(q_d, .inr (0, [.ref x.1, .int 0, .int ml, .int (nI nn)])), (x.1, .inl (cy 0, x.2.1, .inl x.2.2))] := hH
  have px1 : nn + 8 ≤ x.2.1 := px.1
  have px3 : x.2.1 = 16 ∨ x.2.1 = 34 := px.2.2.1
  refine lv_aload_n hx hb dJ5_append_cf1ce_24 rfl (lv_at hl 1 rfl) ?_
  refine lv_aload_n hx hb dJ5_append_cf1ce_25 rfl (lv_at hl 1 rfl) ?_
  refine z_get S hF hH iJ5_append_cf1ce_J4 0 rfl rfl 3 (by decide) (List.mem_of_getElem? (i := 1) rfl) rfl dJ5_append_cf1ce_26 ?_
  refine lv_aload_n hx hb dJ5_append_cf1ce_29 rfl (lv_at hl 2 rfl) ?_
  refine z_callUy (wsx := (fun _ : Unit => [(q_d, .inr (0, [.ref x.1, .int 0, .int ml, .int (nI nn)])), (x.1, .inl (cy 0, x.2.1, .inl (va_cpy (zch 2) x.2.2 0 nn 8)))])) (As := [.int (nI nn), .ref (E 2)]) (rest := []) S hF hH (c_pS2 l G cy E q_d x.1 x.2.1 nn ml x.2.2 px1 (by omega)) (va_cwU 2 hts gJ5_append_cf1ce_J5_putStringAt_47b60_u208J4 rfl rfl rfl rfl (by decide +kernel) ⟨Nat.le_of_ble_eq_true rfl, Nat.le_of_ble_eq_true rfl⟩) 0 0 rfl rfl [0, 1] [] [0, 1] rfl rfl (by decide) (by decide) (by decide) (by decide) (fun _ => rfl) rfl rfl hl.1 (Nat.le_of_ble_eq_true rfl) dJ5_append_cf1ce_30 ⟨Nat.le_of_ble_eq_true rfl, Nat.le_of_ble_eq_true rfl⟩ (fun _ H locs _ hH => ?_)
  have hH : zH G (va_A [(q_d, .inr (0, [.ref q_v, .int 0, .int ml, .int (nI nn)])), (q_v, .inl (cy 0, mm, .inl f))] s.heap.size) s H locs [(q_d, .inr (0, [.ref x.1, .int 0, .int ml, .int (nI nn)])), (x.1, .inl (cy 0, x.2.1, .inl (va_cpy (zch 2) x.2.2 0 nn 8)))] := hH
  refine lv_aload_n hx hb dJ5_append_cf1ce_33 rfl (lv_at hl 1 rfl) ?_
  refine lv_dup hx hb dJ5_append_cf1ce_34 rfl ?_
  refine z_get S hF hH iJ5_append_cf1ce_J4 0 rfl rfl 3 (by decide) (List.mem_of_getElem? (i := 1) rfl) rfl dJ5_append_cf1ce_35 ?_
  refine lv_iload_n hx hb dJ5_append_cf1ce_38 rfl (lv_at hl 0 rfl) ?_
  refine lv_iadd hx hb dJ5_append_cf1ce_39 ?_
  refine z_top (show ((nI (nn + 8)) : Int32) = ((nI nn) + (nI 8)) from (nI_add nn 8).symm) ?_
  refine z_put (ws' := [(q_d, .inr (0, [.ref x.1, .int 0, .int ml, .int (nI (nn + 8))])), (x.1, .inl (cy 0, x.2.1, .inl (va_cpy (zch 2) x.2.2 0 nn 8)))]) S hF hH iJ5_append_cf1ce_J4 tyJ4 tyJ4_ok nmJ4 0 rfl rfl 3 (by decide) (List.mem_of_getElem? (i := 1) rfl) rfl rfl rfl (Nat.le_of_ble_eq_true rfl) rfl dJ5_append_cf1ce_40 (fun H locs hH => ?_)
  refine lv_aload_n hx hb dJ5_append_cf1ce_43 rfl (lv_at hl 1 rfl) ?_
  exact z_arety S hr (Or.inl ⟨_, rfl⟩) hlocks (x.1, x.2.1, (va_cpy (zch 2) x.2.2 0 nn 8)) (show (x.2.1 = 16 ∨ x.2.1 = 34) ∧ nn + 8 ≤ x.2.1 ∧ sb_Lat (sb_cat t nn (fun j => (zch 2 j).toInt.toNat)) (nn + 8) (va_cpy (zch 2) x.2.2 0 nn 8) ∧ sb_Fit (va_cpy (zch 2) x.2.2 0 nn 8) from ⟨px3, px1, sb_latPut (w := 8) hL (fun j hj => by rw [pk_cpy_out (by omega)]; exact px.2.2.2.2 j (by omega)) (fun j hj => by have h8 := (zy_ch 2 (by decide) j (by omega)).2 hj; exact ⟨by show (zch 2 j).toInt.toNat < 256; omega, by rw [pk_cpy_in (by omega) (by omega), show 0 + (nn + j - nn) = j by omega]; exact h8.2⟩), sb_fitC (fun j => by by_cases h9 : j < 140; exact (zy_ch 2 (by decide) j h9).1; rw [zy_c2 j (by omega)]; rfl) px.2.2.2.1⟩) hH rfl dJ5_append_cf1ce_44

abbrev rm_c_apS2 : Room := { frames := 6, cells := 1, slots := 34, locals := 200 }
set_option maxHeartbeats 4000000 in
set_option maxRecDepth 100000 in
theorem c_apS2 (l : Launch) (G : va_G) (cy : Nat → ClassId) (E : Nat → Nat) (q_d q_v mm nn : Nat) (ml : Int32) (f : Nat → Int32) (t : Nat → Nat) (hm : mm = 16 ∨ mm = 34) (hn : nn ≤ mm) (hL : sb_Lat t nn f) (hfit : sb_Fit f) (h34 : nn + 8 ≤ 34) : zMy l G cy E yJ4_append_15ec4 wsJ4_append_15ec4 rm_c_apS2 [.ref q_d, .ref (E 2)] [(q_d, .inr (0, [.ref q_v, .int 0, .int ml, .int (nI nn)])), (q_v, .inl (cy 0, mm, .inl f))] (fun _ : Nat × Nat × (Nat → Int32) => some (.ref q_d)) (fun x : Nat × Nat × (Nat → Int32) => [(q_d, .inr (0, [.ref x.1, .int 0, .int ml, .int (nI (nn + 8))])), (x.1, .inl (cy 0, x.2.1, .inl x.2.2))]) (fun x : Nat × Nat × (Nat → Int32) => (x.2.1 = 16 ∨ x.2.1 = 34) ∧ nn + 8 ≤ x.2.1 ∧ sb_Lat (sb_cat t nn (fun j => (zch 2 j).toInt.toNat)) (nn + 8) x.2.2 ∧ sb_Fit x.2.2) 1 34 := by
  refine z_bodyy (cc := cJ4_append_15ec4) (maxL := 2) (ret := some (.object "java/lang/StringBuilder")) (by decide +kernel) rfl (Nat.le_of_ble_eq_true rfl) ?_
  intro p e s m below meth c ls S hr hlocks hnm hF hH hl
  have S : CallFix p m c cJ4_append_15ec4 2 s ([.ref q_d, .ref (E 2)] : List Value).toArray wsJ4_append_15ec4 RJ4 := S
  obtain ⟨hx, hb, hml, hown, hts⟩ := id S
  have hl : lv_has ls 2 [(0, .ref q_d), (1, .ref (E 2))] := hl
  refine lv_aload_n hx hb dJ4_append_15ec4_0 rfl (lv_at hl 0 rfl) ?_
  refine lv_aload_n hx hb dJ4_append_15ec4_1 rfl (lv_at hl 1 rfl) ?_
  refine z_callSUy (wsx := (fun x : Nat × Nat × (Nat → Int32) => [(q_d, .inr (0, [.ref x.1, .int 0, .int ml, .int (nI (nn + 8))])), (x.1, .inl (cy 0, x.2.1, .inl x.2.2))])) (As := [.ref (E 2)]) (rest := []) (hF.1.1 0 _ rfl).2 S hF hH (c_apS52 l G cy E q_d q_v mm nn ml f t hm hn hL hfit h34) (va_cwSU 1 hts gJ4_append_15ec4_J5_append_cf1ce_s29 rfl rfl rfl (by decide +kernel) ⟨Nat.le_of_ble_eq_true rfl, Nat.le_of_ble_eq_true rfl⟩) 0 0 rfl rfl [0, 1] [] [0, 1] rfl rfl (by decide) (by decide) (by decide) (by decide) (fun _ => rfl) rfl rfl hl.1 (Nat.le_of_ble_eq_true rfl) dJ4_append_15ec4_2 ⟨Nat.le_of_ble_eq_true rfl, Nat.le_of_ble_eq_true rfl⟩ (fun x H locs px hH => ?_)
  have hH : zH G (va_A [(q_d, .inr (0, [.ref q_v, .int 0, .int ml, .int (nI nn)])), (q_v, .inl (cy 0, mm, .inl f))] s.heap.size) s H locs [(q_d, .inr (0, [.ref x.1, .int 0, .int ml, .int (nI (nn + 8))])), (x.1, .inl (cy 0, x.2.1, .inl x.2.2))] := hH
  refine lv_pop hx hb dJ4_append_15ec4_5 rfl ?_
  refine lv_aload_n hx hb dJ4_append_15ec4_6 rfl (lv_at hl 0 rfl) ?_
  exact z_arety S hr (Or.inl ⟨_, rfl⟩) hlocks x px hH rfl dJ4_append_15ec4_7

