abbrev wd_X2_takeNewName_clock (cy : Nat → ClassId) (q_t q_t_draft q_t_in q_t_draft_clockName q_t_draft_clockCorner q_t_draft_clockAhead q_t_draft_clockGain q_t_draft_masterName q_t_draft_masterCorner q_t_draft_masterLate q_t_draft_masterClock q_t_draft_masterMeets q_t_draft_meetName q_t_draft_meetDue q_t_in_tape q_t_in_kinds q_t_in_places q_t_in_values q_t_in_words : Nat) (t_waitTold : Int32) (t_draft_clocks : Int32) (t_draft_masters : Int32) (t_draft_meets : Int32) (t_draft_patience : Int32) (t_in_kind : Int32) (t_in_place : Int32) (t_in_value : Int32) (t_in_word : Int64) (t_in_fault : Int32) (t_in_faultPlace : Int32) (t_in_size : Int32) (t_in_taken : Int32) (t_draft_clockName : Nat → Int64) (t_draft_masterName : Nat → Int64) (t_draft_meetName : Nat → Int64) (t_in_kinds : Nat → Int32) (t_in_places : Nat → Int32) (t_in_values : Nat → Int32) (t_in_words : Nat → Int64) : va_W := [(q_t, .inr (3, [.ref q_t_draft, .ref q_t_in, .int t_waitTold])), (q_t_draft, .inr (2, [.int t_draft_clocks, .int t_draft_masters, .int t_draft_meets, .int t_draft_patience, .ref q_t_draft_clockName, .ref q_t_draft_clockCorner, .ref q_t_draft_clockAhead, .ref q_t_draft_clockGain, .ref q_t_draft_masterName, .ref q_t_draft_masterCorner, .ref q_t_draft_masterLate, .ref q_t_draft_masterClock, .ref q_t_draft_masterMeets, .ref q_t_draft_meetName, .ref q_t_draft_meetDue])), (q_t_in, .inr (9, [.int t_in_kind, .int t_in_place, .int t_in_value, .long t_in_word, .int t_in_fault, .int t_in_faultPlace, .ref q_t_in_tape, .int t_in_size, .int t_in_taken, .ref q_t_in_kinds, .ref q_t_in_places, .ref q_t_in_values, .ref q_t_in_words])), (q_t_draft_clockName, .inl (cy 2, 6, .inr (.inl t_draft_clockName))), (q_t_draft_masterName, .inl (cy 2, 6, .inr (.inl t_draft_masterName))), (q_t_draft_meetName, .inl (cy 2, 6, .inr (.inl t_draft_meetName))), (q_t_in_kinds, .inl (cy 1, 901, .inl t_in_kinds)), (q_t_in_places, .inl (cy 1, 901, .inl t_in_places)), (q_t_in_values, .inl (cy 1, 901, .inl t_in_values)), (q_t_in_words, .inl (cy 2, 901, .inr (.inl t_in_words)))]
theorem iX2_takeNewName_clock_X2 : ∀ w ∈ wsX20, w ∈ wsX2_takeNewName := fun _ h => List.mem_cons_of_mem _ (List.mem_append_left _ (List.mem_append_left _ (List.mem_append_right _ h)))
theorem iX2_takeNewName_clock_X8 : ∀ w ∈ wsX80, w ∈ wsX2_takeNewName := fun _ h => List.mem_cons_of_mem _ (List.mem_append_left _ (List.mem_append_right _ h))
abbrev rm_X2_takeNewName_clock : Room := { frames := 2, cells := 0, slots := 0, locals := 46 }
set_option maxRecDepth 100000 in
def f_X2_takeNewName_clock (N : Nat) (x1 : Int32) (t_draft_clocks : Int32) (t_draft_masters : Int32) (t_draft_meets : Int32) (t_in_kind : Int32) (t_in_place : Int32) (t_in_value : Int32) (t_in_word : Int64) (t_in_fault : Int32) (t_in_faultPlace : Int32) (t_in_size : Int32) (t_in_taken : Int32) (t_draft_clockName : Nat → Int64) (t_draft_masterName : Nat → Int64) (t_draft_meetName : Nat → Int64) (t_in_kinds : Nat → Int32) (t_in_places : Nat → Int32) (t_in_values : Nat → Int32) (t_in_words : Nat → Int64) : Option (Int32 × Int32 × Int32 × Int32 × Int64 × Int32 × Int32 × Int32 × (Nat → Int64)) := if t_in_kind = 2 then (zcl (f_X1_hasName N t_in_word t_draft_clocks t_draft_masters t_draft_meets t_draft_clockName t_draft_masterName t_draft_meetName) fun z31 => if z31 = 0 then (zck (zin x1 6) <| zbn (vp_updL t_draft_clockName (Int32.toNatClampNeg x1) t_in_word) fun f1 => zcl (f_X8_advance N t_in_kind t_in_place t_in_value t_in_word t_in_size t_in_taken t_in_kinds t_in_places t_in_values t_in_words) fun z60 => some (1, z60.1, z60.2.1, z60.2.2.1, z60.2.2.2.1, t_in_fault, t_in_faultPlace, z60.2.2.2.2, f1)) else (zcl (f_X8_refuse N 3 t_in_place t_in_fault t_in_faultPlace) fun z42 => zck (zbo z42.1) <| some (z42.1, t_in_kind, t_in_place, t_in_value, t_in_word, z42.2.1, z42.2.2, t_in_taken, t_draft_clockName))) else (zcl (f_X8_refuse N 1 t_in_place t_in_fault t_in_faultPlace) fun z16 => zck (zbo z16.1) <| some (z16.1, t_in_kind, t_in_place, t_in_value, t_in_word, z16.2.1, z16.2.2, t_in_taken, t_draft_clockName))
set_option maxHeartbeats 4000000 in
set_option maxRecDepth 100000 in
theorem c_X2_takeNewName_clock (l : Launch) (G : va_G) (cy : Nat → ClassId) (E : List (Nat × Cell)) (N : Nat) (q_t q_t_draft q_t_in q_t_draft_clockName q_t_draft_clockCorner q_t_draft_clockAhead q_t_draft_clockGain q_t_draft_masterName q_t_draft_masterCorner q_t_draft_masterLate q_t_draft_masterClock q_t_draft_masterMeets q_t_draft_meetName q_t_draft_meetDue q_t_in_tape q_t_in_kinds q_t_in_places q_t_in_values q_t_in_words : Nat) (t_waitTold : Int32) (t_draft_clocks : Int32) (t_draft_masters : Int32) (t_draft_meets : Int32) (t_draft_patience : Int32) (t_in_kind : Int32) (t_in_place : Int32) (t_in_value : Int32) (t_in_word : Int64) (t_in_fault : Int32) (t_in_faultPlace : Int32) (t_in_size : Int32) (t_in_taken : Int32) (t_draft_clockName : Nat → Int64) (t_draft_masterName : Nat → Int64) (t_draft_meetName : Nat → Int64) (t_in_kinds : Nat → Int32) (t_in_places : Nat → Int32) (t_in_values : Nat → Int32) (t_in_words : Nat → Int64) (x1 : Int32) (r : Int32) (r_t_in_kind : Int32) (r_t_in_place : Int32) (r_t_in_value : Int32) (r_t_in_word : Int64) (r_t_in_fault : Int32) (r_t_in_faultPlace : Int32) (r_t_in_taken : Int32) (r_t_draft_clockName : Nat → Int64) (h : f_X2_takeNewName_clock N x1 t_draft_clocks t_draft_masters t_draft_meets t_in_kind t_in_place t_in_value t_in_word t_in_fault t_in_faultPlace t_in_size t_in_taken t_draft_clockName t_draft_masterName t_draft_meetName t_in_kinds t_in_places t_in_values t_in_words = some (r, r_t_in_kind, r_t_in_place, r_t_in_value, r_t_in_word, r_t_in_fault, r_t_in_faultPlace, r_t_in_taken, r_t_draft_clockName)) : zM l G cy E yX2_takeNewName wsX2_takeNewName rm_X2_takeNewName_clock [.ref q_t, .ref q_t_draft_clockName, .int x1] (wd_X2_takeNewName_clock cy q_t q_t_draft q_t_in q_t_draft_clockName q_t_draft_clockCorner q_t_draft_clockAhead q_t_draft_clockGain q_t_draft_masterName q_t_draft_masterCorner q_t_draft_masterLate q_t_draft_masterClock q_t_draft_masterMeets q_t_draft_meetName q_t_draft_meetDue q_t_in_tape q_t_in_kinds q_t_in_places q_t_in_values q_t_in_words t_waitTold t_draft_clocks t_draft_masters t_draft_meets t_draft_patience t_in_kind t_in_place t_in_value t_in_word t_in_fault t_in_faultPlace t_in_size t_in_taken t_draft_clockName t_draft_masterName t_draft_meetName t_in_kinds t_in_places t_in_values t_in_words) (wd_X2_takeNewName_clock cy q_t q_t_draft q_t_in q_t_draft_clockName q_t_draft_clockCorner q_t_draft_clockAhead q_t_draft_clockGain q_t_draft_masterName q_t_draft_masterCorner q_t_draft_masterLate q_t_draft_masterClock q_t_draft_masterMeets q_t_draft_meetName q_t_draft_meetDue q_t_in_tape q_t_in_kinds q_t_in_places q_t_in_values q_t_in_words t_waitTold t_draft_clocks t_draft_masters t_draft_meets t_draft_patience r_t_in_kind r_t_in_place r_t_in_value r_t_in_word r_t_in_fault r_t_in_faultPlace t_in_size r_t_in_taken r_t_draft_clockName t_draft_masterName t_draft_meetName t_in_kinds t_in_places t_in_values t_in_words) (some (.int r)) 0 0 := by
  refine z_body (cc := cX2_takeNewName) (maxL := 3) (ret := some .boolean) (by decide) rfl (Nat.le_of_ble_eq_true rfl) ?_
  intro p e s m below meth c ls S hr hlocks hnm hF hH hl
  have S : CallFix p m c cX2_takeNewName 3 s ([.ref q_t, .ref q_t_draft_clockName, .int x1] : List Value).toArray wsX2_takeNewName RX2 := S
  obtain ⟨hx, hb, hml, hown, hts⟩ := id S
  have hl : lv_has ls 3 [(0, .ref q_t), (1, .ref q_t_draft_clockName), (2, .int x1)] := hl
  rw [f_X2_takeNewName_clock] at h
  refine lv_aload_n hx hb dX2_takeNewName_0 rfl (lv_at hl 0 rfl) ?_
  refine z_get S hF hH iX2_takeNewName_clock_X2 0 rfl rfl 1 (by decide) (List.mem_of_getElem? (i := 1) rfl) rfl dX2_takeNewName_1 ?_
  refine z_get S hF hH iX2_takeNewName_clock_X8 2 rfl rfl 0 (by decide) (List.mem_of_getElem? (i := 2) rfl) rfl dX2_takeNewName_4 ?_
  refine lv_iconst (v := 2) hx hb dX2_takeNewName_7 (by decide) ?_
  refine lv_icmp_eq (tgt := 20) hx hb dX2_takeNewName_8 (by decide) (fun b8 => ?_) (fun b8 => ?_)
  · replace h := zif_t b8 h
    refine lv_aload_n hx hb dX2_takeNewName_20 rfl (lv_at hl 0 rfl) ?_
    refine z_get S hF hH iX2_takeNewName_clock_X2 0 rfl rfl 0 (by decide) (List.mem_of_getElem? (i := 3) rfl) rfl dX2_takeNewName_21 ?_
    refine lv_aload_n hx hb dX2_takeNewName_24 rfl (lv_at hl 0 rfl) ?_
    refine z_get S hF hH iX2_takeNewName_clock_X2 0 rfl rfl 1 (by decide) (List.mem_of_getElem? (i := 1) rfl) rfl dX2_takeNewName_25 ?_
    refine z_get S hF hH iX2_takeNewName_clock_X8 2 rfl rfl 3 (by decide) (List.mem_of_getElem? (i := 4) rfl) rfl dX2_takeNewName_28 ?_
    obtain ⟨z31, hz31, h⟩ := zcl_e h
    refine z_callV (As := [.long t_in_word]) (rest := []) (st1 := [.int z31]) (ws' := (wd_X2_takeNewName_clock cy q_t q_t_draft q_t_in q_t_draft_clockName q_t_draft_clockCorner q_t_draft_clockAhead q_t_draft_clockGain q_t_draft_masterName q_t_draft_masterCorner q_t_draft_masterLate q_t_draft_masterClock q_t_draft_masterMeets q_t_draft_meetName q_t_draft_meetDue q_t_in_tape q_t_in_kinds q_t_in_places q_t_in_values q_t_in_words t_waitTold t_draft_clocks t_draft_masters t_draft_meets t_draft_patience t_in_kind t_in_place t_in_value t_in_word t_in_fault t_in_faultPlace t_in_size t_in_taken t_draft_clockName t_draft_masterName t_draft_meetName t_in_kinds t_in_places t_in_values t_in_words)) S hF hH (c_X1_hasName l G cy E N q_t_draft q_t_draft_clockName q_t_draft_clockCorner q_t_draft_clockAhead q_t_draft_clockGain q_t_draft_masterName q_t_draft_masterCorner q_t_draft_masterLate q_t_draft_masterClock q_t_draft_masterMeets q_t_draft_meetName q_t_draft_meetDue t_draft_clocks t_draft_masters t_draft_meets t_draft_patience t_draft_clockName t_draft_masterName t_draft_meetName t_in_word z31 hz31) (cwV 1 hts gX2_takeNewName_X1_hasName rfl rfl rfl (by decide +kernel) ⟨Nat.le_of_ble_eq_true rfl, Nat.le_of_ble_eq_true rfl⟩) 2 0 rfl rfl [1, 3, 4, 5] [0, 2, 6, 7, 8, 9] [0, 6, 1, 7, 8, 9, 2, 3, 4, 5] rfl rfl (by decide) (by decide) (by decide) (by decide) rfl rfl rfl rfl hl.1 (Nat.le_of_ble_eq_true rfl) dX2_takeNewName_31 ⟨Nat.le_of_ble_eq_true rfl, Nat.le_of_ble_eq_true rfl⟩ (fun H locs hH => ?_)
    refine lv_if_eq (tgt := 46) hx hb dX2_takeNewName_34 (by decide) (fun b34 => ?_) (fun b34 => ?_)
    · replace h := zif_t b34 h
      refine lv_aload_n hx hb dX2_takeNewName_46 rfl (lv_at hl 1 rfl) ?_
      refine lv_iload_n hx hb dX2_takeNewName_47 rfl (lv_at hl 2 rfl) ?_
      refine lv_aload_n hx hb dX2_takeNewName_48 rfl (lv_at hl 0 rfl) ?_
      refine z_get S hF hH iX2_takeNewName_clock_X2 0 rfl rfl 1 (by decide) (List.mem_of_getElem? (i := 1) rfl) rfl dX2_takeNewName_49 ?_
      refine z_get S hF hH iX2_takeNewName_clock_X8 2 rfl rfl 3 (by decide) (List.mem_of_getElem? (i := 4) rfl) rfl dX2_takeNewName_52 ?_
      obtain ⟨h55, h⟩ := zck_e h
      obtain ⟨f1, ef1, h⟩ := zbn_e h
      refine z_last (ws' := (wd_X2_takeNewName_clock cy q_t q_t_draft q_t_in q_t_draft_clockName q_t_draft_clockCorner q_t_draft_clockAhead q_t_draft_clockGain q_t_draft_masterName q_t_draft_masterCorner q_t_draft_masterLate q_t_draft_masterClock q_t_draft_masterMeets q_t_draft_meetName q_t_draft_meetDue q_t_in_tape q_t_in_kinds q_t_in_places q_t_in_values q_t_in_words t_waitTold t_draft_clocks t_draft_masters t_draft_meets t_draft_patience t_in_kind t_in_place t_in_value t_in_word t_in_fault t_in_faultPlace t_in_size t_in_taken f1 t_draft_masterName t_draft_meetName t_in_kinds t_in_places t_in_values t_in_words)) S hF hH 3 rfl h55 (by rw [ef1]; rfl) dX2_takeNewName_55 (fun H locs hH => ?_)
      clear ef1
      refine lv_aload_n hx hb dX2_takeNewName_56 rfl (lv_at hl 0 rfl) ?_
      refine z_get S hF hH iX2_takeNewName_clock_X2 0 rfl rfl 1 (by decide) (List.mem_of_getElem? (i := 1) rfl) rfl dX2_takeNewName_57 ?_
      obtain ⟨z60, hz60, h⟩ := zcl_e h
      refine z_callV (As := []) (rest := []) (st1 := []) (ws' := (wd_X2_takeNewName_clock cy q_t q_t_draft q_t_in q_t_draft_clockName q_t_draft_clockCorner q_t_draft_clockAhead q_t_draft_clockGain q_t_draft_masterName q_t_draft_masterCorner q_t_draft_masterLate q_t_draft_masterClock q_t_draft_masterMeets q_t_draft_meetName q_t_draft_meetDue q_t_in_tape q_t_in_kinds q_t_in_places q_t_in_values q_t_in_words t_waitTold t_draft_clocks t_draft_masters t_draft_meets t_draft_patience z60.1 z60.2.1 z60.2.2.1 z60.2.2.2.1 t_in_fault t_in_faultPlace t_in_size z60.2.2.2.2 f1 t_draft_masterName t_draft_meetName t_in_kinds t_in_places t_in_values t_in_words)) S hF hH (c_X8_advance l G cy E N q_t_in q_t_in_tape q_t_in_kinds q_t_in_places q_t_in_values q_t_in_words t_in_kind t_in_place t_in_value t_in_word t_in_fault t_in_faultPlace t_in_size t_in_taken t_in_kinds t_in_places t_in_values t_in_words z60.1 z60.2.1 z60.2.2.1 z60.2.2.2.1 z60.2.2.2.2 hz60) (cwV 0 hts gX2_takeNewName_X8_advance rfl rfl rfl (by decide +kernel) ⟨Nat.le_of_ble_eq_true rfl, Nat.le_of_ble_eq_true rfl⟩) 9 0 rfl rfl [2, 6, 7, 8, 9] [0, 1, 3, 4, 5] [0, 1, 5, 2, 3, 4, 6, 7, 8, 9] rfl rfl (by decide) (by decide) (by decide) (by decide) rfl rfl rfl rfl hl.1 (Nat.le_of_ble_eq_true rfl) dX2_takeNewName_60 ⟨Nat.le_of_ble_eq_true rfl, Nat.le_of_ble_eq_true rfl⟩ (fun H locs hH => ?_)
      refine lv_iconst (v := 1) hx hb dX2_takeNewName_63 (by decide) ?_
      cases h
      exact z_zret S hr hlocks hH rfl dX2_takeNewName_64
    · replace h := zif_f b34 h
      refine lv_aload_n hx hb dX2_takeNewName_37 rfl (lv_at hl 0 rfl) ?_
      refine z_get S hF hH iX2_takeNewName_clock_X2 0 rfl rfl 1 (by decide) (List.mem_of_getElem? (i := 1) rfl) rfl dX2_takeNewName_38 ?_
      refine lv_iconst (v := 3) hx hb dX2_takeNewName_41 (by decide) ?_
      obtain ⟨z42, hz42, h⟩ := zcl_e h
      refine z_callV (As := [.int 3]) (rest := []) (st1 := [.int z42.1]) (ws' := (wd_X2_takeNewName_clock cy q_t q_t_draft q_t_in q_t_draft_clockName q_t_draft_clockCorner q_t_draft_clockAhead q_t_draft_clockGain q_t_draft_masterName q_t_draft_masterCorner q_t_draft_masterLate q_t_draft_masterClock q_t_draft_masterMeets q_t_draft_meetName q_t_draft_meetDue q_t_in_tape q_t_in_kinds q_t_in_places q_t_in_values q_t_in_words t_waitTold t_draft_clocks t_draft_masters t_draft_meets t_draft_patience t_in_kind t_in_place t_in_value t_in_word z42.2.1 z42.2.2 t_in_size t_in_taken t_draft_clockName t_draft_masterName t_draft_meetName t_in_kinds t_in_places t_in_values t_in_words)) S hF hH (c_X8_refuse l G cy E N q_t_in q_t_in_tape q_t_in_kinds q_t_in_places q_t_in_values q_t_in_words t_in_kind t_in_place t_in_value t_in_word t_in_fault t_in_faultPlace t_in_size t_in_taken 3 z42.1 z42.2.1 z42.2.2 hz42) (cwV 1 hts gX2_takeNewName_X8_refuse rfl rfl rfl (by decide +kernel) ⟨Nat.le_of_ble_eq_true rfl, Nat.le_of_ble_eq_true rfl⟩) 9 0 rfl rfl [2] [0, 1, 3, 4, 5, 6, 7, 8, 9] [0, 1, 9, 2, 3, 4, 5, 6, 7, 8] rfl rfl (by decide) (by decide) (by decide) (by decide) rfl rfl rfl rfl hl.1 (Nat.le_of_ble_eq_true rfl) dX2_takeNewName_42 ⟨Nat.le_of_ble_eq_true rfl, Nat.le_of_ble_eq_true rfl⟩ (fun H locs hH => ?_)
      obtain ⟨h45, h⟩ := zck_e h
      cases h
      exact z_zret S hr hlocks hH h45 dX2_takeNewName_45
  · replace h := zif_f b8 h
    refine lv_aload_n hx hb dX2_takeNewName_11 rfl (lv_at hl 0 rfl) ?_
    refine z_get S hF hH iX2_takeNewName_clock_X2 0 rfl rfl 1 (by decide) (List.mem_of_getElem? (i := 1) rfl) rfl dX2_takeNewName_12 ?_
    refine lv_iconst (v := 1) hx hb dX2_takeNewName_15 (by decide) ?_
    obtain ⟨z16, hz16, h⟩ := zcl_e h
    refine z_callV (As := [.int 1]) (rest := []) (st1 := [.int z16.1]) (ws' := (wd_X2_takeNewName_clock cy q_t q_t_draft q_t_in q_t_draft_clockName q_t_draft_clockCorner q_t_draft_clockAhead q_t_draft_clockGain q_t_draft_masterName q_t_draft_masterCorner q_t_draft_masterLate q_t_draft_masterClock q_t_draft_masterMeets q_t_draft_meetName q_t_draft_meetDue q_t_in_tape q_t_in_kinds q_t_in_places q_t_in_values q_t_in_words t_waitTold t_draft_clocks t_draft_masters t_draft_meets t_draft_patience t_in_kind t_in_place t_in_value t_in_word z16.2.1 z16.2.2 t_in_size t_in_taken t_draft_clockName t_draft_masterName t_draft_meetName t_in_kinds t_in_places t_in_values t_in_words)) S hF hH (c_X8_refuse l G cy E N q_t_in q_t_in_tape q_t_in_kinds q_t_in_places q_t_in_values q_t_in_words t_in_kind t_in_place t_in_value t_in_word t_in_fault t_in_faultPlace t_in_size t_in_taken 1 z16.1 z16.2.1 z16.2.2 hz16) (cwV 1 hts gX2_takeNewName_X8_refuse rfl rfl rfl (by decide +kernel) ⟨Nat.le_of_ble_eq_true rfl, Nat.le_of_ble_eq_true rfl⟩) 9 0 rfl rfl [2] [0, 1, 3, 4, 5, 6, 7, 8, 9] [0, 1, 9, 2, 3, 4, 5, 6, 7, 8] rfl rfl (by decide) (by decide) (by decide) (by decide) rfl rfl rfl rfl hl.1 (Nat.le_of_ble_eq_true rfl) dX2_takeNewName_16 ⟨Nat.le_of_ble_eq_true rfl, Nat.le_of_ble_eq_true rfl⟩ (fun H locs hH => ?_)
    obtain ⟨h19, h⟩ := zck_e h
    cases h
    exact z_zret S hr hlocks hH h19 dX2_takeNewName_19
abbrev wd_X2_takeNewName_master (cy : Nat → ClassId) (q_t q_t_draft q_t_in q_t_draft_clockName q_t_draft_clockCorner q_t_draft_clockAhead q_t_draft_clockGain q_t_draft_masterName q_t_draft_masterCorner q_t_draft_masterLate q_t_draft_masterClock q_t_draft_masterMeets q_t_draft_meetName q_t_draft_meetDue q_t_in_tape q_t_in_kinds q_t_in_places q_t_in_values q_t_in_words : Nat) (t_waitTold : Int32) (t_draft_clocks : Int32) (t_draft_masters : Int32) (t_draft_meets : Int32) (t_draft_patience : Int32) (t_in_kind : Int32) (t_in_place : Int32) (t_in_value : Int32) (t_in_word : Int64) (t_in_fault : Int32) (t_in_faultPlace : Int32) (t_in_size : Int32) (t_in_taken : Int32) (t_draft_clockName : Nat → Int64) (t_draft_masterName : Nat → Int64) (t_draft_meetName : Nat → Int64) (t_in_kinds : Nat → Int32) (t_in_places : Nat → Int32) (t_in_values : Nat → Int32) (t_in_words : Nat → Int64) : va_W := [(q_t, .inr (3, [.ref q_t_draft, .ref q_t_in, .int t_waitTold])), (q_t_draft, .inr (2, [.int t_draft_clocks, .int t_draft_masters, .int t_draft_meets, .int t_draft_patience, .ref q_t_draft_clockName, .ref q_t_draft_clockCorner, .ref q_t_draft_clockAhead, .ref q_t_draft_clockGain, .ref q_t_draft_masterName, .ref q_t_draft_masterCorner, .ref q_t_draft_masterLate, .ref q_t_draft_masterClock, .ref q_t_draft_masterMeets, .ref q_t_draft_meetName, .ref q_t_draft_meetDue])), (q_t_in, .inr (9, [.int t_in_kind, .int t_in_place, .int t_in_value, .long t_in_word, .int t_in_fault, .int t_in_faultPlace, .ref q_t_in_tape, .int t_in_size, .int t_in_taken, .ref q_t_in_kinds, .ref q_t_in_places, .ref q_t_in_values, .ref q_t_in_words])), (q_t_draft_clockName, .inl (cy 2, 6, .inr (.inl t_draft_clockName))), (q_t_draft_masterName, .inl (cy 2, 6, .inr (.inl t_draft_masterName))), (q_t_draft_meetName, .inl (cy 2, 6, .inr (.inl t_draft_meetName))), (q_t_in_kinds, .inl (cy 1, 901, .inl t_in_kinds)), (q_t_in_places, .inl (cy 1, 901, .inl t_in_places)), (q_t_in_values, .inl (cy 1, 901, .inl t_in_values)), (q_t_in_words, .inl (cy 2, 901, .inr (.inl t_in_words)))]
theorem iX2_takeNewName_master_X2 : ∀ w ∈ wsX20, w ∈ wsX2_takeNewName := fun _ h => List.mem_cons_of_mem _ (List.mem_append_left _ (List.mem_append_left _ (List.mem_append_right _ h)))
theorem iX2_takeNewName_master_X8 : ∀ w ∈ wsX80, w ∈ wsX2_takeNewName := fun _ h => List.mem_cons_of_mem _ (List.mem_append_left _ (List.mem_append_right _ h))
abbrev rm_X2_takeNewName_master : Room := { frames := 2, cells := 0, slots := 0, locals := 46 }
set_option maxRecDepth 100000 in
def f_X2_takeNewName_master (N : Nat) (x1 : Int32) (t_draft_clocks : Int32) (t_draft_masters : Int32) (t_draft_meets : Int32) (t_in_kind : Int32) (t_in_place : Int32) (t_in_value : Int32) (t_in_word : Int64) (t_in_fault : Int32) (t_in_faultPlace : Int32) (t_in_size : Int32) (t_in_taken : Int32) (t_draft_clockName : Nat → Int64) (t_draft_masterName : Nat → Int64) (t_draft_meetName : Nat → Int64) (t_in_kinds : Nat → Int32) (t_in_places : Nat → Int32) (t_in_values : Nat → Int32) (t_in_words : Nat → Int64) : Option (Int32 × Int32 × Int32 × Int32 × Int64 × Int32 × Int32 × Int32 × (Nat → Int64)) := if t_in_kind = 2 then (zcl (f_X1_hasName N t_in_word t_draft_clocks t_draft_masters t_draft_meets t_draft_clockName t_draft_masterName t_draft_meetName) fun z31 => if z31 = 0 then (zck (zin x1 6) <| zbn (vp_updL t_draft_masterName (Int32.toNatClampNeg x1) t_in_word) fun f1 => zcl (f_X8_advance N t_in_kind t_in_place t_in_value t_in_word t_in_size t_in_taken t_in_kinds t_in_places t_in_values t_in_words) fun z60 => some (1, z60.1, z60.2.1, z60.2.2.1, z60.2.2.2.1, t_in_fault, t_in_faultPlace, z60.2.2.2.2, f1)) else (zcl (f_X8_refuse N 3 t_in_place t_in_fault t_in_faultPlace) fun z42 => zck (zbo z42.1) <| some (z42.1, t_in_kind, t_in_place, t_in_value, t_in_word, z42.2.1, z42.2.2, t_in_taken, t_draft_masterName))) else (zcl (f_X8_refuse N 1 t_in_place t_in_fault t_in_faultPlace) fun z16 => zck (zbo z16.1) <| some (z16.1, t_in_kind, t_in_place, t_in_value, t_in_word, z16.2.1, z16.2.2, t_in_taken, t_draft_masterName))
set_option maxHeartbeats 4000000 in
set_option maxRecDepth 100000 in
theorem c_X2_takeNewName_master (l : Launch) (G : va_G) (cy : Nat → ClassId) (E : List (Nat × Cell)) (N : Nat) (q_t q_t_draft q_t_in q_t_draft_clockName q_t_draft_clockCorner q_t_draft_clockAhead q_t_draft_clockGain q_t_draft_masterName q_t_draft_masterCorner q_t_draft_masterLate q_t_draft_masterClock q_t_draft_masterMeets q_t_draft_meetName q_t_draft_meetDue q_t_in_tape q_t_in_kinds q_t_in_places q_t_in_values q_t_in_words : Nat) (t_waitTold : Int32) (t_draft_clocks : Int32) (t_draft_masters : Int32) (t_draft_meets : Int32) (t_draft_patience : Int32) (t_in_kind : Int32) (t_in_place : Int32) (t_in_value : Int32) (t_in_word : Int64) (t_in_fault : Int32) (t_in_faultPlace : Int32) (t_in_size : Int32) (t_in_taken : Int32) (t_draft_clockName : Nat → Int64) (t_draft_masterName : Nat → Int64) (t_draft_meetName : Nat → Int64) (t_in_kinds : Nat → Int32) (t_in_places : Nat → Int32) (t_in_values : Nat → Int32) (t_in_words : Nat → Int64) (x1 : Int32) (r : Int32) (r_t_in_kind : Int32) (r_t_in_place : Int32) (r_t_in_value : Int32) (r_t_in_word : Int64) (r_t_in_fault : Int32) (r_t_in_faultPlace : Int32) (r_t_in_taken : Int32) (r_t_draft_masterName : Nat → Int64) (h : f_X2_takeNewName_master N x1 t_draft_clocks t_draft_masters t_draft_meets t_in_kind t_in_place t_in_value t_in_word t_in_fault t_in_faultPlace t_in_size t_in_taken t_draft_clockName t_draft_masterName t_draft_meetName t_in_kinds t_in_places t_in_values t_in_words = some (r, r_t_in_kind, r_t_in_place, r_t_in_value, r_t_in_word, r_t_in_fault, r_t_in_faultPlace, r_t_in_taken, r_t_draft_masterName)) : zM l G cy E yX2_takeNewName wsX2_takeNewName rm_X2_takeNewName_master [.ref q_t, .ref q_t_draft_masterName, .int x1] (wd_X2_takeNewName_master cy q_t q_t_draft q_t_in q_t_draft_clockName q_t_draft_clockCorner q_t_draft_clockAhead q_t_draft_clockGain q_t_draft_masterName q_t_draft_masterCorner q_t_draft_masterLate q_t_draft_masterClock q_t_draft_masterMeets q_t_draft_meetName q_t_draft_meetDue q_t_in_tape q_t_in_kinds q_t_in_places q_t_in_values q_t_in_words t_waitTold t_draft_clocks t_draft_masters t_draft_meets t_draft_patience t_in_kind t_in_place t_in_value t_in_word t_in_fault t_in_faultPlace t_in_size t_in_taken t_draft_clockName t_draft_masterName t_draft_meetName t_in_kinds t_in_places t_in_values t_in_words) (wd_X2_takeNewName_master cy q_t q_t_draft q_t_in q_t_draft_clockName q_t_draft_clockCorner q_t_draft_clockAhead q_t_draft_clockGain q_t_draft_masterName q_t_draft_masterCorner q_t_draft_masterLate q_t_draft_masterClock q_t_draft_masterMeets q_t_draft_meetName q_t_draft_meetDue q_t_in_tape q_t_in_kinds q_t_in_places q_t_in_values q_t_in_words t_waitTold t_draft_clocks t_draft_masters t_draft_meets t_draft_patience r_t_in_kind r_t_in_place r_t_in_value r_t_in_word r_t_in_fault r_t_in_faultPlace t_in_size r_t_in_taken t_draft_clockName r_t_draft_masterName t_draft_meetName t_in_kinds t_in_places t_in_values t_in_words) (some (.int r)) 0 0 := by
  refine z_body (cc := cX2_takeNewName) (maxL := 3) (ret := some .boolean) (by decide) rfl (Nat.le_of_ble_eq_true rfl) ?_
  intro p e s m below meth c ls S hr hlocks hnm hF hH hl
  have S : CallFix p m c cX2_takeNewName 3 s ([.ref q_t, .ref q_t_draft_masterName, .int x1] : List Value).toArray wsX2_takeNewName RX2 := S
  obtain ⟨hx, hb, hml, hown, hts⟩ := id S
  have hl : lv_has ls 3 [(0, .ref q_t), (1, .ref q_t_draft_masterName), (2, .int x1)] := hl
  rw [f_X2_takeNewName_master] at h
  refine lv_aload_n hx hb dX2_takeNewName_0 rfl (lv_at hl 0 rfl) ?_
  refine z_get S hF hH iX2_takeNewName_master_X2 0 rfl rfl 1 (by decide) (List.mem_of_getElem? (i := 1) rfl) rfl dX2_takeNewName_1 ?_
  refine z_get S hF hH iX2_takeNewName_master_X8 2 rfl rfl 0 (by decide) (List.mem_of_getElem? (i := 2) rfl) rfl dX2_takeNewName_4 ?_
  refine lv_iconst (v := 2) hx hb dX2_takeNewName_7 (by decide) ?_
  refine lv_icmp_eq (tgt := 20) hx hb dX2_takeNewName_8 (by decide) (fun b8 => ?_) (fun b8 => ?_)
  · replace h := zif_t b8 h
    refine lv_aload_n hx hb dX2_takeNewName_20 rfl (lv_at hl 0 rfl) ?_
    refine z_get S hF hH iX2_takeNewName_master_X2 0 rfl rfl 0 (by decide) (List.mem_of_getElem? (i := 3) rfl) rfl dX2_takeNewName_21 ?_
    refine lv_aload_n hx hb dX2_takeNewName_24 rfl (lv_at hl 0 rfl) ?_
    refine z_get S hF hH iX2_takeNewName_master_X2 0 rfl rfl 1 (by decide) (List.mem_of_getElem? (i := 1) rfl) rfl dX2_takeNewName_25 ?_
    refine z_get S hF hH iX2_takeNewName_master_X8 2 rfl rfl 3 (by decide) (List.mem_of_getElem? (i := 4) rfl) rfl dX2_takeNewName_28 ?_
    obtain ⟨z31, hz31, h⟩ := zcl_e h
    refine z_callV (As := [.long t_in_word]) (rest := []) (st1 := [.int z31]) (ws' := (wd_X2_takeNewName_master cy q_t q_t_draft q_t_in q_t_draft_clockName q_t_draft_clockCorner q_t_draft_clockAhead q_t_draft_clockGain q_t_draft_masterName q_t_draft_masterCorner q_t_draft_masterLate q_t_draft_masterClock q_t_draft_masterMeets q_t_draft_meetName q_t_draft_meetDue q_t_in_tape q_t_in_kinds q_t_in_places q_t_in_values q_t_in_words t_waitTold t_draft_clocks t_draft_masters t_draft_meets t_draft_patience t_in_kind t_in_place t_in_value t_in_word t_in_fault t_in_faultPlace t_in_size t_in_taken t_draft_clockName t_draft_masterName t_draft_meetName t_in_kinds t_in_places t_in_values t_in_words)) S hF hH (c_X1_hasName l G cy E N q_t_draft q_t_draft_clockName q_t_draft_clockCorner q_t_draft_clockAhead q_t_draft_clockGain q_t_draft_masterName q_t_draft_masterCorner q_t_draft_masterLate q_t_draft_masterClock q_t_draft_masterMeets q_t_draft_meetName q_t_draft_meetDue t_draft_clocks t_draft_masters t_draft_meets t_draft_patience t_draft_clockName t_draft_masterName t_draft_meetName t_in_word z31 hz31) (cwV 1 hts gX2_takeNewName_X1_hasName rfl rfl rfl (by decide +kernel) ⟨Nat.le_of_ble_eq_true rfl, Nat.le_of_ble_eq_true rfl⟩) 2 0 rfl rfl [1, 3, 4, 5] [0, 2, 6, 7, 8, 9] [0, 6, 1, 7, 8, 9, 2, 3, 4, 5] rfl rfl (by decide) (by decide) (by decide) (by decide) rfl rfl rfl rfl hl.1 (Nat.le_of_ble_eq_true rfl) dX2_takeNewName_31 ⟨Nat.le_of_ble_eq_true rfl, Nat.le_of_ble_eq_true rfl⟩ (fun H locs hH => ?_)
    refine lv_if_eq (tgt := 46) hx hb dX2_takeNewName_34 (by decide) (fun b34 => ?_) (fun b34 => ?_)
    · replace h := zif_t b34 h
      refine lv_aload_n hx hb dX2_takeNewName_46 rfl (lv_at hl 1 rfl) ?_
      refine lv_iload_n hx hb dX2_takeNewName_47 rfl (lv_at hl 2 rfl) ?_
      refine lv_aload_n hx hb dX2_takeNewName_48 rfl (lv_at hl 0 rfl) ?_
      refine z_get S hF hH iX2_takeNewName_master_X2 0 rfl rfl 1 (by decide) (List.mem_of_getElem? (i := 1) rfl) rfl dX2_takeNewName_49 ?_
      refine z_get S hF hH iX2_takeNewName_master_X8 2 rfl rfl 3 (by decide) (List.mem_of_getElem? (i := 4) rfl) rfl dX2_takeNewName_52 ?_
      obtain ⟨h55, h⟩ := zck_e h
      obtain ⟨f1, ef1, h⟩ := zbn_e h
      refine z_last (ws' := (wd_X2_takeNewName_master cy q_t q_t_draft q_t_in q_t_draft_clockName q_t_draft_clockCorner q_t_draft_clockAhead q_t_draft_clockGain q_t_draft_masterName q_t_draft_masterCorner q_t_draft_masterLate q_t_draft_masterClock q_t_draft_masterMeets q_t_draft_meetName q_t_draft_meetDue q_t_in_tape q_t_in_kinds q_t_in_places q_t_in_values q_t_in_words t_waitTold t_draft_clocks t_draft_masters t_draft_meets t_draft_patience t_in_kind t_in_place t_in_value t_in_word t_in_fault t_in_faultPlace t_in_size t_in_taken t_draft_clockName f1 t_draft_meetName t_in_kinds t_in_places t_in_values t_in_words)) S hF hH 4 rfl h55 (by rw [ef1]; rfl) dX2_takeNewName_55 (fun H locs hH => ?_)
      clear ef1
      refine lv_aload_n hx hb dX2_takeNewName_56 rfl (lv_at hl 0 rfl) ?_
      refine z_get S hF hH iX2_takeNewName_master_X2 0 rfl rfl 1 (by decide) (List.mem_of_getElem? (i := 1) rfl) rfl dX2_takeNewName_57 ?_
      obtain ⟨z60, hz60, h⟩ := zcl_e h
      refine z_callV (As := []) (rest := []) (st1 := []) (ws' := (wd_X2_takeNewName_master cy q_t q_t_draft q_t_in q_t_draft_clockName q_t_draft_clockCorner q_t_draft_clockAhead q_t_draft_clockGain q_t_draft_masterName q_t_draft_masterCorner q_t_draft_masterLate q_t_draft_masterClock q_t_draft_masterMeets q_t_draft_meetName q_t_draft_meetDue q_t_in_tape q_t_in_kinds q_t_in_places q_t_in_values q_t_in_words t_waitTold t_draft_clocks t_draft_masters t_draft_meets t_draft_patience z60.1 z60.2.1 z60.2.2.1 z60.2.2.2.1 t_in_fault t_in_faultPlace t_in_size z60.2.2.2.2 t_draft_clockName f1 t_draft_meetName t_in_kinds t_in_places t_in_values t_in_words)) S hF hH (c_X8_advance l G cy E N q_t_in q_t_in_tape q_t_in_kinds q_t_in_places q_t_in_values q_t_in_words t_in_kind t_in_place t_in_value t_in_word t_in_fault t_in_faultPlace t_in_size t_in_taken t_in_kinds t_in_places t_in_values t_in_words z60.1 z60.2.1 z60.2.2.1 z60.2.2.2.1 z60.2.2.2.2 hz60) (cwV 0 hts gX2_takeNewName_X8_advance rfl rfl rfl (by decide +kernel) ⟨Nat.le_of_ble_eq_true rfl, Nat.le_of_ble_eq_true rfl⟩) 9 0 rfl rfl [2, 6, 7, 8, 9] [0, 1, 3, 4, 5] [0, 1, 5, 2, 3, 4, 6, 7, 8, 9] rfl rfl (by decide) (by decide) (by decide) (by decide) rfl rfl rfl rfl hl.1 (Nat.le_of_ble_eq_true rfl) dX2_takeNewName_60 ⟨Nat.le_of_ble_eq_true rfl, Nat.le_of_ble_eq_true rfl⟩ (fun H locs hH => ?_)
      refine lv_iconst (v := 1) hx hb dX2_takeNewName_63 (by decide) ?_
      cases h
      exact z_zret S hr hlocks hH rfl dX2_takeNewName_64
    · replace h := zif_f b34 h
      refine lv_aload_n hx hb dX2_takeNewName_37 rfl (lv_at hl 0 rfl) ?_
      refine z_get S hF hH iX2_takeNewName_master_X2 0 rfl rfl 1 (by decide) (List.mem_of_getElem? (i := 1) rfl) rfl dX2_takeNewName_38 ?_
      refine lv_iconst (v := 3) hx hb dX2_takeNewName_41 (by decide) ?_
      obtain ⟨z42, hz42, h⟩ := zcl_e h
      refine z_callV (As := [.int 3]) (rest := []) (st1 := [.int z42.1]) (ws' := (wd_X2_takeNewName_master cy q_t q_t_draft q_t_in q_t_draft_clockName q_t_draft_clockCorner q_t_draft_clockAhead q_t_draft_clockGain q_t_draft_masterName q_t_draft_masterCorner q_t_draft_masterLate q_t_draft_masterClock q_t_draft_masterMeets q_t_draft_meetName q_t_draft_meetDue q_t_in_tape q_t_in_kinds q_t_in_places q_t_in_values q_t_in_words t_waitTold t_draft_clocks t_draft_masters t_draft_meets t_draft_patience t_in_kind t_in_place t_in_value t_in_word z42.2.1 z42.2.2 t_in_size t_in_taken t_draft_clockName t_draft_masterName t_draft_meetName t_in_kinds t_in_places t_in_values t_in_words)) S hF hH (c_X8_refuse l G cy E N q_t_in q_t_in_tape q_t_in_kinds q_t_in_places q_t_in_values q_t_in_words t_in_kind t_in_place t_in_value t_in_word t_in_fault t_in_faultPlace t_in_size t_in_taken 3 z42.1 z42.2.1 z42.2.2 hz42) (cwV 1 hts gX2_takeNewName_X8_refuse rfl rfl rfl (by decide +kernel) ⟨Nat.le_of_ble_eq_true rfl, Nat.le_of_ble_eq_true rfl⟩) 9 0 rfl rfl [2] [0, 1, 3, 4, 5, 6, 7, 8, 9] [0, 1, 9, 2, 3, 4, 5, 6, 7, 8] rfl rfl (by decide) (by decide) (by decide) (by decide) rfl rfl rfl rfl hl.1 (Nat.le_of_ble_eq_true rfl) dX2_takeNewName_42 ⟨Nat.le_of_ble_eq_true rfl, Nat.le_of_ble_eq_true rfl⟩ (fun H locs hH => ?_)
      obtain ⟨h45, h⟩ := zck_e h
      cases h
      exact z_zret S hr hlocks hH h45 dX2_takeNewName_45
  · replace h := zif_f b8 h
    refine lv_aload_n hx hb dX2_takeNewName_11 rfl (lv_at hl 0 rfl) ?_
    refine z_get S hF hH iX2_takeNewName_master_X2 0 rfl rfl 1 (by decide) (List.mem_of_getElem? (i := 1) rfl) rfl dX2_takeNewName_12 ?_
    refine lv_iconst (v := 1) hx hb dX2_takeNewName_15 (by decide) ?_
    obtain ⟨z16, hz16, h⟩ := zcl_e h
    refine z_callV (As := [.int 1]) (rest := []) (st1 := [.int z16.1]) (ws' := (wd_X2_takeNewName_master cy q_t q_t_draft q_t_in q_t_draft_clockName q_t_draft_clockCorner q_t_draft_clockAhead q_t_draft_clockGain q_t_draft_masterName q_t_draft_masterCorner q_t_draft_masterLate q_t_draft_masterClock q_t_draft_masterMeets q_t_draft_meetName q_t_draft_meetDue q_t_in_tape q_t_in_kinds q_t_in_places q_t_in_values q_t_in_words t_waitTold t_draft_clocks t_draft_masters t_draft_meets t_draft_patience t_in_kind t_in_place t_in_value t_in_word z16.2.1 z16.2.2 t_in_size t_in_taken t_draft_clockName t_draft_masterName t_draft_meetName t_in_kinds t_in_places t_in_values t_in_words)) S hF hH (c_X8_refuse l G cy E N q_t_in q_t_in_tape q_t_in_kinds q_t_in_places q_t_in_values q_t_in_words t_in_kind t_in_place t_in_value t_in_word t_in_fault t_in_faultPlace t_in_size t_in_taken 1 z16.1 z16.2.1 z16.2.2 hz16) (cwV 1 hts gX2_takeNewName_X8_refuse rfl rfl rfl (by decide +kernel) ⟨Nat.le_of_ble_eq_true rfl, Nat.le_of_ble_eq_true rfl⟩) 9 0 rfl rfl [2] [0, 1, 3, 4, 5, 6, 7, 8, 9] [0, 1, 9, 2, 3, 4, 5, 6, 7, 8] rfl rfl (by decide) (by decide) (by decide) (by decide) rfl rfl rfl rfl hl.1 (Nat.le_of_ble_eq_true rfl) dX2_takeNewName_16 ⟨Nat.le_of_ble_eq_true rfl, Nat.le_of_ble_eq_true rfl⟩ (fun H locs hH => ?_)
    obtain ⟨h19, h⟩ := zck_e h
    cases h
    exact z_zret S hr hlocks hH h19 dX2_takeNewName_19
abbrev wd_X2_takeNewName_meet (cy : Nat → ClassId) (q_t q_t_draft q_t_in q_t_draft_clockName q_t_draft_clockCorner q_t_draft_clockAhead q_t_draft_clockGain q_t_draft_masterName q_t_draft_masterCorner q_t_draft_masterLate q_t_draft_masterClock q_t_draft_masterMeets q_t_draft_meetName q_t_draft_meetDue q_t_in_tape q_t_in_kinds q_t_in_places q_t_in_values q_t_in_words : Nat) (t_waitTold : Int32) (t_draft_clocks : Int32) (t_draft_masters : Int32) (t_draft_meets : Int32) (t_draft_patience : Int32) (t_in_kind : Int32) (t_in_place : Int32) (t_in_value : Int32) (t_in_word : Int64) (t_in_fault : Int32) (t_in_faultPlace : Int32) (t_in_size : Int32) (t_in_taken : Int32) (t_draft_clockName : Nat → Int64) (t_draft_masterName : Nat → Int64) (t_draft_meetName : Nat → Int64) (t_in_kinds : Nat → Int32) (t_in_places : Nat → Int32) (t_in_values : Nat → Int32) (t_in_words : Nat → Int64) : va_W := [(q_t, .inr (3, [.ref q_t_draft, .ref q_t_in, .int t_waitTold])), (q_t_draft, .inr (2, [.int t_draft_clocks, .int t_draft_masters, .int t_draft_meets, .int t_draft_patience, .ref q_t_draft_clockName, .ref q_t_draft_clockCorner, .ref q_t_draft_clockAhead, .ref q_t_draft_clockGain, .ref q_t_draft_masterName, .ref q_t_draft_masterCorner, .ref q_t_draft_masterLate, .ref q_t_draft_masterClock, .ref q_t_draft_masterMeets, .ref q_t_draft_meetName, .ref q_t_draft_meetDue])), (q_t_in, .inr (9, [.int t_in_kind, .int t_in_place, .int t_in_value, .long t_in_word, .int t_in_fault, .int t_in_faultPlace, .ref q_t_in_tape, .int t_in_size, .int t_in_taken, .ref q_t_in_kinds, .ref q_t_in_places, .ref q_t_in_values, .ref q_t_in_words])), (q_t_draft_clockName, .inl (cy 2, 6, .inr (.inl t_draft_clockName))), (q_t_draft_masterName, .inl (cy 2, 6, .inr (.inl t_draft_masterName))), (q_t_draft_meetName, .inl (cy 2, 6, .inr (.inl t_draft_meetName))), (q_t_in_kinds, .inl (cy 1, 901, .inl t_in_kinds)), (q_t_in_places, .inl (cy 1, 901, .inl t_in_places)), (q_t_in_values, .inl (cy 1, 901, .inl t_in_values)), (q_t_in_words, .inl (cy 2, 901, .inr (.inl t_in_words)))]
theorem iX2_takeNewName_meet_X2 : ∀ w ∈ wsX20, w ∈ wsX2_takeNewName := fun _ h => List.mem_cons_of_mem _ (List.mem_append_left _ (List.mem_append_left _ (List.mem_append_right _ h)))
theorem iX2_takeNewName_meet_X8 : ∀ w ∈ wsX80, w ∈ wsX2_takeNewName := fun _ h => List.mem_cons_of_mem _ (List.mem_append_left _ (List.mem_append_right _ h))
abbrev rm_X2_takeNewName_meet : Room := { frames := 2, cells := 0, slots := 0, locals := 46 }
set_option maxRecDepth 100000 in
def f_X2_takeNewName_meet (N : Nat) (x1 : Int32) (t_draft_clocks : Int32) (t_draft_masters : Int32) (t_draft_meets : Int32) (t_in_kind : Int32) (t_in_place : Int32) (t_in_value : Int32) (t_in_word : Int64) (t_in_fault : Int32) (t_in_faultPlace : Int32) (t_in_size : Int32) (t_in_taken : Int32) (t_draft_clockName : Nat → Int64) (t_draft_masterName : Nat → Int64) (t_draft_meetName : Nat → Int64) (t_in_kinds : Nat → Int32) (t_in_places : Nat → Int32) (t_in_values : Nat → Int32) (t_in_words : Nat → Int64) : Option (Int32 × Int32 × Int32 × Int32 × Int64 × Int32 × Int32 × Int32 × (Nat → Int64)) := if t_in_kind = 2 then (zcl (f_X1_hasName N t_in_word t_draft_clocks t_draft_masters t_draft_meets t_draft_clockName t_draft_masterName t_draft_meetName) fun z31 => if z31 = 0 then (zck (zin x1 6) <| zbn (vp_updL t_draft_meetName (Int32.toNatClampNeg x1) t_in_word) fun f1 => zcl (f_X8_advance N t_in_kind t_in_place t_in_value t_in_word t_in_size t_in_taken t_in_kinds t_in_places t_in_values t_in_words) fun z60 => some (1, z60.1, z60.2.1, z60.2.2.1, z60.2.2.2.1, t_in_fault, t_in_faultPlace, z60.2.2.2.2, f1)) else (zcl (f_X8_refuse N 3 t_in_place t_in_fault t_in_faultPlace) fun z42 => zck (zbo z42.1) <| some (z42.1, t_in_kind, t_in_place, t_in_value, t_in_word, z42.2.1, z42.2.2, t_in_taken, t_draft_meetName))) else (zcl (f_X8_refuse N 1 t_in_place t_in_fault t_in_faultPlace) fun z16 => zck (zbo z16.1) <| some (z16.1, t_in_kind, t_in_place, t_in_value, t_in_word, z16.2.1, z16.2.2, t_in_taken, t_draft_meetName))
set_option maxHeartbeats 4000000 in
set_option maxRecDepth 100000 in
theorem c_X2_takeNewName_meet (l : Launch) (G : va_G) (cy : Nat → ClassId) (E : List (Nat × Cell)) (N : Nat) (q_t q_t_draft q_t_in q_t_draft_clockName q_t_draft_clockCorner q_t_draft_clockAhead q_t_draft_clockGain q_t_draft_masterName q_t_draft_masterCorner q_t_draft_masterLate q_t_draft_masterClock q_t_draft_masterMeets q_t_draft_meetName q_t_draft_meetDue q_t_in_tape q_t_in_kinds q_t_in_places q_t_in_values q_t_in_words : Nat) (t_waitTold : Int32) (t_draft_clocks : Int32) (t_draft_masters : Int32) (t_draft_meets : Int32) (t_draft_patience : Int32) (t_in_kind : Int32) (t_in_place : Int32) (t_in_value : Int32) (t_in_word : Int64) (t_in_fault : Int32) (t_in_faultPlace : Int32) (t_in_size : Int32) (t_in_taken : Int32) (t_draft_clockName : Nat → Int64) (t_draft_masterName : Nat → Int64) (t_draft_meetName : Nat → Int64) (t_in_kinds : Nat → Int32) (t_in_places : Nat → Int32) (t_in_values : Nat → Int32) (t_in_words : Nat → Int64) (x1 : Int32) (r : Int32) (r_t_in_kind : Int32) (r_t_in_place : Int32) (r_t_in_value : Int32) (r_t_in_word : Int64) (r_t_in_fault : Int32) (r_t_in_faultPlace : Int32) (r_t_in_taken : Int32) (r_t_draft_meetName : Nat → Int64) (h : f_X2_takeNewName_meet N x1 t_draft_clocks t_draft_masters t_draft_meets t_in_kind t_in_place t_in_value t_in_word t_in_fault t_in_faultPlace t_in_size t_in_taken t_draft_clockName t_draft_masterName t_draft_meetName t_in_kinds t_in_places t_in_values t_in_words = some (r, r_t_in_kind, r_t_in_place, r_t_in_value, r_t_in_word, r_t_in_fault, r_t_in_faultPlace, r_t_in_taken, r_t_draft_meetName)) : zM l G cy E yX2_takeNewName wsX2_takeNewName rm_X2_takeNewName_meet [.ref q_t, .ref q_t_draft_meetName, .int x1] (wd_X2_takeNewName_meet cy q_t q_t_draft q_t_in q_t_draft_clockName q_t_draft_clockCorner q_t_draft_clockAhead q_t_draft_clockGain q_t_draft_masterName q_t_draft_masterCorner q_t_draft_masterLate q_t_draft_masterClock q_t_draft_masterMeets q_t_draft_meetName q_t_draft_meetDue q_t_in_tape q_t_in_kinds q_t_in_places q_t_in_values q_t_in_words t_waitTold t_draft_clocks t_draft_masters t_draft_meets t_draft_patience t_in_kind t_in_place t_in_value t_in_word t_in_fault t_in_faultPlace t_in_size t_in_taken t_draft_clockName t_draft_masterName t_draft_meetName t_in_kinds t_in_places t_in_values t_in_words) (wd_X2_takeNewName_meet cy q_t q_t_draft q_t_in q_t_draft_clockName q_t_draft_clockCorner q_t_draft_clockAhead q_t_draft_clockGain q_t_draft_masterName q_t_draft_masterCorner q_t_draft_masterLate q_t_draft_masterClock q_t_draft_masterMeets q_t_draft_meetName q_t_draft_meetDue q_t_in_tape q_t_in_kinds q_t_in_places q_t_in_values q_t_in_words t_waitTold t_draft_clocks t_draft_masters t_draft_meets t_draft_patience r_t_in_kind r_t_in_place r_t_in_value r_t_in_word r_t_in_fault r_t_in_faultPlace t_in_size r_t_in_taken t_draft_clockName t_draft_masterName r_t_draft_meetName t_in_kinds t_in_places t_in_values t_in_words) (some (.int r)) 0 0 := by
  refine z_body (cc := cX2_takeNewName) (maxL := 3) (ret := some .boolean) (by decide) rfl (Nat.le_of_ble_eq_true rfl) ?_
  intro p e s m below meth c ls S hr hlocks hnm hF hH hl
  have S : CallFix p m c cX2_takeNewName 3 s ([.ref q_t, .ref q_t_draft_meetName, .int x1] : List Value).toArray wsX2_takeNewName RX2 := S
  obtain ⟨hx, hb, hml, hown, hts⟩ := id S
  have hl : lv_has ls 3 [(0, .ref q_t), (1, .ref q_t_draft_meetName), (2, .int x1)] := hl
  rw [f_X2_takeNewName_meet] at h
  refine lv_aload_n hx hb dX2_takeNewName_0 rfl (lv_at hl 0 rfl) ?_
  refine z_get S hF hH iX2_takeNewName_meet_X2 0 rfl rfl 1 (by decide) (List.mem_of_getElem? (i := 1) rfl) rfl dX2_takeNewName_1 ?_
  refine z_get S hF hH iX2_takeNewName_meet_X8 2 rfl rfl 0 (by decide) (List.mem_of_getElem? (i := 2) rfl) rfl dX2_takeNewName_4 ?_
  refine lv_iconst (v := 2) hx hb dX2_takeNewName_7 (by decide) ?_
  refine lv_icmp_eq (tgt := 20) hx hb dX2_takeNewName_8 (by decide) (fun b8 => ?_) (fun b8 => ?_)
  · replace h := zif_t b8 h
    refine lv_aload_n hx hb dX2_takeNewName_20 rfl (lv_at hl 0 rfl) ?_
    refine z_get S hF hH iX2_takeNewName_meet_X2 0 rfl rfl 0 (by decide) (List.mem_of_getElem? (i := 3) rfl) rfl dX2_takeNewName_21 ?_
    refine lv_aload_n hx hb dX2_takeNewName_24 rfl (lv_at hl 0 rfl) ?_
    refine z_get S hF hH iX2_takeNewName_meet_X2 0 rfl rfl 1 (by decide) (List.mem_of_getElem? (i := 1) rfl) rfl dX2_takeNewName_25 ?_
    refine z_get S hF hH iX2_takeNewName_meet_X8 2 rfl rfl 3 (by decide) (List.mem_of_getElem? (i := 4) rfl) rfl dX2_takeNewName_28 ?_
    obtain ⟨z31, hz31, h⟩ := zcl_e h
    refine z_callV (As := [.long t_in_word]) (rest := []) (st1 := [.int z31]) (ws' := (wd_X2_takeNewName_meet cy q_t q_t_draft q_t_in q_t_draft_clockName q_t_draft_clockCorner q_t_draft_clockAhead q_t_draft_clockGain q_t_draft_masterName q_t_draft_masterCorner q_t_draft_masterLate q_t_draft_masterClock q_t_draft_masterMeets q_t_draft_meetName q_t_draft_meetDue q_t_in_tape q_t_in_kinds q_t_in_places q_t_in_values q_t_in_words t_waitTold t_draft_clocks t_draft_masters t_draft_meets t_draft_patience t_in_kind t_in_place t_in_value t_in_word t_in_fault t_in_faultPlace t_in_size t_in_taken t_draft_clockName t_draft_masterName t_draft_meetName t_in_kinds t_in_places t_in_values t_in_words)) S hF hH (c_X1_hasName l G cy E N q_t_draft q_t_draft_clockName q_t_draft_clockCorner q_t_draft_clockAhead q_t_draft_clockGain q_t_draft_masterName q_t_draft_masterCorner q_t_draft_masterLate q_t_draft_masterClock q_t_draft_masterMeets q_t_draft_meetName q_t_draft_meetDue t_draft_clocks t_draft_masters t_draft_meets t_draft_patience t_draft_clockName t_draft_masterName t_draft_meetName t_in_word z31 hz31) (cwV 1 hts gX2_takeNewName_X1_hasName rfl rfl rfl (by decide +kernel) ⟨Nat.le_of_ble_eq_true rfl, Nat.le_of_ble_eq_true rfl⟩) 2 0 rfl rfl [1, 3, 4, 5] [0, 2, 6, 7, 8, 9] [0, 6, 1, 7, 8, 9, 2, 3, 4, 5] rfl rfl (by decide) (by decide) (by decide) (by decide) rfl rfl rfl rfl hl.1 (Nat.le_of_ble_eq_true rfl) dX2_takeNewName_31 ⟨Nat.le_of_ble_eq_true rfl, Nat.le_of_ble_eq_true rfl⟩ (fun H locs hH => ?_)
    refine lv_if_eq (tgt := 46) hx hb dX2_takeNewName_34 (by decide) (fun b34 => ?_) (fun b34 => ?_)
    · replace h := zif_t b34 h
      refine lv_aload_n hx hb dX2_takeNewName_46 rfl (lv_at hl 1 rfl) ?_
      refine lv_iload_n hx hb dX2_takeNewName_47 rfl (lv_at hl 2 rfl) ?_
      refine lv_aload_n hx hb dX2_takeNewName_48 rfl (lv_at hl 0 rfl) ?_
      refine z_get S hF hH iX2_takeNewName_meet_X2 0 rfl rfl 1 (by decide) (List.mem_of_getElem? (i := 1) rfl) rfl dX2_takeNewName_49 ?_
      refine z_get S hF hH iX2_takeNewName_meet_X8 2 rfl rfl 3 (by decide) (List.mem_of_getElem? (i := 4) rfl) rfl dX2_takeNewName_52 ?_
      obtain ⟨h55, h⟩ := zck_e h
      obtain ⟨f1, ef1, h⟩ := zbn_e h
      refine z_last (ws' := (wd_X2_takeNewName_meet cy q_t q_t_draft q_t_in q_t_draft_clockName q_t_draft_clockCorner q_t_draft_clockAhead q_t_draft_clockGain q_t_draft_masterName q_t_draft_masterCorner q_t_draft_masterLate q_t_draft_masterClock q_t_draft_masterMeets q_t_draft_meetName q_t_draft_meetDue q_t_in_tape q_t_in_kinds q_t_in_places q_t_in_values q_t_in_words t_waitTold t_draft_clocks t_draft_masters t_draft_meets t_draft_patience t_in_kind t_in_place t_in_value t_in_word t_in_fault t_in_faultPlace t_in_size t_in_taken t_draft_clockName t_draft_masterName f1 t_in_kinds t_in_places t_in_values t_in_words)) S hF hH 5 rfl h55 (by rw [ef1]; rfl) dX2_takeNewName_55 (fun H locs hH => ?_)
      clear ef1
      refine lv_aload_n hx hb dX2_takeNewName_56 rfl (lv_at hl 0 rfl) ?_
      refine z_get S hF hH iX2_takeNewName_meet_X2 0 rfl rfl 1 (by decide) (List.mem_of_getElem? (i := 1) rfl) rfl dX2_takeNewName_57 ?_
      obtain ⟨z60, hz60, h⟩ := zcl_e h
      refine z_callV (As := []) (rest := []) (st1 := []) (ws' := (wd_X2_takeNewName_meet cy q_t q_t_draft q_t_in q_t_draft_clockName q_t_draft_clockCorner q_t_draft_clockAhead q_t_draft_clockGain q_t_draft_masterName q_t_draft_masterCorner q_t_draft_masterLate q_t_draft_masterClock q_t_draft_masterMeets q_t_draft_meetName q_t_draft_meetDue q_t_in_tape q_t_in_kinds q_t_in_places q_t_in_values q_t_in_words t_waitTold t_draft_clocks t_draft_masters t_draft_meets t_draft_patience z60.1 z60.2.1 z60.2.2.1 z60.2.2.2.1 t_in_fault t_in_faultPlace t_in_size z60.2.2.2.2 t_draft_clockName t_draft_masterName f1 t_in_kinds t_in_places t_in_values t_in_words)) S hF hH (c_X8_advance l G cy E N q_t_in q_t_in_tape q_t_in_kinds q_t_in_places q_t_in_values q_t_in_words t_in_kind t_in_place t_in_value t_in_word t_in_fault t_in_faultPlace t_in_size t_in_taken t_in_kinds t_in_places t_in_values t_in_words z60.1 z60.2.1 z60.2.2.1 z60.2.2.2.1 z60.2.2.2.2 hz60) (cwV 0 hts gX2_takeNewName_X8_advance rfl rfl rfl (by decide +kernel) ⟨Nat.le_of_ble_eq_true rfl, Nat.le_of_ble_eq_true rfl⟩) 9 0 rfl rfl [2, 6, 7, 8, 9] [0, 1, 3, 4, 5] [0, 1, 5, 2, 3, 4, 6, 7, 8, 9] rfl rfl (by decide) (by decide) (by decide) (by decide) rfl rfl rfl rfl hl.1 (Nat.le_of_ble_eq_true rfl) dX2_takeNewName_60 ⟨Nat.le_of_ble_eq_true rfl, Nat.le_of_ble_eq_true rfl⟩ (fun H locs hH => ?_)
      refine lv_iconst (v := 1) hx hb dX2_takeNewName_63 (by decide) ?_
      cases h
      exact z_zret S hr hlocks hH rfl dX2_takeNewName_64
    · replace h := zif_f b34 h
      refine lv_aload_n hx hb dX2_takeNewName_37 rfl (lv_at hl 0 rfl) ?_
      refine z_get S hF hH iX2_takeNewName_meet_X2 0 rfl rfl 1 (by decide) (List.mem_of_getElem? (i := 1) rfl) rfl dX2_takeNewName_38 ?_
      refine lv_iconst (v := 3) hx hb dX2_takeNewName_41 (by decide) ?_
      obtain ⟨z42, hz42, h⟩ := zcl_e h
      refine z_callV (As := [.int 3]) (rest := []) (st1 := [.int z42.1]) (ws' := (wd_X2_takeNewName_meet cy q_t q_t_draft q_t_in q_t_draft_clockName q_t_draft_clockCorner q_t_draft_clockAhead q_t_draft_clockGain q_t_draft_masterName q_t_draft_masterCorner q_t_draft_masterLate q_t_draft_masterClock q_t_draft_masterMeets q_t_draft_meetName q_t_draft_meetDue q_t_in_tape q_t_in_kinds q_t_in_places q_t_in_values q_t_in_words t_waitTold t_draft_clocks t_draft_masters t_draft_meets t_draft_patience t_in_kind t_in_place t_in_value t_in_word z42.2.1 z42.2.2 t_in_size t_in_taken t_draft_clockName t_draft_masterName t_draft_meetName t_in_kinds t_in_places t_in_values t_in_words)) S hF hH (c_X8_refuse l G cy E N q_t_in q_t_in_tape q_t_in_kinds q_t_in_places q_t_in_values q_t_in_words t_in_kind t_in_place t_in_value t_in_word t_in_fault t_in_faultPlace t_in_size t_in_taken 3 z42.1 z42.2.1 z42.2.2 hz42) (cwV 1 hts gX2_takeNewName_X8_refuse rfl rfl rfl (by decide +kernel) ⟨Nat.le_of_ble_eq_true rfl, Nat.le_of_ble_eq_true rfl⟩) 9 0 rfl rfl [2] [0, 1, 3, 4, 5, 6, 7, 8, 9] [0, 1, 9, 2, 3, 4, 5, 6, 7, 8] rfl rfl (by decide) (by decide) (by decide) (by decide) rfl rfl rfl rfl hl.1 (Nat.le_of_ble_eq_true rfl) dX2_takeNewName_42 ⟨Nat.le_of_ble_eq_true rfl, Nat.le_of_ble_eq_true rfl⟩ (fun H locs hH => ?_)
      obtain ⟨h45, h⟩ := zck_e h
      cases h
      exact z_zret S hr hlocks hH h45 dX2_takeNewName_45
  · replace h := zif_f b8 h
    refine lv_aload_n hx hb dX2_takeNewName_11 rfl (lv_at hl 0 rfl) ?_
    refine z_get S hF hH iX2_takeNewName_meet_X2 0 rfl rfl 1 (by decide) (List.mem_of_getElem? (i := 1) rfl) rfl dX2_takeNewName_12 ?_
    refine lv_iconst (v := 1) hx hb dX2_takeNewName_15 (by decide) ?_
    obtain ⟨z16, hz16, h⟩ := zcl_e h
    refine z_callV (As := [.int 1]) (rest := []) (st1 := [.int z16.1]) (ws' := (wd_X2_takeNewName_meet cy q_t q_t_draft q_t_in q_t_draft_clockName q_t_draft_clockCorner q_t_draft_clockAhead q_t_draft_clockGain q_t_draft_masterName q_t_draft_masterCorner q_t_draft_masterLate q_t_draft_masterClock q_t_draft_masterMeets q_t_draft_meetName q_t_draft_meetDue q_t_in_tape q_t_in_kinds q_t_in_places q_t_in_values q_t_in_words t_waitTold t_draft_clocks t_draft_masters t_draft_meets t_draft_patience t_in_kind t_in_place t_in_value t_in_word z16.2.1 z16.2.2 t_in_size t_in_taken t_draft_clockName t_draft_masterName t_draft_meetName t_in_kinds t_in_places t_in_values t_in_words)) S hF hH (c_X8_refuse l G cy E N q_t_in q_t_in_tape q_t_in_kinds q_t_in_places q_t_in_values q_t_in_words t_in_kind t_in_place t_in_value t_in_word t_in_fault t_in_faultPlace t_in_size t_in_taken 1 z16.1 z16.2.1 z16.2.2 hz16) (cwV 1 hts gX2_takeNewName_X8_refuse rfl rfl rfl (by decide +kernel) ⟨Nat.le_of_ble_eq_true rfl, Nat.le_of_ble_eq_true rfl⟩) 9 0 rfl rfl [2] [0, 1, 3, 4, 5, 6, 7, 8, 9] [0, 1, 9, 2, 3, 4, 5, 6, 7, 8] rfl rfl (by decide) (by decide) (by decide) (by decide) rfl rfl rfl rfl hl.1 (Nat.le_of_ble_eq_true rfl) dX2_takeNewName_16 ⟨Nat.le_of_ble_eq_true rfl, Nat.le_of_ble_eq_true rfl⟩ (fun H locs hH => ?_)
    obtain ⟨h19, h⟩ := zck_e h
    cases h
    exact z_zret S hr hlocks hH h19 dX2_takeNewName_19
abbrev wd_X2_readClock (cy : Nat → ClassId) (q_t q_t_draft q_t_in q_t_draft_clockName q_t_draft_clockCorner q_t_draft_clockAhead q_t_draft_clockGain q_t_draft_masterName q_t_draft_masterCorner q_t_draft_masterLate q_t_draft_masterClock q_t_draft_masterMeets q_t_draft_meetName q_t_draft_meetDue q_t_in_tape q_t_in_kinds q_t_in_places q_t_in_values q_t_in_words : Nat) (t_waitTold : Int32) (t_draft_clocks : Int32) (t_draft_masters : Int32) (t_draft_meets : Int32) (t_draft_patience : Int32) (t_in_kind : Int32) (t_in_place : Int32) (t_in_value : Int32) (t_in_word : Int64) (t_in_fault : Int32) (t_in_faultPlace : Int32) (t_in_size : Int32) (t_in_taken : Int32) (t_in_kinds : Nat → Int32) (t_in_places : Nat → Int32) (t_in_values : Nat → Int32) (t_in_words : Nat → Int64) (t_draft_clockName : Nat → Int64) (t_draft_masterName : Nat → Int64) (t_draft_meetName : Nat → Int64) (t_draft_clockCorner : Nat → Int32) (t_draft_clockAhead : Nat → Int32) (t_draft_clockGain : Nat → Int32) : va_W := [(q_t, .inr (3, [.ref q_t_draft, .ref q_t_in, .int t_waitTold])), (q_t_draft, .inr (2, [.int t_draft_clocks, .int t_draft_masters, .int t_draft_meets, .int t_draft_patience, .ref q_t_draft_clockName, .ref q_t_draft_clockCorner, .ref q_t_draft_clockAhead, .ref q_t_draft_clockGain, .ref q_t_draft_masterName, .ref q_t_draft_masterCorner, .ref q_t_draft_masterLate, .ref q_t_draft_masterClock, .ref q_t_draft_masterMeets, .ref q_t_draft_meetName, .ref q_t_draft_meetDue])), (q_t_in, .inr (9, [.int t_in_kind, .int t_in_place, .int t_in_value, .long t_in_word, .int t_in_fault, .int t_in_faultPlace, .ref q_t_in_tape, .int t_in_size, .int t_in_taken, .ref q_t_in_kinds, .ref q_t_in_places, .ref q_t_in_values, .ref q_t_in_words])), (q_t_in_kinds, .inl (cy 1, 901, .inl t_in_kinds)), (q_t_in_places, .inl (cy 1, 901, .inl t_in_places)), (q_t_in_values, .inl (cy 1, 901, .inl t_in_values)), (q_t_in_words, .inl (cy 2, 901, .inr (.inl t_in_words))), (q_t_draft_clockName, .inl (cy 2, 6, .inr (.inl t_draft_clockName))), (q_t_draft_masterName, .inl (cy 2, 6, .inr (.inl t_draft_masterName))), (q_t_draft_meetName, .inl (cy 2, 6, .inr (.inl t_draft_meetName))), (q_t_draft_clockCorner, .inl (cy 1, 6, .inl t_draft_clockCorner)), (q_t_draft_clockAhead, .inl (cy 1, 6, .inl t_draft_clockAhead)), (q_t_draft_clockGain, .inl (cy 1, 6, .inl t_draft_clockGain))]
theorem iX2_readClock_X1 : ∀ w ∈ wsX10, w ∈ wsX2_readClock := fun _ h => List.mem_cons_of_mem _ (List.mem_append_left _ (List.mem_append_right _ h))
theorem iX2_readClock_X2 : ∀ w ∈ wsX20, w ∈ wsX2_readClock := fun _ h => List.mem_cons_of_mem _ (List.mem_append_left _ (List.mem_append_left _ (List.mem_append_right _ h)))
theorem iX2_readClock_X8 : ∀ w ∈ wsX80, w ∈ wsX2_readClock := fun _ h => List.mem_cons_of_mem _ (List.mem_append_right _ h)
abbrev rm_X2_readClock : Room := { frames := 3, cells := 0, slots := 0, locals := 69 }
set_option maxRecDepth 100000 in
def f_X2_readClock_125 (N : Nat) (t_draft_masters : Int32) (t_draft_meets : Int32) (t_in_size : Int32) (t_in_kinds : Nat → Int32) (t_in_places : Nat → Int32) (t_in_values : Nat → Int32) (t_in_words : Nat → Int64) (t_draft_masterName : Nat → Int64) (t_draft_meetName : Nat → Int64) (x1 : Int32) (w0 : Int32) (w1 : Int32) (c_t_draft_clocks : Int32) (c_t_in_kind : Int32) (c_t_in_place : Int32) (c_t_in_value : Int32) (c_t_in_word : Int64) (c_t_in_fault : Int32) (c_t_in_faultPlace : Int32) (c_t_in_taken : Int32) (c_t_draft_clockName : Nat → Int64) (c_t_draft_clockCorner : Nat → Int32) (c_t_draft_clockAhead : Nat → Int32) (c_t_draft_clockGain : Nat → Int32) : Option (Int32 × Int32 × Int32 × Int32 × Int32 × Int64 × Int32 × Int32 × Int32 × (Nat → Int64) × (Nat → Int32) × (Nat → Int32) × (Nat → Int32)) := zck (zin w1 6) <| zbn (upd c_t_draft_clockGain (Int32.toNatClampNeg w1) w0) fun f1 => zbn ((x1 + 1)) fun y2 => if c_t_in_fault = 0 then (some (1, y2, c_t_in_kind, c_t_in_place, c_t_in_value, c_t_in_word, c_t_in_fault, c_t_in_faultPlace, c_t_in_taken, c_t_draft_clockName, c_t_draft_clockCorner, c_t_draft_clockAhead, f1)) else (some (0, y2, c_t_in_kind, c_t_in_place, c_t_in_value, c_t_in_word, c_t_in_fault, c_t_in_faultPlace, c_t_in_taken, c_t_draft_clockName, c_t_draft_clockCorner, c_t_draft_clockAhead, f1))
set_option maxRecDepth 100000 in
def f_X2_readClock (N : Nat) (t_draft_clocks : Int32) (t_draft_masters : Int32) (t_draft_meets : Int32) (t_in_kind : Int32) (t_in_place : Int32) (t_in_value : Int32) (t_in_word : Int64) (t_in_fault : Int32) (t_in_faultPlace : Int32) (t_in_size : Int32) (t_in_taken : Int32) (t_in_kinds : Nat → Int32) (t_in_places : Nat → Int32) (t_in_values : Nat → Int32) (t_in_words : Nat → Int64) (t_draft_clockName : Nat → Int64) (t_draft_masterName : Nat → Int64) (t_draft_meetName : Nat → Int64) (t_draft_clockCorner : Nat → Int32) (t_draft_clockAhead : Nat → Int32) (t_draft_clockGain : Nat → Int32) : Option (Int32 × Int32 × Int32 × Int32 × Int32 × Int64 × Int32 × Int32 × Int32 × (Nat → Int64) × (Nat → Int32) × (Nat → Int32) × (Nat → Int32)) := if t_draft_clocks < 6 then (zcl (f_X8_advance N t_in_kind t_in_place t_in_value t_in_word t_in_size t_in_taken t_in_kinds t_in_places t_in_values t_in_words) fun z27 => zcl (f_X2_takeNewName_clock N t_draft_clocks t_draft_clocks t_draft_masters t_draft_meets z27.1 z27.2.1 z27.2.2.1 z27.2.2.2.1 t_in_fault t_in_faultPlace t_in_size z27.2.2.2.2 t_draft_clockName t_draft_masterName t_draft_meetName t_in_kinds t_in_places t_in_values t_in_words) fun z39 => if z39.1 = 0 then (some (0, t_draft_clocks, z39.2.1, z39.2.2.1, z39.2.2.2.1, z39.2.2.2.2.1, z39.2.2.2.2.2.1, z39.2.2.2.2.2.2.1, z39.2.2.2.2.2.2.2.1, z39.2.2.2.2.2.2.2.2, t_draft_clockCorner, t_draft_clockAhead, t_draft_clockGain)) else (zcl (f_X8_takeNumber N 0 30 z39.2.1 z39.2.2.1 z39.2.2.2.1 z39.2.2.2.2.1 z39.2.2.2.2.2.1 z39.2.2.2.2.2.2.1 t_in_size z39.2.2.2.2.2.2.2.1 t_in_kinds t_in_places t_in_values t_in_words) fun z54 => if z54.1 = (-1) then (some (0, t_draft_clocks, z54.2.1, z54.2.2.1, z54.2.2.2.1, z54.2.2.2.2.1, z54.2.2.2.2.2.1, z54.2.2.2.2.2.2.1, z54.2.2.2.2.2.2.2, z39.2.2.2.2.2.2.2.2, t_draft_clockCorner, t_draft_clockAhead, t_draft_clockGain)) else (zck (zin t_draft_clocks 6) <| zbn (upd t_draft_clockCorner (Int32.toNatClampNeg t_draft_clocks) z54.1) fun f1 => zcl (f_X2_readTurn N 5 6 99 z54.2.1 z54.2.2.1 z54.2.2.2.1 z54.2.2.2.2.1 z54.2.2.2.2.2.1 z54.2.2.2.2.2.2.1 t_in_size z54.2.2.2.2.2.2.2 t_in_kinds t_in_places t_in_values t_in_words) fun z89 => zck (zin t_draft_clocks 6) <| zbn (upd t_draft_clockAhead (Int32.toNatClampNeg t_draft_clocks) z89.1) fun f2 => if z89.2.2.2.2.2.1 = 0 then (zcl (f_X2_readTurn N 7 8 9 z89.2.1 z89.2.2.1 z89.2.2.2.1 z89.2.2.2.2.1 z89.2.2.2.2.2.1 z89.2.2.2.2.2.2.1 t_in_size z89.2.2.2.2.2.2.2 t_in_kinds t_in_places t_in_values t_in_words) fun z118 => f_X2_readClock_125 N t_draft_masters t_draft_meets t_in_size t_in_kinds t_in_places t_in_values t_in_words t_draft_masterName t_draft_meetName t_draft_clocks z118.1 t_draft_clocks t_draft_clocks z118.2.1 z118.2.2.1 z118.2.2.2.1 z118.2.2.2.2.1 z118.2.2.2.2.2.1 z118.2.2.2.2.2.2.1 z118.2.2.2.2.2.2.2 z39.2.2.2.2.2.2.2.2 f1 f2 t_draft_clockGain) else (f_X2_readClock_125 N t_draft_masters t_draft_meets t_in_size t_in_kinds t_in_places t_in_values t_in_words t_draft_masterName t_draft_meetName t_draft_clocks 0 t_draft_clocks t_draft_clocks z89.2.1 z89.2.2.1 z89.2.2.2.1 z89.2.2.2.2.1 z89.2.2.2.2.2.1 z89.2.2.2.2.2.2.1 z89.2.2.2.2.2.2.2 z39.2.2.2.2.2.2.2.2 f1 f2 t_draft_clockGain)))) else (zcl (f_X8_refuse N 4 t_in_place t_in_fault t_in_faultPlace) fun z19 => zck (zbo z19.1) <| some (z19.1, t_draft_clocks, t_in_kind, t_in_place, t_in_value, t_in_word, z19.2.1, z19.2.2, t_in_taken, t_draft_clockName, t_draft_clockCorner, t_draft_clockAhead, t_draft_clockGain))
set_option maxHeartbeats 4000000 in
set_option maxRecDepth 100000 in
theorem w_X2_readClock_125 {p : Program} {l : Launch} {e : Env} {s : State} {m : MethodId} {args : Array Value} {below : List Frame} {meth : Method} {c : Code} {G : va_G} {cy : Nat → ClassId} {E : List (Nat × Cell)} {w0 : va_W} {N : Nat} {q_t q_t_draft q_t_in q_t_draft_clockName q_t_draft_clockCorner q_t_draft_clockAhead q_t_draft_clockGain q_t_draft_masterName q_t_draft_masterCorner q_t_draft_masterLate q_t_draft_masterClock q_t_draft_masterMeets q_t_draft_meetName q_t_draft_meetDue q_t_in_tape q_t_in_kinds q_t_in_places q_t_in_values q_t_in_words : Nat} {t_waitTold : Int32} {t_draft_masters : Int32} {t_draft_meets : Int32} {t_draft_patience : Int32} {t_in_size : Int32} {t_in_kinds : Nat → Int32} {t_in_places : Nat → Int32} {t_in_values : Nat → Int32} {t_in_words : Nat → Int64} {t_draft_masterName : Nat → Int64} {t_draft_meetName : Nat → Int64} {r : Int32} {r_t_draft_clocks : Int32} {r_t_in_kind : Int32} {r_t_in_place : Int32} {r_t_in_value : Int32} {r_t_in_word : Int64} {r_t_in_fault : Int32} {r_t_in_faultPlace : Int32} {r_t_in_taken : Int32} {r_t_draft_clockName : Nat → Int64} {r_t_draft_clockCorner : Nat → Int32} {r_t_draft_clockAhead : Nat → Int32} {r_t_draft_clockGain : Nat → Int32} (S : CallFix p m c cX2_readClock 3 s args wsX2_readClock RX2) (hr : meth.sig.returnType = some .boolean) (hlocks : meth.locks = false) (hF : zF G cy E (va_A w0 s.heap.size) s) :
    ∀ (x1 : Int32) (w0 : Int32) (w1 : Int32) (c_t_draft_clocks : Int32) (c_t_in_kind : Int32) (c_t_in_place : Int32) (c_t_in_value : Int32) (c_t_in_word : Int64) (c_t_in_fault : Int32) (c_t_in_faultPlace : Int32) (c_t_in_taken : Int32) (c_t_draft_clockName : Nat → Int64) (c_t_draft_clockCorner : Nat → Int32) (c_t_draft_clockAhead : Nat → Int32) (c_t_draft_clockGain : Nat → Int32) (H : Heap) (locs : List Loc) (ls : Array Slot), zH G (va_A w0 s.heap.size) s H locs (wd_X2_readClock cy q_t q_t_draft q_t_in q_t_draft_clockName q_t_draft_clockCorner q_t_draft_clockAhead q_t_draft_clockGain q_t_draft_masterName q_t_draft_masterCorner q_t_draft_masterLate q_t_draft_masterClock q_t_draft_masterMeets q_t_draft_meetName q_t_draft_meetDue q_t_in_tape q_t_in_kinds q_t_in_places q_t_in_values q_t_in_words t_waitTold c_t_draft_clocks t_draft_masters t_draft_meets t_draft_patience c_t_in_kind c_t_in_place c_t_in_value c_t_in_word c_t_in_fault c_t_in_faultPlace t_in_size c_t_in_taken t_in_kinds t_in_places t_in_values t_in_words c_t_draft_clockName t_draft_masterName t_draft_meetName c_t_draft_clockCorner c_t_draft_clockAhead c_t_draft_clockGain) → lv_has ls 3 [(0, .ref q_t), (1, .int x1)] → f_X2_readClock_125 N t_draft_masters t_draft_meets t_in_size t_in_kinds t_in_places t_in_values t_in_words t_draft_masterName t_draft_meetName x1 w0 w1 c_t_draft_clocks c_t_in_kind c_t_in_place c_t_in_value c_t_in_word c_t_in_fault c_t_in_faultPlace c_t_in_taken c_t_draft_clockName c_t_draft_clockCorner c_t_draft_clockAhead c_t_draft_clockGain = some (r, r_t_draft_clocks, r_t_in_kind, r_t_in_place, r_t_in_value, r_t_in_word, r_t_in_fault, r_t_in_faultPlace, r_t_in_taken, r_t_draft_clockName, r_t_draft_clockCorner, r_t_draft_clockAhead, r_t_draft_clockGain) → W p l e rm_X2_readClock s m args below meth c H locs 0 0 (MQ below (zQ G w0 (wd_X2_readClock cy q_t q_t_draft q_t_in q_t_draft_clockName q_t_draft_clockCorner q_t_draft_clockAhead q_t_draft_clockGain q_t_draft_masterName q_t_draft_masterCorner q_t_draft_masterLate q_t_draft_masterClock q_t_draft_masterMeets q_t_draft_meetName q_t_draft_meetDue q_t_in_tape q_t_in_kinds q_t_in_places q_t_in_values q_t_in_words t_waitTold r_t_draft_clocks t_draft_masters t_draft_meets t_draft_patience r_t_in_kind r_t_in_place r_t_in_value r_t_in_word r_t_in_fault r_t_in_faultPlace t_in_size r_t_in_taken t_in_kinds t_in_places t_in_values t_in_words r_t_draft_clockName t_draft_masterName t_draft_meetName r_t_draft_clockCorner r_t_draft_clockAhead r_t_draft_clockGain) s.heap.size (some (.int r))) args s 0 0 (va_A w0 s.heap.size)) (F0 m 125 ls [.int w0, .int w1, .ref q_t_draft_clockGain]) := by
  obtain ⟨hx, hb, hml, hown, hts⟩ := id S
  intro x1 w0 w1 c_t_draft_clocks c_t_in_kind c_t_in_place c_t_in_value c_t_in_word c_t_in_fault c_t_in_faultPlace c_t_in_taken c_t_draft_clockName c_t_draft_clockCorner c_t_draft_clockAhead c_t_draft_clockGain H locs ls hH hl h
  rw [f_X2_readClock_125] at h
  obtain ⟨h125, h⟩ := zck_e h
  obtain ⟨f1, ef1, h⟩ := zbn_e h
  refine z_iast (ws' := (wd_X2_readClock cy q_t q_t_draft q_t_in q_t_draft_clockName q_t_draft_clockCorner q_t_draft_clockAhead q_t_draft_clockGain q_t_draft_masterName q_t_draft_masterCorner q_t_draft_masterLate q_t_draft_masterClock q_t_draft_masterMeets q_t_draft_meetName q_t_draft_meetDue q_t_in_tape q_t_in_kinds q_t_in_places q_t_in_values q_t_in_words t_waitTold c_t_draft_clocks t_draft_masters t_draft_meets t_draft_patience c_t_in_kind c_t_in_place c_t_in_value c_t_in_word c_t_in_fault c_t_in_faultPlace t_in_size c_t_in_taken t_in_kinds t_in_places t_in_values t_in_words c_t_draft_clockName t_draft_masterName t_draft_meetName c_t_draft_clockCorner c_t_draft_clockAhead f1)) S hF hH 12 rfl h125 (by rw [ef1]; rfl) dX2_readClock_125 (fun H locs hH => ?_)
  clear ef1
  refine lv_aload_n hx hb dX2_readClock_126 rfl (lv_at hl 0 rfl) ?_
  refine z_get S hF hH iX2_readClock_X2 0 rfl rfl 0 (by decide) (List.mem_of_getElem? (i := 1) rfl) rfl dX2_readClock_127 ?_
  refine lv_iload_n hx hb dX2_readClock_130 rfl (lv_at hl 1 rfl) ?_
  refine lv_iconst (v := 1) hx hb dX2_readClock_131 (by decide) ?_
  refine lv_iadd hx hb dX2_readClock_132 ?_
  obtain ⟨y2, ey2, h⟩ := zbn_e h
  refine z_top ey2 ?_
  clear ey2
  refine z_put (ws' := (wd_X2_readClock cy q_t q_t_draft q_t_in q_t_draft_clockName q_t_draft_clockCorner q_t_draft_clockAhead q_t_draft_clockGain q_t_draft_masterName q_t_draft_masterCorner q_t_draft_masterLate q_t_draft_masterClock q_t_draft_masterMeets q_t_draft_meetName q_t_draft_meetDue q_t_in_tape q_t_in_kinds q_t_in_places q_t_in_values q_t_in_words t_waitTold y2 t_draft_masters t_draft_meets t_draft_patience c_t_in_kind c_t_in_place c_t_in_value c_t_in_word c_t_in_fault c_t_in_faultPlace t_in_size c_t_in_taken t_in_kinds t_in_places t_in_values t_in_words c_t_draft_clockName t_draft_masterName t_draft_meetName c_t_draft_clockCorner c_t_draft_clockAhead f1)) S hF hH iX2_readClock_X1 tyX1 tyX1_ok nmX1 1 rfl rfl 0 (by decide) (List.mem_of_getElem? (i := 2) rfl) rfl rfl rfl (Nat.le_of_ble_eq_true rfl) rfl dX2_readClock_133 (fun H locs hH => ?_)
  refine lv_aload_n hx hb dX2_readClock_136 rfl (lv_at hl 0 rfl) ?_
  refine z_get S hF hH iX2_readClock_X2 0 rfl rfl 1 (by decide) (List.mem_of_getElem? (i := 3) rfl) rfl dX2_readClock_137 ?_
  refine z_get S hF hH iX2_readClock_X8 2 rfl rfl 4 (by decide) (List.mem_of_getElem? (i := 8) rfl) rfl dX2_readClock_140 ?_
  refine lv_if_ne (tgt := 150) hx hb dX2_readClock_143 (by decide) (fun b143 => ?_) (fun b143 => ?_)
  · replace h := zif_f b143 h
    refine lv_iconst (v := 0) hx hb dX2_readClock_150 (by decide) ?_
    cases h
    exact z_zret S hr hlocks hH rfl dX2_readClock_151
  · replace h := zif_t b143 h
    refine lv_iconst (v := 1) hx hb dX2_readClock_146 (by decide) ?_
    refine lv_goto (tgt := 151) hx hb dX2_readClock_147 (by decide) ?_
    cases h
    exact z_zret S hr hlocks hH rfl dX2_readClock_151
set_option maxHeartbeats 4000000 in
set_option maxRecDepth 100000 in
theorem c_X2_readClock (l : Launch) (G : va_G) (cy : Nat → ClassId) (E : List (Nat × Cell)) (N : Nat) (q_t q_t_draft q_t_in q_t_draft_clockName q_t_draft_clockCorner q_t_draft_clockAhead q_t_draft_clockGain q_t_draft_masterName q_t_draft_masterCorner q_t_draft_masterLate q_t_draft_masterClock q_t_draft_masterMeets q_t_draft_meetName q_t_draft_meetDue q_t_in_tape q_t_in_kinds q_t_in_places q_t_in_values q_t_in_words : Nat) (t_waitTold : Int32) (t_draft_clocks : Int32) (t_draft_masters : Int32) (t_draft_meets : Int32) (t_draft_patience : Int32) (t_in_kind : Int32) (t_in_place : Int32) (t_in_value : Int32) (t_in_word : Int64) (t_in_fault : Int32) (t_in_faultPlace : Int32) (t_in_size : Int32) (t_in_taken : Int32) (t_in_kinds : Nat → Int32) (t_in_places : Nat → Int32) (t_in_values : Nat → Int32) (t_in_words : Nat → Int64) (t_draft_clockName : Nat → Int64) (t_draft_masterName : Nat → Int64) (t_draft_meetName : Nat → Int64) (t_draft_clockCorner : Nat → Int32) (t_draft_clockAhead : Nat → Int32) (t_draft_clockGain : Nat → Int32) (r : Int32) (r_t_draft_clocks : Int32) (r_t_in_kind : Int32) (r_t_in_place : Int32) (r_t_in_value : Int32) (r_t_in_word : Int64) (r_t_in_fault : Int32) (r_t_in_faultPlace : Int32) (r_t_in_taken : Int32) (r_t_draft_clockName : Nat → Int64) (r_t_draft_clockCorner : Nat → Int32) (r_t_draft_clockAhead : Nat → Int32) (r_t_draft_clockGain : Nat → Int32) (h : f_X2_readClock N t_draft_clocks t_draft_masters t_draft_meets t_in_kind t_in_place t_in_value t_in_word t_in_fault t_in_faultPlace t_in_size t_in_taken t_in_kinds t_in_places t_in_values t_in_words t_draft_clockName t_draft_masterName t_draft_meetName t_draft_clockCorner t_draft_clockAhead t_draft_clockGain = some (r, r_t_draft_clocks, r_t_in_kind, r_t_in_place, r_t_in_value, r_t_in_word, r_t_in_fault, r_t_in_faultPlace, r_t_in_taken, r_t_draft_clockName, r_t_draft_clockCorner, r_t_draft_clockAhead, r_t_draft_clockGain)) : zM l G cy E yX2_readClock wsX2_readClock rm_X2_readClock [.ref q_t] (wd_X2_readClock cy q_t q_t_draft q_t_in q_t_draft_clockName q_t_draft_clockCorner q_t_draft_clockAhead q_t_draft_clockGain q_t_draft_masterName q_t_draft_masterCorner q_t_draft_masterLate q_t_draft_masterClock q_t_draft_masterMeets q_t_draft_meetName q_t_draft_meetDue q_t_in_tape q_t_in_kinds q_t_in_places q_t_in_values q_t_in_words t_waitTold t_draft_clocks t_draft_masters t_draft_meets t_draft_patience t_in_kind t_in_place t_in_value t_in_word t_in_fault t_in_faultPlace t_in_size t_in_taken t_in_kinds t_in_places t_in_values t_in_words t_draft_clockName t_draft_masterName t_draft_meetName t_draft_clockCorner t_draft_clockAhead t_draft_clockGain) (wd_X2_readClock cy q_t q_t_draft q_t_in q_t_draft_clockName q_t_draft_clockCorner q_t_draft_clockAhead q_t_draft_clockGain q_t_draft_masterName q_t_draft_masterCorner q_t_draft_masterLate q_t_draft_masterClock q_t_draft_masterMeets q_t_draft_meetName q_t_draft_meetDue q_t_in_tape q_t_in_kinds q_t_in_places q_t_in_values q_t_in_words t_waitTold r_t_draft_clocks t_draft_masters t_draft_meets t_draft_patience r_t_in_kind r_t_in_place r_t_in_value r_t_in_word r_t_in_fault r_t_in_faultPlace t_in_size r_t_in_taken t_in_kinds t_in_places t_in_values t_in_words r_t_draft_clockName t_draft_masterName t_draft_meetName r_t_draft_clockCorner r_t_draft_clockAhead r_t_draft_clockGain) (some (.int r)) 0 0 := by
  refine z_body (cc := cX2_readClock) (maxL := 3) (ret := some .boolean) (by decide) rfl (Nat.le_of_ble_eq_true rfl) ?_
  intro p e s m below meth c ls S hr hlocks hnm hF hH hl
  have S : CallFix p m c cX2_readClock 3 s ([.ref q_t] : List Value).toArray wsX2_readClock RX2 := S
  obtain ⟨hx, hb, hml, hown, hts⟩ := id S
  have hl : lv_has ls 3 [(0, .ref q_t)] := hl
  rw [f_X2_readClock] at h
  refine lv_aload_n hx hb dX2_readClock_0 rfl (lv_at hl 0 rfl) ?_
  refine z_get S hF hH iX2_readClock_X2 0 rfl rfl 0 (by decide) (List.mem_of_getElem? (i := 1) rfl) rfl dX2_readClock_1 ?_
  refine z_get S hF hH iX2_readClock_X1 1 rfl rfl 0 (by decide) (List.mem_of_getElem? (i := 2) rfl) rfl dX2_readClock_4 ?_
  refine lv_istore_n (lv' := [(1, .int t_draft_clocks), (0, .ref q_t)]) hx hb dX2_readClock_7 rfl hl (by decide) rfl (fun ls hl => ?_)
  refine lv_iload_n hx hb dX2_readClock_8 rfl (lv_at hl 0 rfl) ?_
  refine lv_bipush (v := 6) hx hb dX2_readClock_9 (by decide) ?_
  refine lv_icmp_lt (tgt := 23) hx hb dX2_readClock_11 (by decide) (fun b11 => ?_) (fun b11 => ?_)
  · replace h := zif_t b11 h
    refine lv_aload_n hx hb dX2_readClock_23 rfl (lv_at hl 1 rfl) ?_
    refine z_get S hF hH iX2_readClock_X2 0 rfl rfl 1 (by decide) (List.mem_of_getElem? (i := 3) rfl) rfl dX2_readClock_24 ?_
    obtain ⟨z27, hz27, h⟩ := zcl_e h
    refine z_callV (As := []) (rest := []) (st1 := []) (ws' := (wd_X2_readClock cy q_t q_t_draft q_t_in q_t_draft_clockName q_t_draft_clockCorner q_t_draft_clockAhead q_t_draft_clockGain q_t_draft_masterName q_t_draft_masterCorner q_t_draft_masterLate q_t_draft_masterClock q_t_draft_masterMeets q_t_draft_meetName q_t_draft_meetDue q_t_in_tape q_t_in_kinds q_t_in_places q_t_in_values q_t_in_words t_waitTold t_draft_clocks t_draft_masters t_draft_meets t_draft_patience z27.1 z27.2.1 z27.2.2.1 z27.2.2.2.1 t_in_fault t_in_faultPlace t_in_size z27.2.2.2.2 t_in_kinds t_in_places t_in_values t_in_words t_draft_clockName t_draft_masterName t_draft_meetName t_draft_clockCorner t_draft_clockAhead t_draft_clockGain)) S hF hH (c_X8_advance l G cy E N q_t_in q_t_in_tape q_t_in_kinds q_t_in_places q_t_in_values q_t_in_words t_in_kind t_in_place t_in_value t_in_word t_in_fault t_in_faultPlace t_in_size t_in_taken t_in_kinds t_in_places t_in_values t_in_words z27.1 z27.2.1 z27.2.2.1 z27.2.2.2.1 z27.2.2.2.2 hz27) (cwV 0 hts gX2_readClock_X8_advance rfl rfl rfl (by decide +kernel) ⟨Nat.le_of_ble_eq_true rfl, Nat.le_of_ble_eq_true rfl⟩) 9 0 rfl rfl [2, 3, 4, 5, 6] [0, 1, 7, 8, 9, 10, 11, 12] [0, 1, 8, 9, 10, 11, 12, 2, 3, 4, 5, 6, 7] rfl rfl (by decide) (by decide) (by decide) (by decide) rfl rfl rfl rfl hl.1 (Nat.le_of_ble_eq_true rfl) dX2_readClock_27 ⟨Nat.le_of_ble_eq_true rfl, Nat.le_of_ble_eq_true rfl⟩ (fun H locs hH => ?_)
    refine lv_aload_n hx hb dX2_readClock_30 rfl (lv_at hl 1 rfl) ?_
    refine lv_aload_n hx hb dX2_readClock_31 rfl (lv_at hl 1 rfl) ?_
    refine z_get S hF hH iX2_readClock_X2 0 rfl rfl 0 (by decide) (List.mem_of_getElem? (i := 1) rfl) rfl dX2_readClock_32 ?_
    refine z_get S hF hH iX2_readClock_X1 1 rfl rfl 4 (by decide) (List.mem_of_getElem? (i := 4) rfl) rfl dX2_readClock_35 ?_
    refine lv_iload_n hx hb dX2_readClock_38 rfl (lv_at hl 0 rfl) ?_
    obtain ⟨z39, hz39, h⟩ := zcl_e h
    refine z_callV (As := [.ref q_t_draft_clockName, .int t_draft_clocks]) (rest := []) (st1 := [.int z39.1]) (ws' := (wd_X2_readClock cy q_t q_t_draft q_t_in q_t_draft_clockName q_t_draft_clockCorner q_t_draft_clockAhead q_t_draft_clockGain q_t_draft_masterName q_t_draft_masterCorner q_t_draft_masterLate q_t_draft_masterClock q_t_draft_masterMeets q_t_draft_meetName q_t_draft_meetDue q_t_in_tape q_t_in_kinds q_t_in_places q_t_in_values q_t_in_words t_waitTold t_draft_clocks t_draft_masters t_draft_meets t_draft_patience z39.2.1 z39.2.2.1 z39.2.2.2.1 z39.2.2.2.2.1 z39.2.2.2.2.2.1 z39.2.2.2.2.2.2.1 t_in_size z39.2.2.2.2.2.2.2.1 t_in_kinds t_in_places t_in_values t_in_words z39.2.2.2.2.2.2.2.2 t_draft_masterName t_draft_meetName t_draft_clockCorner t_draft_clockAhead t_draft_clockGain)) S hF hH (c_X2_takeNewName_clock l G cy E N q_t q_t_draft q_t_in q_t_draft_clockName q_t_draft_clockCorner q_t_draft_clockAhead q_t_draft_clockGain q_t_draft_masterName q_t_draft_masterCorner q_t_draft_masterLate q_t_draft_masterClock q_t_draft_masterMeets q_t_draft_meetName q_t_draft_meetDue q_t_in_tape q_t_in_kinds q_t_in_places q_t_in_values q_t_in_words t_waitTold t_draft_clocks t_draft_masters t_draft_meets t_draft_patience z27.1 z27.2.1 z27.2.2.1 z27.2.2.2.1 t_in_fault t_in_faultPlace t_in_size z27.2.2.2.2 t_draft_clockName t_draft_masterName t_draft_meetName t_in_kinds t_in_places t_in_values t_in_words t_draft_clocks z39.1 z39.2.1 z39.2.2.1 z39.2.2.2.1 z39.2.2.2.2.1 z39.2.2.2.2.2.1 z39.2.2.2.2.2.2.1 z39.2.2.2.2.2.2.2.1 z39.2.2.2.2.2.2.2.2 hz39) (cwV 2 hts gX2_readClock_X2_takeNewName rfl rfl rfl (by decide +kernel) ⟨Nat.le_of_ble_eq_true rfl, Nat.le_of_ble_eq_true rfl⟩) 3 0 rfl rfl [0, 1, 2, 7, 8, 9, 3, 4, 5, 6] [10, 11, 12] [3, 4, 5, 9, 10, 11, 12, 6, 7, 8, 0, 1, 2] rfl rfl (by decide) (by decide) (by decide) (by decide) rfl rfl rfl rfl hl.1 (Nat.le_of_ble_eq_true rfl) dX2_readClock_39 ⟨Nat.le_of_ble_eq_true rfl, Nat.le_of_ble_eq_true rfl⟩ (fun H locs hH => ?_)
    refine lv_if_ne (tgt := 47) hx hb dX2_readClock_42 (by decide) (fun b42 => ?_) (fun b42 => ?_)
    · replace h := zif_f b42 h
      refine lv_aload_n hx hb dX2_readClock_47 rfl (lv_at hl 1 rfl) ?_
      refine z_get S hF hH iX2_readClock_X2 0 rfl rfl 1 (by decide) (List.mem_of_getElem? (i := 3) rfl) rfl dX2_readClock_48 ?_
      refine lv_iconst (v := 0) hx hb dX2_readClock_51 (by decide) ?_
      refine lv_bipush (v := 30) hx hb dX2_readClock_52 (by decide) ?_
      obtain ⟨z54, hz54, h⟩ := zcl_e h
      refine z_callV (As := [.int 0, .int 30]) (rest := []) (st1 := [.int z54.1]) (ws' := (wd_X2_readClock cy q_t q_t_draft q_t_in q_t_draft_clockName q_t_draft_clockCorner q_t_draft_clockAhead q_t_draft_clockGain q_t_draft_masterName q_t_draft_masterCorner q_t_draft_masterLate q_t_draft_masterClock q_t_draft_masterMeets q_t_draft_meetName q_t_draft_meetDue q_t_in_tape q_t_in_kinds q_t_in_places q_t_in_values q_t_in_words t_waitTold t_draft_clocks t_draft_masters t_draft_meets t_draft_patience z54.2.1 z54.2.2.1 z54.2.2.2.1 z54.2.2.2.2.1 z54.2.2.2.2.2.1 z54.2.2.2.2.2.2.1 t_in_size z54.2.2.2.2.2.2.2 t_in_kinds t_in_places t_in_values t_in_words z39.2.2.2.2.2.2.2.2 t_draft_masterName t_draft_meetName t_draft_clockCorner t_draft_clockAhead t_draft_clockGain)) S hF hH (c_X8_takeNumber l G cy E N q_t_in q_t_in_tape q_t_in_kinds q_t_in_places q_t_in_values q_t_in_words z39.2.1 z39.2.2.1 z39.2.2.2.1 z39.2.2.2.2.1 z39.2.2.2.2.2.1 z39.2.2.2.2.2.2.1 t_in_size z39.2.2.2.2.2.2.2.1 t_in_kinds t_in_places t_in_values t_in_words 0 30 z54.1 z54.2.1 z54.2.2.1 z54.2.2.2.1 z54.2.2.2.2.1 z54.2.2.2.2.2.1 z54.2.2.2.2.2.2.1 z54.2.2.2.2.2.2.2 hz54) (cwV 2 hts gX2_readClock_X8_takeNumber rfl rfl rfl (by decide +kernel) ⟨Nat.le_of_ble_eq_true rfl, Nat.le_of_ble_eq_true rfl⟩) 9 0 rfl rfl [2, 3, 4, 5, 6] [0, 1, 7, 8, 9, 10, 11, 12] [0, 1, 8, 9, 10, 11, 12, 2, 3, 4, 5, 6, 7] rfl rfl (by decide) (by decide) (by decide) (by decide) rfl rfl rfl rfl hl.1 (Nat.le_of_ble_eq_true rfl) dX2_readClock_54 ⟨Nat.le_of_ble_eq_true rfl, Nat.le_of_ble_eq_true rfl⟩ (fun H locs hH => ?_)
      refine lv_istore_n (lv' := [(2, .int z54.1), (1, .int t_draft_clocks), (0, .ref q_t)]) hx hb dX2_readClock_57 rfl hl (by decide) rfl (fun ls hl => ?_)
      refine lv_iload_n hx hb dX2_readClock_58 rfl (lv_at hl 0 rfl) ?_
      refine lv_iconst (v := (-1)) hx hb dX2_readClock_59 (by decide) ?_
      refine lv_icmp_ne (tgt := 65) hx hb dX2_readClock_60 (by decide) (fun b60 => ?_) (fun b60 => ?_)
      · replace h := zif_f b60 h
        refine lv_aload_n hx hb dX2_readClock_65 rfl (lv_at hl 2 rfl) ?_
        refine z_get S hF hH iX2_readClock_X2 0 rfl rfl 0 (by decide) (List.mem_of_getElem? (i := 1) rfl) rfl dX2_readClock_66 ?_
        refine z_get S hF hH iX2_readClock_X1 1 rfl rfl 5 (by decide) (List.mem_of_getElem? (i := 5) rfl) rfl dX2_readClock_69 ?_
        refine lv_iload_n hx hb dX2_readClock_72 rfl (lv_at hl 1 rfl) ?_
        refine lv_iload_n hx hb dX2_readClock_73 rfl (lv_at hl 0 rfl) ?_
        obtain ⟨h74, h⟩ := zck_e h
        obtain ⟨f1, ef1, h⟩ := zbn_e h
        refine z_iast (ws' := (wd_X2_readClock cy q_t q_t_draft q_t_in q_t_draft_clockName q_t_draft_clockCorner q_t_draft_clockAhead q_t_draft_clockGain q_t_draft_masterName q_t_draft_masterCorner q_t_draft_masterLate q_t_draft_masterClock q_t_draft_masterMeets q_t_draft_meetName q_t_draft_meetDue q_t_in_tape q_t_in_kinds q_t_in_places q_t_in_values q_t_in_words t_waitTold t_draft_clocks t_draft_masters t_draft_meets t_draft_patience z54.2.1 z54.2.2.1 z54.2.2.2.1 z54.2.2.2.2.1 z54.2.2.2.2.2.1 z54.2.2.2.2.2.2.1 t_in_size z54.2.2.2.2.2.2.2 t_in_kinds t_in_places t_in_values t_in_words z39.2.2.2.2.2.2.2.2 t_draft_masterName t_draft_meetName f1 t_draft_clockAhead t_draft_clockGain)) S hF hH 10 rfl h74 (by rw [ef1]; rfl) dX2_readClock_74 (fun H locs hH => ?_)
        clear ef1
        refine lv_aload_n hx hb dX2_readClock_75 rfl (lv_at hl 2 rfl) ?_
        refine z_get S hF hH iX2_readClock_X2 0 rfl rfl 0 (by decide) (List.mem_of_getElem? (i := 1) rfl) rfl dX2_readClock_76 ?_
        refine z_get S hF hH iX2_readClock_X1 1 rfl rfl 6 (by decide) (List.mem_of_getElem? (i := 6) rfl) rfl dX2_readClock_79 ?_
        refine lv_iload_n hx hb dX2_readClock_82 rfl (lv_at hl 1 rfl) ?_
        refine lv_aload_n hx hb dX2_readClock_83 rfl (lv_at hl 2 rfl) ?_
        refine lv_iconst (v := 5) hx hb dX2_readClock_84 (by decide) ?_
        refine lv_bipush (v := 6) hx hb dX2_readClock_85 (by decide) ?_
        refine lv_bipush (v := 99) hx hb dX2_readClock_87 (by decide) ?_
        obtain ⟨z89, hz89, h⟩ := zcl_e h
        refine z_callV (As := [.int 5, .int 6, .int 99]) (rest := [.int t_draft_clocks, .ref q_t_draft_clockAhead]) (st1 := [.int z89.1, .int t_draft_clocks, .ref q_t_draft_clockAhead]) (ws' := (wd_X2_readClock cy q_t q_t_draft q_t_in q_t_draft_clockName q_t_draft_clockCorner q_t_draft_clockAhead q_t_draft_clockGain q_t_draft_masterName q_t_draft_masterCorner q_t_draft_masterLate q_t_draft_masterClock q_t_draft_masterMeets q_t_draft_meetName q_t_draft_meetDue q_t_in_tape q_t_in_kinds q_t_in_places q_t_in_values q_t_in_words t_waitTold t_draft_clocks t_draft_masters t_draft_meets t_draft_patience z89.2.1 z89.2.2.1 z89.2.2.2.1 z89.2.2.2.2.1 z89.2.2.2.2.2.1 z89.2.2.2.2.2.2.1 t_in_size z89.2.2.2.2.2.2.2 t_in_kinds t_in_places t_in_values t_in_words z39.2.2.2.2.2.2.2.2 t_draft_masterName t_draft_meetName f1 t_draft_clockAhead t_draft_clockGain)) S hF hH (c_X2_readTurn l G cy E N q_t q_t_draft q_t_in q_t_in_tape q_t_in_kinds q_t_in_places q_t_in_values q_t_in_words t_waitTold z54.2.1 z54.2.2.1 z54.2.2.2.1 z54.2.2.2.2.1 z54.2.2.2.2.2.1 z54.2.2.2.2.2.2.1 t_in_size z54.2.2.2.2.2.2.2 t_in_kinds t_in_places t_in_values t_in_words 5 6 99 z89.1 z89.2.1 z89.2.2.1 z89.2.2.2.1 z89.2.2.2.2.1 z89.2.2.2.2.2.1 z89.2.2.2.2.2.2.1 z89.2.2.2.2.2.2.2 hz89) (cwV 3 hts gX2_readClock_X2_readTurn rfl rfl rfl (by decide +kernel) ⟨Nat.le_of_ble_eq_true rfl, Nat.le_of_ble_eq_true rfl⟩) 3 0 rfl rfl [0, 2, 3, 4, 5, 6] [1, 7, 8, 9, 10, 11, 12] [7, 0, 8, 9, 10, 11, 12, 1, 2, 3, 4, 5, 6] rfl rfl (by decide) (by decide) (by decide) (by decide) rfl rfl rfl rfl hl.1 (Nat.le_of_ble_eq_true rfl) dX2_readClock_89 ⟨Nat.le_of_ble_eq_true rfl, Nat.le_of_ble_eq_true rfl⟩ (fun H locs hH => ?_)
        obtain ⟨h92, h⟩ := zck_e h
        obtain ⟨f2, ef2, h⟩ := zbn_e h
        refine z_iast (ws' := (wd_X2_readClock cy q_t q_t_draft q_t_in q_t_draft_clockName q_t_draft_clockCorner q_t_draft_clockAhead q_t_draft_clockGain q_t_draft_masterName q_t_draft_masterCorner q_t_draft_masterLate q_t_draft_masterClock q_t_draft_masterMeets q_t_draft_meetName q_t_draft_meetDue q_t_in_tape q_t_in_kinds q_t_in_places q_t_in_values q_t_in_words t_waitTold t_draft_clocks t_draft_masters t_draft_meets t_draft_patience z89.2.1 z89.2.2.1 z89.2.2.2.1 z89.2.2.2.2.1 z89.2.2.2.2.2.1 z89.2.2.2.2.2.2.1 t_in_size z89.2.2.2.2.2.2.2 t_in_kinds t_in_places t_in_values t_in_words z39.2.2.2.2.2.2.2.2 t_draft_masterName t_draft_meetName f1 f2 t_draft_clockGain)) S hF hH 11 rfl h92 (by rw [ef2]; rfl) dX2_readClock_92 (fun H locs hH => ?_)
        clear ef2
        refine lv_aload_n hx hb dX2_readClock_93 rfl (lv_at hl 2 rfl) ?_
        refine z_get S hF hH iX2_readClock_X2 0 rfl rfl 0 (by decide) (List.mem_of_getElem? (i := 1) rfl) rfl dX2_readClock_94 ?_
        refine z_get S hF hH iX2_readClock_X1 1 rfl rfl 7 (by decide) (List.mem_of_getElem? (i := 7) rfl) rfl dX2_readClock_97 ?_
        refine lv_iload_n hx hb dX2_readClock_100 rfl (lv_at hl 1 rfl) ?_
        refine lv_aload_n hx hb dX2_readClock_101 rfl (lv_at hl 2 rfl) ?_
        refine z_get S hF hH iX2_readClock_X2 0 rfl rfl 1 (by decide) (List.mem_of_getElem? (i := 3) rfl) rfl dX2_readClock_102 ?_
        refine z_get S hF hH iX2_readClock_X8 2 rfl rfl 4 (by decide) (List.mem_of_getElem? (i := 8) rfl) rfl dX2_readClock_105 ?_
        refine lv_if_ne (tgt := 124) hx hb dX2_readClock_108 (by decide) (fun b108 => ?_) (fun b108 => ?_)
        · replace h := zif_f b108 h
          refine lv_iconst (v := 0) hx hb dX2_readClock_124 (by decide) ?_
          exact w_X2_readClock_125 S hr hlocks hF t_draft_clocks 0 t_draft_clocks t_draft_clocks z89.2.1 z89.2.2.1 z89.2.2.2.1 z89.2.2.2.2.1 z89.2.2.2.2.2.1 z89.2.2.2.2.2.2.1 z89.2.2.2.2.2.2.2 z39.2.2.2.2.2.2.2.2 f1 f2 t_draft_clockGain _ _ _ hH (lv_sub hl [2, 1] rfl) h
        · replace h := zif_t b108 h
          refine lv_aload_n hx hb dX2_readClock_111 rfl (lv_at hl 2 rfl) ?_
          refine lv_bipush (v := 7) hx hb dX2_readClock_112 (by decide) ?_
          refine lv_bipush (v := 8) hx hb dX2_readClock_114 (by decide) ?_
          refine lv_bipush (v := 9) hx hb dX2_readClock_116 (by decide) ?_
          obtain ⟨z118, hz118, h⟩ := zcl_e h
          refine z_callV (As := [.int 7, .int 8, .int 9]) (rest := [.int t_draft_clocks, .ref q_t_draft_clockGain]) (st1 := [.int z118.1, .int t_draft_clocks, .ref q_t_draft_clockGain]) (ws' := (wd_X2_readClock cy q_t q_t_draft q_t_in q_t_draft_clockName q_t_draft_clockCorner q_t_draft_clockAhead q_t_draft_clockGain q_t_draft_masterName q_t_draft_masterCorner q_t_draft_masterLate q_t_draft_masterClock q_t_draft_masterMeets q_t_draft_meetName q_t_draft_meetDue q_t_in_tape q_t_in_kinds q_t_in_places q_t_in_values q_t_in_words t_waitTold t_draft_clocks t_draft_masters t_draft_meets t_draft_patience z118.2.1 z118.2.2.1 z118.2.2.2.1 z118.2.2.2.2.1 z118.2.2.2.2.2.1 z118.2.2.2.2.2.2.1 t_in_size z118.2.2.2.2.2.2.2 t_in_kinds t_in_places t_in_values t_in_words z39.2.2.2.2.2.2.2.2 t_draft_masterName t_draft_meetName f1 f2 t_draft_clockGain)) S hF hH (c_X2_readTurn l G cy E N q_t q_t_draft q_t_in q_t_in_tape q_t_in_kinds q_t_in_places q_t_in_values q_t_in_words t_waitTold z89.2.1 z89.2.2.1 z89.2.2.2.1 z89.2.2.2.2.1 z89.2.2.2.2.2.1 z89.2.2.2.2.2.2.1 t_in_size z89.2.2.2.2.2.2.2 t_in_kinds t_in_places t_in_values t_in_words 7 8 9 z118.1 z118.2.1 z118.2.2.1 z118.2.2.2.1 z118.2.2.2.2.1 z118.2.2.2.2.2.1 z118.2.2.2.2.2.2.1 z118.2.2.2.2.2.2.2 hz118) (cwV 3 hts gX2_readClock_X2_readTurn rfl rfl rfl (by decide +kernel) ⟨Nat.le_of_ble_eq_true rfl, Nat.le_of_ble_eq_true rfl⟩) 3 0 rfl rfl [0, 2, 3, 4, 5, 6] [1, 7, 8, 9, 10, 11, 12] [7, 0, 8, 9, 10, 11, 12, 1, 2, 3, 4, 5, 6] rfl rfl (by decide) (by decide) (by decide) (by decide) rfl rfl rfl rfl hl.1 (Nat.le_of_ble_eq_true rfl) dX2_readClock_118 ⟨Nat.le_of_ble_eq_true rfl, Nat.le_of_ble_eq_true rfl⟩ (fun H locs hH => ?_)
          refine lv_goto (tgt := 125) hx hb dX2_readClock_121 (by decide) ?_
          exact w_X2_readClock_125 S hr hlocks hF t_draft_clocks z118.1 t_draft_clocks t_draft_clocks z118.2.1 z118.2.2.1 z118.2.2.2.1 z118.2.2.2.2.1 z118.2.2.2.2.2.1 z118.2.2.2.2.2.2.1 z118.2.2.2.2.2.2.2 z39.2.2.2.2.2.2.2.2 f1 f2 t_draft_clockGain _ _ _ hH (lv_sub hl [2, 1] rfl) h
      · replace h := zif_t b60 h
        refine lv_iconst (v := 0) hx hb dX2_readClock_63 (by decide) ?_
        cases h
        exact z_zret S hr hlocks hH rfl dX2_readClock_64
    · replace h := zif_t b42 h
      refine lv_iconst (v := 0) hx hb dX2_readClock_45 (by decide) ?_
      cases h
      exact z_zret S hr hlocks hH rfl dX2_readClock_46
  · replace h := zif_f b11 h
    refine lv_aload_n hx hb dX2_readClock_14 rfl (lv_at hl 1 rfl) ?_
    refine z_get S hF hH iX2_readClock_X2 0 rfl rfl 1 (by decide) (List.mem_of_getElem? (i := 3) rfl) rfl dX2_readClock_15 ?_
    refine lv_iconst (v := 4) hx hb dX2_readClock_18 (by decide) ?_
    obtain ⟨z19, hz19, h⟩ := zcl_e h
    refine z_callV (As := [.int 4]) (rest := []) (st1 := [.int z19.1]) (ws' := (wd_X2_readClock cy q_t q_t_draft q_t_in q_t_draft_clockName q_t_draft_clockCorner q_t_draft_clockAhead q_t_draft_clockGain q_t_draft_masterName q_t_draft_masterCorner q_t_draft_masterLate q_t_draft_masterClock q_t_draft_masterMeets q_t_draft_meetName q_t_draft_meetDue q_t_in_tape q_t_in_kinds q_t_in_places q_t_in_values q_t_in_words t_waitTold t_draft_clocks t_draft_masters t_draft_meets t_draft_patience t_in_kind t_in_place t_in_value t_in_word z19.2.1 z19.2.2 t_in_size t_in_taken t_in_kinds t_in_places t_in_values t_in_words t_draft_clockName t_draft_masterName t_draft_meetName t_draft_clockCorner t_draft_clockAhead t_draft_clockGain)) S hF hH (c_X8_refuse l G cy E N q_t_in q_t_in_tape q_t_in_kinds q_t_in_places q_t_in_values q_t_in_words t_in_kind t_in_place t_in_value t_in_word t_in_fault t_in_faultPlace t_in_size t_in_taken 4 z19.1 z19.2.1 z19.2.2 hz19) (cwV 1 hts gX2_readClock_X8_refuse rfl rfl rfl (by decide +kernel) ⟨Nat.le_of_ble_eq_true rfl, Nat.le_of_ble_eq_true rfl⟩) 9 0 rfl rfl [2] [0, 1, 3, 4, 5, 6, 7, 8, 9, 10, 11, 12] [0, 1, 12, 2, 3, 4, 5, 6, 7, 8, 9, 10, 11] rfl rfl (by decide) (by decide) (by decide) (by decide) rfl rfl rfl rfl hl.1 (Nat.le_of_ble_eq_true rfl) dX2_readClock_19 ⟨Nat.le_of_ble_eq_true rfl, Nat.le_of_ble_eq_true rfl⟩ (fun H locs hH => ?_)
    obtain ⟨h22, h⟩ := zck_e h
    cases h
    exact z_zret S hr hlocks hH h22 dX2_readClock_22
abbrev wd_X2_readComes (cy : Nat → ClassId) (q_t q_t_draft q_t_in q_t_in_tape q_t_in_kinds q_t_in_places q_t_in_values q_t_in_words q_t_draft_clockName q_t_draft_clockCorner q_t_draft_clockAhead q_t_draft_clockGain q_t_draft_masterName q_t_draft_masterCorner q_t_draft_masterLate q_t_draft_masterClock q_t_draft_masterMeets q_t_draft_meetName q_t_draft_meetDue : Nat) (t_waitTold : Int32) (t_in_kind : Int32) (t_in_place : Int32) (t_in_value : Int32) (t_in_word : Int64) (t_in_fault : Int32) (t_in_faultPlace : Int32) (t_in_size : Int32) (t_in_taken : Int32) (t_in_kinds : Nat → Int32) (t_in_places : Nat → Int32) (t_in_values : Nat → Int32) (t_in_words : Nat → Int64) (t_draft_clocks : Int32) (t_draft_masters : Int32) (t_draft_meets : Int32) (t_draft_patience : Int32) (t_draft_masterName : Nat → Int64) (t_draft_meetName : Nat → Int64) (t_draft_masterMeets : Nat → Int32) : va_W := [(q_t, .inr (3, [.ref q_t_draft, .ref q_t_in, .int t_waitTold])), (q_t_in, .inr (9, [.int t_in_kind, .int t_in_place, .int t_in_value, .long t_in_word, .int t_in_fault, .int t_in_faultPlace, .ref q_t_in_tape, .int t_in_size, .int t_in_taken, .ref q_t_in_kinds, .ref q_t_in_places, .ref q_t_in_values, .ref q_t_in_words])), (q_t_in_kinds, .inl (cy 1, 901, .inl t_in_kinds)), (q_t_in_places, .inl (cy 1, 901, .inl t_in_places)), (q_t_in_values, .inl (cy 1, 901, .inl t_in_values)), (q_t_in_words, .inl (cy 2, 901, .inr (.inl t_in_words))), (q_t_draft, .inr (2, [.int t_draft_clocks, .int t_draft_masters, .int t_draft_meets, .int t_draft_patience, .ref q_t_draft_clockName, .ref q_t_draft_clockCorner, .ref q_t_draft_clockAhead, .ref q_t_draft_clockGain, .ref q_t_draft_masterName, .ref q_t_draft_masterCorner, .ref q_t_draft_masterLate, .ref q_t_draft_masterClock, .ref q_t_draft_masterMeets, .ref q_t_draft_meetName, .ref q_t_draft_meetDue])), (q_t_draft_masterName, .inl (cy 2, 6, .inr (.inl t_draft_masterName))), (q_t_draft_meetName, .inl (cy 2, 6, .inr (.inl t_draft_meetName))), (q_t_draft_masterMeets, .inl (cy 1, 6, .inl t_draft_masterMeets))]
theorem iX2_readComes_X1 : ∀ w ∈ wsX10, w ∈ wsX2_readComes := fun _ h => List.mem_cons_of_mem _ (List.mem_append_left _ (List.mem_append_right _ h))
theorem iX2_readComes_X2 : ∀ w ∈ wsX20, w ∈ wsX2_readComes := fun _ h => List.mem_cons_of_mem _ (List.mem_append_left _ (List.mem_append_left _ (List.mem_append_right _ h)))
abbrev rm_X2_readComes : Room := { frames := 2, cells := 0, slots := 0, locals := 47 }
set_option maxRecDepth 100000 in
def f_X2_readComes (N : Nat) (t_in_kind : Int32) (t_in_place : Int32) (t_in_value : Int32) (t_in_word : Int64) (t_in_fault : Int32) (t_in_faultPlace : Int32) (t_in_size : Int32) (t_in_taken : Int32) (t_in_kinds : Nat → Int32) (t_in_places : Nat → Int32) (t_in_values : Nat → Int32) (t_in_words : Nat → Int64) (t_draft_masters : Int32) (t_draft_meets : Int32) (t_draft_masterName : Nat → Int64) (t_draft_meetName : Nat → Int64) (t_draft_masterMeets : Nat → Int32) : Option (Int32 × Int32 × Int32 × Int32 × Int64 × Int32 × Int32 × Int32 × (Nat → Int32)) := zcl (f_X8_advance N t_in_kind t_in_place t_in_value t_in_word t_in_size t_in_taken t_in_kinds t_in_places t_in_values t_in_words) fun z4 => zcl (f_X8_findName N t_draft_masters z4.1 z4.2.1 z4.2.2.2.1 t_in_fault t_in_faultPlace t_draft_masterName) fun z25 => if z25.1 = (-1) then (some (0, z4.1, z4.2.1, z4.2.2.1, z4.2.2.2.1, z25.2.1, z25.2.2, z4.2.2.2.2, t_draft_masterMeets)) else (zcl (f_X8_advance N z4.1 z4.2.1 z4.2.2.1 z4.2.2.2.1 t_in_size z4.2.2.2.2 t_in_kinds t_in_places t_in_values t_in_words) fun z40 => zcl (f_X8_findName N t_draft_meets z40.1 z40.2.1 z40.2.2.2.1 z25.2.1 z25.2.2 t_draft_meetName) fun z61 => if z61.1 = (-1) then (some (0, z40.1, z40.2.1, z40.2.2.1, z40.2.2.2.1, z61.2.1, z61.2.2, z40.2.2.2.2, t_draft_masterMeets)) else (zcl (f_X1_isToCome N z25.1 z61.1 t_draft_masterMeets) fun z78 => if z78 = 0 then (zck (zin z25.1 6) <| zbn (((t_draft_masterMeets (Int32.toNatClampNeg z25.1)) ||| (1 <<< (z61.1 &&& 31)))) fun y1 => zck (zin z25.1 6) <| zbn (upd t_draft_masterMeets (Int32.toNatClampNeg z25.1) y1) fun f2 => zcl (f_X8_advance N z40.1 z40.2.1 z40.2.2.1 z40.2.2.2.1 t_in_size z40.2.2.2.2 t_in_kinds t_in_places t_in_values t_in_words) fun z112 => some (1, z112.1, z112.2.1, z112.2.2.1, z112.2.2.2.1, z61.2.1, z61.2.2, z112.2.2.2.2, f2)) else (zcl (f_X8_refuse N 3 z40.2.1 z61.2.1 z61.2.2) fun z89 => zck (zbo z89.1) <| some (z89.1, z40.1, z40.2.1, z40.2.2.1, z40.2.2.2.1, z89.2.1, z89.2.2, z40.2.2.2.2, t_draft_masterMeets))))
set_option maxHeartbeats 4000000 in
set_option maxRecDepth 100000 in
theorem c_X2_readComes (l : Launch) (G : va_G) (cy : Nat → ClassId) (E : List (Nat × Cell)) (N : Nat) (q_t q_t_draft q_t_in q_t_in_tape q_t_in_kinds q_t_in_places q_t_in_values q_t_in_words q_t_draft_clockName q_t_draft_clockCorner q_t_draft_clockAhead q_t_draft_clockGain q_t_draft_masterName q_t_draft_masterCorner q_t_draft_masterLate q_t_draft_masterClock q_t_draft_masterMeets q_t_draft_meetName q_t_draft_meetDue : Nat) (t_waitTold : Int32) (t_in_kind : Int32) (t_in_place : Int32) (t_in_value : Int32) (t_in_word : Int64) (t_in_fault : Int32) (t_in_faultPlace : Int32) (t_in_size : Int32) (t_in_taken : Int32) (t_in_kinds : Nat → Int32) (t_in_places : Nat → Int32) (t_in_values : Nat → Int32) (t_in_words : Nat → Int64) (t_draft_clocks : Int32) (t_draft_masters : Int32) (t_draft_meets : Int32) (t_draft_patience : Int32) (t_draft_masterName : Nat → Int64) (t_draft_meetName : Nat → Int64) (t_draft_masterMeets : Nat → Int32) (r : Int32) (r_t_in_kind : Int32) (r_t_in_place : Int32) (r_t_in_value : Int32) (r_t_in_word : Int64) (r_t_in_fault : Int32) (r_t_in_faultPlace : Int32) (r_t_in_taken : Int32) (r_t_draft_masterMeets : Nat → Int32) (h : f_X2_readComes N t_in_kind t_in_place t_in_value t_in_word t_in_fault t_in_faultPlace t_in_size t_in_taken t_in_kinds t_in_places t_in_values t_in_words t_draft_masters t_draft_meets t_draft_masterName t_draft_meetName t_draft_masterMeets = some (r, r_t_in_kind, r_t_in_place, r_t_in_value, r_t_in_word, r_t_in_fault, r_t_in_faultPlace, r_t_in_taken, r_t_draft_masterMeets)) : zM l G cy E yX2_readComes wsX2_readComes rm_X2_readComes [.ref q_t] (wd_X2_readComes cy q_t q_t_draft q_t_in q_t_in_tape q_t_in_kinds q_t_in_places q_t_in_values q_t_in_words q_t_draft_clockName q_t_draft_clockCorner q_t_draft_clockAhead q_t_draft_clockGain q_t_draft_masterName q_t_draft_masterCorner q_t_draft_masterLate q_t_draft_masterClock q_t_draft_masterMeets q_t_draft_meetName q_t_draft_meetDue t_waitTold t_in_kind t_in_place t_in_value t_in_word t_in_fault t_in_faultPlace t_in_size t_in_taken t_in_kinds t_in_places t_in_values t_in_words t_draft_clocks t_draft_masters t_draft_meets t_draft_patience t_draft_masterName t_draft_meetName t_draft_masterMeets) (wd_X2_readComes cy q_t q_t_draft q_t_in q_t_in_tape q_t_in_kinds q_t_in_places q_t_in_values q_t_in_words q_t_draft_clockName q_t_draft_clockCorner q_t_draft_clockAhead q_t_draft_clockGain q_t_draft_masterName q_t_draft_masterCorner q_t_draft_masterLate q_t_draft_masterClock q_t_draft_masterMeets q_t_draft_meetName q_t_draft_meetDue t_waitTold r_t_in_kind r_t_in_place r_t_in_value r_t_in_word r_t_in_fault r_t_in_faultPlace t_in_size r_t_in_taken t_in_kinds t_in_places t_in_values t_in_words t_draft_clocks t_draft_masters t_draft_meets t_draft_patience t_draft_masterName t_draft_meetName r_t_draft_masterMeets) (some (.int r)) 0 0 := by
  refine z_body (cc := cX2_readComes) (maxL := 3) (ret := some .boolean) (by decide) rfl (Nat.le_of_ble_eq_true rfl) ?_
  intro p e s m below meth c ls S hr hlocks hnm hF hH hl
  have S : CallFix p m c cX2_readComes 3 s ([.ref q_t] : List Value).toArray wsX2_readComes RX2 := S
  obtain ⟨hx, hb, hml, hown, hts⟩ := id S
  have hl : lv_has ls 3 [(0, .ref q_t)] := hl
  rw [f_X2_readComes] at h
  refine lv_aload_n hx hb dX2_readComes_0 rfl (lv_at hl 0 rfl) ?_
  refine z_get S hF hH iX2_readComes_X2 0 rfl rfl 1 (by decide) (List.mem_of_getElem? (i := 1) rfl) rfl dX2_readComes_1 ?_
  obtain ⟨z4, hz4, h⟩ := zcl_e h
  refine z_callV (As := []) (rest := []) (st1 := []) (ws' := (wd_X2_readComes cy q_t q_t_draft q_t_in q_t_in_tape q_t_in_kinds q_t_in_places q_t_in_values q_t_in_words q_t_draft_clockName q_t_draft_clockCorner q_t_draft_clockAhead q_t_draft_clockGain q_t_draft_masterName q_t_draft_masterCorner q_t_draft_masterLate q_t_draft_masterClock q_t_draft_masterMeets q_t_draft_meetName q_t_draft_meetDue t_waitTold z4.1 z4.2.1 z4.2.2.1 z4.2.2.2.1 t_in_fault t_in_faultPlace t_in_size z4.2.2.2.2 t_in_kinds t_in_places t_in_values t_in_words t_draft_clocks t_draft_masters t_draft_meets t_draft_patience t_draft_masterName t_draft_meetName t_draft_masterMeets)) S hF hH (c_X8_advance l G cy E N q_t_in q_t_in_tape q_t_in_kinds q_t_in_places q_t_in_values q_t_in_words t_in_kind t_in_place t_in_value t_in_word t_in_fault t_in_faultPlace t_in_size t_in_taken t_in_kinds t_in_places t_in_values t_in_words z4.1 z4.2.1 z4.2.2.1 z4.2.2.2.1 z4.2.2.2.2 hz4) (cwV 0 hts gX2_readComes_X8_advance rfl rfl rfl (by decide +kernel) ⟨Nat.le_of_ble_eq_true rfl, Nat.le_of_ble_eq_true rfl⟩) 9 0 rfl rfl [1, 2, 3, 4, 5] [0, 6, 7, 8, 9] [0, 5, 6, 7, 8, 9, 1, 2, 3, 4] rfl rfl (by decide) (by decide) (by decide) (by decide) rfl rfl rfl rfl hl.1 (Nat.le_of_ble_eq_true rfl) dX2_readComes_4 ⟨Nat.le_of_ble_eq_true rfl, Nat.le_of_ble_eq_true rfl⟩ (fun H locs hH => ?_)
  refine lv_aload_n hx hb dX2_readComes_7 rfl (lv_at hl 0 rfl) ?_
  refine z_get S hF hH iX2_readComes_X2 0 rfl rfl 1 (by decide) (List.mem_of_getElem? (i := 1) rfl) rfl dX2_readComes_8 ?_
  refine lv_aload_n hx hb dX2_readComes_11 rfl (lv_at hl 0 rfl) ?_
  refine z_get S hF hH iX2_readComes_X2 0 rfl rfl 0 (by decide) (List.mem_of_getElem? (i := 2) rfl) rfl dX2_readComes_12 ?_
  refine z_get S hF hH iX2_readComes_X1 6 rfl rfl 8 (by decide) (List.mem_of_getElem? (i := 3) rfl) rfl dX2_readComes_15 ?_
  refine lv_aload_n hx hb dX2_readComes_18 rfl (lv_at hl 0 rfl) ?_
  refine z_get S hF hH iX2_readComes_X2 0 rfl rfl 0 (by decide) (List.mem_of_getElem? (i := 2) rfl) rfl dX2_readComes_19 ?_
  refine z_get S hF hH iX2_readComes_X1 6 rfl rfl 1 (by decide) (List.mem_of_getElem? (i := 4) rfl) rfl dX2_readComes_22 ?_
  obtain ⟨z25, hz25, h⟩ := zcl_e h
  refine z_callV (As := [.ref q_t_draft_masterName, .int t_draft_masters]) (rest := []) (st1 := [.int z25.1]) (ws' := (wd_X2_readComes cy q_t q_t_draft q_t_in q_t_in_tape q_t_in_kinds q_t_in_places q_t_in_values q_t_in_words q_t_draft_clockName q_t_draft_clockCorner q_t_draft_clockAhead q_t_draft_clockGain q_t_draft_masterName q_t_draft_masterCorner q_t_draft_masterLate q_t_draft_masterClock q_t_draft_masterMeets q_t_draft_meetName q_t_draft_meetDue t_waitTold z4.1 z4.2.1 z4.2.2.1 z4.2.2.2.1 z25.2.1 z25.2.2 t_in_size z4.2.2.2.2 t_in_kinds t_in_places t_in_values t_in_words t_draft_clocks t_draft_masters t_draft_meets t_draft_patience t_draft_masterName t_draft_meetName t_draft_masterMeets)) S hF hH (c_X8_findName l G cy E N q_t_in q_t_draft_masterName q_t_in_tape q_t_in_kinds q_t_in_places q_t_in_values q_t_in_words z4.1 z4.2.1 z4.2.2.1 z4.2.2.2.1 t_in_fault t_in_faultPlace t_in_size z4.2.2.2.2 t_draft_masterName t_draft_masters z25.1 z25.2.1 z25.2.2 hz25) (cwV 2 hts gX2_readComes_X8_findName rfl rfl rfl (by decide +kernel) ⟨Nat.le_of_ble_eq_true rfl, Nat.le_of_ble_eq_true rfl⟩) 9 0 rfl rfl [1, 7] [0, 2, 3, 4, 5, 6, 8, 9] [0, 8, 1, 2, 3, 4, 5, 9, 6, 7] rfl rfl (by decide) (by decide) (by decide) (by decide) rfl rfl rfl rfl hl.1 (Nat.le_of_ble_eq_true rfl) dX2_readComes_25 ⟨Nat.le_of_ble_eq_true rfl, Nat.le_of_ble_eq_true rfl⟩ (fun H locs hH => ?_)
  refine lv_istore_n (lv' := [(1, .int z25.1), (0, .ref q_t)]) hx hb dX2_readComes_28 rfl hl (by decide) rfl (fun ls hl => ?_)
  refine lv_iload_n hx hb dX2_readComes_29 rfl (lv_at hl 0 rfl) ?_
  refine lv_iconst (v := (-1)) hx hb dX2_readComes_30 (by decide) ?_
  refine lv_icmp_ne (tgt := 36) hx hb dX2_readComes_31 (by decide) (fun b31 => ?_) (fun b31 => ?_)
  · replace h := zif_f b31 h
    refine lv_aload_n hx hb dX2_readComes_36 rfl (lv_at hl 1 rfl) ?_
    refine z_get S hF hH iX2_readComes_X2 0 rfl rfl 1 (by decide) (List.mem_of_getElem? (i := 1) rfl) rfl dX2_readComes_37 ?_
    obtain ⟨z40, hz40, h⟩ := zcl_e h
    refine z_callV (As := []) (rest := []) (st1 := []) (ws' := (wd_X2_readComes cy q_t q_t_draft q_t_in q_t_in_tape q_t_in_kinds q_t_in_places q_t_in_values q_t_in_words q_t_draft_clockName q_t_draft_clockCorner q_t_draft_clockAhead q_t_draft_clockGain q_t_draft_masterName q_t_draft_masterCorner q_t_draft_masterLate q_t_draft_masterClock q_t_draft_masterMeets q_t_draft_meetName q_t_draft_meetDue t_waitTold z40.1 z40.2.1 z40.2.2.1 z40.2.2.2.1 z25.2.1 z25.2.2 t_in_size z40.2.2.2.2 t_in_kinds t_in_places t_in_values t_in_words t_draft_clocks t_draft_masters t_draft_meets t_draft_patience t_draft_masterName t_draft_meetName t_draft_masterMeets)) S hF hH (c_X8_advance l G cy E N q_t_in q_t_in_tape q_t_in_kinds q_t_in_places q_t_in_values q_t_in_words z4.1 z4.2.1 z4.2.2.1 z4.2.2.2.1 z25.2.1 z25.2.2 t_in_size z4.2.2.2.2 t_in_kinds t_in_places t_in_values t_in_words z40.1 z40.2.1 z40.2.2.1 z40.2.2.2.1 z40.2.2.2.2 hz40) (cwV 0 hts gX2_readComes_X8_advance rfl rfl rfl (by decide +kernel) ⟨Nat.le_of_ble_eq_true rfl, Nat.le_of_ble_eq_true rfl⟩) 9 0 rfl rfl [1, 2, 3, 4, 5] [0, 6, 7, 8, 9] [0, 5, 6, 7, 8, 9, 1, 2, 3, 4] rfl rfl (by decide) (by decide) (by decide) (by decide) rfl rfl rfl rfl hl.1 (Nat.le_of_ble_eq_true rfl) dX2_readComes_40 ⟨Nat.le_of_ble_eq_true rfl, Nat.le_of_ble_eq_true rfl⟩ (fun H locs hH => ?_)
    refine lv_aload_n hx hb dX2_readComes_43 rfl (lv_at hl 1 rfl) ?_
    refine z_get S hF hH iX2_readComes_X2 0 rfl rfl 1 (by decide) (List.mem_of_getElem? (i := 1) rfl) rfl dX2_readComes_44 ?_
    refine lv_aload_n hx hb dX2_readComes_47 rfl (lv_at hl 1 rfl) ?_
    refine z_get S hF hH iX2_readComes_X2 0 rfl rfl 0 (by decide) (List.mem_of_getElem? (i := 2) rfl) rfl dX2_readComes_48 ?_
    refine z_get S hF hH iX2_readComes_X1 6 rfl rfl 13 (by decide) (List.mem_of_getElem? (i := 5) rfl) rfl dX2_readComes_51 ?_
    refine lv_aload_n hx hb dX2_readComes_54 rfl (lv_at hl 1 rfl) ?_
    refine z_get S hF hH iX2_readComes_X2 0 rfl rfl 0 (by decide) (List.mem_of_getElem? (i := 2) rfl) rfl dX2_readComes_55 ?_
    refine z_get S hF hH iX2_readComes_X1 6 rfl rfl 2 (by decide) (List.mem_of_getElem? (i := 6) rfl) rfl dX2_readComes_58 ?_
    obtain ⟨z61, hz61, h⟩ := zcl_e h
    refine z_callV (As := [.ref q_t_draft_meetName, .int t_draft_meets]) (rest := []) (st1 := [.int z61.1]) (ws' := (wd_X2_readComes cy q_t q_t_draft q_t_in q_t_in_tape q_t_in_kinds q_t_in_places q_t_in_values q_t_in_words q_t_draft_clockName q_t_draft_clockCorner q_t_draft_clockAhead q_t_draft_clockGain q_t_draft_masterName q_t_draft_masterCorner q_t_draft_masterLate q_t_draft_masterClock q_t_draft_masterMeets q_t_draft_meetName q_t_draft_meetDue t_waitTold z40.1 z40.2.1 z40.2.2.1 z40.2.2.2.1 z61.2.1 z61.2.2 t_in_size z40.2.2.2.2 t_in_kinds t_in_places t_in_values t_in_words t_draft_clocks t_draft_masters t_draft_meets t_draft_patience t_draft_masterName t_draft_meetName t_draft_masterMeets)) S hF hH (c_X8_findName l G cy E N q_t_in q_t_draft_meetName q_t_in_tape q_t_in_kinds q_t_in_places q_t_in_values q_t_in_words z40.1 z40.2.1 z40.2.2.1 z40.2.2.2.1 z25.2.1 z25.2.2 t_in_size z40.2.2.2.2 t_draft_meetName t_draft_meets z61.1 z61.2.1 z61.2.2 hz61) (cwV 2 hts gX2_readComes_X8_findName rfl rfl rfl (by decide +kernel) ⟨Nat.le_of_ble_eq_true rfl, Nat.le_of_ble_eq_true rfl⟩) 9 0 rfl rfl [1, 8] [0, 2, 3, 4, 5, 6, 7, 9] [0, 8, 1, 2, 3, 4, 5, 6, 9, 7] rfl rfl (by decide) (by decide) (by decide) (by decide) rfl rfl rfl rfl hl.1 (Nat.le_of_ble_eq_true rfl) dX2_readComes_61 ⟨Nat.le_of_ble_eq_true rfl, Nat.le_of_ble_eq_true rfl⟩ (fun H locs hH => ?_)
    refine lv_istore_n (lv' := [(2, .int z61.1), (1, .int z25.1), (0, .ref q_t)]) hx hb dX2_readComes_64 rfl hl (by decide) rfl (fun ls hl => ?_)
    refine lv_iload_n hx hb dX2_readComes_65 rfl (lv_at hl 0 rfl) ?_
    refine lv_iconst (v := (-1)) hx hb dX2_readComes_66 (by decide) ?_
    refine lv_icmp_ne (tgt := 72) hx hb dX2_readComes_67 (by decide) (fun b67 => ?_) (fun b67 => ?_)
    · replace h := zif_f b67 h
      refine lv_aload_n hx hb dX2_readComes_72 rfl (lv_at hl 2 rfl) ?_
      refine z_get S hF hH iX2_readComes_X2 0 rfl rfl 0 (by decide) (List.mem_of_getElem? (i := 2) rfl) rfl dX2_readComes_73 ?_
      refine lv_iload_n hx hb dX2_readComes_76 rfl (lv_at hl 1 rfl) ?_
      refine lv_iload_n hx hb dX2_readComes_77 rfl (lv_at hl 0 rfl) ?_
      obtain ⟨z78, hz78, h⟩ := zcl_e h
      refine z_callV (As := [.int z25.1, .int z61.1]) (rest := []) (st1 := [.int z78]) (ws' := (wd_X2_readComes cy q_t q_t_draft q_t_in q_t_in_tape q_t_in_kinds q_t_in_places q_t_in_values q_t_in_words q_t_draft_clockName q_t_draft_clockCorner q_t_draft_clockAhead q_t_draft_clockGain q_t_draft_masterName q_t_draft_masterCorner q_t_draft_masterLate q_t_draft_masterClock q_t_draft_masterMeets q_t_draft_meetName q_t_draft_meetDue t_waitTold z40.1 z40.2.1 z40.2.2.1 z40.2.2.2.1 z61.2.1 z61.2.2 t_in_size z40.2.2.2.2 t_in_kinds t_in_places t_in_values t_in_words t_draft_clocks t_draft_masters t_draft_meets t_draft_patience t_draft_masterName t_draft_meetName t_draft_masterMeets)) S hF hH (c_X1_isToCome l G cy E N q_t_draft q_t_draft_clockName q_t_draft_clockCorner q_t_draft_clockAhead q_t_draft_clockGain q_t_draft_masterName q_t_draft_masterCorner q_t_draft_masterLate q_t_draft_masterClock q_t_draft_masterMeets q_t_draft_meetName q_t_draft_meetDue t_draft_clocks t_draft_masters t_draft_meets t_draft_patience t_draft_masterMeets z25.1 z61.1 z78 hz78) (cwV 2 hts gX2_readComes_X1_isToCome rfl rfl rfl (by decide +kernel) ⟨Nat.le_of_ble_eq_true rfl, Nat.le_of_ble_eq_true rfl⟩) 2 0 rfl rfl [6, 9] [0, 1, 2, 3, 4, 5, 7, 8] [0, 1, 2, 3, 4, 5, 8, 6, 7, 9] rfl rfl (by decide) (by decide) (by decide) (by decide) rfl rfl rfl rfl hl.1 (Nat.le_of_ble_eq_true rfl) dX2_readComes_78 ⟨Nat.le_of_ble_eq_true rfl, Nat.le_of_ble_eq_true rfl⟩ (fun H locs hH => ?_)
      refine lv_if_eq (tgt := 93) hx hb dX2_readComes_81 (by decide) (fun b81 => ?_) (fun b81 => ?_)
      · replace h := zif_t b81 h
        refine lv_aload_n hx hb dX2_readComes_93 rfl (lv_at hl 2 rfl) ?_
        refine z_get S hF hH iX2_readComes_X2 0 rfl rfl 0 (by decide) (List.mem_of_getElem? (i := 2) rfl) rfl dX2_readComes_94 ?_
        refine z_get S hF hH iX2_readComes_X1 6 rfl rfl 12 (by decide) (List.mem_of_getElem? (i := 7) rfl) rfl dX2_readComes_97 ?_
        refine lv_iload_n hx hb dX2_readComes_100 rfl (lv_at hl 1 rfl) ?_
        refine lv_dup2_11 hx hb dX2_readComes_101 rfl rfl ?_
        obtain ⟨h102, h⟩ := zck_e h
        refine z_iald S hF hH 9 rfl h102 dX2_readComes_102 ?_
        refine lv_iconst (v := 1) hx hb dX2_readComes_103 (by decide) ?_
        refine lv_iload_n hx hb dX2_readComes_104 rfl (lv_at hl 0 rfl) ?_
        refine lv_ishl hx hb dX2_readComes_105 ?_
        refine lv_ior hx hb dX2_readComes_106 ?_
        obtain ⟨y1, ey1, h⟩ := zbn_e h
        refine z_top ey1 ?_
        clear ey1
        obtain ⟨h107, h⟩ := zck_e h
        obtain ⟨f2, ef2, h⟩ := zbn_e h
        refine z_iast (ws' := (wd_X2_readComes cy q_t q_t_draft q_t_in q_t_in_tape q_t_in_kinds q_t_in_places q_t_in_values q_t_in_words q_t_draft_clockName q_t_draft_clockCorner q_t_draft_clockAhead q_t_draft_clockGain q_t_draft_masterName q_t_draft_masterCorner q_t_draft_masterLate q_t_draft_masterClock q_t_draft_masterMeets q_t_draft_meetName q_t_draft_meetDue t_waitTold z40.1 z40.2.1 z40.2.2.1 z40.2.2.2.1 z61.2.1 z61.2.2 t_in_size z40.2.2.2.2 t_in_kinds t_in_places t_in_values t_in_words t_draft_clocks t_draft_masters t_draft_meets t_draft_patience t_draft_masterName t_draft_meetName f2)) S hF hH 9 rfl h107 (by rw [ef2]; rfl) dX2_readComes_107 (fun H locs hH => ?_)
        clear ef2
        refine lv_aload_n hx hb dX2_readComes_108 rfl (lv_at hl 2 rfl) ?_
        refine z_get S hF hH iX2_readComes_X2 0 rfl rfl 1 (by decide) (List.mem_of_getElem? (i := 1) rfl) rfl dX2_readComes_109 ?_
        obtain ⟨z112, hz112, h⟩ := zcl_e h
        refine z_callV (As := []) (rest := []) (st1 := []) (ws' := (wd_X2_readComes cy q_t q_t_draft q_t_in q_t_in_tape q_t_in_kinds q_t_in_places q_t_in_values q_t_in_words q_t_draft_clockName q_t_draft_clockCorner q_t_draft_clockAhead q_t_draft_clockGain q_t_draft_masterName q_t_draft_masterCorner q_t_draft_masterLate q_t_draft_masterClock q_t_draft_masterMeets q_t_draft_meetName q_t_draft_meetDue t_waitTold z112.1 z112.2.1 z112.2.2.1 z112.2.2.2.1 z61.2.1 z61.2.2 t_in_size z112.2.2.2.2 t_in_kinds t_in_places t_in_values t_in_words t_draft_clocks t_draft_masters t_draft_meets t_draft_patience t_draft_masterName t_draft_meetName f2)) S hF hH (c_X8_advance l G cy E N q_t_in q_t_in_tape q_t_in_kinds q_t_in_places q_t_in_values q_t_in_words z40.1 z40.2.1 z40.2.2.1 z40.2.2.2.1 z61.2.1 z61.2.2 t_in_size z40.2.2.2.2 t_in_kinds t_in_places t_in_values t_in_words z112.1 z112.2.1 z112.2.2.1 z112.2.2.2.1 z112.2.2.2.2 hz112) (cwV 0 hts gX2_readComes_X8_advance rfl rfl rfl (by decide +kernel) ⟨Nat.le_of_ble_eq_true rfl, Nat.le_of_ble_eq_true rfl⟩) 9 0 rfl rfl [1, 2, 3, 4, 5] [0, 6, 7, 8, 9] [0, 5, 6, 7, 8, 9, 1, 2, 3, 4] rfl rfl (by decide) (by decide) (by decide) (by decide) rfl rfl rfl rfl hl.1 (Nat.le_of_ble_eq_true rfl) dX2_readComes_112 ⟨Nat.le_of_ble_eq_true rfl, Nat.le_of_ble_eq_true rfl⟩ (fun H locs hH => ?_)
        refine lv_iconst (v := 1) hx hb dX2_readComes_115 (by decide) ?_
        cases h
        exact z_zret S hr hlocks hH rfl dX2_readComes_116
      · replace h := zif_f b81 h
        refine lv_aload_n hx hb dX2_readComes_84 rfl (lv_at hl 2 rfl) ?_
        refine z_get S hF hH iX2_readComes_X2 0 rfl rfl 1 (by decide) (List.mem_of_getElem? (i := 1) rfl) rfl dX2_readComes_85 ?_
        refine lv_iconst (v := 3) hx hb dX2_readComes_88 (by decide) ?_
        obtain ⟨z89, hz89, h⟩ := zcl_e h
        refine z_callV (As := [.int 3]) (rest := []) (st1 := [.int z89.1]) (ws' := (wd_X2_readComes cy q_t q_t_draft q_t_in q_t_in_tape q_t_in_kinds q_t_in_places q_t_in_values q_t_in_words q_t_draft_clockName q_t_draft_clockCorner q_t_draft_clockAhead q_t_draft_clockGain q_t_draft_masterName q_t_draft_masterCorner q_t_draft_masterLate q_t_draft_masterClock q_t_draft_masterMeets q_t_draft_meetName q_t_draft_meetDue t_waitTold z40.1 z40.2.1 z40.2.2.1 z40.2.2.2.1 z89.2.1 z89.2.2 t_in_size z40.2.2.2.2 t_in_kinds t_in_places t_in_values t_in_words t_draft_clocks t_draft_masters t_draft_meets t_draft_patience t_draft_masterName t_draft_meetName t_draft_masterMeets)) S hF hH (c_X8_refuse l G cy E N q_t_in q_t_in_tape q_t_in_kinds q_t_in_places q_t_in_values q_t_in_words z40.1 z40.2.1 z40.2.2.1 z40.2.2.2.1 z61.2.1 z61.2.2 t_in_size z40.2.2.2.2 3 z89.1 z89.2.1 z89.2.2 hz89) (cwV 1 hts gX2_readComes_X8_refuse rfl rfl rfl (by decide +kernel) ⟨Nat.le_of_ble_eq_true rfl, Nat.le_of_ble_eq_true rfl⟩) 9 0 rfl rfl [1] [0, 2, 3, 4, 5, 6, 7, 8, 9] [0, 9, 1, 2, 3, 4, 5, 6, 7, 8] rfl rfl (by decide) (by decide) (by decide) (by decide) rfl rfl rfl rfl hl.1 (Nat.le_of_ble_eq_true rfl) dX2_readComes_89 ⟨Nat.le_of_ble_eq_true rfl, Nat.le_of_ble_eq_true rfl⟩ (fun H locs hH => ?_)
        obtain ⟨h92, h⟩ := zck_e h
        cases h
        exact z_zret S hr hlocks hH h92 dX2_readComes_92
    · replace h := zif_t b67 h
      refine lv_iconst (v := 0) hx hb dX2_readComes_70 (by decide) ?_
      cases h
      exact z_zret S hr hlocks hH rfl dX2_readComes_71
  · replace h := zif_t b31 h
    refine lv_iconst (v := 0) hx hb dX2_readComes_34 (by decide) ?_
    cases h
    exact z_zret S hr hlocks hH rfl dX2_readComes_35
abbrev wd_X2_readMaster (cy : Nat → ClassId) (q_t q_t_draft q_t_in q_t_draft_clockName q_t_draft_clockCorner q_t_draft_clockAhead q_t_draft_clockGain q_t_draft_masterName q_t_draft_masterCorner q_t_draft_masterLate q_t_draft_masterClock q_t_draft_masterMeets q_t_draft_meetName q_t_draft_meetDue q_t_in_tape q_t_in_kinds q_t_in_places q_t_in_values q_t_in_words : Nat) (t_waitTold : Int32) (t_draft_clocks : Int32) (t_draft_masters : Int32) (t_draft_meets : Int32) (t_draft_patience : Int32) (t_in_kind : Int32) (t_in_place : Int32) (t_in_value : Int32) (t_in_word : Int64) (t_in_fault : Int32) (t_in_faultPlace : Int32) (t_in_size : Int32) (t_in_taken : Int32) (t_in_kinds : Nat → Int32) (t_in_places : Nat → Int32) (t_in_values : Nat → Int32) (t_in_words : Nat → Int64) (t_draft_clockName : Nat → Int64) (t_draft_masterName : Nat → Int64) (t_draft_meetName : Nat → Int64) (t_draft_masterCorner : Nat → Int32) (t_draft_masterLate : Nat → Int32) (t_draft_masterMeets : Nat → Int32) (t_draft_masterClock : Nat → Int32) : va_W := [(q_t, .inr (3, [.ref q_t_draft, .ref q_t_in, .int t_waitTold])), (q_t_draft, .inr (2, [.int t_draft_clocks, .int t_draft_masters, .int t_draft_meets, .int t_draft_patience, .ref q_t_draft_clockName, .ref q_t_draft_clockCorner, .ref q_t_draft_clockAhead, .ref q_t_draft_clockGain, .ref q_t_draft_masterName, .ref q_t_draft_masterCorner, .ref q_t_draft_masterLate, .ref q_t_draft_masterClock, .ref q_t_draft_masterMeets, .ref q_t_draft_meetName, .ref q_t_draft_meetDue])), (q_t_in, .inr (9, [.int t_in_kind, .int t_in_place, .int t_in_value, .long t_in_word, .int t_in_fault, .int t_in_faultPlace, .ref q_t_in_tape, .int t_in_size, .int t_in_taken, .ref q_t_in_kinds, .ref q_t_in_places, .ref q_t_in_values, .ref q_t_in_words])), (q_t_in_kinds, .inl (cy 1, 901, .inl t_in_kinds)), (q_t_in_places, .inl (cy 1, 901, .inl t_in_places)), (q_t_in_values, .inl (cy 1, 901, .inl t_in_values)), (q_t_in_words, .inl (cy 2, 901, .inr (.inl t_in_words))), (q_t_draft_clockName, .inl (cy 2, 6, .inr (.inl t_draft_clockName))), (q_t_draft_masterName, .inl (cy 2, 6, .inr (.inl t_draft_masterName))), (q_t_draft_meetName, .inl (cy 2, 6, .inr (.inl t_draft_meetName))), (q_t_draft_masterCorner, .inl (cy 1, 6, .inl t_draft_masterCorner)), (q_t_draft_masterLate, .inl (cy 1, 6, .inl t_draft_masterLate)), (q_t_draft_masterMeets, .inl (cy 1, 6, .inl t_draft_masterMeets)), (q_t_draft_masterClock, .inl (cy 1, 6, .inl t_draft_masterClock))]
theorem iX2_readMaster_X1 : ∀ w ∈ wsX10, w ∈ wsX2_readMaster := fun _ h => List.mem_cons_of_mem _ (List.mem_append_left _ (List.mem_append_right _ h))
theorem iX2_readMaster_X2 : ∀ w ∈ wsX20, w ∈ wsX2_readMaster := fun _ h => List.mem_cons_of_mem _ (List.mem_append_left _ (List.mem_append_left _ (List.mem_append_right _ h)))
abbrev rm_X2_readMaster : Room := { frames := 3, cells := 0, slots := 0, locals := 68 }
set_option maxRecDepth 100000 in
def f_X2_readMaster (N : Nat) (t_draft_clocks : Int32) (t_draft_masters : Int32) (t_draft_meets : Int32) (t_in_kind : Int32) (t_in_place : Int32) (t_in_value : Int32) (t_in_word : Int64) (t_in_fault : Int32) (t_in_faultPlace : Int32) (t_in_size : Int32) (t_in_taken : Int32) (t_in_kinds : Nat → Int32) (t_in_places : Nat → Int32) (t_in_values : Nat → Int32) (t_in_words : Nat → Int64) (t_draft_clockName : Nat → Int64) (t_draft_masterName : Nat → Int64) (t_draft_meetName : Nat → Int64) (t_draft_masterCorner : Nat → Int32) (t_draft_masterLate : Nat → Int32) (t_draft_masterMeets : Nat → Int32) (t_draft_masterClock : Nat → Int32) : Option (Int32 × Int32 × Int32 × Int32 × Int32 × Int64 × Int32 × Int32 × Int32 × (Nat → Int64) × (Nat → Int32) × (Nat → Int32) × (Nat → Int32) × (Nat → Int32)) := if t_draft_masters < 6 then (zcl (f_X8_advance N t_in_kind t_in_place t_in_value t_in_word t_in_size t_in_taken t_in_kinds t_in_places t_in_values t_in_words) fun z27 => zcl (f_X2_takeNewName_master N t_draft_masters t_draft_clocks t_draft_masters t_draft_meets z27.1 z27.2.1 z27.2.2.1 z27.2.2.2.1 t_in_fault t_in_faultPlace t_in_size z27.2.2.2.2 t_draft_clockName t_draft_masterName t_draft_meetName t_in_kinds t_in_places t_in_values t_in_words) fun z39 => if z39.1 = 0 then (some (0, t_draft_masters, z39.2.1, z39.2.2.1, z39.2.2.2.1, z39.2.2.2.2.1, z39.2.2.2.2.2.1, z39.2.2.2.2.2.2.1, z39.2.2.2.2.2.2.2.1, z39.2.2.2.2.2.2.2.2, t_draft_masterCorner, t_draft_masterLate, t_draft_masterMeets, t_draft_masterClock)) else (zcl (f_X8_takeNumber N 0 30 z39.2.1 z39.2.2.1 z39.2.2.2.1 z39.2.2.2.2.1 z39.2.2.2.2.2.1 z39.2.2.2.2.2.2.1 t_in_size z39.2.2.2.2.2.2.2.1 t_in_kinds t_in_places t_in_values t_in_words) fun z54 => if z54.1 = (-1) then (some (0, t_draft_masters, z54.2.1, z54.2.2.1, z54.2.2.2.1, z54.2.2.2.2.1, z54.2.2.2.2.2.1, z54.2.2.2.2.2.2.1, z54.2.2.2.2.2.2.2, z39.2.2.2.2.2.2.2.2, t_draft_masterCorner, t_draft_masterLate, t_draft_masterMeets, t_draft_masterClock)) else (zcl (f_X8_takeNumber N 1 60 z54.2.1 z54.2.2.1 z54.2.2.2.1 z54.2.2.2.2.1 z54.2.2.2.2.2.1 z54.2.2.2.2.2.2.1 t_in_size z54.2.2.2.2.2.2.2 t_in_kinds t_in_places t_in_values t_in_words) fun z72 => if z72.1 = (-1) then (some (0, t_draft_masters, z72.2.1, z72.2.2.1, z72.2.2.2.1, z72.2.2.2.2.1, z72.2.2.2.2.2.1, z72.2.2.2.2.2.2.1, z72.2.2.2.2.2.2.2, z39.2.2.2.2.2.2.2.2, t_draft_masterCorner, t_draft_masterLate, t_draft_masterMeets, t_draft_masterClock)) else (zck (zin t_draft_masters 6) <| zbn (upd t_draft_masterCorner (Int32.toNatClampNeg t_draft_masters) z54.1) fun f1 => zck (zin t_draft_masters 6) <| zbn (upd t_draft_masterLate (Int32.toNatClampNeg t_draft_masters) z72.1) fun f2 => zck (zin t_draft_masters 6) <| zbn (upd t_draft_masterMeets (Int32.toNatClampNeg t_draft_masters) 0) fun f3 => zbn ((t_draft_masters + 1)) fun y4 => zcl (f_X8_findName N t_draft_clocks z72.2.1 z72.2.2.1 z72.2.2.2.2.1 z72.2.2.2.2.2.1 z72.2.2.2.2.2.2.1 t_draft_clockName) fun z141 => zcl (f_X8_advance N z72.2.1 z72.2.2.1 z72.2.2.2.1 z72.2.2.2.2.1 t_in_size z72.2.2.2.2.2.2.2 t_in_kinds t_in_places t_in_values t_in_words) fun z150 => zbn ((zmax z141.1 0)) fun y5 => zck (zin t_draft_masters 6) <| zbn (upd t_draft_masterClock (Int32.toNatClampNeg t_draft_masters) y5) fun f6 => if z141.1 = (-1) then (some (0, y4, z150.1, z150.2.1, z150.2.2.1, z150.2.2.2.1, z141.2.1, z141.2.2, z150.2.2.2.2, z39.2.2.2.2.2.2.2.2, f1, f2, f3, f6)) else (some (1, y4, z150.1, z150.2.1, z150.2.2.1, z150.2.2.2.1, z141.2.1, z141.2.2, z150.2.2.2.2, z39.2.2.2.2.2.2.2.2, f1, f2, f3, f6)))))) else (zcl (f_X8_refuse N 4 t_in_place t_in_fault t_in_faultPlace) fun z19 => zck (zbo z19.1) <| some (z19.1, t_draft_masters, t_in_kind, t_in_place, t_in_value, t_in_word, z19.2.1, z19.2.2, t_in_taken, t_draft_masterName, t_draft_masterCorner, t_draft_masterLate, t_draft_masterMeets, t_draft_masterClock))
set_option maxHeartbeats 4000000 in
set_option maxRecDepth 100000 in
theorem c_X2_readMaster (l : Launch) (G : va_G) (cy : Nat → ClassId) (E : List (Nat × Cell)) (N : Nat) (q_t q_t_draft q_t_in q_t_draft_clockName q_t_draft_clockCorner q_t_draft_clockAhead q_t_draft_clockGain q_t_draft_masterName q_t_draft_masterCorner q_t_draft_masterLate q_t_draft_masterClock q_t_draft_masterMeets q_t_draft_meetName q_t_draft_meetDue q_t_in_tape q_t_in_kinds q_t_in_places q_t_in_values q_t_in_words : Nat) (t_waitTold : Int32) (t_draft_clocks : Int32) (t_draft_masters : Int32) (t_draft_meets : Int32) (t_draft_patience : Int32) (t_in_kind : Int32) (t_in_place : Int32) (t_in_value : Int32) (t_in_word : Int64) (t_in_fault : Int32) (t_in_faultPlace : Int32) (t_in_size : Int32) (t_in_taken : Int32) (t_in_kinds : Nat → Int32) (t_in_places : Nat → Int32) (t_in_values : Nat → Int32) (t_in_words : Nat → Int64) (t_draft_clockName : Nat → Int64) (t_draft_masterName : Nat → Int64) (t_draft_meetName : Nat → Int64) (t_draft_masterCorner : Nat → Int32) (t_draft_masterLate : Nat → Int32) (t_draft_masterMeets : Nat → Int32) (t_draft_masterClock : Nat → Int32) (r : Int32) (r_t_draft_masters : Int32) (r_t_in_kind : Int32) (r_t_in_place : Int32) (r_t_in_value : Int32) (r_t_in_word : Int64) (r_t_in_fault : Int32) (r_t_in_faultPlace : Int32) (r_t_in_taken : Int32) (r_t_draft_masterName : Nat → Int64) (r_t_draft_masterCorner : Nat → Int32) (r_t_draft_masterLate : Nat → Int32) (r_t_draft_masterMeets : Nat → Int32) (r_t_draft_masterClock : Nat → Int32) (h : f_X2_readMaster N t_draft_clocks t_draft_masters t_draft_meets t_in_kind t_in_place t_in_value t_in_word t_in_fault t_in_faultPlace t_in_size t_in_taken t_in_kinds t_in_places t_in_values t_in_words t_draft_clockName t_draft_masterName t_draft_meetName t_draft_masterCorner t_draft_masterLate t_draft_masterMeets t_draft_masterClock = some (r, r_t_draft_masters, r_t_in_kind, r_t_in_place, r_t_in_value, r_t_in_word, r_t_in_fault, r_t_in_faultPlace, r_t_in_taken, r_t_draft_masterName, r_t_draft_masterCorner, r_t_draft_masterLate, r_t_draft_masterMeets, r_t_draft_masterClock)) : zM l G cy E yX2_readMaster wsX2_readMaster rm_X2_readMaster [.ref q_t] (wd_X2_readMaster cy q_t q_t_draft q_t_in q_t_draft_clockName q_t_draft_clockCorner q_t_draft_clockAhead q_t_draft_clockGain q_t_draft_masterName q_t_draft_masterCorner q_t_draft_masterLate q_t_draft_masterClock q_t_draft_masterMeets q_t_draft_meetName q_t_draft_meetDue q_t_in_tape q_t_in_kinds q_t_in_places q_t_in_values q_t_in_words t_waitTold t_draft_clocks t_draft_masters t_draft_meets t_draft_patience t_in_kind t_in_place t_in_value t_in_word t_in_fault t_in_faultPlace t_in_size t_in_taken t_in_kinds t_in_places t_in_values t_in_words t_draft_clockName t_draft_masterName t_draft_meetName t_draft_masterCorner t_draft_masterLate t_draft_masterMeets t_draft_masterClock) (wd_X2_readMaster cy q_t q_t_draft q_t_in q_t_draft_clockName q_t_draft_clockCorner q_t_draft_clockAhead q_t_draft_clockGain q_t_draft_masterName q_t_draft_masterCorner q_t_draft_masterLate q_t_draft_masterClock q_t_draft_masterMeets q_t_draft_meetName q_t_draft_meetDue q_t_in_tape q_t_in_kinds q_t_in_places q_t_in_values q_t_in_words t_waitTold t_draft_clocks r_t_draft_masters t_draft_meets t_draft_patience r_t_in_kind r_t_in_place r_t_in_value r_t_in_word r_t_in_fault r_t_in_faultPlace t_in_size r_t_in_taken t_in_kinds t_in_places t_in_values t_in_words t_draft_clockName r_t_draft_masterName t_draft_meetName r_t_draft_masterCorner r_t_draft_masterLate r_t_draft_masterMeets r_t_draft_masterClock) (some (.int r)) 0 0 := by
  refine z_body (cc := cX2_readMaster) (maxL := 5) (ret := some .boolean) (by decide) rfl (Nat.le_of_ble_eq_true rfl) ?_
  intro p e s m below meth c ls S hr hlocks hnm hF hH hl
  have S : CallFix p m c cX2_readMaster 5 s ([.ref q_t] : List Value).toArray wsX2_readMaster RX2 := S
  obtain ⟨hx, hb, hml, hown, hts⟩ := id S
  have hl : lv_has ls 5 [(0, .ref q_t)] := hl
  rw [f_X2_readMaster] at h
  refine lv_aload_n hx hb dX2_readMaster_0 rfl (lv_at hl 0 rfl) ?_
  refine z_get S hF hH iX2_readMaster_X2 0 rfl rfl 0 (by decide) (List.mem_of_getElem? (i := 1) rfl) rfl dX2_readMaster_1 ?_
  refine z_get S hF hH iX2_readMaster_X1 1 rfl rfl 1 (by decide) (List.mem_of_getElem? (i := 2) rfl) rfl dX2_readMaster_4 ?_
  refine lv_istore_n (lv' := [(1, .int t_draft_masters), (0, .ref q_t)]) hx hb dX2_readMaster_7 rfl hl (by decide) rfl (fun ls hl => ?_)
  refine lv_iload_n hx hb dX2_readMaster_8 rfl (lv_at hl 0 rfl) ?_
  refine lv_bipush (v := 6) hx hb dX2_readMaster_9 (by decide) ?_
  refine lv_icmp_lt (tgt := 23) hx hb dX2_readMaster_11 (by decide) (fun b11 => ?_) (fun b11 => ?_)
  · replace h := zif_t b11 h
    refine lv_aload_n hx hb dX2_readMaster_23 rfl (lv_at hl 1 rfl) ?_
    refine z_get S hF hH iX2_readMaster_X2 0 rfl rfl 1 (by decide) (List.mem_of_getElem? (i := 3) rfl) rfl dX2_readMaster_24 ?_
    obtain ⟨z27, hz27, h⟩ := zcl_e h
    refine z_callV (As := []) (rest := []) (st1 := []) (ws' := (wd_X2_readMaster cy q_t q_t_draft q_t_in q_t_draft_clockName q_t_draft_clockCorner q_t_draft_clockAhead q_t_draft_clockGain q_t_draft_masterName q_t_draft_masterCorner q_t_draft_masterLate q_t_draft_masterClock q_t_draft_masterMeets q_t_draft_meetName q_t_draft_meetDue q_t_in_tape q_t_in_kinds q_t_in_places q_t_in_values q_t_in_words t_waitTold t_draft_clocks t_draft_masters t_draft_meets t_draft_patience z27.1 z27.2.1 z27.2.2.1 z27.2.2.2.1 t_in_fault t_in_faultPlace t_in_size z27.2.2.2.2 t_in_kinds t_in_places t_in_values t_in_words t_draft_clockName t_draft_masterName t_draft_meetName t_draft_masterCorner t_draft_masterLate t_draft_masterMeets t_draft_masterClock)) S hF hH (c_X8_advance l G cy E N q_t_in q_t_in_tape q_t_in_kinds q_t_in_places q_t_in_values q_t_in_words t_in_kind t_in_place t_in_value t_in_word t_in_fault t_in_faultPlace t_in_size t_in_taken t_in_kinds t_in_places t_in_values t_in_words z27.1 z27.2.1 z27.2.2.1 z27.2.2.2.1 z27.2.2.2.2 hz27) (cwV 0 hts gX2_readMaster_X8_advance rfl rfl rfl (by decide +kernel) ⟨Nat.le_of_ble_eq_true rfl, Nat.le_of_ble_eq_true rfl⟩) 9 0 rfl rfl [2, 3, 4, 5, 6] [0, 1, 7, 8, 9, 10, 11, 12, 13] [0, 1, 9, 10, 11, 12, 13, 2, 3, 4, 5, 6, 7, 8] rfl rfl (by decide) (by decide) (by decide) (by decide) rfl rfl rfl rfl hl.1 (Nat.le_of_ble_eq_true rfl) dX2_readMaster_27 ⟨Nat.le_of_ble_eq_true rfl, Nat.le_of_ble_eq_true rfl⟩ (fun H locs hH => ?_)
    refine lv_aload_n hx hb dX2_readMaster_30 rfl (lv_at hl 1 rfl) ?_
    refine lv_aload_n hx hb dX2_readMaster_31 rfl (lv_at hl 1 rfl) ?_
    refine z_get S hF hH iX2_readMaster_X2 0 rfl rfl 0 (by decide) (List.mem_of_getElem? (i := 1) rfl) rfl dX2_readMaster_32 ?_
    refine z_get S hF hH iX2_readMaster_X1 1 rfl rfl 8 (by decide) (List.mem_of_getElem? (i := 4) rfl) rfl dX2_readMaster_35 ?_
    refine lv_iload_n hx hb dX2_readMaster_38 rfl (lv_at hl 0 rfl) ?_
    obtain ⟨z39, hz39, h⟩ := zcl_e h
    refine z_callV (As := [.ref q_t_draft_masterName, .int t_draft_masters]) (rest := []) (st1 := [.int z39.1]) (ws' := (wd_X2_readMaster cy q_t q_t_draft q_t_in q_t_draft_clockName q_t_draft_clockCorner q_t_draft_clockAhead q_t_draft_clockGain q_t_draft_masterName q_t_draft_masterCorner q_t_draft_masterLate q_t_draft_masterClock q_t_draft_masterMeets q_t_draft_meetName q_t_draft_meetDue q_t_in_tape q_t_in_kinds q_t_in_places q_t_in_values q_t_in_words t_waitTold t_draft_clocks t_draft_masters t_draft_meets t_draft_patience z39.2.1 z39.2.2.1 z39.2.2.2.1 z39.2.2.2.2.1 z39.2.2.2.2.2.1 z39.2.2.2.2.2.2.1 t_in_size z39.2.2.2.2.2.2.2.1 t_in_kinds t_in_places t_in_values t_in_words t_draft_clockName z39.2.2.2.2.2.2.2.2 t_draft_meetName t_draft_masterCorner t_draft_masterLate t_draft_masterMeets t_draft_masterClock)) S hF hH (c_X2_takeNewName_master l G cy E N q_t q_t_draft q_t_in q_t_draft_clockName q_t_draft_clockCorner q_t_draft_clockAhead q_t_draft_clockGain q_t_draft_masterName q_t_draft_masterCorner q_t_draft_masterLate q_t_draft_masterClock q_t_draft_masterMeets q_t_draft_meetName q_t_draft_meetDue q_t_in_tape q_t_in_kinds q_t_in_places q_t_in_values q_t_in_words t_waitTold t_draft_clocks t_draft_masters t_draft_meets t_draft_patience z27.1 z27.2.1 z27.2.2.1 z27.2.2.2.1 t_in_fault t_in_faultPlace t_in_size z27.2.2.2.2 t_draft_clockName t_draft_masterName t_draft_meetName t_in_kinds t_in_places t_in_values t_in_words t_draft_masters z39.1 z39.2.1 z39.2.2.1 z39.2.2.2.1 z39.2.2.2.2.1 z39.2.2.2.2.2.1 z39.2.2.2.2.2.2.1 z39.2.2.2.2.2.2.2.1 z39.2.2.2.2.2.2.2.2 hz39) (cwV 2 hts gX2_readMaster_X2_takeNewName rfl rfl rfl (by decide +kernel) ⟨Nat.le_of_ble_eq_true rfl, Nat.le_of_ble_eq_true rfl⟩) 3 0 rfl rfl [0, 1, 2, 7, 8, 9, 3, 4, 5, 6] [10, 11, 12, 13] [4, 5, 6, 10, 11, 12, 13, 7, 8, 9, 0, 1, 2, 3] rfl rfl (by decide) (by decide) (by decide) (by decide) rfl rfl rfl rfl hl.1 (Nat.le_of_ble_eq_true rfl) dX2_readMaster_39 ⟨Nat.le_of_ble_eq_true rfl, Nat.le_of_ble_eq_true rfl⟩ (fun H locs hH => ?_)
    refine lv_if_ne (tgt := 47) hx hb dX2_readMaster_42 (by decide) (fun b42 => ?_) (fun b42 => ?_)
    · replace h := zif_f b42 h
      refine lv_aload_n hx hb dX2_readMaster_47 rfl (lv_at hl 1 rfl) ?_
      refine z_get S hF hH iX2_readMaster_X2 0 rfl rfl 1 (by decide) (List.mem_of_getElem? (i := 3) rfl) rfl dX2_readMaster_48 ?_
      refine lv_iconst (v := 0) hx hb dX2_readMaster_51 (by decide) ?_
      refine lv_bipush (v := 30) hx hb dX2_readMaster_52 (by decide) ?_
      obtain ⟨z54, hz54, h⟩ := zcl_e h
      refine z_callV (As := [.int 0, .int 30]) (rest := []) (st1 := [.int z54.1]) (ws' := (wd_X2_readMaster cy q_t q_t_draft q_t_in q_t_draft_clockName q_t_draft_clockCorner q_t_draft_clockAhead q_t_draft_clockGain q_t_draft_masterName q_t_draft_masterCorner q_t_draft_masterLate q_t_draft_masterClock q_t_draft_masterMeets q_t_draft_meetName q_t_draft_meetDue q_t_in_tape q_t_in_kinds q_t_in_places q_t_in_values q_t_in_words t_waitTold t_draft_clocks t_draft_masters t_draft_meets t_draft_patience z54.2.1 z54.2.2.1 z54.2.2.2.1 z54.2.2.2.2.1 z54.2.2.2.2.2.1 z54.2.2.2.2.2.2.1 t_in_size z54.2.2.2.2.2.2.2 t_in_kinds t_in_places t_in_values t_in_words t_draft_clockName z39.2.2.2.2.2.2.2.2 t_draft_meetName t_draft_masterCorner t_draft_masterLate t_draft_masterMeets t_draft_masterClock)) S hF hH (c_X8_takeNumber l G cy E N q_t_in q_t_in_tape q_t_in_kinds q_t_in_places q_t_in_values q_t_in_words z39.2.1 z39.2.2.1 z39.2.2.2.1 z39.2.2.2.2.1 z39.2.2.2.2.2.1 z39.2.2.2.2.2.2.1 t_in_size z39.2.2.2.2.2.2.2.1 t_in_kinds t_in_places t_in_values t_in_words 0 30 z54.1 z54.2.1 z54.2.2.1 z54.2.2.2.1 z54.2.2.2.2.1 z54.2.2.2.2.2.1 z54.2.2.2.2.2.2.1 z54.2.2.2.2.2.2.2 hz54) (cwV 2 hts gX2_readMaster_X8_takeNumber rfl rfl rfl (by decide +kernel) ⟨Nat.le_of_ble_eq_true rfl, Nat.le_of_ble_eq_true rfl⟩) 9 0 rfl rfl [2, 3, 4, 5, 6] [0, 1, 7, 8, 9, 10, 11, 12, 13] [0, 1, 9, 10, 11, 12, 13, 2, 3, 4, 5, 6, 7, 8] rfl rfl (by decide) (by decide) (by decide) (by decide) rfl rfl rfl rfl hl.1 (Nat.le_of_ble_eq_true rfl) dX2_readMaster_54 ⟨Nat.le_of_ble_eq_true rfl, Nat.le_of_ble_eq_true rfl⟩ (fun H locs hH => ?_)
      refine lv_istore_n (lv' := [(2, .int z54.1), (1, .int t_draft_masters), (0, .ref q_t)]) hx hb dX2_readMaster_57 rfl hl (by decide) rfl (fun ls hl => ?_)
      refine lv_iload_n hx hb dX2_readMaster_58 rfl (lv_at hl 0 rfl) ?_
      refine lv_iconst (v := (-1)) hx hb dX2_readMaster_59 (by decide) ?_
      refine lv_icmp_ne (tgt := 65) hx hb dX2_readMaster_60 (by decide) (fun b60 => ?_) (fun b60 => ?_)
      · replace h := zif_f b60 h
        refine lv_aload_n hx hb dX2_readMaster_65 rfl (lv_at hl 2 rfl) ?_
        refine z_get S hF hH iX2_readMaster_X2 0 rfl rfl 1 (by decide) (List.mem_of_getElem? (i := 3) rfl) rfl dX2_readMaster_66 ?_
        refine lv_iconst (v := 1) hx hb dX2_readMaster_69 (by decide) ?_
        refine lv_bipush (v := 60) hx hb dX2_readMaster_70 (by decide) ?_
        obtain ⟨z72, hz72, h⟩ := zcl_e h
        refine z_callV (As := [.int 1, .int 60]) (rest := []) (st1 := [.int z72.1]) (ws' := (wd_X2_readMaster cy q_t q_t_draft q_t_in q_t_draft_clockName q_t_draft_clockCorner q_t_draft_clockAhead q_t_draft_clockGain q_t_draft_masterName q_t_draft_masterCorner q_t_draft_masterLate q_t_draft_masterClock q_t_draft_masterMeets q_t_draft_meetName q_t_draft_meetDue q_t_in_tape q_t_in_kinds q_t_in_places q_t_in_values q_t_in_words t_waitTold t_draft_clocks t_draft_masters t_draft_meets t_draft_patience z72.2.1 z72.2.2.1 z72.2.2.2.1 z72.2.2.2.2.1 z72.2.2.2.2.2.1 z72.2.2.2.2.2.2.1 t_in_size z72.2.2.2.2.2.2.2 t_in_kinds t_in_places t_in_values t_in_words t_draft_clockName z39.2.2.2.2.2.2.2.2 t_draft_meetName t_draft_masterCorner t_draft_masterLate t_draft_masterMeets t_draft_masterClock)) S hF hH (c_X8_takeNumber l G cy E N q_t_in q_t_in_tape q_t_in_kinds q_t_in_places q_t_in_values q_t_in_words z54.2.1 z54.2.2.1 z54.2.2.2.1 z54.2.2.2.2.1 z54.2.2.2.2.2.1 z54.2.2.2.2.2.2.1 t_in_size z54.2.2.2.2.2.2.2 t_in_kinds t_in_places t_in_values t_in_words 1 60 z72.1 z72.2.1 z72.2.2.1 z72.2.2.2.1 z72.2.2.2.2.1 z72.2.2.2.2.2.1 z72.2.2.2.2.2.2.1 z72.2.2.2.2.2.2.2 hz72) (cwV 2 hts gX2_readMaster_X8_takeNumber rfl rfl rfl (by decide +kernel) ⟨Nat.le_of_ble_eq_true rfl, Nat.le_of_ble_eq_true rfl⟩) 9 0 rfl rfl [2, 3, 4, 5, 6] [0, 1, 7, 8, 9, 10, 11, 12, 13] [0, 1, 9, 10, 11, 12, 13, 2, 3, 4, 5, 6, 7, 8] rfl rfl (by decide) (by decide) (by decide) (by decide) rfl rfl rfl rfl hl.1 (Nat.le_of_ble_eq_true rfl) dX2_readMaster_72 ⟨Nat.le_of_ble_eq_true rfl, Nat.le_of_ble_eq_true rfl⟩ (fun H locs hH => ?_)
        refine lv_istore_n (lv' := [(3, .int z72.1), (2, .int z54.1), (1, .int t_draft_masters), (0, .ref q_t)]) hx hb dX2_readMaster_75 rfl hl (by decide) rfl (fun ls hl => ?_)
        refine lv_iload_n hx hb dX2_readMaster_76 rfl (lv_at hl 0 rfl) ?_
        refine lv_iconst (v := (-1)) hx hb dX2_readMaster_77 (by decide) ?_
        refine lv_icmp_ne (tgt := 83) hx hb dX2_readMaster_78 (by decide) (fun b78 => ?_) (fun b78 => ?_)
        · replace h := zif_f b78 h
          refine lv_aload_n hx hb dX2_readMaster_83 rfl (lv_at hl 3 rfl) ?_
          refine z_get S hF hH iX2_readMaster_X2 0 rfl rfl 0 (by decide) (List.mem_of_getElem? (i := 1) rfl) rfl dX2_readMaster_84 ?_
          refine z_get S hF hH iX2_readMaster_X1 1 rfl rfl 9 (by decide) (List.mem_of_getElem? (i := 5) rfl) rfl dX2_readMaster_87 ?_
          refine lv_iload_n hx hb dX2_readMaster_90 rfl (lv_at hl 2 rfl) ?_
          refine lv_iload_n hx hb dX2_readMaster_91 rfl (lv_at hl 1 rfl) ?_
          obtain ⟨h92, h⟩ := zck_e h
          obtain ⟨f1, ef1, h⟩ := zbn_e h
          refine z_iast (ws' := (wd_X2_readMaster cy q_t q_t_draft q_t_in q_t_draft_clockName q_t_draft_clockCorner q_t_draft_clockAhead q_t_draft_clockGain q_t_draft_masterName q_t_draft_masterCorner q_t_draft_masterLate q_t_draft_masterClock q_t_draft_masterMeets q_t_draft_meetName q_t_draft_meetDue q_t_in_tape q_t_in_kinds q_t_in_places q_t_in_values q_t_in_words t_waitTold t_draft_clocks t_draft_masters t_draft_meets t_draft_patience z72.2.1 z72.2.2.1 z72.2.2.2.1 z72.2.2.2.2.1 z72.2.2.2.2.2.1 z72.2.2.2.2.2.2.1 t_in_size z72.2.2.2.2.2.2.2 t_in_kinds t_in_places t_in_values t_in_words t_draft_clockName z39.2.2.2.2.2.2.2.2 t_draft_meetName f1 t_draft_masterLate t_draft_masterMeets t_draft_masterClock)) S hF hH 10 rfl h92 (by rw [ef1]; rfl) dX2_readMaster_92 (fun H locs hH => ?_)
          clear ef1
          refine lv_aload_n hx hb dX2_readMaster_93 rfl (lv_at hl 3 rfl) ?_
          refine z_get S hF hH iX2_readMaster_X2 0 rfl rfl 0 (by decide) (List.mem_of_getElem? (i := 1) rfl) rfl dX2_readMaster_94 ?_
          refine z_get S hF hH iX2_readMaster_X1 1 rfl rfl 10 (by decide) (List.mem_of_getElem? (i := 6) rfl) rfl dX2_readMaster_97 ?_
          refine lv_iload_n hx hb dX2_readMaster_100 rfl (lv_at hl 2 rfl) ?_
          refine lv_iload_n hx hb dX2_readMaster_101 rfl (lv_at hl 0 rfl) ?_
          obtain ⟨h102, h⟩ := zck_e h
          obtain ⟨f2, ef2, h⟩ := zbn_e h
          refine z_iast (ws' := (wd_X2_readMaster cy q_t q_t_draft q_t_in q_t_draft_clockName q_t_draft_clockCorner q_t_draft_clockAhead q_t_draft_clockGain q_t_draft_masterName q_t_draft_masterCorner q_t_draft_masterLate q_t_draft_masterClock q_t_draft_masterMeets q_t_draft_meetName q_t_draft_meetDue q_t_in_tape q_t_in_kinds q_t_in_places q_t_in_values q_t_in_words t_waitTold t_draft_clocks t_draft_masters t_draft_meets t_draft_patience z72.2.1 z72.2.2.1 z72.2.2.2.1 z72.2.2.2.2.1 z72.2.2.2.2.2.1 z72.2.2.2.2.2.2.1 t_in_size z72.2.2.2.2.2.2.2 t_in_kinds t_in_places t_in_values t_in_words t_draft_clockName z39.2.2.2.2.2.2.2.2 t_draft_meetName f1 f2 t_draft_masterMeets t_draft_masterClock)) S hF hH 11 rfl h102 (by rw [ef2]; rfl) dX2_readMaster_102 (fun H locs hH => ?_)
          clear ef2
          refine lv_aload_n hx hb dX2_readMaster_103 rfl (lv_at hl 3 rfl) ?_
          refine z_get S hF hH iX2_readMaster_X2 0 rfl rfl 0 (by decide) (List.mem_of_getElem? (i := 1) rfl) rfl dX2_readMaster_104 ?_
          refine z_get S hF hH iX2_readMaster_X1 1 rfl rfl 12 (by decide) (List.mem_of_getElem? (i := 7) rfl) rfl dX2_readMaster_107 ?_
          refine lv_iload_n hx hb dX2_readMaster_110 rfl (lv_at hl 2 rfl) ?_
          refine lv_iconst (v := 0) hx hb dX2_readMaster_111 (by decide) ?_
          obtain ⟨h112, h⟩ := zck_e h
          obtain ⟨f3, ef3, h⟩ := zbn_e h
          refine z_iast (ws' := (wd_X2_readMaster cy q_t q_t_draft q_t_in q_t_draft_clockName q_t_draft_clockCorner q_t_draft_clockAhead q_t_draft_clockGain q_t_draft_masterName q_t_draft_masterCorner q_t_draft_masterLate q_t_draft_masterClock q_t_draft_masterMeets q_t_draft_meetName q_t_draft_meetDue q_t_in_tape q_t_in_kinds q_t_in_places q_t_in_values q_t_in_words t_waitTold t_draft_clocks t_draft_masters t_draft_meets t_draft_patience z72.2.1 z72.2.2.1 z72.2.2.2.1 z72.2.2.2.2.1 z72.2.2.2.2.2.1 z72.2.2.2.2.2.2.1 t_in_size z72.2.2.2.2.2.2.2 t_in_kinds t_in_places t_in_values t_in_words t_draft_clockName z39.2.2.2.2.2.2.2.2 t_draft_meetName f1 f2 f3 t_draft_masterClock)) S hF hH 12 rfl h112 (by rw [ef3]; rfl) dX2_readMaster_112 (fun H locs hH => ?_)
          clear ef3
          refine lv_aload_n hx hb dX2_readMaster_113 rfl (lv_at hl 3 rfl) ?_
          refine z_get S hF hH iX2_readMaster_X2 0 rfl rfl 0 (by decide) (List.mem_of_getElem? (i := 1) rfl) rfl dX2_readMaster_114 ?_
          refine lv_iload_n hx hb dX2_readMaster_117 rfl (lv_at hl 2 rfl) ?_
          refine lv_iconst (v := 1) hx hb dX2_readMaster_118 (by decide) ?_
          refine lv_iadd hx hb dX2_readMaster_119 ?_
          obtain ⟨y4, ey4, h⟩ := zbn_e h
          refine z_top ey4 ?_
          clear ey4
          refine z_put (ws' := (wd_X2_readMaster cy q_t q_t_draft q_t_in q_t_draft_clockName q_t_draft_clockCorner q_t_draft_clockAhead q_t_draft_clockGain q_t_draft_masterName q_t_draft_masterCorner q_t_draft_masterLate q_t_draft_masterClock q_t_draft_masterMeets q_t_draft_meetName q_t_draft_meetDue q_t_in_tape q_t_in_kinds q_t_in_places q_t_in_values q_t_in_words t_waitTold t_draft_clocks y4 t_draft_meets t_draft_patience z72.2.1 z72.2.2.1 z72.2.2.2.1 z72.2.2.2.2.1 z72.2.2.2.2.2.1 z72.2.2.2.2.2.2.1 t_in_size z72.2.2.2.2.2.2.2 t_in_kinds t_in_places t_in_values t_in_words t_draft_clockName z39.2.2.2.2.2.2.2.2 t_draft_meetName f1 f2 f3 t_draft_masterClock)) S hF hH iX2_readMaster_X1 tyX1 tyX1_ok nmX1 1 rfl rfl 1 (by decide) (List.mem_of_getElem? (i := 2) rfl) rfl rfl rfl (Nat.le_of_ble_eq_true rfl) rfl dX2_readMaster_120 (fun H locs hH => ?_)
          refine lv_aload_n hx hb dX2_readMaster_123 rfl (lv_at hl 3 rfl) ?_
          refine z_get S hF hH iX2_readMaster_X2 0 rfl rfl 1 (by decide) (List.mem_of_getElem? (i := 3) rfl) rfl dX2_readMaster_124 ?_
          refine lv_aload_n hx hb dX2_readMaster_127 rfl (lv_at hl 3 rfl) ?_
          refine z_get S hF hH iX2_readMaster_X2 0 rfl rfl 0 (by decide) (List.mem_of_getElem? (i := 1) rfl) rfl dX2_readMaster_128 ?_
          refine z_get S hF hH iX2_readMaster_X1 1 rfl rfl 4 (by decide) (List.mem_of_getElem? (i := 8) rfl) rfl dX2_readMaster_131 ?_
          refine lv_aload_n hx hb dX2_readMaster_134 rfl (lv_at hl 3 rfl) ?_
          refine z_get S hF hH iX2_readMaster_X2 0 rfl rfl 0 (by decide) (List.mem_of_getElem? (i := 1) rfl) rfl dX2_readMaster_135 ?_
          refine z_get S hF hH iX2_readMaster_X1 1 rfl rfl 0 (by decide) (List.mem_of_getElem? (i := 9) rfl) rfl dX2_readMaster_138 ?_
          obtain ⟨z141, hz141, h⟩ := zcl_e h
          refine z_callV (As := [.ref q_t_draft_clockName, .int t_draft_clocks]) (rest := []) (st1 := [.int z141.1]) (ws' := (wd_X2_readMaster cy q_t q_t_draft q_t_in q_t_draft_clockName q_t_draft_clockCorner q_t_draft_clockAhead q_t_draft_clockGain q_t_draft_masterName q_t_draft_masterCorner q_t_draft_masterLate q_t_draft_masterClock q_t_draft_masterMeets q_t_draft_meetName q_t_draft_meetDue q_t_in_tape q_t_in_kinds q_t_in_places q_t_in_values q_t_in_words t_waitTold t_draft_clocks y4 t_draft_meets t_draft_patience z72.2.1 z72.2.2.1 z72.2.2.2.1 z72.2.2.2.2.1 z141.2.1 z141.2.2 t_in_size z72.2.2.2.2.2.2.2 t_in_kinds t_in_places t_in_values t_in_words t_draft_clockName z39.2.2.2.2.2.2.2.2 t_draft_meetName f1 f2 f3 t_draft_masterClock)) S hF hH (c_X8_findName l G cy E N q_t_in q_t_draft_clockName q_t_in_tape q_t_in_kinds q_t_in_places q_t_in_values q_t_in_words z72.2.1 z72.2.2.1 z72.2.2.2.1 z72.2.2.2.2.1 z72.2.2.2.2.2.1 z72.2.2.2.2.2.2.1 t_in_size z72.2.2.2.2.2.2.2 t_draft_clockName t_draft_clocks z141.1 z141.2.1 z141.2.2 hz141) (cwV 2 hts gX2_readMaster_X8_findName rfl rfl rfl (by decide +kernel) ⟨Nat.le_of_ble_eq_true rfl, Nat.le_of_ble_eq_true rfl⟩) 9 0 rfl rfl [2, 7] [0, 1, 3, 4, 5, 6, 8, 9, 10, 11, 12, 13] [0, 1, 12, 2, 3, 4, 5, 13, 6, 7, 8, 9, 10, 11] rfl rfl (by decide) (by decide) (by decide) (by decide) rfl rfl rfl rfl hl.1 (Nat.le_of_ble_eq_true rfl) dX2_readMaster_141 ⟨Nat.le_of_ble_eq_true rfl, Nat.le_of_ble_eq_true rfl⟩ (fun H locs hH => ?_)
          refine lv_istore (lv' := [(4, .int z141.1), (3, .int z72.1), (2, .int z54.1), (1, .int t_draft_masters), (0, .ref q_t)]) hx hb dX2_readMaster_144 hl (by decide) rfl (fun ls hl => ?_)
          refine lv_aload_n hx hb dX2_readMaster_146 rfl (lv_at hl 4 rfl) ?_
          refine z_get S hF hH iX2_readMaster_X2 0 rfl rfl 1 (by decide) (List.mem_of_getElem? (i := 3) rfl) rfl dX2_readMaster_147 ?_
          obtain ⟨z150, hz150, h⟩ := zcl_e h
          refine z_callV (As := []) (rest := []) (st1 := []) (ws' := (wd_X2_readMaster cy q_t q_t_draft q_t_in q_t_draft_clockName q_t_draft_clockCorner q_t_draft_clockAhead q_t_draft_clockGain q_t_draft_masterName q_t_draft_masterCorner q_t_draft_masterLate q_t_draft_masterClock q_t_draft_masterMeets q_t_draft_meetName q_t_draft_meetDue q_t_in_tape q_t_in_kinds q_t_in_places q_t_in_values q_t_in_words t_waitTold t_draft_clocks y4 t_draft_meets t_draft_patience z150.1 z150.2.1 z150.2.2.1 z150.2.2.2.1 z141.2.1 z141.2.2 t_in_size z150.2.2.2.2 t_in_kinds t_in_places t_in_values t_in_words t_draft_clockName z39.2.2.2.2.2.2.2.2 t_draft_meetName f1 f2 f3 t_draft_masterClock)) S hF hH (c_X8_advance l G cy E N q_t_in q_t_in_tape q_t_in_kinds q_t_in_places q_t_in_values q_t_in_words z72.2.1 z72.2.2.1 z72.2.2.2.1 z72.2.2.2.2.1 z141.2.1 z141.2.2 t_in_size z72.2.2.2.2.2.2.2 t_in_kinds t_in_places t_in_values t_in_words z150.1 z150.2.1 z150.2.2.1 z150.2.2.2.1 z150.2.2.2.2 hz150) (cwV 0 hts gX2_readMaster_X8_advance rfl rfl rfl (by decide +kernel) ⟨Nat.le_of_ble_eq_true rfl, Nat.le_of_ble_eq_true rfl⟩) 9 0 rfl rfl [2, 3, 4, 5, 6] [0, 1, 7, 8, 9, 10, 11, 12, 13] [0, 1, 9, 10, 11, 12, 13, 2, 3, 4, 5, 6, 7, 8] rfl rfl (by decide) (by decide) (by decide) (by decide) rfl rfl rfl rfl hl.1 (Nat.le_of_ble_eq_true rfl) dX2_readMaster_150 ⟨Nat.le_of_ble_eq_true rfl, Nat.le_of_ble_eq_true rfl⟩ (fun H locs hH => ?_)
          refine lv_aload_n hx hb dX2_readMaster_153 rfl (lv_at hl 4 rfl) ?_
          refine z_get S hF hH iX2_readMaster_X2 0 rfl rfl 0 (by decide) (List.mem_of_getElem? (i := 1) rfl) rfl dX2_readMaster_154 ?_
          refine z_get S hF hH iX2_readMaster_X1 1 rfl rfl 11 (by decide) (List.mem_of_getElem? (i := 10) rfl) rfl dX2_readMaster_157 ?_
          refine lv_iload_n hx hb dX2_readMaster_160 rfl (lv_at hl 3 rfl) ?_
          refine lv_iload hx hb dX2_readMaster_161 (lv_at hl 0 rfl) ?_
          refine lv_iconst (v := 0) hx hb dX2_readMaster_163 (by decide) ?_
          refine z_mmax S hl.1 (List.mem_of_getElem? (i := 11) rfl) (List.mem_of_getElem? (i := 12) rfl) (List.mem_of_getElem? (i := 13) rfl) (List.mem_of_getElem? (i := 14) rfl) (Nat.le_of_ble_eq_true rfl) (Nat.le_of_ble_eq_true rfl) (Nat.le_of_ble_eq_true rfl) (Nat.le_of_ble_eq_true rfl) dX2_readMaster_164 ?_
          obtain ⟨y5, ey5, h⟩ := zbn_e h
          refine z_top ey5 ?_
          clear ey5
          obtain ⟨h167, h⟩ := zck_e h
          obtain ⟨f6, ef6, h⟩ := zbn_e h
          refine z_iast (ws' := (wd_X2_readMaster cy q_t q_t_draft q_t_in q_t_draft_clockName q_t_draft_clockCorner q_t_draft_clockAhead q_t_draft_clockGain q_t_draft_masterName q_t_draft_masterCorner q_t_draft_masterLate q_t_draft_masterClock q_t_draft_masterMeets q_t_draft_meetName q_t_draft_meetDue q_t_in_tape q_t_in_kinds q_t_in_places q_t_in_values q_t_in_words t_waitTold t_draft_clocks y4 t_draft_meets t_draft_patience z150.1 z150.2.1 z150.2.2.1 z150.2.2.2.1 z141.2.1 z141.2.2 t_in_size z150.2.2.2.2 t_in_kinds t_in_places t_in_values t_in_words t_draft_clockName z39.2.2.2.2.2.2.2.2 t_draft_meetName f1 f2 f3 f6)) S hF hH 13 rfl h167 (by rw [ef6]; rfl) dX2_readMaster_167 (fun H locs hH => ?_)
          clear ef6
          refine lv_iload hx hb dX2_readMaster_168 (lv_at hl 0 rfl) ?_
          refine lv_iconst (v := (-1)) hx hb dX2_readMaster_170 (by decide) ?_
          refine lv_icmp_eq (tgt := 178) hx hb dX2_readMaster_171 (by decide) (fun b171 => ?_) (fun b171 => ?_)
          · replace h := zif_t b171 h
            refine lv_iconst (v := 0) hx hb dX2_readMaster_178 (by decide) ?_
            cases h
            exact z_zret S hr hlocks hH rfl dX2_readMaster_179
          · replace h := zif_f b171 h
            refine lv_iconst (v := 1) hx hb dX2_readMaster_174 (by decide) ?_
            refine lv_goto (tgt := 179) hx hb dX2_readMaster_175 (by decide) ?_
            cases h
            exact z_zret S hr hlocks hH rfl dX2_readMaster_179
        · replace h := zif_t b78 h
          refine lv_iconst (v := 0) hx hb dX2_readMaster_81 (by decide) ?_
          cases h
          exact z_zret S hr hlocks hH rfl dX2_readMaster_82
      · replace h := zif_t b60 h
        refine lv_iconst (v := 0) hx hb dX2_readMaster_63 (by decide) ?_
        cases h
        exact z_zret S hr hlocks hH rfl dX2_readMaster_64
    · replace h := zif_t b42 h
      refine lv_iconst (v := 0) hx hb dX2_readMaster_45 (by decide) ?_
      cases h
      exact z_zret S hr hlocks hH rfl dX2_readMaster_46
  · replace h := zif_f b11 h
    refine lv_aload_n hx hb dX2_readMaster_14 rfl (lv_at hl 1 rfl) ?_
    refine z_get S hF hH iX2_readMaster_X2 0 rfl rfl 1 (by decide) (List.mem_of_getElem? (i := 3) rfl) rfl dX2_readMaster_15 ?_
    refine lv_iconst (v := 4) hx hb dX2_readMaster_18 (by decide) ?_
    obtain ⟨z19, hz19, h⟩ := zcl_e h
    refine z_callV (As := [.int 4]) (rest := []) (st1 := [.int z19.1]) (ws' := (wd_X2_readMaster cy q_t q_t_draft q_t_in q_t_draft_clockName q_t_draft_clockCorner q_t_draft_clockAhead q_t_draft_clockGain q_t_draft_masterName q_t_draft_masterCorner q_t_draft_masterLate q_t_draft_masterClock q_t_draft_masterMeets q_t_draft_meetName q_t_draft_meetDue q_t_in_tape q_t_in_kinds q_t_in_places q_t_in_values q_t_in_words t_waitTold t_draft_clocks t_draft_masters t_draft_meets t_draft_patience t_in_kind t_in_place t_in_value t_in_word z19.2.1 z19.2.2 t_in_size t_in_taken t_in_kinds t_in_places t_in_values t_in_words t_draft_clockName t_draft_masterName t_draft_meetName t_draft_masterCorner t_draft_masterLate t_draft_masterMeets t_draft_masterClock)) S hF hH (c_X8_refuse l G cy E N q_t_in q_t_in_tape q_t_in_kinds q_t_in_places q_t_in_values q_t_in_words t_in_kind t_in_place t_in_value t_in_word t_in_fault t_in_faultPlace t_in_size t_in_taken 4 z19.1 z19.2.1 z19.2.2 hz19) (cwV 1 hts gX2_readMaster_X8_refuse rfl rfl rfl (by decide +kernel) ⟨Nat.le_of_ble_eq_true rfl, Nat.le_of_ble_eq_true rfl⟩) 9 0 rfl rfl [2] [0, 1, 3, 4, 5, 6, 7, 8, 9, 10, 11, 12, 13] [0, 1, 13, 2, 3, 4, 5, 6, 7, 8, 9, 10, 11, 12] rfl rfl (by decide) (by decide) (by decide) (by decide) rfl rfl rfl rfl hl.1 (Nat.le_of_ble_eq_true rfl) dX2_readMaster_19 ⟨Nat.le_of_ble_eq_true rfl, Nat.le_of_ble_eq_true rfl⟩ (fun H locs hH => ?_)
    obtain ⟨h22, h⟩ := zck_e h
    cases h
    exact z_zret S hr hlocks hH h22 dX2_readMaster_22
abbrev wd_X2_readMeet (cy : Nat → ClassId) (q_t q_t_draft q_t_in q_t_draft_clockName q_t_draft_clockCorner q_t_draft_clockAhead q_t_draft_clockGain q_t_draft_masterName q_t_draft_masterCorner q_t_draft_masterLate q_t_draft_masterClock q_t_draft_masterMeets q_t_draft_meetName q_t_draft_meetDue q_t_in_tape q_t_in_kinds q_t_in_places q_t_in_values q_t_in_words : Nat) (t_waitTold : Int32) (t_draft_clocks : Int32) (t_draft_masters : Int32) (t_draft_meets : Int32) (t_draft_patience : Int32) (t_in_kind : Int32) (t_in_place : Int32) (t_in_value : Int32) (t_in_word : Int64) (t_in_fault : Int32) (t_in_faultPlace : Int32) (t_in_size : Int32) (t_in_taken : Int32) (t_in_kinds : Nat → Int32) (t_in_places : Nat → Int32) (t_in_values : Nat → Int32) (t_in_words : Nat → Int64) (t_draft_clockName : Nat → Int64) (t_draft_masterName : Nat → Int64) (t_draft_meetName : Nat → Int64) (t_draft_meetDue : Nat → Int32) : va_W := [(q_t, .inr (3, [.ref q_t_draft, .ref q_t_in, .int t_waitTold])), (q_t_draft, .inr (2, [.int t_draft_clocks, .int t_draft_masters, .int t_draft_meets, .int t_draft_patience, .ref q_t_draft_clockName, .ref q_t_draft_clockCorner, .ref q_t_draft_clockAhead, .ref q_t_draft_clockGain, .ref q_t_draft_masterName, .ref q_t_draft_masterCorner, .ref q_t_draft_masterLate, .ref q_t_draft_masterClock, .ref q_t_draft_masterMeets, .ref q_t_draft_meetName, .ref q_t_draft_meetDue])), (q_t_in, .inr (9, [.int t_in_kind, .int t_in_place, .int t_in_value, .long t_in_word, .int t_in_fault, .int t_in_faultPlace, .ref q_t_in_tape, .int t_in_size, .int t_in_taken, .ref q_t_in_kinds, .ref q_t_in_places, .ref q_t_in_values, .ref q_t_in_words])), (q_t_in_kinds, .inl (cy 1, 901, .inl t_in_kinds)), (q_t_in_places, .inl (cy 1, 901, .inl t_in_places)), (q_t_in_values, .inl (cy 1, 901, .inl t_in_values)), (q_t_in_words, .inl (cy 2, 901, .inr (.inl t_in_words))), (q_t_draft_clockName, .inl (cy 2, 6, .inr (.inl t_draft_clockName))), (q_t_draft_masterName, .inl (cy 2, 6, .inr (.inl t_draft_masterName))), (q_t_draft_meetName, .inl (cy 2, 6, .inr (.inl t_draft_meetName))), (q_t_draft_meetDue, .inl (cy 1, 6, .inl t_draft_meetDue))]
theorem iX2_readMeet_X1 : ∀ w ∈ wsX10, w ∈ wsX2_readMeet := fun _ h => List.mem_cons_of_mem _ (List.mem_append_left _ (List.mem_append_right _ h))
theorem iX2_readMeet_X2 : ∀ w ∈ wsX20, w ∈ wsX2_readMeet := fun _ h => List.mem_cons_of_mem _ (List.mem_append_left _ (List.mem_append_left _ (List.mem_append_right _ h)))
theorem iX2_readMeet_X8 : ∀ w ∈ wsX80, w ∈ wsX2_readMeet := fun _ h => List.mem_cons_of_mem _ (List.mem_append_right _ h)
abbrev rm_X2_readMeet : Room := { frames := 3, cells := 0, slots := 0, locals := 68 }
set_option maxRecDepth 100000 in
def f_X2_readMeet (N : Nat) (t_draft_clocks : Int32) (t_draft_masters : Int32) (t_draft_meets : Int32) (t_in_kind : Int32) (t_in_place : Int32) (t_in_value : Int32) (t_in_word : Int64) (t_in_fault : Int32) (t_in_faultPlace : Int32) (t_in_size : Int32) (t_in_taken : Int32) (t_in_kinds : Nat → Int32) (t_in_places : Nat → Int32) (t_in_values : Nat → Int32) (t_in_words : Nat → Int64) (t_draft_clockName : Nat → Int64) (t_draft_masterName : Nat → Int64) (t_draft_meetName : Nat → Int64) (t_draft_meetDue : Nat → Int32) : Option (Int32 × Int32 × Int32 × Int32 × Int32 × Int64 × Int32 × Int32 × Int32 × (Nat → Int64) × (Nat → Int32)) := if t_draft_meets < 6 then (zcl (f_X8_advance N t_in_kind t_in_place t_in_value t_in_word t_in_size t_in_taken t_in_kinds t_in_places t_in_values t_in_words) fun z27 => zcl (f_X2_takeNewName_meet N t_draft_meets t_draft_clocks t_draft_masters t_draft_meets z27.1 z27.2.1 z27.2.2.1 z27.2.2.2.1 t_in_fault t_in_faultPlace t_in_size z27.2.2.2.2 t_draft_clockName t_draft_masterName t_draft_meetName t_in_kinds t_in_places t_in_values t_in_words) fun z39 => if z39.1 = 0 then (some (0, t_draft_meets, z39.2.1, z39.2.2.1, z39.2.2.2.1, z39.2.2.2.2.1, z39.2.2.2.2.2.1, z39.2.2.2.2.2.2.1, z39.2.2.2.2.2.2.2.1, z39.2.2.2.2.2.2.2.2, t_draft_meetDue)) else (zcl (f_X8_takeNumber N 0 999 z39.2.1 z39.2.2.1 z39.2.2.2.1 z39.2.2.2.2.1 z39.2.2.2.2.2.1 z39.2.2.2.2.2.2.1 t_in_size z39.2.2.2.2.2.2.2.1 t_in_kinds t_in_places t_in_values t_in_words) fun z63 => zck (zin t_draft_meets 6) <| zbn (upd t_draft_meetDue (Int32.toNatClampNeg t_draft_meets) z63.1) fun f1 => zbn ((t_draft_meets + 1)) fun y2 => if z63.2.2.2.2.2.1 = 0 then (some (1, y2, z63.2.1, z63.2.2.1, z63.2.2.2.1, z63.2.2.2.2.1, z63.2.2.2.2.2.1, z63.2.2.2.2.2.2.1, z63.2.2.2.2.2.2.2, z39.2.2.2.2.2.2.2.2, f1)) else (some (0, y2, z63.2.1, z63.2.2.1, z63.2.2.2.1, z63.2.2.2.2.1, z63.2.2.2.2.2.1, z63.2.2.2.2.2.2.1, z63.2.2.2.2.2.2.2, z39.2.2.2.2.2.2.2.2, f1)))) else (zcl (f_X8_refuse N 4 t_in_place t_in_fault t_in_faultPlace) fun z19 => zck (zbo z19.1) <| some (z19.1, t_draft_meets, t_in_kind, t_in_place, t_in_value, t_in_word, z19.2.1, z19.2.2, t_in_taken, t_draft_meetName, t_draft_meetDue))
set_option maxHeartbeats 4000000 in
set_option maxRecDepth 100000 in
theorem c_X2_readMeet (l : Launch) (G : va_G) (cy : Nat → ClassId) (E : List (Nat × Cell)) (N : Nat) (q_t q_t_draft q_t_in q_t_draft_clockName q_t_draft_clockCorner q_t_draft_clockAhead q_t_draft_clockGain q_t_draft_masterName q_t_draft_masterCorner q_t_draft_masterLate q_t_draft_masterClock q_t_draft_masterMeets q_t_draft_meetName q_t_draft_meetDue q_t_in_tape q_t_in_kinds q_t_in_places q_t_in_values q_t_in_words : Nat) (t_waitTold : Int32) (t_draft_clocks : Int32) (t_draft_masters : Int32) (t_draft_meets : Int32) (t_draft_patience : Int32) (t_in_kind : Int32) (t_in_place : Int32) (t_in_value : Int32) (t_in_word : Int64) (t_in_fault : Int32) (t_in_faultPlace : Int32) (t_in_size : Int32) (t_in_taken : Int32) (t_in_kinds : Nat → Int32) (t_in_places : Nat → Int32) (t_in_values : Nat → Int32) (t_in_words : Nat → Int64) (t_draft_clockName : Nat → Int64) (t_draft_masterName : Nat → Int64) (t_draft_meetName : Nat → Int64) (t_draft_meetDue : Nat → Int32) (r : Int32) (r_t_draft_meets : Int32) (r_t_in_kind : Int32) (r_t_in_place : Int32) (r_t_in_value : Int32) (r_t_in_word : Int64) (r_t_in_fault : Int32) (r_t_in_faultPlace : Int32) (r_t_in_taken : Int32) (r_t_draft_meetName : Nat → Int64) (r_t_draft_meetDue : Nat → Int32) (h : f_X2_readMeet N t_draft_clocks t_draft_masters t_draft_meets t_in_kind t_in_place t_in_value t_in_word t_in_fault t_in_faultPlace t_in_size t_in_taken t_in_kinds t_in_places t_in_values t_in_words t_draft_clockName t_draft_masterName t_draft_meetName t_draft_meetDue = some (r, r_t_draft_meets, r_t_in_kind, r_t_in_place, r_t_in_value, r_t_in_word, r_t_in_fault, r_t_in_faultPlace, r_t_in_taken, r_t_draft_meetName, r_t_draft_meetDue)) : zM l G cy E yX2_readMeet wsX2_readMeet rm_X2_readMeet [.ref q_t] (wd_X2_readMeet cy q_t q_t_draft q_t_in q_t_draft_clockName q_t_draft_clockCorner q_t_draft_clockAhead q_t_draft_clockGain q_t_draft_masterName q_t_draft_masterCorner q_t_draft_masterLate q_t_draft_masterClock q_t_draft_masterMeets q_t_draft_meetName q_t_draft_meetDue q_t_in_tape q_t_in_kinds q_t_in_places q_t_in_values q_t_in_words t_waitTold t_draft_clocks t_draft_masters t_draft_meets t_draft_patience t_in_kind t_in_place t_in_value t_in_word t_in_fault t_in_faultPlace t_in_size t_in_taken t_in_kinds t_in_places t_in_values t_in_words t_draft_clockName t_draft_masterName t_draft_meetName t_draft_meetDue) (wd_X2_readMeet cy q_t q_t_draft q_t_in q_t_draft_clockName q_t_draft_clockCorner q_t_draft_clockAhead q_t_draft_clockGain q_t_draft_masterName q_t_draft_masterCorner q_t_draft_masterLate q_t_draft_masterClock q_t_draft_masterMeets q_t_draft_meetName q_t_draft_meetDue q_t_in_tape q_t_in_kinds q_t_in_places q_t_in_values q_t_in_words t_waitTold t_draft_clocks t_draft_masters r_t_draft_meets t_draft_patience r_t_in_kind r_t_in_place r_t_in_value r_t_in_word r_t_in_fault r_t_in_faultPlace t_in_size r_t_in_taken t_in_kinds t_in_places t_in_values t_in_words t_draft_clockName t_draft_masterName r_t_draft_meetName r_t_draft_meetDue) (some (.int r)) 0 0 := by
  refine z_body (cc := cX2_readMeet) (maxL := 2) (ret := some .boolean) (by decide) rfl (Nat.le_of_ble_eq_true rfl) ?_
  intro p e s m below meth c ls S hr hlocks hnm hF hH hl
  have S : CallFix p m c cX2_readMeet 2 s ([.ref q_t] : List Value).toArray wsX2_readMeet RX2 := S
  obtain ⟨hx, hb, hml, hown, hts⟩ := id S
  have hl : lv_has ls 2 [(0, .ref q_t)] := hl
  rw [f_X2_readMeet] at h
  refine lv_aload_n hx hb dX2_readMeet_0 rfl (lv_at hl 0 rfl) ?_
  refine z_get S hF hH iX2_readMeet_X2 0 rfl rfl 0 (by decide) (List.mem_of_getElem? (i := 1) rfl) rfl dX2_readMeet_1 ?_
  refine z_get S hF hH iX2_readMeet_X1 1 rfl rfl 2 (by decide) (List.mem_of_getElem? (i := 2) rfl) rfl dX2_readMeet_4 ?_
  refine lv_istore_n (lv' := [(1, .int t_draft_meets), (0, .ref q_t)]) hx hb dX2_readMeet_7 rfl hl (by decide) rfl (fun ls hl => ?_)
  refine lv_iload_n hx hb dX2_readMeet_8 rfl (lv_at hl 0 rfl) ?_
  refine lv_bipush (v := 6) hx hb dX2_readMeet_9 (by decide) ?_
  refine lv_icmp_lt (tgt := 23) hx hb dX2_readMeet_11 (by decide) (fun b11 => ?_) (fun b11 => ?_)
  · replace h := zif_t b11 h
    refine lv_aload_n hx hb dX2_readMeet_23 rfl (lv_at hl 1 rfl) ?_
    refine z_get S hF hH iX2_readMeet_X2 0 rfl rfl 1 (by decide) (List.mem_of_getElem? (i := 3) rfl) rfl dX2_readMeet_24 ?_
    obtain ⟨z27, hz27, h⟩ := zcl_e h
    refine z_callV (As := []) (rest := []) (st1 := []) (ws' := (wd_X2_readMeet cy q_t q_t_draft q_t_in q_t_draft_clockName q_t_draft_clockCorner q_t_draft_clockAhead q_t_draft_clockGain q_t_draft_masterName q_t_draft_masterCorner q_t_draft_masterLate q_t_draft_masterClock q_t_draft_masterMeets q_t_draft_meetName q_t_draft_meetDue q_t_in_tape q_t_in_kinds q_t_in_places q_t_in_values q_t_in_words t_waitTold t_draft_clocks t_draft_masters t_draft_meets t_draft_patience z27.1 z27.2.1 z27.2.2.1 z27.2.2.2.1 t_in_fault t_in_faultPlace t_in_size z27.2.2.2.2 t_in_kinds t_in_places t_in_values t_in_words t_draft_clockName t_draft_masterName t_draft_meetName t_draft_meetDue)) S hF hH (c_X8_advance l G cy E N q_t_in q_t_in_tape q_t_in_kinds q_t_in_places q_t_in_values q_t_in_words t_in_kind t_in_place t_in_value t_in_word t_in_fault t_in_faultPlace t_in_size t_in_taken t_in_kinds t_in_places t_in_values t_in_words z27.1 z27.2.1 z27.2.2.1 z27.2.2.2.1 z27.2.2.2.2 hz27) (cwV 0 hts gX2_readMeet_X8_advance rfl rfl rfl (by decide +kernel) ⟨Nat.le_of_ble_eq_true rfl, Nat.le_of_ble_eq_true rfl⟩) 9 0 rfl rfl [2, 3, 4, 5, 6] [0, 1, 7, 8, 9, 10] [0, 1, 6, 7, 8, 9, 10, 2, 3, 4, 5] rfl rfl (by decide) (by decide) (by decide) (by decide) rfl rfl rfl rfl hl.1 (Nat.le_of_ble_eq_true rfl) dX2_readMeet_27 ⟨Nat.le_of_ble_eq_true rfl, Nat.le_of_ble_eq_true rfl⟩ (fun H locs hH => ?_)
    refine lv_aload_n hx hb dX2_readMeet_30 rfl (lv_at hl 1 rfl) ?_
    refine lv_aload_n hx hb dX2_readMeet_31 rfl (lv_at hl 1 rfl) ?_
    refine z_get S hF hH iX2_readMeet_X2 0 rfl rfl 0 (by decide) (List.mem_of_getElem? (i := 1) rfl) rfl dX2_readMeet_32 ?_
    refine z_get S hF hH iX2_readMeet_X1 1 rfl rfl 13 (by decide) (List.mem_of_getElem? (i := 4) rfl) rfl dX2_readMeet_35 ?_
    refine lv_iload_n hx hb dX2_readMeet_38 rfl (lv_at hl 0 rfl) ?_
    obtain ⟨z39, hz39, h⟩ := zcl_e h
    refine z_callV (As := [.ref q_t_draft_meetName, .int t_draft_meets]) (rest := []) (st1 := [.int z39.1]) (ws' := (wd_X2_readMeet cy q_t q_t_draft q_t_in q_t_draft_clockName q_t_draft_clockCorner q_t_draft_clockAhead q_t_draft_clockGain q_t_draft_masterName q_t_draft_masterCorner q_t_draft_masterLate q_t_draft_masterClock q_t_draft_masterMeets q_t_draft_meetName q_t_draft_meetDue q_t_in_tape q_t_in_kinds q_t_in_places q_t_in_values q_t_in_words t_waitTold t_draft_clocks t_draft_masters t_draft_meets t_draft_patience z39.2.1 z39.2.2.1 z39.2.2.2.1 z39.2.2.2.2.1 z39.2.2.2.2.2.1 z39.2.2.2.2.2.2.1 t_in_size z39.2.2.2.2.2.2.2.1 t_in_kinds t_in_places t_in_values t_in_words t_draft_clockName t_draft_masterName z39.2.2.2.2.2.2.2.2 t_draft_meetDue)) S hF hH (c_X2_takeNewName_meet l G cy E N q_t q_t_draft q_t_in q_t_draft_clockName q_t_draft_clockCorner q_t_draft_clockAhead q_t_draft_clockGain q_t_draft_masterName q_t_draft_masterCorner q_t_draft_masterLate q_t_draft_masterClock q_t_draft_masterMeets q_t_draft_meetName q_t_draft_meetDue q_t_in_tape q_t_in_kinds q_t_in_places q_t_in_values q_t_in_words t_waitTold t_draft_clocks t_draft_masters t_draft_meets t_draft_patience z27.1 z27.2.1 z27.2.2.1 z27.2.2.2.1 t_in_fault t_in_faultPlace t_in_size z27.2.2.2.2 t_draft_clockName t_draft_masterName t_draft_meetName t_in_kinds t_in_places t_in_values t_in_words t_draft_meets z39.1 z39.2.1 z39.2.2.1 z39.2.2.2.1 z39.2.2.2.2.1 z39.2.2.2.2.2.1 z39.2.2.2.2.2.2.1 z39.2.2.2.2.2.2.2.1 z39.2.2.2.2.2.2.2.2 hz39) (cwV 2 hts gX2_readMeet_X2_takeNewName rfl rfl rfl (by decide +kernel) ⟨Nat.le_of_ble_eq_true rfl, Nat.le_of_ble_eq_true rfl⟩) 3 0 rfl rfl [0, 1, 2, 7, 8, 9, 3, 4, 5, 6] [10] [1, 2, 3, 7, 8, 9, 10, 4, 5, 6, 0] rfl rfl (by decide) (by decide) (by decide) (by decide) rfl rfl rfl rfl hl.1 (Nat.le_of_ble_eq_true rfl) dX2_readMeet_39 ⟨Nat.le_of_ble_eq_true rfl, Nat.le_of_ble_eq_true rfl⟩ (fun H locs hH => ?_)
    refine lv_if_ne (tgt := 47) hx hb dX2_readMeet_42 (by decide) (fun b42 => ?_) (fun b42 => ?_)
    · replace h := zif_f b42 h
      refine lv_aload_n hx hb dX2_readMeet_47 rfl (lv_at hl 1 rfl) ?_
      refine z_get S hF hH iX2_readMeet_X2 0 rfl rfl 0 (by decide) (List.mem_of_getElem? (i := 1) rfl) rfl dX2_readMeet_48 ?_
      refine z_get S hF hH iX2_readMeet_X1 1 rfl rfl 14 (by decide) (List.mem_of_getElem? (i := 5) rfl) rfl dX2_readMeet_51 ?_
      refine lv_iload_n hx hb dX2_readMeet_54 rfl (lv_at hl 0 rfl) ?_
      refine lv_aload_n hx hb dX2_readMeet_55 rfl (lv_at hl 1 rfl) ?_
      refine z_get S hF hH iX2_readMeet_X2 0 rfl rfl 1 (by decide) (List.mem_of_getElem? (i := 3) rfl) rfl dX2_readMeet_56 ?_
      refine lv_iconst (v := 0) hx hb dX2_readMeet_59 (by decide) ?_
      refine lv_sipush (v := 999) hx hb dX2_readMeet_60 (by decide) ?_
      obtain ⟨z63, hz63, h⟩ := zcl_e h
      refine z_callV (As := [.int 0, .int 999]) (rest := [.int t_draft_meets, .ref q_t_draft_meetDue]) (st1 := [.int z63.1, .int t_draft_meets, .ref q_t_draft_meetDue]) (ws' := (wd_X2_readMeet cy q_t q_t_draft q_t_in q_t_draft_clockName q_t_draft_clockCorner q_t_draft_clockAhead q_t_draft_clockGain q_t_draft_masterName q_t_draft_masterCorner q_t_draft_masterLate q_t_draft_masterClock q_t_draft_masterMeets q_t_draft_meetName q_t_draft_meetDue q_t_in_tape q_t_in_kinds q_t_in_places q_t_in_values q_t_in_words t_waitTold t_draft_clocks t_draft_masters t_draft_meets t_draft_patience z63.2.1 z63.2.2.1 z63.2.2.2.1 z63.2.2.2.2.1 z63.2.2.2.2.2.1 z63.2.2.2.2.2.2.1 t_in_size z63.2.2.2.2.2.2.2 t_in_kinds t_in_places t_in_values t_in_words t_draft_clockName t_draft_masterName z39.2.2.2.2.2.2.2.2 t_draft_meetDue)) S hF hH (c_X8_takeNumber l G cy E N q_t_in q_t_in_tape q_t_in_kinds q_t_in_places q_t_in_values q_t_in_words z39.2.1 z39.2.2.1 z39.2.2.2.1 z39.2.2.2.2.1 z39.2.2.2.2.2.1 z39.2.2.2.2.2.2.1 t_in_size z39.2.2.2.2.2.2.2.1 t_in_kinds t_in_places t_in_values t_in_words 0 999 z63.1 z63.2.1 z63.2.2.1 z63.2.2.2.1 z63.2.2.2.2.1 z63.2.2.2.2.2.1 z63.2.2.2.2.2.2.1 z63.2.2.2.2.2.2.2 hz63) (cwV 2 hts gX2_readMeet_X8_takeNumber rfl rfl rfl (by decide +kernel) ⟨Nat.le_of_ble_eq_true rfl, Nat.le_of_ble_eq_true rfl⟩) 9 0 rfl rfl [2, 3, 4, 5, 6] [0, 1, 7, 8, 9, 10] [0, 1, 6, 7, 8, 9, 10, 2, 3, 4, 5] rfl rfl (by decide) (by decide) (by decide) (by decide) rfl rfl rfl rfl hl.1 (Nat.le_of_ble_eq_true rfl) dX2_readMeet_63 ⟨Nat.le_of_ble_eq_true rfl, Nat.le_of_ble_eq_true rfl⟩ (fun H locs hH => ?_)
      obtain ⟨h66, h⟩ := zck_e h
      obtain ⟨f1, ef1, h⟩ := zbn_e h
      refine z_iast (ws' := (wd_X2_readMeet cy q_t q_t_draft q_t_in q_t_draft_clockName q_t_draft_clockCorner q_t_draft_clockAhead q_t_draft_clockGain q_t_draft_masterName q_t_draft_masterCorner q_t_draft_masterLate q_t_draft_masterClock q_t_draft_masterMeets q_t_draft_meetName q_t_draft_meetDue q_t_in_tape q_t_in_kinds q_t_in_places q_t_in_values q_t_in_words t_waitTold t_draft_clocks t_draft_masters t_draft_meets t_draft_patience z63.2.1 z63.2.2.1 z63.2.2.2.1 z63.2.2.2.2.1 z63.2.2.2.2.2.1 z63.2.2.2.2.2.2.1 t_in_size z63.2.2.2.2.2.2.2 t_in_kinds t_in_places t_in_values t_in_words t_draft_clockName t_draft_masterName z39.2.2.2.2.2.2.2.2 f1)) S hF hH 10 rfl h66 (by rw [ef1]; rfl) dX2_readMeet_66 (fun H locs hH => ?_)
      clear ef1
      refine lv_aload_n hx hb dX2_readMeet_67 rfl (lv_at hl 1 rfl) ?_
      refine z_get S hF hH iX2_readMeet_X2 0 rfl rfl 0 (by decide) (List.mem_of_getElem? (i := 1) rfl) rfl dX2_readMeet_68 ?_
      refine lv_iload_n hx hb dX2_readMeet_71 rfl (lv_at hl 0 rfl) ?_
      refine lv_iconst (v := 1) hx hb dX2_readMeet_72 (by decide) ?_
      refine lv_iadd hx hb dX2_readMeet_73 ?_
      obtain ⟨y2, ey2, h⟩ := zbn_e h
      refine z_top ey2 ?_
      clear ey2
      refine z_put (ws' := (wd_X2_readMeet cy q_t q_t_draft q_t_in q_t_draft_clockName q_t_draft_clockCorner q_t_draft_clockAhead q_t_draft_clockGain q_t_draft_masterName q_t_draft_masterCorner q_t_draft_masterLate q_t_draft_masterClock q_t_draft_masterMeets q_t_draft_meetName q_t_draft_meetDue q_t_in_tape q_t_in_kinds q_t_in_places q_t_in_values q_t_in_words t_waitTold t_draft_clocks t_draft_masters y2 t_draft_patience z63.2.1 z63.2.2.1 z63.2.2.2.1 z63.2.2.2.2.1 z63.2.2.2.2.2.1 z63.2.2.2.2.2.2.1 t_in_size z63.2.2.2.2.2.2.2 t_in_kinds t_in_places t_in_values t_in_words t_draft_clockName t_draft_masterName z39.2.2.2.2.2.2.2.2 f1)) S hF hH iX2_readMeet_X1 tyX1 tyX1_ok nmX1 1 rfl rfl 2 (by decide) (List.mem_of_getElem? (i := 2) rfl) rfl rfl rfl (Nat.le_of_ble_eq_true rfl) rfl dX2_readMeet_74 (fun H locs hH => ?_)
      refine lv_aload_n hx hb dX2_readMeet_77 rfl (lv_at hl 1 rfl) ?_
      refine z_get S hF hH iX2_readMeet_X2 0 rfl rfl 1 (by decide) (List.mem_of_getElem? (i := 3) rfl) rfl dX2_readMeet_78 ?_
      refine z_get S hF hH iX2_readMeet_X8 2 rfl rfl 4 (by decide) (List.mem_of_getElem? (i := 6) rfl) rfl dX2_readMeet_81 ?_
      refine lv_if_ne (tgt := 91) hx hb dX2_readMeet_84 (by decide) (fun b84 => ?_) (fun b84 => ?_)
      · replace h := zif_f b84 h
        refine lv_iconst (v := 0) hx hb dX2_readMeet_91 (by decide) ?_
        cases h
        exact z_zret S hr hlocks hH rfl dX2_readMeet_92
      · replace h := zif_t b84 h
        refine lv_iconst (v := 1) hx hb dX2_readMeet_87 (by decide) ?_
        refine lv_goto (tgt := 92) hx hb dX2_readMeet_88 (by decide) ?_
        cases h
        exact z_zret S hr hlocks hH rfl dX2_readMeet_92
    · replace h := zif_t b42 h
      refine lv_iconst (v := 0) hx hb dX2_readMeet_45 (by decide) ?_
      cases h
      exact z_zret S hr hlocks hH rfl dX2_readMeet_46
  · replace h := zif_f b11 h
    refine lv_aload_n hx hb dX2_readMeet_14 rfl (lv_at hl 1 rfl) ?_
    refine z_get S hF hH iX2_readMeet_X2 0 rfl rfl 1 (by decide) (List.mem_of_getElem? (i := 3) rfl) rfl dX2_readMeet_15 ?_
    refine lv_iconst (v := 4) hx hb dX2_readMeet_18 (by decide) ?_
    obtain ⟨z19, hz19, h⟩ := zcl_e h
    refine z_callV (As := [.int 4]) (rest := []) (st1 := [.int z19.1]) (ws' := (wd_X2_readMeet cy q_t q_t_draft q_t_in q_t_draft_clockName q_t_draft_clockCorner q_t_draft_clockAhead q_t_draft_clockGain q_t_draft_masterName q_t_draft_masterCorner q_t_draft_masterLate q_t_draft_masterClock q_t_draft_masterMeets q_t_draft_meetName q_t_draft_meetDue q_t_in_tape q_t_in_kinds q_t_in_places q_t_in_values q_t_in_words t_waitTold t_draft_clocks t_draft_masters t_draft_meets t_draft_patience t_in_kind t_in_place t_in_value t_in_word z19.2.1 z19.2.2 t_in_size t_in_taken t_in_kinds t_in_places t_in_values t_in_words t_draft_clockName t_draft_masterName t_draft_meetName t_draft_meetDue)) S hF hH (c_X8_refuse l G cy E N q_t_in q_t_in_tape q_t_in_kinds q_t_in_places q_t_in_values q_t_in_words t_in_kind t_in_place t_in_value t_in_word t_in_fault t_in_faultPlace t_in_size t_in_taken 4 z19.1 z19.2.1 z19.2.2 hz19) (cwV 1 hts gX2_readMeet_X8_refuse rfl rfl rfl (by decide +kernel) ⟨Nat.le_of_ble_eq_true rfl, Nat.le_of_ble_eq_true rfl⟩) 9 0 rfl rfl [2] [0, 1, 3, 4, 5, 6, 7, 8, 9, 10] [0, 1, 10, 2, 3, 4, 5, 6, 7, 8, 9] rfl rfl (by decide) (by decide) (by decide) (by decide) rfl rfl rfl rfl hl.1 (Nat.le_of_ble_eq_true rfl) dX2_readMeet_19 ⟨Nat.le_of_ble_eq_true rfl, Nat.le_of_ble_eq_true rfl⟩ (fun H locs hH => ?_)
    obtain ⟨h22, h⟩ := zck_e h
    cases h
    exact z_zret S hr hlocks hH h22 dX2_readMeet_22
abbrev wd_X2_readWait (cy : Nat → ClassId) (q_t q_t_draft q_t_in q_t_in_tape q_t_in_kinds q_t_in_places q_t_in_values q_t_in_words q_t_draft_clockName q_t_draft_clockCorner q_t_draft_clockAhead q_t_draft_clockGain q_t_draft_masterName q_t_draft_masterCorner q_t_draft_masterLate q_t_draft_masterClock q_t_draft_masterMeets q_t_draft_meetName q_t_draft_meetDue : Nat) (t_waitTold : Int32) (t_in_kind : Int32) (t_in_place : Int32) (t_in_value : Int32) (t_in_word : Int64) (t_in_fault : Int32) (t_in_faultPlace : Int32) (t_in_size : Int32) (t_in_taken : Int32) (t_in_kinds : Nat → Int32) (t_in_places : Nat → Int32) (t_in_values : Nat → Int32) (t_in_words : Nat → Int64) (t_draft_clocks : Int32) (t_draft_masters : Int32) (t_draft_meets : Int32) (t_draft_patience : Int32) : va_W := [(q_t, .inr (3, [.ref q_t_draft, .ref q_t_in, .int t_waitTold])), (q_t_in, .inr (9, [.int t_in_kind, .int t_in_place, .int t_in_value, .long t_in_word, .int t_in_fault, .int t_in_faultPlace, .ref q_t_in_tape, .int t_in_size, .int t_in_taken, .ref q_t_in_kinds, .ref q_t_in_places, .ref q_t_in_values, .ref q_t_in_words])), (q_t_in_kinds, .inl (cy 1, 901, .inl t_in_kinds)), (q_t_in_places, .inl (cy 1, 901, .inl t_in_places)), (q_t_in_values, .inl (cy 1, 901, .inl t_in_values)), (q_t_in_words, .inl (cy 2, 901, .inr (.inl t_in_words))), (q_t_draft, .inr (2, [.int t_draft_clocks, .int t_draft_masters, .int t_draft_meets, .int t_draft_patience, .ref q_t_draft_clockName, .ref q_t_draft_clockCorner, .ref q_t_draft_clockAhead, .ref q_t_draft_clockGain, .ref q_t_draft_masterName, .ref q_t_draft_masterCorner, .ref q_t_draft_masterLate, .ref q_t_draft_masterClock, .ref q_t_draft_masterMeets, .ref q_t_draft_meetName, .ref q_t_draft_meetDue]))]
theorem iX2_readWait_X1 : ∀ w ∈ wsX10, w ∈ wsX2_readWait := fun _ h => List.mem_cons_of_mem _ (List.mem_append_left _ (List.mem_append_right _ h))
theorem iX2_readWait_X2 : ∀ w ∈ wsX20, w ∈ wsX2_readWait := fun _ h => List.mem_cons_of_mem _ (List.mem_append_left _ (List.mem_append_left _ (List.mem_append_right _ h)))
theorem iX2_readWait_X8 : ∀ w ∈ wsX80, w ∈ wsX2_readWait := fun _ h => List.mem_cons_of_mem _ (List.mem_append_right _ h)
abbrev rm_X2_readWait : Room := { frames := 2, cells := 0, slots := 0, locals := 44 }
set_option maxRecDepth 100000 in
def f_X2_readWait (N : Nat) (t_waitTold : Int32) (t_in_kind : Int32) (t_in_place : Int32) (t_in_value : Int32) (t_in_word : Int64) (t_in_fault : Int32) (t_in_faultPlace : Int32) (t_in_size : Int32) (t_in_taken : Int32) (t_in_kinds : Nat → Int32) (t_in_places : Nat → Int32) (t_in_values : Nat → Int32) (t_in_words : Nat → Int64) (t_draft_patience : Int32) : Option (Int32 × Int32 × Int32 × Int32 × Int32 × Int64 × Int32 × Int32 × Int32 × Int32) := zcl (f_X8_isKeyword N 4 t_in_kind t_in_value) fun z5 => if z5 = 0 then (zcl (f_X8_refuse N 1 t_in_place t_in_fault t_in_faultPlace) fun z16 => zck (zbo z16.1) <| some (z16.1, t_waitTold, t_in_kind, t_in_place, t_in_value, t_in_word, z16.2.1, z16.2.2, t_in_taken, t_draft_patience)) else (if t_waitTold = 0 then (zcl (f_X8_advance N t_in_kind t_in_place t_in_value t_in_word t_in_size t_in_taken t_in_kinds t_in_places t_in_values t_in_words) fun z45 => zcl (f_X8_takeNumber N 0 99 z45.1 z45.2.1 z45.2.2.1 z45.2.2.2.1 t_in_fault t_in_faultPlace t_in_size z45.2.2.2.2 t_in_kinds t_in_places t_in_values t_in_words) fun z59 => if z59.2.2.2.2.2.1 = 0 then (some (1, 1, z59.2.1, z59.2.2.1, z59.2.2.2.1, z59.2.2.2.2.1, z59.2.2.2.2.2.1, z59.2.2.2.2.2.2.1, z59.2.2.2.2.2.2.2, z59.1)) else (some (0, 1, z59.2.1, z59.2.2.1, z59.2.2.2.1, z59.2.2.2.2.1, z59.2.2.2.2.2.1, z59.2.2.2.2.2.2.1, z59.2.2.2.2.2.2.2, z59.1))) else (zcl (f_X8_refuse N 3 t_in_place t_in_fault t_in_faultPlace) fun z32 => zck (zbo z32.1) <| some (z32.1, t_waitTold, t_in_kind, t_in_place, t_in_value, t_in_word, z32.2.1, z32.2.2, t_in_taken, t_draft_patience)))
set_option maxHeartbeats 4000000 in
set_option maxRecDepth 100000 in
theorem c_X2_readWait (l : Launch) (G : va_G) (cy : Nat → ClassId) (E : List (Nat × Cell)) (N : Nat) (q_t q_t_draft q_t_in q_t_in_tape q_t_in_kinds q_t_in_places q_t_in_values q_t_in_words q_t_draft_clockName q_t_draft_clockCorner q_t_draft_clockAhead q_t_draft_clockGain q_t_draft_masterName q_t_draft_masterCorner q_t_draft_masterLate q_t_draft_masterClock q_t_draft_masterMeets q_t_draft_meetName q_t_draft_meetDue : Nat) (t_waitTold : Int32) (t_in_kind : Int32) (t_in_place : Int32) (t_in_value : Int32) (t_in_word : Int64) (t_in_fault : Int32) (t_in_faultPlace : Int32) (t_in_size : Int32) (t_in_taken : Int32) (t_in_kinds : Nat → Int32) (t_in_places : Nat → Int32) (t_in_values : Nat → Int32) (t_in_words : Nat → Int64) (t_draft_clocks : Int32) (t_draft_masters : Int32) (t_draft_meets : Int32) (t_draft_patience : Int32) (r : Int32) (r_t_waitTold : Int32) (r_t_in_kind : Int32) (r_t_in_place : Int32) (r_t_in_value : Int32) (r_t_in_word : Int64) (r_t_in_fault : Int32) (r_t_in_faultPlace : Int32) (r_t_in_taken : Int32) (r_t_draft_patience : Int32) (h : f_X2_readWait N t_waitTold t_in_kind t_in_place t_in_value t_in_word t_in_fault t_in_faultPlace t_in_size t_in_taken t_in_kinds t_in_places t_in_values t_in_words t_draft_patience = some (r, r_t_waitTold, r_t_in_kind, r_t_in_place, r_t_in_value, r_t_in_word, r_t_in_fault, r_t_in_faultPlace, r_t_in_taken, r_t_draft_patience)) : zM l G cy E yX2_readWait wsX2_readWait rm_X2_readWait [.ref q_t] (wd_X2_readWait cy q_t q_t_draft q_t_in q_t_in_tape q_t_in_kinds q_t_in_places q_t_in_values q_t_in_words q_t_draft_clockName q_t_draft_clockCorner q_t_draft_clockAhead q_t_draft_clockGain q_t_draft_masterName q_t_draft_masterCorner q_t_draft_masterLate q_t_draft_masterClock q_t_draft_masterMeets q_t_draft_meetName q_t_draft_meetDue t_waitTold t_in_kind t_in_place t_in_value t_in_word t_in_fault t_in_faultPlace t_in_size t_in_taken t_in_kinds t_in_places t_in_values t_in_words t_draft_clocks t_draft_masters t_draft_meets t_draft_patience) (wd_X2_readWait cy q_t q_t_draft q_t_in q_t_in_tape q_t_in_kinds q_t_in_places q_t_in_values q_t_in_words q_t_draft_clockName q_t_draft_clockCorner q_t_draft_clockAhead q_t_draft_clockGain q_t_draft_masterName q_t_draft_masterCorner q_t_draft_masterLate q_t_draft_masterClock q_t_draft_masterMeets q_t_draft_meetName q_t_draft_meetDue r_t_waitTold r_t_in_kind r_t_in_place r_t_in_value r_t_in_word r_t_in_fault r_t_in_faultPlace t_in_size r_t_in_taken t_in_kinds t_in_places t_in_values t_in_words t_draft_clocks t_draft_masters t_draft_meets r_t_draft_patience) (some (.int r)) 0 0 := by
  refine z_body (cc := cX2_readWait) (maxL := 1) (ret := some .boolean) (by decide) rfl (Nat.le_of_ble_eq_true rfl) ?_
  intro p e s m below meth c ls S hr hlocks hnm hF hH hl
  have S : CallFix p m c cX2_readWait 1 s ([.ref q_t] : List Value).toArray wsX2_readWait RX2 := S
  obtain ⟨hx, hb, hml, hown, hts⟩ := id S
  have hl : lv_has ls 1 [(0, .ref q_t)] := hl
  rw [f_X2_readWait] at h
  refine lv_aload_n hx hb dX2_readWait_0 rfl (lv_at hl 0 rfl) ?_
  refine z_get S hF hH iX2_readWait_X2 0 rfl rfl 1 (by decide) (List.mem_of_getElem? (i := 1) rfl) rfl dX2_readWait_1 ?_
  refine lv_iconst (v := 4) hx hb dX2_readWait_4 (by decide) ?_
  obtain ⟨z5, hz5, h⟩ := zcl_e h
  refine z_callV (As := [.int 4]) (rest := []) (st1 := [.int z5]) (ws' := (wd_X2_readWait cy q_t q_t_draft q_t_in q_t_in_tape q_t_in_kinds q_t_in_places q_t_in_values q_t_in_words q_t_draft_clockName q_t_draft_clockCorner q_t_draft_clockAhead q_t_draft_clockGain q_t_draft_masterName q_t_draft_masterCorner q_t_draft_masterLate q_t_draft_masterClock q_t_draft_masterMeets q_t_draft_meetName q_t_draft_meetDue t_waitTold t_in_kind t_in_place t_in_value t_in_word t_in_fault t_in_faultPlace t_in_size t_in_taken t_in_kinds t_in_places t_in_values t_in_words t_draft_clocks t_draft_masters t_draft_meets t_draft_patience)) S hF hH (c_X8_isKeyword l G cy E N q_t_in q_t_in_tape q_t_in_kinds q_t_in_places q_t_in_values q_t_in_words t_in_kind t_in_place t_in_value t_in_word t_in_fault t_in_faultPlace t_in_size t_in_taken 4 z5 hz5) (cwV 1 hts gX2_readWait_X8_isKeyword rfl rfl rfl (by decide +kernel) ⟨Nat.le_of_ble_eq_true rfl, Nat.le_of_ble_eq_true rfl⟩) 9 0 rfl rfl [1] [0, 2, 3, 4, 5, 6] [0, 6, 1, 2, 3, 4, 5] rfl rfl (by decide) (by decide) (by decide) (by decide) rfl rfl rfl rfl hl.1 (Nat.le_of_ble_eq_true rfl) dX2_readWait_5 ⟨Nat.le_of_ble_eq_true rfl, Nat.le_of_ble_eq_true rfl⟩ (fun H locs hH => ?_)
  refine lv_if_ne (tgt := 20) hx hb dX2_readWait_8 (by decide) (fun b8 => ?_) (fun b8 => ?_)
  · replace h := zif_f b8 h
    refine lv_aload_n hx hb dX2_readWait_20 rfl (lv_at hl 0 rfl) ?_
    refine z_get S hF hH iX2_readWait_X2 0 rfl rfl 2 (by decide) (List.mem_of_getElem? (i := 2) rfl) rfl dX2_readWait_21 ?_
    refine lv_if_eq (tgt := 36) hx hb dX2_readWait_24 (by decide) (fun b24 => ?_) (fun b24 => ?_)
    · replace h := zif_t b24 h
      refine lv_aload_n hx hb dX2_readWait_36 rfl (lv_at hl 0 rfl) ?_
      refine lv_iconst (v := 1) hx hb dX2_readWait_37 (by decide) ?_
      refine z_put (ws' := (wd_X2_readWait cy q_t q_t_draft q_t_in q_t_in_tape q_t_in_kinds q_t_in_places q_t_in_values q_t_in_words q_t_draft_clockName q_t_draft_clockCorner q_t_draft_clockAhead q_t_draft_clockGain q_t_draft_masterName q_t_draft_masterCorner q_t_draft_masterLate q_t_draft_masterClock q_t_draft_masterMeets q_t_draft_meetName q_t_draft_meetDue 1 t_in_kind t_in_place t_in_value t_in_word t_in_fault t_in_faultPlace t_in_size t_in_taken t_in_kinds t_in_places t_in_values t_in_words t_draft_clocks t_draft_masters t_draft_meets t_draft_patience)) S hF hH iX2_readWait_X2 tyX2 tyX2_ok nmX2 0 rfl rfl 2 (by decide) (List.mem_of_getElem? (i := 2) rfl) rfl rfl rfl (Nat.le_of_ble_eq_true rfl) rfl dX2_readWait_38 (fun H locs hH => ?_)
      refine lv_aload_n hx hb dX2_readWait_41 rfl (lv_at hl 0 rfl) ?_
      refine z_get S hF hH iX2_readWait_X2 0 rfl rfl 1 (by decide) (List.mem_of_getElem? (i := 1) rfl) rfl dX2_readWait_42 ?_
      obtain ⟨z45, hz45, h⟩ := zcl_e h
      refine z_callV (As := []) (rest := []) (st1 := []) (ws' := (wd_X2_readWait cy q_t q_t_draft q_t_in q_t_in_tape q_t_in_kinds q_t_in_places q_t_in_values q_t_in_words q_t_draft_clockName q_t_draft_clockCorner q_t_draft_clockAhead q_t_draft_clockGain q_t_draft_masterName q_t_draft_masterCorner q_t_draft_masterLate q_t_draft_masterClock q_t_draft_masterMeets q_t_draft_meetName q_t_draft_meetDue 1 z45.1 z45.2.1 z45.2.2.1 z45.2.2.2.1 t_in_fault t_in_faultPlace t_in_size z45.2.2.2.2 t_in_kinds t_in_places t_in_values t_in_words t_draft_clocks t_draft_masters t_draft_meets t_draft_patience)) S hF hH (c_X8_advance l G cy E N q_t_in q_t_in_tape q_t_in_kinds q_t_in_places q_t_in_values q_t_in_words t_in_kind t_in_place t_in_value t_in_word t_in_fault t_in_faultPlace t_in_size t_in_taken t_in_kinds t_in_places t_in_values t_in_words z45.1 z45.2.1 z45.2.2.1 z45.2.2.2.1 z45.2.2.2.2 hz45) (cwV 0 hts gX2_readWait_X8_advance rfl rfl rfl (by decide +kernel) ⟨Nat.le_of_ble_eq_true rfl, Nat.le_of_ble_eq_true rfl⟩) 9 0 rfl rfl [1, 2, 3, 4, 5] [0, 6] [0, 2, 3, 4, 5, 6, 1] rfl rfl (by decide) (by decide) (by decide) (by decide) rfl rfl rfl rfl hl.1 (Nat.le_of_ble_eq_true rfl) dX2_readWait_45 ⟨Nat.le_of_ble_eq_true rfl, Nat.le_of_ble_eq_true rfl⟩ (fun H locs hH => ?_)
      refine lv_aload_n hx hb dX2_readWait_48 rfl (lv_at hl 0 rfl) ?_
      refine z_get S hF hH iX2_readWait_X2 0 rfl rfl 0 (by decide) (List.mem_of_getElem? (i := 3) rfl) rfl dX2_readWait_49 ?_
      refine lv_aload_n hx hb dX2_readWait_52 rfl (lv_at hl 0 rfl) ?_
      refine z_get S hF hH iX2_readWait_X2 0 rfl rfl 1 (by decide) (List.mem_of_getElem? (i := 1) rfl) rfl dX2_readWait_53 ?_
      refine lv_iconst (v := 0) hx hb dX2_readWait_56 (by decide) ?_
      refine lv_bipush (v := 99) hx hb dX2_readWait_57 (by decide) ?_
      obtain ⟨z59, hz59, h⟩ := zcl_e h
      refine z_callV (As := [.int 0, .int 99]) (rest := [.ref q_t_draft]) (st1 := [.int z59.1, .ref q_t_draft]) (ws' := (wd_X2_readWait cy q_t q_t_draft q_t_in q_t_in_tape q_t_in_kinds q_t_in_places q_t_in_values q_t_in_words q_t_draft_clockName q_t_draft_clockCorner q_t_draft_clockAhead q_t_draft_clockGain q_t_draft_masterName q_t_draft_masterCorner q_t_draft_masterLate q_t_draft_masterClock q_t_draft_masterMeets q_t_draft_meetName q_t_draft_meetDue 1 z59.2.1 z59.2.2.1 z59.2.2.2.1 z59.2.2.2.2.1 z59.2.2.2.2.2.1 z59.2.2.2.2.2.2.1 t_in_size z59.2.2.2.2.2.2.2 t_in_kinds t_in_places t_in_values t_in_words t_draft_clocks t_draft_masters t_draft_meets t_draft_patience)) S hF hH (c_X8_takeNumber l G cy E N q_t_in q_t_in_tape q_t_in_kinds q_t_in_places q_t_in_values q_t_in_words z45.1 z45.2.1 z45.2.2.1 z45.2.2.2.1 t_in_fault t_in_faultPlace t_in_size z45.2.2.2.2 t_in_kinds t_in_places t_in_values t_in_words 0 99 z59.1 z59.2.1 z59.2.2.1 z59.2.2.2.1 z59.2.2.2.2.1 z59.2.2.2.2.2.1 z59.2.2.2.2.2.2.1 z59.2.2.2.2.2.2.2 hz59) (cwV 2 hts gX2_readWait_X8_takeNumber rfl rfl rfl (by decide +kernel) ⟨Nat.le_of_ble_eq_true rfl, Nat.le_of_ble_eq_true rfl⟩) 9 0 rfl rfl [1, 2, 3, 4, 5] [0, 6] [0, 2, 3, 4, 5, 6, 1] rfl rfl (by decide) (by decide) (by decide) (by decide) rfl rfl rfl rfl hl.1 (Nat.le_of_ble_eq_true rfl) dX2_readWait_59 ⟨Nat.le_of_ble_eq_true rfl, Nat.le_of_ble_eq_true rfl⟩ (fun H locs hH => ?_)
      refine z_put (ws' := (wd_X2_readWait cy q_t q_t_draft q_t_in q_t_in_tape q_t_in_kinds q_t_in_places q_t_in_values q_t_in_words q_t_draft_clockName q_t_draft_clockCorner q_t_draft_clockAhead q_t_draft_clockGain q_t_draft_masterName q_t_draft_masterCorner q_t_draft_masterLate q_t_draft_masterClock q_t_draft_masterMeets q_t_draft_meetName q_t_draft_meetDue 1 z59.2.1 z59.2.2.1 z59.2.2.2.1 z59.2.2.2.2.1 z59.2.2.2.2.2.1 z59.2.2.2.2.2.2.1 t_in_size z59.2.2.2.2.2.2.2 t_in_kinds t_in_places t_in_values t_in_words t_draft_clocks t_draft_masters t_draft_meets z59.1)) S hF hH iX2_readWait_X1 tyX1 tyX1_ok nmX1 6 rfl rfl 3 (by decide) (List.mem_of_getElem? (i := 4) rfl) rfl rfl rfl (Nat.le_of_ble_eq_true rfl) rfl dX2_readWait_62 (fun H locs hH => ?_)
      refine lv_aload_n hx hb dX2_readWait_65 rfl (lv_at hl 0 rfl) ?_
      refine z_get S hF hH iX2_readWait_X2 0 rfl rfl 1 (by decide) (List.mem_of_getElem? (i := 1) rfl) rfl dX2_readWait_66 ?_
      refine z_get S hF hH iX2_readWait_X8 1 rfl rfl 4 (by decide) (List.mem_of_getElem? (i := 5) rfl) rfl dX2_readWait_69 ?_
      refine lv_if_ne (tgt := 79) hx hb dX2_readWait_72 (by decide) (fun b72 => ?_) (fun b72 => ?_)
      · replace h := zif_f b72 h
        refine lv_iconst (v := 0) hx hb dX2_readWait_79 (by decide) ?_
        cases h
        exact z_zret S hr hlocks hH rfl dX2_readWait_80
      · replace h := zif_t b72 h
        refine lv_iconst (v := 1) hx hb dX2_readWait_75 (by decide) ?_
        refine lv_goto (tgt := 80) hx hb dX2_readWait_76 (by decide) ?_
        cases h
        exact z_zret S hr hlocks hH rfl dX2_readWait_80
    · replace h := zif_f b24 h
      refine lv_aload_n hx hb dX2_readWait_27 rfl (lv_at hl 0 rfl) ?_
      refine z_get S hF hH iX2_readWait_X2 0 rfl rfl 1 (by decide) (List.mem_of_getElem? (i := 1) rfl) rfl dX2_readWait_28 ?_
      refine lv_iconst (v := 3) hx hb dX2_readWait_31 (by decide) ?_
      obtain ⟨z32, hz32, h⟩ := zcl_e h
      refine z_callV (As := [.int 3]) (rest := []) (st1 := [.int z32.1]) (ws' := (wd_X2_readWait cy q_t q_t_draft q_t_in q_t_in_tape q_t_in_kinds q_t_in_places q_t_in_values q_t_in_words q_t_draft_clockName q_t_draft_clockCorner q_t_draft_clockAhead q_t_draft_clockGain q_t_draft_masterName q_t_draft_masterCorner q_t_draft_masterLate q_t_draft_masterClock q_t_draft_masterMeets q_t_draft_meetName q_t_draft_meetDue t_waitTold t_in_kind t_in_place t_in_value t_in_word z32.2.1 z32.2.2 t_in_size t_in_taken t_in_kinds t_in_places t_in_values t_in_words t_draft_clocks t_draft_masters t_draft_meets t_draft_patience)) S hF hH (c_X8_refuse l G cy E N q_t_in q_t_in_tape q_t_in_kinds q_t_in_places q_t_in_values q_t_in_words t_in_kind t_in_place t_in_value t_in_word t_in_fault t_in_faultPlace t_in_size t_in_taken 3 z32.1 z32.2.1 z32.2.2 hz32) (cwV 1 hts gX2_readWait_X8_refuse rfl rfl rfl (by decide +kernel) ⟨Nat.le_of_ble_eq_true rfl, Nat.le_of_ble_eq_true rfl⟩) 9 0 rfl rfl [1] [0, 2, 3, 4, 5, 6] [0, 6, 1, 2, 3, 4, 5] rfl rfl (by decide) (by decide) (by decide) (by decide) rfl rfl rfl rfl hl.1 (Nat.le_of_ble_eq_true rfl) dX2_readWait_32 ⟨Nat.le_of_ble_eq_true rfl, Nat.le_of_ble_eq_true rfl⟩ (fun H locs hH => ?_)
      obtain ⟨h35, h⟩ := zck_e h
      cases h
      exact z_zret S hr hlocks hH h35 dX2_readWait_35
  · replace h := zif_t b8 h
    refine lv_aload_n hx hb dX2_readWait_11 rfl (lv_at hl 0 rfl) ?_
    refine z_get S hF hH iX2_readWait_X2 0 rfl rfl 1 (by decide) (List.mem_of_getElem? (i := 1) rfl) rfl dX2_readWait_12 ?_
    refine lv_iconst (v := 1) hx hb dX2_readWait_15 (by decide) ?_
    obtain ⟨z16, hz16, h⟩ := zcl_e h
    refine z_callV (As := [.int 1]) (rest := []) (st1 := [.int z16.1]) (ws' := (wd_X2_readWait cy q_t q_t_draft q_t_in q_t_in_tape q_t_in_kinds q_t_in_places q_t_in_values q_t_in_words q_t_draft_clockName q_t_draft_clockCorner q_t_draft_clockAhead q_t_draft_clockGain q_t_draft_masterName q_t_draft_masterCorner q_t_draft_masterLate q_t_draft_masterClock q_t_draft_masterMeets q_t_draft_meetName q_t_draft_meetDue t_waitTold t_in_kind t_in_place t_in_value t_in_word z16.2.1 z16.2.2 t_in_size t_in_taken t_in_kinds t_in_places t_in_values t_in_words t_draft_clocks t_draft_masters t_draft_meets t_draft_patience)) S hF hH (c_X8_refuse l G cy E N q_t_in q_t_in_tape q_t_in_kinds q_t_in_places q_t_in_values q_t_in_words t_in_kind t_in_place t_in_value t_in_word t_in_fault t_in_faultPlace t_in_size t_in_taken 1 z16.1 z16.2.1 z16.2.2 hz16) (cwV 1 hts gX2_readWait_X8_refuse rfl rfl rfl (by decide +kernel) ⟨Nat.le_of_ble_eq_true rfl, Nat.le_of_ble_eq_true rfl⟩) 9 0 rfl rfl [1] [0, 2, 3, 4, 5, 6] [0, 6, 1, 2, 3, 4, 5] rfl rfl (by decide) (by decide) (by decide) (by decide) rfl rfl rfl rfl hl.1 (Nat.le_of_ble_eq_true rfl) dX2_readWait_16 ⟨Nat.le_of_ble_eq_true rfl, Nat.le_of_ble_eq_true rfl⟩ (fun H locs hH => ?_)
    obtain ⟨h19, h⟩ := zck_e h
    cases h
    exact z_zret S hr hlocks hH h19 dX2_readWait_19
abbrev wd_X2_readLine (cy : Nat → ClassId) (q_t q_t_draft q_t_in q_t_in_tape q_t_in_kinds q_t_in_places q_t_in_values q_t_in_words q_t_draft_clockName q_t_draft_clockCorner q_t_draft_clockAhead q_t_draft_clockGain q_t_draft_masterName q_t_draft_masterCorner q_t_draft_masterLate q_t_draft_masterClock q_t_draft_masterMeets q_t_draft_meetName q_t_draft_meetDue : Nat) (t_waitTold : Int32) (t_in_kind : Int32) (t_in_place : Int32) (t_in_value : Int32) (t_in_word : Int64) (t_in_fault : Int32) (t_in_faultPlace : Int32) (t_in_size : Int32) (t_in_taken : Int32) (t_draft_clocks : Int32) (t_draft_masters : Int32) (t_draft_meets : Int32) (t_draft_patience : Int32) (t_in_kinds : Nat → Int32) (t_in_places : Nat → Int32) (t_in_values : Nat → Int32) (t_in_words : Nat → Int64) (t_draft_clockName : Nat → Int64) (t_draft_masterName : Nat → Int64) (t_draft_meetName : Nat → Int64) (t_draft_clockCorner : Nat → Int32) (t_draft_clockAhead : Nat → Int32) (t_draft_clockGain : Nat → Int32) (t_draft_masterCorner : Nat → Int32) (t_draft_masterLate : Nat → Int32) (t_draft_masterMeets : Nat → Int32) (t_draft_masterClock : Nat → Int32) (t_draft_meetDue : Nat → Int32) : va_W := [(q_t, .inr (3, [.ref q_t_draft, .ref q_t_in, .int t_waitTold])), (q_t_in, .inr (9, [.int t_in_kind, .int t_in_place, .int t_in_value, .long t_in_word, .int t_in_fault, .int t_in_faultPlace, .ref q_t_in_tape, .int t_in_size, .int t_in_taken, .ref q_t_in_kinds, .ref q_t_in_places, .ref q_t_in_values, .ref q_t_in_words])), (q_t_draft, .inr (2, [.int t_draft_clocks, .int t_draft_masters, .int t_draft_meets, .int t_draft_patience, .ref q_t_draft_clockName, .ref q_t_draft_clockCorner, .ref q_t_draft_clockAhead, .ref q_t_draft_clockGain, .ref q_t_draft_masterName, .ref q_t_draft_masterCorner, .ref q_t_draft_masterLate, .ref q_t_draft_masterClock, .ref q_t_draft_masterMeets, .ref q_t_draft_meetName, .ref q_t_draft_meetDue])), (q_t_in_kinds, .inl (cy 1, 901, .inl t_in_kinds)), (q_t_in_places, .inl (cy 1, 901, .inl t_in_places)), (q_t_in_values, .inl (cy 1, 901, .inl t_in_values)), (q_t_in_words, .inl (cy 2, 901, .inr (.inl t_in_words))), (q_t_draft_clockName, .inl (cy 2, 6, .inr (.inl t_draft_clockName))), (q_t_draft_masterName, .inl (cy 2, 6, .inr (.inl t_draft_masterName))), (q_t_draft_meetName, .inl (cy 2, 6, .inr (.inl t_draft_meetName))), (q_t_draft_clockCorner, .inl (cy 1, 6, .inl t_draft_clockCorner)), (q_t_draft_clockAhead, .inl (cy 1, 6, .inl t_draft_clockAhead)), (q_t_draft_clockGain, .inl (cy 1, 6, .inl t_draft_clockGain)), (q_t_draft_masterCorner, .inl (cy 1, 6, .inl t_draft_masterCorner)), (q_t_draft_masterLate, .inl (cy 1, 6, .inl t_draft_masterLate)), (q_t_draft_masterMeets, .inl (cy 1, 6, .inl t_draft_masterMeets)), (q_t_draft_masterClock, .inl (cy 1, 6, .inl t_draft_masterClock)), (q_t_draft_meetDue, .inl (cy 1, 6, .inl t_draft_meetDue))]
theorem iX2_readLine_X2 : ∀ w ∈ wsX20, w ∈ wsX2_readLine := fun _ h => List.mem_cons_of_mem _ (List.mem_append_left _ (List.mem_append_left _ (List.mem_append_right _ h)))
abbrev rm_X2_readLine : Room := { frames := 4, cells := 0, slots := 0, locals := 92 }
set_option maxRecDepth 100000 in
def f_X2_readLine (N : Nat) (t_waitTold : Int32) (t_in_kind : Int32) (t_in_place : Int32) (t_in_value : Int32) (t_in_word : Int64) (t_in_fault : Int32) (t_in_faultPlace : Int32) (t_in_size : Int32) (t_in_taken : Int32) (t_draft_clocks : Int32) (t_draft_masters : Int32) (t_draft_meets : Int32) (t_draft_patience : Int32) (t_in_kinds : Nat → Int32) (t_in_places : Nat → Int32) (t_in_values : Nat → Int32) (t_in_words : Nat → Int64) (t_draft_clockName : Nat → Int64) (t_draft_masterName : Nat → Int64) (t_draft_meetName : Nat → Int64) (t_draft_clockCorner : Nat → Int32) (t_draft_clockAhead : Nat → Int32) (t_draft_clockGain : Nat → Int32) (t_draft_masterCorner : Nat → Int32) (t_draft_masterLate : Nat → Int32) (t_draft_masterMeets : Nat → Int32) (t_draft_masterClock : Nat → Int32) (t_draft_meetDue : Nat → Int32) : Option (Int32 × Int32 × Int32 × Int32 × Int32 × Int64 × Int32 × Int32 × Int32 × Int32 × Int32 × Int32 × Int32 × (Nat → Int64) × (Nat → Int64) × (Nat → Int64) × (Nat → Int32) × (Nat → Int32) × (Nat → Int32) × (Nat → Int32) × (Nat → Int32) × (Nat → Int32) × (Nat → Int32) × (Nat → Int32)) := zcl (f_X8_isKeyword N 0 t_in_kind t_in_value) fun z5 => if z5 = 0 then (zcl (f_X8_isKeyword N 1 t_in_kind t_in_value) fun z21 => if z21 = 0 then (zcl (f_X8_isKeyword N 2 t_in_kind t_in_value) fun z37 => if z37 = 0 then (zcl (f_X8_isKeyword N 3 t_in_kind t_in_value) fun z53 => if z53 = 0 then (zcl (f_X2_readWait N t_waitTold t_in_kind t_in_place t_in_value t_in_word t_in_fault t_in_faultPlace t_in_size t_in_taken t_in_kinds t_in_places t_in_values t_in_words t_draft_patience) fun z65 => zck (zbo z65.1) <| some (z65.1, z65.2.1, z65.2.2.1, z65.2.2.2.1, z65.2.2.2.2.1, z65.2.2.2.2.2.1, z65.2.2.2.2.2.2.1, z65.2.2.2.2.2.2.2.1, z65.2.2.2.2.2.2.2.2.1, t_draft_clocks, t_draft_masters, t_draft_meets, z65.2.2.2.2.2.2.2.2.2, t_draft_clockName, t_draft_masterName, t_draft_meetName, t_draft_clockCorner, t_draft_clockAhead, t_draft_clockGain, t_draft_masterCorner, t_draft_masterLate, t_draft_masterMeets, t_draft_masterClock, t_draft_meetDue)) else (zcl (f_X2_readComes N t_in_kind t_in_place t_in_value t_in_word t_in_fault t_in_faultPlace t_in_size t_in_taken t_in_kinds t_in_places t_in_values t_in_words t_draft_masters t_draft_meets t_draft_masterName t_draft_meetName t_draft_masterMeets) fun z60 => zck (zbo z60.1) <| some (z60.1, t_waitTold, z60.2.1, z60.2.2.1, z60.2.2.2.1, z60.2.2.2.2.1, z60.2.2.2.2.2.1, z60.2.2.2.2.2.2.1, z60.2.2.2.2.2.2.2.1, t_draft_clocks, t_draft_masters, t_draft_meets, t_draft_patience, t_draft_clockName, t_draft_masterName, t_draft_meetName, t_draft_clockCorner, t_draft_clockAhead, t_draft_clockGain, t_draft_masterCorner, t_draft_masterLate, z60.2.2.2.2.2.2.2.2, t_draft_masterClock, t_draft_meetDue))) else (zcl (f_X2_readMeet N t_draft_clocks t_draft_masters t_draft_meets t_in_kind t_in_place t_in_value t_in_word t_in_fault t_in_faultPlace t_in_size t_in_taken t_in_kinds t_in_places t_in_values t_in_words t_draft_clockName t_draft_masterName t_draft_meetName t_draft_meetDue) fun z44 => zck (zbo z44.1) <| some (z44.1, t_waitTold, z44.2.2.1, z44.2.2.2.1, z44.2.2.2.2.1, z44.2.2.2.2.2.1, z44.2.2.2.2.2.2.1, z44.2.2.2.2.2.2.2.1, z44.2.2.2.2.2.2.2.2.1, t_draft_clocks, t_draft_masters, z44.2.1, t_draft_patience, t_draft_clockName, t_draft_masterName, z44.2.2.2.2.2.2.2.2.2.1, t_draft_clockCorner, t_draft_clockAhead, t_draft_clockGain, t_draft_masterCorner, t_draft_masterLate, t_draft_masterMeets, t_draft_masterClock, z44.2.2.2.2.2.2.2.2.2.2))) else (zcl (f_X2_readMaster N t_draft_clocks t_draft_masters t_draft_meets t_in_kind t_in_place t_in_value t_in_word t_in_fault t_in_faultPlace t_in_size t_in_taken t_in_kinds t_in_places t_in_values t_in_words t_draft_clockName t_draft_masterName t_draft_meetName t_draft_masterCorner t_draft_masterLate t_draft_masterMeets t_draft_masterClock) fun z28 => zck (zbo z28.1) <| some (z28.1, t_waitTold, z28.2.2.1, z28.2.2.2.1, z28.2.2.2.2.1, z28.2.2.2.2.2.1, z28.2.2.2.2.2.2.1, z28.2.2.2.2.2.2.2.1, z28.2.2.2.2.2.2.2.2.1, t_draft_clocks, z28.2.1, t_draft_meets, t_draft_patience, t_draft_clockName, z28.2.2.2.2.2.2.2.2.2.1, t_draft_meetName, t_draft_clockCorner, t_draft_clockAhead, t_draft_clockGain, z28.2.2.2.2.2.2.2.2.2.2.1, z28.2.2.2.2.2.2.2.2.2.2.2.1, z28.2.2.2.2.2.2.2.2.2.2.2.2.1, z28.2.2.2.2.2.2.2.2.2.2.2.2.2, t_draft_meetDue))) else (zcl (f_X2_readClock N t_draft_clocks t_draft_masters t_draft_meets t_in_kind t_in_place t_in_value t_in_word t_in_fault t_in_faultPlace t_in_size t_in_taken t_in_kinds t_in_places t_in_values t_in_words t_draft_clockName t_draft_masterName t_draft_meetName t_draft_clockCorner t_draft_clockAhead t_draft_clockGain) fun z12 => zck (zbo z12.1) <| some (z12.1, t_waitTold, z12.2.2.1, z12.2.2.2.1, z12.2.2.2.2.1, z12.2.2.2.2.2.1, z12.2.2.2.2.2.2.1, z12.2.2.2.2.2.2.2.1, z12.2.2.2.2.2.2.2.2.1, z12.2.1, t_draft_masters, t_draft_meets, t_draft_patience, z12.2.2.2.2.2.2.2.2.2.1, t_draft_masterName, t_draft_meetName, z12.2.2.2.2.2.2.2.2.2.2.1, z12.2.2.2.2.2.2.2.2.2.2.2.1, z12.2.2.2.2.2.2.2.2.2.2.2.2, t_draft_masterCorner, t_draft_masterLate, t_draft_masterMeets, t_draft_masterClock, t_draft_meetDue))
set_option maxHeartbeats 4000000 in
set_option maxRecDepth 100000 in
theorem c_X2_readLine (l : Launch) (G : va_G) (cy : Nat → ClassId) (E : List (Nat × Cell)) (N : Nat) (q_t q_t_draft q_t_in q_t_in_tape q_t_in_kinds q_t_in_places q_t_in_values q_t_in_words q_t_draft_clockName q_t_draft_clockCorner q_t_draft_clockAhead q_t_draft_clockGain q_t_draft_masterName q_t_draft_masterCorner q_t_draft_masterLate q_t_draft_masterClock q_t_draft_masterMeets q_t_draft_meetName q_t_draft_meetDue : Nat) (t_waitTold : Int32) (t_in_kind : Int32) (t_in_place : Int32) (t_in_value : Int32) (t_in_word : Int64) (t_in_fault : Int32) (t_in_faultPlace : Int32) (t_in_size : Int32) (t_in_taken : Int32) (t_draft_clocks : Int32) (t_draft_masters : Int32) (t_draft_meets : Int32) (t_draft_patience : Int32) (t_in_kinds : Nat → Int32) (t_in_places : Nat → Int32) (t_in_values : Nat → Int32) (t_in_words : Nat → Int64) (t_draft_clockName : Nat → Int64) (t_draft_masterName : Nat → Int64) (t_draft_meetName : Nat → Int64) (t_draft_clockCorner : Nat → Int32) (t_draft_clockAhead : Nat → Int32) (t_draft_clockGain : Nat → Int32) (t_draft_masterCorner : Nat → Int32) (t_draft_masterLate : Nat → Int32) (t_draft_masterMeets : Nat → Int32) (t_draft_masterClock : Nat → Int32) (t_draft_meetDue : Nat → Int32) (r : Int32) (r_t_waitTold : Int32) (r_t_in_kind : Int32) (r_t_in_place : Int32) (r_t_in_value : Int32) (r_t_in_word : Int64) (r_t_in_fault : Int32) (r_t_in_faultPlace : Int32) (r_t_in_taken : Int32) (r_t_draft_clocks : Int32) (r_t_draft_masters : Int32) (r_t_draft_meets : Int32) (r_t_draft_patience : Int32) (r_t_draft_clockName : Nat → Int64) (r_t_draft_masterName : Nat → Int64) (r_t_draft_meetName : Nat → Int64) (r_t_draft_clockCorner : Nat → Int32) (r_t_draft_clockAhead : Nat → Int32) (r_t_draft_clockGain : Nat → Int32) (r_t_draft_masterCorner : Nat → Int32) (r_t_draft_masterLate : Nat → Int32) (r_t_draft_masterMeets : Nat → Int32) (r_t_draft_masterClock : Nat → Int32) (r_t_draft_meetDue : Nat → Int32) (h : f_X2_readLine N t_waitTold t_in_kind t_in_place t_in_value t_in_word t_in_fault t_in_faultPlace t_in_size t_in_taken t_draft_clocks t_draft_masters t_draft_meets t_draft_patience t_in_kinds t_in_places t_in_values t_in_words t_draft_clockName t_draft_masterName t_draft_meetName t_draft_clockCorner t_draft_clockAhead t_draft_clockGain t_draft_masterCorner t_draft_masterLate t_draft_masterMeets t_draft_masterClock t_draft_meetDue = some (r, r_t_waitTold, r_t_in_kind, r_t_in_place, r_t_in_value, r_t_in_word, r_t_in_fault, r_t_in_faultPlace, r_t_in_taken, r_t_draft_clocks, r_t_draft_masters, r_t_draft_meets, r_t_draft_patience, r_t_draft_clockName, r_t_draft_masterName, r_t_draft_meetName, r_t_draft_clockCorner, r_t_draft_clockAhead, r_t_draft_clockGain, r_t_draft_masterCorner, r_t_draft_masterLate, r_t_draft_masterMeets, r_t_draft_masterClock, r_t_draft_meetDue)) : zM l G cy E yX2_readLine wsX2_readLine rm_X2_readLine [.ref q_t] (wd_X2_readLine cy q_t q_t_draft q_t_in q_t_in_tape q_t_in_kinds q_t_in_places q_t_in_values q_t_in_words q_t_draft_clockName q_t_draft_clockCorner q_t_draft_clockAhead q_t_draft_clockGain q_t_draft_masterName q_t_draft_masterCorner q_t_draft_masterLate q_t_draft_masterClock q_t_draft_masterMeets q_t_draft_meetName q_t_draft_meetDue t_waitTold t_in_kind t_in_place t_in_value t_in_word t_in_fault t_in_faultPlace t_in_size t_in_taken t_draft_clocks t_draft_masters t_draft_meets t_draft_patience t_in_kinds t_in_places t_in_values t_in_words t_draft_clockName t_draft_masterName t_draft_meetName t_draft_clockCorner t_draft_clockAhead t_draft_clockGain t_draft_masterCorner t_draft_masterLate t_draft_masterMeets t_draft_masterClock t_draft_meetDue) (wd_X2_readLine cy q_t q_t_draft q_t_in q_t_in_tape q_t_in_kinds q_t_in_places q_t_in_values q_t_in_words q_t_draft_clockName q_t_draft_clockCorner q_t_draft_clockAhead q_t_draft_clockGain q_t_draft_masterName q_t_draft_masterCorner q_t_draft_masterLate q_t_draft_masterClock q_t_draft_masterMeets q_t_draft_meetName q_t_draft_meetDue r_t_waitTold r_t_in_kind r_t_in_place r_t_in_value r_t_in_word r_t_in_fault r_t_in_faultPlace t_in_size r_t_in_taken r_t_draft_clocks r_t_draft_masters r_t_draft_meets r_t_draft_patience t_in_kinds t_in_places t_in_values t_in_words r_t_draft_clockName r_t_draft_masterName r_t_draft_meetName r_t_draft_clockCorner r_t_draft_clockAhead r_t_draft_clockGain r_t_draft_masterCorner r_t_draft_masterLate r_t_draft_masterMeets r_t_draft_masterClock r_t_draft_meetDue) (some (.int r)) 0 0 := by
  refine z_body (cc := cX2_readLine) (maxL := 1) (ret := some .boolean) (by decide) rfl (Nat.le_of_ble_eq_true rfl) ?_
  intro p e s m below meth c ls S hr hlocks hnm hF hH hl
  have S : CallFix p m c cX2_readLine 1 s ([.ref q_t] : List Value).toArray wsX2_readLine RX2 := S
  obtain ⟨hx, hb, hml, hown, hts⟩ := id S
  have hl : lv_has ls 1 [(0, .ref q_t)] := hl
  rw [f_X2_readLine] at h
  refine lv_aload_n hx hb dX2_readLine_0 rfl (lv_at hl 0 rfl) ?_
  refine z_get S hF hH iX2_readLine_X2 0 rfl rfl 1 (by decide) (List.mem_of_getElem? (i := 1) rfl) rfl dX2_readLine_1 ?_
  refine lv_iconst (v := 0) hx hb dX2_readLine_4 (by decide) ?_
  obtain ⟨z5, hz5, h⟩ := zcl_e h
  refine z_callV (As := [.int 0]) (rest := []) (st1 := [.int z5]) (ws' := (wd_X2_readLine cy q_t q_t_draft q_t_in q_t_in_tape q_t_in_kinds q_t_in_places q_t_in_values q_t_in_words q_t_draft_clockName q_t_draft_clockCorner q_t_draft_clockAhead q_t_draft_clockGain q_t_draft_masterName q_t_draft_masterCorner q_t_draft_masterLate q_t_draft_masterClock q_t_draft_masterMeets q_t_draft_meetName q_t_draft_meetDue t_waitTold t_in_kind t_in_place t_in_value t_in_word t_in_fault t_in_faultPlace t_in_size t_in_taken t_draft_clocks t_draft_masters t_draft_meets t_draft_patience t_in_kinds t_in_places t_in_values t_in_words t_draft_clockName t_draft_masterName t_draft_meetName t_draft_clockCorner t_draft_clockAhead t_draft_clockGain t_draft_masterCorner t_draft_masterLate t_draft_masterMeets t_draft_masterClock t_draft_meetDue)) S hF hH (c_X8_isKeyword l G cy E N q_t_in q_t_in_tape q_t_in_kinds q_t_in_places q_t_in_values q_t_in_words t_in_kind t_in_place t_in_value t_in_word t_in_fault t_in_faultPlace t_in_size t_in_taken 0 z5 hz5) (cwV 1 hts gX2_readLine_X8_isKeyword rfl rfl rfl (by decide +kernel) ⟨Nat.le_of_ble_eq_true rfl, Nat.le_of_ble_eq_true rfl⟩) 9 0 rfl rfl [1] [0, 2, 3, 4, 5, 6, 7, 8, 9, 10, 11, 12, 13, 14, 15, 16, 17] [0, 17, 1, 2, 3, 4, 5, 6, 7, 8, 9, 10, 11, 12, 13, 14, 15, 16] rfl rfl (by decide) (by decide) (by decide) (by decide) rfl rfl rfl rfl hl.1 (Nat.le_of_ble_eq_true rfl) dX2_readLine_5 ⟨Nat.le_of_ble_eq_true rfl, Nat.le_of_ble_eq_true rfl⟩ (fun H locs hH => ?_)
  refine lv_if_eq (tgt := 16) hx hb dX2_readLine_8 (by decide) (fun b8 => ?_) (fun b8 => ?_)
  · replace h := zif_t b8 h
    refine lv_aload_n hx hb dX2_readLine_16 rfl (lv_at hl 0 rfl) ?_
    refine z_get S hF hH iX2_readLine_X2 0 rfl rfl 1 (by decide) (List.mem_of_getElem? (i := 1) rfl) rfl dX2_readLine_17 ?_
    refine lv_iconst (v := 1) hx hb dX2_readLine_20 (by decide) ?_
    obtain ⟨z21, hz21, h⟩ := zcl_e h
    refine z_callV (As := [.int 1]) (rest := []) (st1 := [.int z21]) (ws' := (wd_X2_readLine cy q_t q_t_draft q_t_in q_t_in_tape q_t_in_kinds q_t_in_places q_t_in_values q_t_in_words q_t_draft_clockName q_t_draft_clockCorner q_t_draft_clockAhead q_t_draft_clockGain q_t_draft_masterName q_t_draft_masterCorner q_t_draft_masterLate q_t_draft_masterClock q_t_draft_masterMeets q_t_draft_meetName q_t_draft_meetDue t_waitTold t_in_kind t_in_place t_in_value t_in_word t_in_fault t_in_faultPlace t_in_size t_in_taken t_draft_clocks t_draft_masters t_draft_meets t_draft_patience t_in_kinds t_in_places t_in_values t_in_words t_draft_clockName t_draft_masterName t_draft_meetName t_draft_clockCorner t_draft_clockAhead t_draft_clockGain t_draft_masterCorner t_draft_masterLate t_draft_masterMeets t_draft_masterClock t_draft_meetDue)) S hF hH (c_X8_isKeyword l G cy E N q_t_in q_t_in_tape q_t_in_kinds q_t_in_places q_t_in_values q_t_in_words t_in_kind t_in_place t_in_value t_in_word t_in_fault t_in_faultPlace t_in_size t_in_taken 1 z21 hz21) (cwV 1 hts gX2_readLine_X8_isKeyword rfl rfl rfl (by decide +kernel) ⟨Nat.le_of_ble_eq_true rfl, Nat.le_of_ble_eq_true rfl⟩) 9 0 rfl rfl [1] [0, 2, 3, 4, 5, 6, 7, 8, 9, 10, 11, 12, 13, 14, 15, 16, 17] [0, 17, 1, 2, 3, 4, 5, 6, 7, 8, 9, 10, 11, 12, 13, 14, 15, 16] rfl rfl (by decide) (by decide) (by decide) (by decide) rfl rfl rfl rfl hl.1 (Nat.le_of_ble_eq_true rfl) dX2_readLine_21 ⟨Nat.le_of_ble_eq_true rfl, Nat.le_of_ble_eq_true rfl⟩ (fun H locs hH => ?_)
    refine lv_if_eq (tgt := 32) hx hb dX2_readLine_24 (by decide) (fun b24 => ?_) (fun b24 => ?_)
    · replace h := zif_t b24 h
      refine lv_aload_n hx hb dX2_readLine_32 rfl (lv_at hl 0 rfl) ?_
      refine z_get S hF hH iX2_readLine_X2 0 rfl rfl 1 (by decide) (List.mem_of_getElem? (i := 1) rfl) rfl dX2_readLine_33 ?_
      refine lv_iconst (v := 2) hx hb dX2_readLine_36 (by decide) ?_
      obtain ⟨z37, hz37, h⟩ := zcl_e h
      refine z_callV (As := [.int 2]) (rest := []) (st1 := [.int z37]) (ws' := (wd_X2_readLine cy q_t q_t_draft q_t_in q_t_in_tape q_t_in_kinds q_t_in_places q_t_in_values q_t_in_words q_t_draft_clockName q_t_draft_clockCorner q_t_draft_clockAhead q_t_draft_clockGain q_t_draft_masterName q_t_draft_masterCorner q_t_draft_masterLate q_t_draft_masterClock q_t_draft_masterMeets q_t_draft_meetName q_t_draft_meetDue t_waitTold t_in_kind t_in_place t_in_value t_in_word t_in_fault t_in_faultPlace t_in_size t_in_taken t_draft_clocks t_draft_masters t_draft_meets t_draft_patience t_in_kinds t_in_places t_in_values t_in_words t_draft_clockName t_draft_masterName t_draft_meetName t_draft_clockCorner t_draft_clockAhead t_draft_clockGain t_draft_masterCorner t_draft_masterLate t_draft_masterMeets t_draft_masterClock t_draft_meetDue)) S hF hH (c_X8_isKeyword l G cy E N q_t_in q_t_in_tape q_t_in_kinds q_t_in_places q_t_in_values q_t_in_words t_in_kind t_in_place t_in_value t_in_word t_in_fault t_in_faultPlace t_in_size t_in_taken 2 z37 hz37) (cwV 1 hts gX2_readLine_X8_isKeyword rfl rfl rfl (by decide +kernel) ⟨Nat.le_of_ble_eq_true rfl, Nat.le_of_ble_eq_true rfl⟩) 9 0 rfl rfl [1] [0, 2, 3, 4, 5, 6, 7, 8, 9, 10, 11, 12, 13, 14, 15, 16, 17] [0, 17, 1, 2, 3, 4, 5, 6, 7, 8, 9, 10, 11, 12, 13, 14, 15, 16] rfl rfl (by decide) (by decide) (by decide) (by decide) rfl rfl rfl rfl hl.1 (Nat.le_of_ble_eq_true rfl) dX2_readLine_37 ⟨Nat.le_of_ble_eq_true rfl, Nat.le_of_ble_eq_true rfl⟩ (fun H locs hH => ?_)
      refine lv_if_eq (tgt := 48) hx hb dX2_readLine_40 (by decide) (fun b40 => ?_) (fun b40 => ?_)
      · replace h := zif_t b40 h
        refine lv_aload_n hx hb dX2_readLine_48 rfl (lv_at hl 0 rfl) ?_
        refine z_get S hF hH iX2_readLine_X2 0 rfl rfl 1 (by decide) (List.mem_of_getElem? (i := 1) rfl) rfl dX2_readLine_49 ?_
        refine lv_iconst (v := 3) hx hb dX2_readLine_52 (by decide) ?_
        obtain ⟨z53, hz53, h⟩ := zcl_e h
        refine z_callV (As := [.int 3]) (rest := []) (st1 := [.int z53]) (ws' := (wd_X2_readLine cy q_t q_t_draft q_t_in q_t_in_tape q_t_in_kinds q_t_in_places q_t_in_values q_t_in_words q_t_draft_clockName q_t_draft_clockCorner q_t_draft_clockAhead q_t_draft_clockGain q_t_draft_masterName q_t_draft_masterCorner q_t_draft_masterLate q_t_draft_masterClock q_t_draft_masterMeets q_t_draft_meetName q_t_draft_meetDue t_waitTold t_in_kind t_in_place t_in_value t_in_word t_in_fault t_in_faultPlace t_in_size t_in_taken t_draft_clocks t_draft_masters t_draft_meets t_draft_patience t_in_kinds t_in_places t_in_values t_in_words t_draft_clockName t_draft_masterName t_draft_meetName t_draft_clockCorner t_draft_clockAhead t_draft_clockGain t_draft_masterCorner t_draft_masterLate t_draft_masterMeets t_draft_masterClock t_draft_meetDue)) S hF hH (c_X8_isKeyword l G cy E N q_t_in q_t_in_tape q_t_in_kinds q_t_in_places q_t_in_values q_t_in_words t_in_kind t_in_place t_in_value t_in_word t_in_fault t_in_faultPlace t_in_size t_in_taken 3 z53 hz53) (cwV 1 hts gX2_readLine_X8_isKeyword rfl rfl rfl (by decide +kernel) ⟨Nat.le_of_ble_eq_true rfl, Nat.le_of_ble_eq_true rfl⟩) 9 0 rfl rfl [1] [0, 2, 3, 4, 5, 6, 7, 8, 9, 10, 11, 12, 13, 14, 15, 16, 17] [0, 17, 1, 2, 3, 4, 5, 6, 7, 8, 9, 10, 11, 12, 13, 14, 15, 16] rfl rfl (by decide) (by decide) (by decide) (by decide) rfl rfl rfl rfl hl.1 (Nat.le_of_ble_eq_true rfl) dX2_readLine_53 ⟨Nat.le_of_ble_eq_true rfl, Nat.le_of_ble_eq_true rfl⟩ (fun H locs hH => ?_)
        refine lv_if_eq (tgt := 64) hx hb dX2_readLine_56 (by decide) (fun b56 => ?_) (fun b56 => ?_)
        · replace h := zif_t b56 h
          refine lv_aload_n hx hb dX2_readLine_64 rfl (lv_at hl 0 rfl) ?_
          obtain ⟨z65, hz65, h⟩ := zcl_e h
          refine z_callV (As := []) (rest := []) (st1 := [.int z65.1]) (ws' := (wd_X2_readLine cy q_t q_t_draft q_t_in q_t_in_tape q_t_in_kinds q_t_in_places q_t_in_values q_t_in_words q_t_draft_clockName q_t_draft_clockCorner q_t_draft_clockAhead q_t_draft_clockGain q_t_draft_masterName q_t_draft_masterCorner q_t_draft_masterLate q_t_draft_masterClock q_t_draft_masterMeets q_t_draft_meetName q_t_draft_meetDue z65.2.1 z65.2.2.1 z65.2.2.2.1 z65.2.2.2.2.1 z65.2.2.2.2.2.1 z65.2.2.2.2.2.2.1 z65.2.2.2.2.2.2.2.1 t_in_size z65.2.2.2.2.2.2.2.2.1 t_draft_clocks t_draft_masters t_draft_meets z65.2.2.2.2.2.2.2.2.2 t_in_kinds t_in_places t_in_values t_in_words t_draft_clockName t_draft_masterName t_draft_meetName t_draft_clockCorner t_draft_clockAhead t_draft_clockGain t_draft_masterCorner t_draft_masterLate t_draft_masterMeets t_draft_masterClock t_draft_meetDue)) S hF hH (c_X2_readWait l G cy E N q_t q_t_draft q_t_in q_t_in_tape q_t_in_kinds q_t_in_places q_t_in_values q_t_in_words q_t_draft_clockName q_t_draft_clockCorner q_t_draft_clockAhead q_t_draft_clockGain q_t_draft_masterName q_t_draft_masterCorner q_t_draft_masterLate q_t_draft_masterClock q_t_draft_masterMeets q_t_draft_meetName q_t_draft_meetDue t_waitTold t_in_kind t_in_place t_in_value t_in_word t_in_fault t_in_faultPlace t_in_size t_in_taken t_in_kinds t_in_places t_in_values t_in_words t_draft_clocks t_draft_masters t_draft_meets t_draft_patience z65.1 z65.2.1 z65.2.2.1 z65.2.2.2.1 z65.2.2.2.2.1 z65.2.2.2.2.2.1 z65.2.2.2.2.2.2.1 z65.2.2.2.2.2.2.2.1 z65.2.2.2.2.2.2.2.2.1 z65.2.2.2.2.2.2.2.2.2 hz65) (cwV 0 hts gX2_readLine_X2_readWait rfl rfl rfl (by decide +kernel) ⟨Nat.le_of_ble_eq_true rfl, Nat.le_of_ble_eq_true rfl⟩) 3 0 rfl rfl [0, 1, 3, 4, 5, 6, 2] [7, 8, 9, 10, 11, 12, 13, 14, 15, 16, 17] [11, 12, 17, 13, 14, 15, 16, 0, 1, 2, 3, 4, 5, 6, 7, 8, 9, 10] rfl rfl (by decide) (by decide) (by decide) (by decide) rfl rfl rfl rfl hl.1 (Nat.le_of_ble_eq_true rfl) dX2_readLine_65 ⟨Nat.le_of_ble_eq_true rfl, Nat.le_of_ble_eq_true rfl⟩ (fun H locs hH => ?_)
          obtain ⟨h68, h⟩ := zck_e h
          cases h
          exact z_zret S hr hlocks hH h68 dX2_readLine_68
        · replace h := zif_f b56 h
          refine lv_aload_n hx hb dX2_readLine_59 rfl (lv_at hl 0 rfl) ?_
          obtain ⟨z60, hz60, h⟩ := zcl_e h
          refine z_callV (As := []) (rest := []) (st1 := [.int z60.1]) (ws' := (wd_X2_readLine cy q_t q_t_draft q_t_in q_t_in_tape q_t_in_kinds q_t_in_places q_t_in_values q_t_in_words q_t_draft_clockName q_t_draft_clockCorner q_t_draft_clockAhead q_t_draft_clockGain q_t_draft_masterName q_t_draft_masterCorner q_t_draft_masterLate q_t_draft_masterClock q_t_draft_masterMeets q_t_draft_meetName q_t_draft_meetDue t_waitTold z60.2.1 z60.2.2.1 z60.2.2.2.1 z60.2.2.2.2.1 z60.2.2.2.2.2.1 z60.2.2.2.2.2.2.1 t_in_size z60.2.2.2.2.2.2.2.1 t_draft_clocks t_draft_masters t_draft_meets t_draft_patience t_in_kinds t_in_places t_in_values t_in_words t_draft_clockName t_draft_masterName t_draft_meetName t_draft_clockCorner t_draft_clockAhead t_draft_clockGain t_draft_masterCorner t_draft_masterLate z60.2.2.2.2.2.2.2.2 t_draft_masterClock t_draft_meetDue)) S hF hH (c_X2_readComes l G cy E N q_t q_t_draft q_t_in q_t_in_tape q_t_in_kinds q_t_in_places q_t_in_values q_t_in_words q_t_draft_clockName q_t_draft_clockCorner q_t_draft_clockAhead q_t_draft_clockGain q_t_draft_masterName q_t_draft_masterCorner q_t_draft_masterLate q_t_draft_masterClock q_t_draft_masterMeets q_t_draft_meetName q_t_draft_meetDue t_waitTold t_in_kind t_in_place t_in_value t_in_word t_in_fault t_in_faultPlace t_in_size t_in_taken t_in_kinds t_in_places t_in_values t_in_words t_draft_clocks t_draft_masters t_draft_meets t_draft_patience t_draft_masterName t_draft_meetName t_draft_masterMeets z60.1 z60.2.1 z60.2.2.1 z60.2.2.2.1 z60.2.2.2.2.1 z60.2.2.2.2.2.1 z60.2.2.2.2.2.2.1 z60.2.2.2.2.2.2.2.1 z60.2.2.2.2.2.2.2.2 hz60) (cwV 0 hts gX2_readLine_X2_readComes rfl rfl rfl (by decide +kernel) ⟨Nat.le_of_ble_eq_true rfl, Nat.le_of_ble_eq_true rfl⟩) 3 0 rfl rfl [0, 1, 3, 4, 5, 6, 2, 8, 9, 15] [7, 10, 11, 12, 13, 14, 16, 17] [8, 9, 14, 10, 11, 12, 13, 0, 15, 16, 1, 2, 3, 4, 5, 17, 6, 7] rfl rfl (by decide) (by decide) (by decide) (by decide) rfl rfl rfl rfl hl.1 (Nat.le_of_ble_eq_true rfl) dX2_readLine_60 ⟨Nat.le_of_ble_eq_true rfl, Nat.le_of_ble_eq_true rfl⟩ (fun H locs hH => ?_)
          obtain ⟨h63, h⟩ := zck_e h
          cases h
          exact z_zret S hr hlocks hH h63 dX2_readLine_63
      · replace h := zif_f b40 h
        refine lv_aload_n hx hb dX2_readLine_43 rfl (lv_at hl 0 rfl) ?_
        obtain ⟨z44, hz44, h⟩ := zcl_e h
        refine z_callV (As := []) (rest := []) (st1 := [.int z44.1]) (ws' := (wd_X2_readLine cy q_t q_t_draft q_t_in q_t_in_tape q_t_in_kinds q_t_in_places q_t_in_values q_t_in_words q_t_draft_clockName q_t_draft_clockCorner q_t_draft_clockAhead q_t_draft_clockGain q_t_draft_masterName q_t_draft_masterCorner q_t_draft_masterLate q_t_draft_masterClock q_t_draft_masterMeets q_t_draft_meetName q_t_draft_meetDue t_waitTold z44.2.2.1 z44.2.2.2.1 z44.2.2.2.2.1 z44.2.2.2.2.2.1 z44.2.2.2.2.2.2.1 z44.2.2.2.2.2.2.2.1 t_in_size z44.2.2.2.2.2.2.2.2.1 t_draft_clocks t_draft_masters z44.2.1 t_draft_patience t_in_kinds t_in_places t_in_values t_in_words t_draft_clockName t_draft_masterName z44.2.2.2.2.2.2.2.2.2.1 t_draft_clockCorner t_draft_clockAhead t_draft_clockGain t_draft_masterCorner t_draft_masterLate t_draft_masterMeets t_draft_masterClock z44.2.2.2.2.2.2.2.2.2.2)) S hF hH (c_X2_readMeet l G cy E N q_t q_t_draft q_t_in q_t_draft_clockName q_t_draft_clockCorner q_t_draft_clockAhead q_t_draft_clockGain q_t_draft_masterName q_t_draft_masterCorner q_t_draft_masterLate q_t_draft_masterClock q_t_draft_masterMeets q_t_draft_meetName q_t_draft_meetDue q_t_in_tape q_t_in_kinds q_t_in_places q_t_in_values q_t_in_words t_waitTold t_draft_clocks t_draft_masters t_draft_meets t_draft_patience t_in_kind t_in_place t_in_value t_in_word t_in_fault t_in_faultPlace t_in_size t_in_taken t_in_kinds t_in_places t_in_values t_in_words t_draft_clockName t_draft_masterName t_draft_meetName t_draft_meetDue z44.1 z44.2.1 z44.2.2.1 z44.2.2.2.1 z44.2.2.2.2.1 z44.2.2.2.2.2.1 z44.2.2.2.2.2.2.1 z44.2.2.2.2.2.2.2.1 z44.2.2.2.2.2.2.2.2.1 z44.2.2.2.2.2.2.2.2.2.1 z44.2.2.2.2.2.2.2.2.2.2 hz44) (cwV 0 hts gX2_readLine_X2_readMeet rfl rfl rfl (by decide +kernel) ⟨Nat.le_of_ble_eq_true rfl, Nat.le_of_ble_eq_true rfl⟩) 3 0 rfl rfl [0, 2, 1, 3, 4, 5, 6, 7, 8, 9, 17] [10, 11, 12, 13, 14, 15, 16] [7, 9, 8, 10, 11, 12, 13, 14, 15, 16, 0, 1, 2, 3, 4, 5, 6, 17] rfl rfl (by decide) (by decide) (by decide) (by decide) rfl rfl rfl rfl hl.1 (Nat.le_of_ble_eq_true rfl) dX2_readLine_44 ⟨Nat.le_of_ble_eq_true rfl, Nat.le_of_ble_eq_true rfl⟩ (fun H locs hH => ?_)
        obtain ⟨h47, h⟩ := zck_e h
        cases h
        exact z_zret S hr hlocks hH h47 dX2_readLine_47
    · replace h := zif_f b24 h
      refine lv_aload_n hx hb dX2_readLine_27 rfl (lv_at hl 0 rfl) ?_
      obtain ⟨z28, hz28, h⟩ := zcl_e h
      refine z_callV (As := []) (rest := []) (st1 := [.int z28.1]) (ws' := (wd_X2_readLine cy q_t q_t_draft q_t_in q_t_in_tape q_t_in_kinds q_t_in_places q_t_in_values q_t_in_words q_t_draft_clockName q_t_draft_clockCorner q_t_draft_clockAhead q_t_draft_clockGain q_t_draft_masterName q_t_draft_masterCorner q_t_draft_masterLate q_t_draft_masterClock q_t_draft_masterMeets q_t_draft_meetName q_t_draft_meetDue t_waitTold z28.2.2.1 z28.2.2.2.1 z28.2.2.2.2.1 z28.2.2.2.2.2.1 z28.2.2.2.2.2.2.1 z28.2.2.2.2.2.2.2.1 t_in_size z28.2.2.2.2.2.2.2.2.1 t_draft_clocks z28.2.1 t_draft_meets t_draft_patience t_in_kinds t_in_places t_in_values t_in_words t_draft_clockName z28.2.2.2.2.2.2.2.2.2.1 t_draft_meetName t_draft_clockCorner t_draft_clockAhead t_draft_clockGain z28.2.2.2.2.2.2.2.2.2.2.1 z28.2.2.2.2.2.2.2.2.2.2.2.1 z28.2.2.2.2.2.2.2.2.2.2.2.2.1 z28.2.2.2.2.2.2.2.2.2.2.2.2.2 t_draft_meetDue)) S hF hH (c_X2_readMaster l G cy E N q_t q_t_draft q_t_in q_t_draft_clockName q_t_draft_clockCorner q_t_draft_clockAhead q_t_draft_clockGain q_t_draft_masterName q_t_draft_masterCorner q_t_draft_masterLate q_t_draft_masterClock q_t_draft_masterMeets q_t_draft_meetName q_t_draft_meetDue q_t_in_tape q_t_in_kinds q_t_in_places q_t_in_values q_t_in_words t_waitTold t_draft_clocks t_draft_masters t_draft_meets t_draft_patience t_in_kind t_in_place t_in_value t_in_word t_in_fault t_in_faultPlace t_in_size t_in_taken t_in_kinds t_in_places t_in_values t_in_words t_draft_clockName t_draft_masterName t_draft_meetName t_draft_masterCorner t_draft_masterLate t_draft_masterMeets t_draft_masterClock z28.1 z28.2.1 z28.2.2.1 z28.2.2.2.1 z28.2.2.2.2.1 z28.2.2.2.2.2.1 z28.2.2.2.2.2.2.1 z28.2.2.2.2.2.2.2.1 z28.2.2.2.2.2.2.2.2.1 z28.2.2.2.2.2.2.2.2.2.1 z28.2.2.2.2.2.2.2.2.2.2.1 z28.2.2.2.2.2.2.2.2.2.2.2.1 z28.2.2.2.2.2.2.2.2.2.2.2.2.1 z28.2.2.2.2.2.2.2.2.2.2.2.2.2 hz28) (cwV 0 hts gX2_readLine_X2_readMaster rfl rfl rfl (by decide +kernel) ⟨Nat.le_of_ble_eq_true rfl, Nat.le_of_ble_eq_true rfl⟩) 3 0 rfl rfl [0, 2, 1, 3, 4, 5, 6, 7, 8, 9, 13, 14, 15, 16] [10, 11, 12, 17] [4, 6, 5, 7, 8, 9, 10, 11, 12, 13, 0, 1, 2, 14, 15, 16, 17, 3] rfl rfl (by decide) (by decide) (by decide) (by decide) rfl rfl rfl rfl hl.1 (Nat.le_of_ble_eq_true rfl) dX2_readLine_28 ⟨Nat.le_of_ble_eq_true rfl, Nat.le_of_ble_eq_true rfl⟩ (fun H locs hH => ?_)
      obtain ⟨h31, h⟩ := zck_e h
      cases h
      exact z_zret S hr hlocks hH h31 dX2_readLine_31
  · replace h := zif_f b8 h
    refine lv_aload_n hx hb dX2_readLine_11 rfl (lv_at hl 0 rfl) ?_
    obtain ⟨z12, hz12, h⟩ := zcl_e h
    refine z_callV (As := []) (rest := []) (st1 := [.int z12.1]) (ws' := (wd_X2_readLine cy q_t q_t_draft q_t_in q_t_in_tape q_t_in_kinds q_t_in_places q_t_in_values q_t_in_words q_t_draft_clockName q_t_draft_clockCorner q_t_draft_clockAhead q_t_draft_clockGain q_t_draft_masterName q_t_draft_masterCorner q_t_draft_masterLate q_t_draft_masterClock q_t_draft_masterMeets q_t_draft_meetName q_t_draft_meetDue t_waitTold z12.2.2.1 z12.2.2.2.1 z12.2.2.2.2.1 z12.2.2.2.2.2.1 z12.2.2.2.2.2.2.1 z12.2.2.2.2.2.2.2.1 t_in_size z12.2.2.2.2.2.2.2.2.1 z12.2.1 t_draft_masters t_draft_meets t_draft_patience t_in_kinds t_in_places t_in_values t_in_words z12.2.2.2.2.2.2.2.2.2.1 t_draft_masterName t_draft_meetName z12.2.2.2.2.2.2.2.2.2.2.1 z12.2.2.2.2.2.2.2.2.2.2.2.1 z12.2.2.2.2.2.2.2.2.2.2.2.2 t_draft_masterCorner t_draft_masterLate t_draft_masterMeets t_draft_masterClock t_draft_meetDue)) S hF hH (c_X2_readClock l G cy E N q_t q_t_draft q_t_in q_t_draft_clockName q_t_draft_clockCorner q_t_draft_clockAhead q_t_draft_clockGain q_t_draft_masterName q_t_draft_masterCorner q_t_draft_masterLate q_t_draft_masterClock q_t_draft_masterMeets q_t_draft_meetName q_t_draft_meetDue q_t_in_tape q_t_in_kinds q_t_in_places q_t_in_values q_t_in_words t_waitTold t_draft_clocks t_draft_masters t_draft_meets t_draft_patience t_in_kind t_in_place t_in_value t_in_word t_in_fault t_in_faultPlace t_in_size t_in_taken t_in_kinds t_in_places t_in_values t_in_words t_draft_clockName t_draft_masterName t_draft_meetName t_draft_clockCorner t_draft_clockAhead t_draft_clockGain z12.1 z12.2.1 z12.2.2.1 z12.2.2.2.1 z12.2.2.2.2.1 z12.2.2.2.2.2.1 z12.2.2.2.2.2.2.1 z12.2.2.2.2.2.2.2.1 z12.2.2.2.2.2.2.2.2.1 z12.2.2.2.2.2.2.2.2.2.1 z12.2.2.2.2.2.2.2.2.2.2.1 z12.2.2.2.2.2.2.2.2.2.2.2.1 z12.2.2.2.2.2.2.2.2.2.2.2.2 hz12) (cwV 0 hts gX2_readLine_X2_readClock rfl rfl rfl (by decide +kernel) ⟨Nat.le_of_ble_eq_true rfl, Nat.le_of_ble_eq_true rfl⟩) 3 0 rfl rfl [0, 2, 1, 3, 4, 5, 6, 7, 8, 9, 10, 11, 12] [13, 14, 15, 16, 17] [5, 7, 6, 8, 9, 10, 11, 12, 13, 14, 15, 16, 17, 0, 1, 2, 3, 4] rfl rfl (by decide) (by decide) (by decide) (by decide) rfl rfl rfl rfl hl.1 (Nat.le_of_ble_eq_true rfl) dX2_readLine_12 ⟨Nat.le_of_ble_eq_true rfl, Nat.le_of_ble_eq_true rfl⟩ (fun H locs hH => ?_)
    obtain ⟨h15, h⟩ := zck_e h
    cases h
    exact z_zret S hr hlocks hH h15 dX2_readLine_15
abbrev wd_J7_fill_53178_n6 (cy : Nat → ClassId) (q_p0 : Nat) (p0 : Nat → Int32) : va_W := [(q_p0, .inl (cy 1, 6, .inl p0))]
abbrev rm_J7_fill_53178_n6 : Room := { frames := 0, cells := 0, slots := 0, locals := 0 }
set_option maxRecDepth 100000 in
def f_J7_fill_53178_n6_5 (N : Nat) : Nat → Int32 → Int32 → Int32 → (Nat → Int32) → (Option ((Nat → Int32)))
  | 0, _, _, _, _ => none
  | n + 1, x1, x2, x3, c_p0 => if x3 ≤ x2 then (some c_p0) else (zck (zin x2 6) <| zbn (upd c_p0 (Int32.toNatClampNeg x2) x1) fun f1 => zbn (x2 + 1) fun y2 => f_J7_fill_53178_n6_5 N n x1 y2 x3 f1)
set_option maxRecDepth 100000 in
def f_J7_fill_53178_n6 (N : Nat) (x1 : Int32) (p0 : Nat → Int32) : Option ((Nat → Int32)) := f_J7_fill_53178_n6_5 N N x1 0 6 p0
set_option maxHeartbeats 4000000 in
set_option maxRecDepth 100000 in
theorem w_J7_fill_53178_n6_5 {p : Program} {l : Launch} {e : Env} {s : State} {m : MethodId} {args : Array Value} {below : List Frame} {meth : Method} {c : Code} {G : va_G} {cy : Nat → ClassId} {E : List (Nat × Cell)} {w0 : va_W} {N : Nat} {q_p0 : Nat} {r_p0 : Nat → Int32} (S : CallFix p m c cJ7_fill_53178 4 s args wsJ7_fill_53178 RJ7) (hr : meth.sig.returnType = none) (hlocks : meth.locks = false) (hF : zF G cy E (va_A w0 s.heap.size) s) :
    ∀ (n : Nat) (x1 : Int32) (x2 : Int32) (x3 : Int32) (c_p0 : Nat → Int32) (H : Heap) (locs : List Loc) (ls : Array Slot), zH G (va_A w0 s.heap.size) s H locs (wd_J7_fill_53178_n6 cy q_p0 c_p0) → lv_has ls 4 [(0, .ref q_p0), (1, .int x1), (2, .int x2), (3, .int x3)] → f_J7_fill_53178_n6_5 N n x1 x2 x3 c_p0 = some r_p0 → W p l e rm_J7_fill_53178_n6 s m args below meth c H locs 0 0 (MQ below (zQ G w0 (wd_J7_fill_53178_n6 cy q_p0 r_p0) s.heap.size none) args s 0 0 (va_A w0 s.heap.size)) (F0 m 5 ls []) := by
  obtain ⟨hx, hb, hml, hown, hts⟩ := id S
  intro n
  induction n with
  | zero =>
    intro x1 x2 x3 c_p0 H locs ls hH hl h
    rw [f_J7_fill_53178_n6_5] at h
    cases h
  | succ n ih =>
    intro x1 x2 x3 c_p0 H locs ls hH hl h
    rw [f_J7_fill_53178_n6_5] at h
    refine lv_iload_n hx hb dJ7_fill_53178_5 rfl (lv_at hl 2 rfl) ?_
    refine lv_iload_n hx hb dJ7_fill_53178_6 rfl (lv_at hl 3 rfl) ?_
    refine lv_icmp_ge (tgt := 20) hx hb dJ7_fill_53178_7 (by decide) (fun b7 => ?_) (fun b7 => ?_)
    · replace h := zif_t b7 h
      cases h
      exact z_vret S hr hlocks hH dJ7_fill_53178_20
    · replace h := zif_f b7 h
      refine lv_aload_n hx hb dJ7_fill_53178_10 rfl (lv_at hl 0 rfl) ?_
      refine lv_iload_n hx hb dJ7_fill_53178_11 rfl (lv_at hl 2 rfl) ?_
      refine lv_iload_n hx hb dJ7_fill_53178_12 rfl (lv_at hl 1 rfl) ?_
      obtain ⟨h13, h⟩ := zck_e h
      obtain ⟨f1, ef1, h⟩ := zbn_e h
      refine z_iast (ws' := (wd_J7_fill_53178_n6 cy q_p0 f1)) S hF hH 0 rfl h13 (by rw [ef1]; rfl) dJ7_fill_53178_13 (fun H locs hH => ?_)
      clear ef1
      obtain ⟨y2, ey2, h⟩ := zbn_e h
      refine lv_iinc (v := y2) (lv' := [(2, .int y2), (0, .ref q_p0), (1, .int x1), (3, .int x3)]) hx hb dJ7_fill_53178_14 hl (k := 2) rfl (by rw [ey2]; exact congrArg (fun z => x2 + z) (by decide)) (by decide) rfl (fun ls hl => ?_)
      clear ey2
      refine lv_goto (tgt := 5) hx hb dJ7_fill_53178_17 (by decide) ?_
      exact ih x1 y2 x3 f1 _ _ _ hH (lv_sub hl [1, 2, 0, 3] rfl) h
set_option maxHeartbeats 4000000 in
set_option maxRecDepth 100000 in
theorem c_J7_fill_53178_n6 (l : Launch) (G : va_G) (cy : Nat → ClassId) (E : List (Nat × Cell)) (N : Nat) (q_p0 : Nat) (p0 : Nat → Int32) (x1 : Int32) (r_p0 : Nat → Int32) (h : f_J7_fill_53178_n6 N x1 p0 = some r_p0) : zM l G cy E yJ7_fill_53178 wsJ7_fill_53178 rm_J7_fill_53178_n6 [.ref q_p0, .int x1] (wd_J7_fill_53178_n6 cy q_p0 p0) (wd_J7_fill_53178_n6 cy q_p0 r_p0) none 0 0 := by
  refine z_body (cc := cJ7_fill_53178) (maxL := 4) (ret := none) (by decide) rfl (Nat.le_of_ble_eq_true rfl) ?_
  intro p e s m below meth c ls S hr hlocks hnm hF hH hl
  have S : CallFix p m c cJ7_fill_53178 4 s ([.ref q_p0, .int x1] : List Value).toArray wsJ7_fill_53178 RJ7 := S
  obtain ⟨hx, hb, hml, hown, hts⟩ := id S
  have hl : lv_has ls 4 [(0, .ref q_p0), (1, .int x1)] := hl
  rw [f_J7_fill_53178_n6] at h
  refine lv_iconst (v := 0) hx hb dJ7_fill_53178_0 (by decide) ?_
  refine lv_istore_n (lv' := [(2, .int 0), (0, .ref q_p0), (1, .int x1)]) hx hb dJ7_fill_53178_1 rfl hl (by decide) rfl (fun ls hl => ?_)
  refine lv_aload_n hx hb dJ7_fill_53178_2 rfl (lv_at hl 1 rfl) ?_
  refine z_alen (v := 6) S hF hH 0 1 rfl rfl rfl dJ7_fill_53178_3 ?_
  refine lv_istore_n (lv' := [(3, .int 6), (2, .int 0), (0, .ref q_p0), (1, .int x1)]) hx hb dJ7_fill_53178_4 rfl hl (by decide) rfl (fun ls hl => ?_)
  exact w_J7_fill_53178_n6_5 S hr hlocks hF N x1 0 6 p0 _ _ _ hH (lv_sub hl [2, 3, 1, 0] rfl) h
abbrev wd_J7_fill_53178_n36 (cy : Nat → ClassId) (q_p0 : Nat) (p0 : Nat → Int32) : va_W := [(q_p0, .inl (cy 1, 36, .inl p0))]
abbrev rm_J7_fill_53178_n36 : Room := { frames := 0, cells := 0, slots := 0, locals := 0 }
set_option maxRecDepth 100000 in
def f_J7_fill_53178_n36_5 (N : Nat) : Nat → Int32 → Int32 → Int32 → (Nat → Int32) → (Option ((Nat → Int32)))
  | 0, _, _, _, _ => none
  | n + 1, x1, x2, x3, c_p0 => if x3 ≤ x2 then (some c_p0) else (zck (zin x2 36) <| zbn (upd c_p0 (Int32.toNatClampNeg x2) x1) fun f1 => zbn (x2 + 1) fun y2 => f_J7_fill_53178_n36_5 N n x1 y2 x3 f1)
set_option maxRecDepth 100000 in
def f_J7_fill_53178_n36 (N : Nat) (x1 : Int32) (p0 : Nat → Int32) : Option ((Nat → Int32)) := f_J7_fill_53178_n36_5 N N x1 0 36 p0
set_option maxHeartbeats 4000000 in
set_option maxRecDepth 100000 in
theorem w_J7_fill_53178_n36_5 {p : Program} {l : Launch} {e : Env} {s : State} {m : MethodId} {args : Array Value} {below : List Frame} {meth : Method} {c : Code} {G : va_G} {cy : Nat → ClassId} {E : List (Nat × Cell)} {w0 : va_W} {N : Nat} {q_p0 : Nat} {r_p0 : Nat → Int32} (S : CallFix p m c cJ7_fill_53178 4 s args wsJ7_fill_53178 RJ7) (hr : meth.sig.returnType = none) (hlocks : meth.locks = false) (hF : zF G cy E (va_A w0 s.heap.size) s) :
    ∀ (n : Nat) (x1 : Int32) (x2 : Int32) (x3 : Int32) (c_p0 : Nat → Int32) (H : Heap) (locs : List Loc) (ls : Array Slot), zH G (va_A w0 s.heap.size) s H locs (wd_J7_fill_53178_n36 cy q_p0 c_p0) → lv_has ls 4 [(0, .ref q_p0), (1, .int x1), (2, .int x2), (3, .int x3)] → f_J7_fill_53178_n36_5 N n x1 x2 x3 c_p0 = some r_p0 → W p l e rm_J7_fill_53178_n36 s m args below meth c H locs 0 0 (MQ below (zQ G w0 (wd_J7_fill_53178_n36 cy q_p0 r_p0) s.heap.size none) args s 0 0 (va_A w0 s.heap.size)) (F0 m 5 ls []) := by
  obtain ⟨hx, hb, hml, hown, hts⟩ := id S
  intro n
  induction n with
  | zero =>
    intro x1 x2 x3 c_p0 H locs ls hH hl h
    rw [f_J7_fill_53178_n36_5] at h
    cases h
  | succ n ih =>
    intro x1 x2 x3 c_p0 H locs ls hH hl h
    rw [f_J7_fill_53178_n36_5] at h
    refine lv_iload_n hx hb dJ7_fill_53178_5 rfl (lv_at hl 2 rfl) ?_
    refine lv_iload_n hx hb dJ7_fill_53178_6 rfl (lv_at hl 3 rfl) ?_
    refine lv_icmp_ge (tgt := 20) hx hb dJ7_fill_53178_7 (by decide) (fun b7 => ?_) (fun b7 => ?_)
    · replace h := zif_t b7 h
      cases h
      exact z_vret S hr hlocks hH dJ7_fill_53178_20
    · replace h := zif_f b7 h
      refine lv_aload_n hx hb dJ7_fill_53178_10 rfl (lv_at hl 0 rfl) ?_
      refine lv_iload_n hx hb dJ7_fill_53178_11 rfl (lv_at hl 2 rfl) ?_
      refine lv_iload_n hx hb dJ7_fill_53178_12 rfl (lv_at hl 1 rfl) ?_
      obtain ⟨h13, h⟩ := zck_e h
      obtain ⟨f1, ef1, h⟩ := zbn_e h
      refine z_iast (ws' := (wd_J7_fill_53178_n36 cy q_p0 f1)) S hF hH 0 rfl h13 (by rw [ef1]; rfl) dJ7_fill_53178_13 (fun H locs hH => ?_)
      clear ef1
      obtain ⟨y2, ey2, h⟩ := zbn_e h
      refine lv_iinc (v := y2) (lv' := [(2, .int y2), (0, .ref q_p0), (1, .int x1), (3, .int x3)]) hx hb dJ7_fill_53178_14 hl (k := 2) rfl (by rw [ey2]; exact congrArg (fun z => x2 + z) (by decide)) (by decide) rfl (fun ls hl => ?_)
      clear ey2
      refine lv_goto (tgt := 5) hx hb dJ7_fill_53178_17 (by decide) ?_
      exact ih x1 y2 x3 f1 _ _ _ hH (lv_sub hl [1, 2, 0, 3] rfl) h
set_option maxHeartbeats 4000000 in
set_option maxRecDepth 100000 in
theorem c_J7_fill_53178_n36 (l : Launch) (G : va_G) (cy : Nat → ClassId) (E : List (Nat × Cell)) (N : Nat) (q_p0 : Nat) (p0 : Nat → Int32) (x1 : Int32) (r_p0 : Nat → Int32) (h : f_J7_fill_53178_n36 N x1 p0 = some r_p0) : zM l G cy E yJ7_fill_53178 wsJ7_fill_53178 rm_J7_fill_53178_n36 [.ref q_p0, .int x1] (wd_J7_fill_53178_n36 cy q_p0 p0) (wd_J7_fill_53178_n36 cy q_p0 r_p0) none 0 0 := by
  refine z_body (cc := cJ7_fill_53178) (maxL := 4) (ret := none) (by decide) rfl (Nat.le_of_ble_eq_true rfl) ?_
  intro p e s m below meth c ls S hr hlocks hnm hF hH hl
  have S : CallFix p m c cJ7_fill_53178 4 s ([.ref q_p0, .int x1] : List Value).toArray wsJ7_fill_53178 RJ7 := S
  obtain ⟨hx, hb, hml, hown, hts⟩ := id S
  have hl : lv_has ls 4 [(0, .ref q_p0), (1, .int x1)] := hl
  rw [f_J7_fill_53178_n36] at h
  refine lv_iconst (v := 0) hx hb dJ7_fill_53178_0 (by decide) ?_
  refine lv_istore_n (lv' := [(2, .int 0), (0, .ref q_p0), (1, .int x1)]) hx hb dJ7_fill_53178_1 rfl hl (by decide) rfl (fun ls hl => ?_)
  refine lv_aload_n hx hb dJ7_fill_53178_2 rfl (lv_at hl 1 rfl) ?_
  refine z_alen (v := 36) S hF hH 0 1 rfl rfl rfl dJ7_fill_53178_3 ?_
  refine lv_istore_n (lv' := [(3, .int 36), (2, .int 0), (0, .ref q_p0), (1, .int x1)]) hx hb dJ7_fill_53178_4 rfl hl (by decide) rfl (fun ls hl => ?_)
  exact w_J7_fill_53178_n36_5 S hr hlocks hF N x1 0 36 p0 _ _ _ hH (lv_sub hl [2, 3, 1, 0] rfl) h
abbrev wd_J7_fill_53178_n720 (cy : Nat → ClassId) (q_p0 : Nat) (p0 : Nat → Int32) : va_W := [(q_p0, .inl (cy 1, 720, .inl p0))]
abbrev rm_J7_fill_53178_n720 : Room := { frames := 0, cells := 0, slots := 0, locals := 0 }
set_option maxRecDepth 100000 in
def f_J7_fill_53178_n720_5 (N : Nat) : Nat → Int32 → Int32 → Int32 → (Nat → Int32) → (Option ((Nat → Int32)))
  | 0, _, _, _, _ => none
  | n + 1, x1, x2, x3, c_p0 => if x3 ≤ x2 then (some c_p0) else (zck (zin x2 720) <| zbn (upd c_p0 (Int32.toNatClampNeg x2) x1) fun f1 => zbn (x2 + 1) fun y2 => f_J7_fill_53178_n720_5 N n x1 y2 x3 f1)
set_option maxRecDepth 100000 in
def f_J7_fill_53178_n720 (N : Nat) (x1 : Int32) (p0 : Nat → Int32) : Option ((Nat → Int32)) := f_J7_fill_53178_n720_5 N N x1 0 720 p0
set_option maxHeartbeats 4000000 in
set_option maxRecDepth 100000 in
theorem w_J7_fill_53178_n720_5 {p : Program} {l : Launch} {e : Env} {s : State} {m : MethodId} {args : Array Value} {below : List Frame} {meth : Method} {c : Code} {G : va_G} {cy : Nat → ClassId} {E : List (Nat × Cell)} {w0 : va_W} {N : Nat} {q_p0 : Nat} {r_p0 : Nat → Int32} (S : CallFix p m c cJ7_fill_53178 4 s args wsJ7_fill_53178 RJ7) (hr : meth.sig.returnType = none) (hlocks : meth.locks = false) (hF : zF G cy E (va_A w0 s.heap.size) s) :
    ∀ (n : Nat) (x1 : Int32) (x2 : Int32) (x3 : Int32) (c_p0 : Nat → Int32) (H : Heap) (locs : List Loc) (ls : Array Slot), zH G (va_A w0 s.heap.size) s H locs (wd_J7_fill_53178_n720 cy q_p0 c_p0) → lv_has ls 4 [(0, .ref q_p0), (1, .int x1), (2, .int x2), (3, .int x3)] → f_J7_fill_53178_n720_5 N n x1 x2 x3 c_p0 = some r_p0 → W p l e rm_J7_fill_53178_n720 s m args below meth c H locs 0 0 (MQ below (zQ G w0 (wd_J7_fill_53178_n720 cy q_p0 r_p0) s.heap.size none) args s 0 0 (va_A w0 s.heap.size)) (F0 m 5 ls []) := by
  obtain ⟨hx, hb, hml, hown, hts⟩ := id S
  intro n
  induction n with
  | zero =>
    intro x1 x2 x3 c_p0 H locs ls hH hl h
    rw [f_J7_fill_53178_n720_5] at h
    cases h
  | succ n ih =>
    intro x1 x2 x3 c_p0 H locs ls hH hl h
    rw [f_J7_fill_53178_n720_5] at h
    refine lv_iload_n hx hb dJ7_fill_53178_5 rfl (lv_at hl 2 rfl) ?_
    refine lv_iload_n hx hb dJ7_fill_53178_6 rfl (lv_at hl 3 rfl) ?_
    refine lv_icmp_ge (tgt := 20) hx hb dJ7_fill_53178_7 (by decide) (fun b7 => ?_) (fun b7 => ?_)
    · replace h := zif_t b7 h
      cases h
      exact z_vret S hr hlocks hH dJ7_fill_53178_20
    · replace h := zif_f b7 h
      refine lv_aload_n hx hb dJ7_fill_53178_10 rfl (lv_at hl 0 rfl) ?_
      refine lv_iload_n hx hb dJ7_fill_53178_11 rfl (lv_at hl 2 rfl) ?_
      refine lv_iload_n hx hb dJ7_fill_53178_12 rfl (lv_at hl 1 rfl) ?_
      obtain ⟨h13, h⟩ := zck_e h
      obtain ⟨f1, ef1, h⟩ := zbn_e h
      refine z_iast (ws' := (wd_J7_fill_53178_n720 cy q_p0 f1)) S hF hH 0 rfl h13 (by rw [ef1]; rfl) dJ7_fill_53178_13 (fun H locs hH => ?_)
      clear ef1
      obtain ⟨y2, ey2, h⟩ := zbn_e h
      refine lv_iinc (v := y2) (lv' := [(2, .int y2), (0, .ref q_p0), (1, .int x1), (3, .int x3)]) hx hb dJ7_fill_53178_14 hl (k := 2) rfl (by rw [ey2]; exact congrArg (fun z => x2 + z) (by decide)) (by decide) rfl (fun ls hl => ?_)
      clear ey2
      refine lv_goto (tgt := 5) hx hb dJ7_fill_53178_17 (by decide) ?_
      exact ih x1 y2 x3 f1 _ _ _ hH (lv_sub hl [1, 2, 0, 3] rfl) h
set_option maxHeartbeats 4000000 in
set_option maxRecDepth 100000 in
theorem c_J7_fill_53178_n720 (l : Launch) (G : va_G) (cy : Nat → ClassId) (E : List (Nat × Cell)) (N : Nat) (q_p0 : Nat) (p0 : Nat → Int32) (x1 : Int32) (r_p0 : Nat → Int32) (h : f_J7_fill_53178_n720 N x1 p0 = some r_p0) : zM l G cy E yJ7_fill_53178 wsJ7_fill_53178 rm_J7_fill_53178_n720 [.ref q_p0, .int x1] (wd_J7_fill_53178_n720 cy q_p0 p0) (wd_J7_fill_53178_n720 cy q_p0 r_p0) none 0 0 := by
  refine z_body (cc := cJ7_fill_53178) (maxL := 4) (ret := none) (by decide) rfl (Nat.le_of_ble_eq_true rfl) ?_
  intro p e s m below meth c ls S hr hlocks hnm hF hH hl
  have S : CallFix p m c cJ7_fill_53178 4 s ([.ref q_p0, .int x1] : List Value).toArray wsJ7_fill_53178 RJ7 := S
  obtain ⟨hx, hb, hml, hown, hts⟩ := id S
  have hl : lv_has ls 4 [(0, .ref q_p0), (1, .int x1)] := hl
  rw [f_J7_fill_53178_n720] at h
  refine lv_iconst (v := 0) hx hb dJ7_fill_53178_0 (by decide) ?_
  refine lv_istore_n (lv' := [(2, .int 0), (0, .ref q_p0), (1, .int x1)]) hx hb dJ7_fill_53178_1 rfl hl (by decide) rfl (fun ls hl => ?_)
  refine lv_aload_n hx hb dJ7_fill_53178_2 rfl (lv_at hl 1 rfl) ?_
  refine z_alen (v := 720) S hF hH 0 1 rfl rfl rfl dJ7_fill_53178_3 ?_
  refine lv_istore_n (lv' := [(3, .int 720), (2, .int 0), (0, .ref q_p0), (1, .int x1)]) hx hb dJ7_fill_53178_4 rfl hl (by decide) rfl (fun ls hl => ?_)
  exact w_J7_fill_53178_n720_5 S hr hlocks hF N x1 0 720 p0 _ _ _ hH (lv_sub hl [2, 3, 1, 0] rfl) h
abbrev wd_X3_begin (cy : Nat → ClassId) (q_t q_t_burgh q_t_ahead q_t_since q_t_stood q_t_due q_t_left q_t_came q_t_burgh_clockName q_t_burgh_clockCorner q_t_burgh_clockAhead q_t_burgh_clockGain q_t_burgh_masterName q_t_burgh_masterCorner q_t_burgh_masterLate q_t_burgh_masterClock q_t_burgh_masterMeets q_t_burgh_meetName q_t_burgh_meetDue : Nat) (t_minute : Int32) (t_out : Int32) (t_stopped : Int32) (t_burgh_clocks : Int32) (t_burgh_masters : Int32) (t_burgh_meets : Int32) (t_burgh_patience : Int32) (t_burgh_clockAhead : Nat → Int32) (t_ahead : Nat → Int32) (t_since : Nat → Int32) (t_stood : Nat → Int32) (t_burgh_meetDue : Nat → Int32) (t_due : Nat → Int32) (t_left : Nat → Int32) (t_came : Nat → Int32) : va_W := [(q_t, .inr (4, [.ref q_t_burgh, .int t_minute, .int t_out, .int t_stopped, .ref q_t_ahead, .ref q_t_since, .ref q_t_stood, .ref q_t_due, .ref q_t_left, .ref q_t_came])), (q_t_burgh, .inr (2, [.int t_burgh_clocks, .int t_burgh_masters, .int t_burgh_meets, .int t_burgh_patience, .ref q_t_burgh_clockName, .ref q_t_burgh_clockCorner, .ref q_t_burgh_clockAhead, .ref q_t_burgh_clockGain, .ref q_t_burgh_masterName, .ref q_t_burgh_masterCorner, .ref q_t_burgh_masterLate, .ref q_t_burgh_masterClock, .ref q_t_burgh_masterMeets, .ref q_t_burgh_meetName, .ref q_t_burgh_meetDue])), (q_t_burgh_clockAhead, .inl (cy 1, 6, .inl t_burgh_clockAhead)), (q_t_ahead, .inl (cy 1, 6, .inl t_ahead)), (q_t_since, .inl (cy 1, 6, .inl t_since)), (q_t_stood, .inl (cy 1, 6, .inl t_stood)), (q_t_burgh_meetDue, .inl (cy 1, 6, .inl t_burgh_meetDue)), (q_t_due, .inl (cy 1, 6, .inl t_due)), (q_t_left, .inl (cy 1, 36, .inl t_left)), (q_t_came, .inl (cy 1, 36, .inl t_came))]
theorem iX3_begin_X1 : ∀ w ∈ wsX10, w ∈ wsX3_begin := fun _ h => List.mem_cons_of_mem _ (List.mem_append_right _ h)
theorem iX3_begin_X3 : ∀ w ∈ wsX30, w ∈ wsX3_begin := fun _ h => List.mem_cons_of_mem _ (List.mem_append_left _ (List.mem_append_right _ h))
abbrev rm_X3_begin : Room := { frames := 1, cells := 0, slots := 0, locals := 60 }
set_option maxRecDepth 100000 in
def f_X3_begin (N : Nat) (t_minute : Int32) (t_out : Int32) (t_stopped : Int32) (t_burgh_clockAhead : Nat → Int32) (t_ahead : Nat → Int32) (t_since : Nat → Int32) (t_stood : Nat → Int32) (t_burgh_meetDue : Nat → Int32) (t_due : Nat → Int32) (t_left : Nat → Int32) (t_came : Nat → Int32) : Option (Int32 × Int32 × Int32 × (Nat → Int32) × (Nat → Int32) × (Nat → Int32) × (Nat → Int32) × (Nat → Int32) × (Nat → Int32)) := zbn (va_cpy t_burgh_clockAhead t_ahead 0 0 6) fun f1 => zcl (f_J7_fill_53178_n6 N 0 t_since) fun z38 => zcl (f_J7_fill_53178_n6 N 0 t_stood) fun z46 => zbn (va_cpy t_burgh_meetDue t_due 0 0 6) fun f2 => zcl (f_J7_fill_53178_n36 N (-1) t_left) fun z72 => zcl (f_J7_fill_53178_n36 N (-1) t_came) fun z80 => some (0, 0, 0, f1, z38, z46, f2, z72, z80)
set_option maxHeartbeats 4000000 in
set_option maxRecDepth 100000 in
theorem c_X3_begin (l : Launch) (G : va_G) (cy : Nat → ClassId) (E : List (Nat × Cell)) (N : Nat) (q_t q_t_burgh q_t_ahead q_t_since q_t_stood q_t_due q_t_left q_t_came q_t_burgh_clockName q_t_burgh_clockCorner q_t_burgh_clockAhead q_t_burgh_clockGain q_t_burgh_masterName q_t_burgh_masterCorner q_t_burgh_masterLate q_t_burgh_masterClock q_t_burgh_masterMeets q_t_burgh_meetName q_t_burgh_meetDue : Nat) (t_minute : Int32) (t_out : Int32) (t_stopped : Int32) (t_burgh_clocks : Int32) (t_burgh_masters : Int32) (t_burgh_meets : Int32) (t_burgh_patience : Int32) (t_burgh_clockAhead : Nat → Int32) (t_ahead : Nat → Int32) (t_since : Nat → Int32) (t_stood : Nat → Int32) (t_burgh_meetDue : Nat → Int32) (t_due : Nat → Int32) (t_left : Nat → Int32) (t_came : Nat → Int32) (r_t_minute : Int32) (r_t_out : Int32) (r_t_stopped : Int32) (r_t_ahead : Nat → Int32) (r_t_since : Nat → Int32) (r_t_stood : Nat → Int32) (r_t_due : Nat → Int32) (r_t_left : Nat → Int32) (r_t_came : Nat → Int32) (h : f_X3_begin N t_minute t_out t_stopped t_burgh_clockAhead t_ahead t_since t_stood t_burgh_meetDue t_due t_left t_came = some (r_t_minute, r_t_out, r_t_stopped, r_t_ahead, r_t_since, r_t_stood, r_t_due, r_t_left, r_t_came)) : zM l G cy E yX3_begin wsX3_begin rm_X3_begin [.ref q_t] (wd_X3_begin cy q_t q_t_burgh q_t_ahead q_t_since q_t_stood q_t_due q_t_left q_t_came q_t_burgh_clockName q_t_burgh_clockCorner q_t_burgh_clockAhead q_t_burgh_clockGain q_t_burgh_masterName q_t_burgh_masterCorner q_t_burgh_masterLate q_t_burgh_masterClock q_t_burgh_masterMeets q_t_burgh_meetName q_t_burgh_meetDue t_minute t_out t_stopped t_burgh_clocks t_burgh_masters t_burgh_meets t_burgh_patience t_burgh_clockAhead t_ahead t_since t_stood t_burgh_meetDue t_due t_left t_came) (wd_X3_begin cy q_t q_t_burgh q_t_ahead q_t_since q_t_stood q_t_due q_t_left q_t_came q_t_burgh_clockName q_t_burgh_clockCorner q_t_burgh_clockAhead q_t_burgh_clockGain q_t_burgh_masterName q_t_burgh_masterCorner q_t_burgh_masterLate q_t_burgh_masterClock q_t_burgh_masterMeets q_t_burgh_meetName q_t_burgh_meetDue r_t_minute r_t_out r_t_stopped t_burgh_clocks t_burgh_masters t_burgh_meets t_burgh_patience t_burgh_clockAhead r_t_ahead r_t_since r_t_stood t_burgh_meetDue r_t_due r_t_left r_t_came) none 0 0 := by
  refine z_body (cc := cX3_begin) (maxL := 1) (ret := none) (by decide) rfl (Nat.le_of_ble_eq_true rfl) ?_
  intro p e s m below meth c ls S hr hlocks hnm hF hH hl
  have S : CallFix p m c cX3_begin 1 s ([.ref q_t] : List Value).toArray wsX3_begin RX3 := S
  obtain ⟨hx, hb, hml, hown, hts⟩ := id S
  have hl : lv_has ls 1 [(0, .ref q_t)] := hl
  rw [f_X3_begin] at h
  refine lv_aload_n hx hb dX3_begin_0 rfl (lv_at hl 0 rfl) ?_
  refine lv_iconst (v := 0) hx hb dX3_begin_1 (by decide) ?_
  refine z_put (ws' := (wd_X3_begin cy q_t q_t_burgh q_t_ahead q_t_since q_t_stood q_t_due q_t_left q_t_came q_t_burgh_clockName q_t_burgh_clockCorner q_t_burgh_clockAhead q_t_burgh_clockGain q_t_burgh_masterName q_t_burgh_masterCorner q_t_burgh_masterLate q_t_burgh_masterClock q_t_burgh_masterMeets q_t_burgh_meetName q_t_burgh_meetDue 0 t_out t_stopped t_burgh_clocks t_burgh_masters t_burgh_meets t_burgh_patience t_burgh_clockAhead t_ahead t_since t_stood t_burgh_meetDue t_due t_left t_came)) S hF hH iX3_begin_X3 tyX3 tyX3_ok nmX3 0 rfl rfl 1 (by decide) (List.mem_of_getElem? (i := 1) rfl) rfl rfl rfl (Nat.le_of_ble_eq_true rfl) rfl dX3_begin_2 (fun H locs hH => ?_)
  refine lv_aload_n hx hb dX3_begin_5 rfl (lv_at hl 0 rfl) ?_
  refine lv_iconst (v := 0) hx hb dX3_begin_6 (by decide) ?_
  refine z_put (ws' := (wd_X3_begin cy q_t q_t_burgh q_t_ahead q_t_since q_t_stood q_t_due q_t_left q_t_came q_t_burgh_clockName q_t_burgh_clockCorner q_t_burgh_clockAhead q_t_burgh_clockGain q_t_burgh_masterName q_t_burgh_masterCorner q_t_burgh_masterLate q_t_burgh_masterClock q_t_burgh_masterMeets q_t_burgh_meetName q_t_burgh_meetDue 0 0 t_stopped t_burgh_clocks t_burgh_masters t_burgh_meets t_burgh_patience t_burgh_clockAhead t_ahead t_since t_stood t_burgh_meetDue t_due t_left t_came)) S hF hH iX3_begin_X3 tyX3 tyX3_ok nmX3 0 rfl rfl 2 (by decide) (List.mem_of_getElem? (i := 2) rfl) rfl rfl rfl (Nat.le_of_ble_eq_true rfl) rfl dX3_begin_7 (fun H locs hH => ?_)
  refine lv_aload_n hx hb dX3_begin_10 rfl (lv_at hl 0 rfl) ?_
  refine lv_iconst (v := 0) hx hb dX3_begin_11 (by decide) ?_
  refine z_put (ws' := (wd_X3_begin cy q_t q_t_burgh q_t_ahead q_t_since q_t_stood q_t_due q_t_left q_t_came q_t_burgh_clockName q_t_burgh_clockCorner q_t_burgh_clockAhead q_t_burgh_clockGain q_t_burgh_masterName q_t_burgh_masterCorner q_t_burgh_masterLate q_t_burgh_masterClock q_t_burgh_masterMeets q_t_burgh_meetName q_t_burgh_meetDue 0 0 0 t_burgh_clocks t_burgh_masters t_burgh_meets t_burgh_patience t_burgh_clockAhead t_ahead t_since t_stood t_burgh_meetDue t_due t_left t_came)) S hF hH iX3_begin_X3 tyX3 tyX3_ok nmX3 0 rfl rfl 3 (by decide) (List.mem_of_getElem? (i := 3) rfl) rfl rfl rfl (Nat.le_of_ble_eq_true rfl) rfl dX3_begin_12 (fun H locs hH => ?_)
  refine lv_aload_n hx hb dX3_begin_15 rfl (lv_at hl 0 rfl) ?_
  refine z_get S hF hH iX3_begin_X3 0 rfl rfl 0 (by decide) (List.mem_of_getElem? (i := 4) rfl) rfl dX3_begin_16 ?_
  refine z_get S hF hH iX3_begin_X1 1 rfl rfl 6 (by decide) (List.mem_of_getElem? (i := 5) rfl) rfl dX3_begin_19 ?_
  refine lv_iconst (v := 0) hx hb dX3_begin_22 (by decide) ?_
  refine lv_aload_n hx hb dX3_begin_23 rfl (lv_at hl 0 rfl) ?_
  refine z_get S hF hH iX3_begin_X3 0 rfl rfl 4 (by decide) (List.mem_of_getElem? (i := 6) rfl) rfl dX3_begin_24 ?_
  refine lv_iconst (v := 0) hx hb dX3_begin_27 (by decide) ?_
  refine lv_bipush (v := 6) hx hb dX3_begin_28 (by decide) ?_
  obtain ⟨f1, ef1, h⟩ := zbn_e h
  refine z_copyi (ws' := (wd_X3_begin cy q_t q_t_burgh q_t_ahead q_t_since q_t_stood q_t_due q_t_left q_t_came q_t_burgh_clockName q_t_burgh_clockCorner q_t_burgh_clockAhead q_t_burgh_clockGain q_t_burgh_masterName q_t_burgh_masterCorner q_t_burgh_masterLate q_t_burgh_masterClock q_t_burgh_masterMeets q_t_burgh_meetName q_t_burgh_meetDue 0 0 0 t_burgh_clocks t_burgh_masters t_burgh_meets t_burgh_patience t_burgh_clockAhead f1 t_since t_stood t_burgh_meetDue t_due t_left t_came)) S hF hH hl.1 (List.mem_of_getElem? (i := 7) rfl) (List.mem_of_getElem? (i := 8) rfl) (List.mem_of_getElem? (i := 9) rfl) (List.mem_of_getElem? (i := 10) rfl) 2 3 rfl rfl 0 0 6 rfl rfl rfl (by decide) (by decide) (by decide) (Nat.le_of_ble_eq_true rfl) (Nat.le_of_ble_eq_true rfl) (Nat.le_of_ble_eq_true rfl) (by decide +kernel) (by rw [ef1]; rfl) dX3_begin_30 (fun H locs hH => ?_)
  clear ef1
  refine lv_aload_n hx hb dX3_begin_33 rfl (lv_at hl 0 rfl) ?_
  refine z_get S hF hH iX3_begin_X3 0 rfl rfl 5 (by decide) (List.mem_of_getElem? (i := 11) rfl) rfl dX3_begin_34 ?_
  refine lv_iconst (v := 0) hx hb dX3_begin_37 (by decide) ?_
  obtain ⟨z38, hz38, h⟩ := zcl_e h
  refine z_callS (As := [.ref q_t_since, .int 0]) (rest := []) (st1 := []) (ws' := (wd_X3_begin cy q_t q_t_burgh q_t_ahead q_t_since q_t_stood q_t_due q_t_left q_t_came q_t_burgh_clockName q_t_burgh_clockCorner q_t_burgh_clockAhead q_t_burgh_clockGain q_t_burgh_masterName q_t_burgh_masterCorner q_t_burgh_masterLate q_t_burgh_masterClock q_t_burgh_masterMeets q_t_burgh_meetName q_t_burgh_meetDue 0 0 0 t_burgh_clocks t_burgh_masters t_burgh_meets t_burgh_patience t_burgh_clockAhead f1 z38 t_stood t_burgh_meetDue t_due t_left t_came)) S hF hH (c_J7_fill_53178_n6 l G cy E N q_t_since t_since 0 z38 hz38) (va_cwS 2 hts gX3_begin_J7_fill_53178 rfl rfl rfl (by decide +kernel) ⟨Nat.le_of_ble_eq_true rfl, Nat.le_of_ble_eq_true rfl⟩) [4] [0, 1, 2, 3, 5, 6, 7, 8, 9] [0, 1, 2, 3, 9, 4, 5, 6, 7, 8] rfl rfl (by decide) (by decide) (by decide) (by decide) rfl rfl rfl rfl hl.1 (Nat.le_of_ble_eq_true rfl) dX3_begin_38 ⟨Nat.le_of_ble_eq_true rfl, Nat.le_of_ble_eq_true rfl⟩ (fun H locs hH => ?_)
  refine lv_aload_n hx hb dX3_begin_41 rfl (lv_at hl 0 rfl) ?_
  refine z_get S hF hH iX3_begin_X3 0 rfl rfl 6 (by decide) (List.mem_of_getElem? (i := 12) rfl) rfl dX3_begin_42 ?_
  refine lv_iconst (v := 0) hx hb dX3_begin_45 (by decide) ?_
  obtain ⟨z46, hz46, h⟩ := zcl_e h
  refine z_callS (As := [.ref q_t_stood, .int 0]) (rest := []) (st1 := []) (ws' := (wd_X3_begin cy q_t q_t_burgh q_t_ahead q_t_since q_t_stood q_t_due q_t_left q_t_came q_t_burgh_clockName q_t_burgh_clockCorner q_t_burgh_clockAhead q_t_burgh_clockGain q_t_burgh_masterName q_t_burgh_masterCorner q_t_burgh_masterLate q_t_burgh_masterClock q_t_burgh_masterMeets q_t_burgh_meetName q_t_burgh_meetDue 0 0 0 t_burgh_clocks t_burgh_masters t_burgh_meets t_burgh_patience t_burgh_clockAhead f1 z38 z46 t_burgh_meetDue t_due t_left t_came)) S hF hH (c_J7_fill_53178_n6 l G cy E N q_t_stood t_stood 0 z46 hz46) (va_cwS 2 hts gX3_begin_J7_fill_53178 rfl rfl rfl (by decide +kernel) ⟨Nat.le_of_ble_eq_true rfl, Nat.le_of_ble_eq_true rfl⟩) [5] [0, 1, 2, 3, 4, 6, 7, 8, 9] [0, 1, 2, 3, 4, 9, 5, 6, 7, 8] rfl rfl (by decide) (by decide) (by decide) (by decide) rfl rfl rfl rfl hl.1 (Nat.le_of_ble_eq_true rfl) dX3_begin_46 ⟨Nat.le_of_ble_eq_true rfl, Nat.le_of_ble_eq_true rfl⟩ (fun H locs hH => ?_)
  refine lv_aload_n hx hb dX3_begin_49 rfl (lv_at hl 0 rfl) ?_
  refine z_get S hF hH iX3_begin_X3 0 rfl rfl 0 (by decide) (List.mem_of_getElem? (i := 4) rfl) rfl dX3_begin_50 ?_
  refine z_get S hF hH iX3_begin_X1 1 rfl rfl 14 (by decide) (List.mem_of_getElem? (i := 13) rfl) rfl dX3_begin_53 ?_
  refine lv_iconst (v := 0) hx hb dX3_begin_56 (by decide) ?_
  refine lv_aload_n hx hb dX3_begin_57 rfl (lv_at hl 0 rfl) ?_
  refine z_get S hF hH iX3_begin_X3 0 rfl rfl 7 (by decide) (List.mem_of_getElem? (i := 14) rfl) rfl dX3_begin_58 ?_
  refine lv_iconst (v := 0) hx hb dX3_begin_61 (by decide) ?_
  refine lv_bipush (v := 6) hx hb dX3_begin_62 (by decide) ?_
  obtain ⟨f2, ef2, h⟩ := zbn_e h
  refine z_copyi (ws' := (wd_X3_begin cy q_t q_t_burgh q_t_ahead q_t_since q_t_stood q_t_due q_t_left q_t_came q_t_burgh_clockName q_t_burgh_clockCorner q_t_burgh_clockAhead q_t_burgh_clockGain q_t_burgh_masterName q_t_burgh_masterCorner q_t_burgh_masterLate q_t_burgh_masterClock q_t_burgh_masterMeets q_t_burgh_meetName q_t_burgh_meetDue 0 0 0 t_burgh_clocks t_burgh_masters t_burgh_meets t_burgh_patience t_burgh_clockAhead f1 z38 z46 t_burgh_meetDue f2 t_left t_came)) S hF hH hl.1 (List.mem_of_getElem? (i := 7) rfl) (List.mem_of_getElem? (i := 8) rfl) (List.mem_of_getElem? (i := 9) rfl) (List.mem_of_getElem? (i := 10) rfl) 6 7 rfl rfl 0 0 6 rfl rfl rfl (by decide) (by decide) (by decide) (Nat.le_of_ble_eq_true rfl) (Nat.le_of_ble_eq_true rfl) (Nat.le_of_ble_eq_true rfl) (by decide +kernel) (by rw [ef2]; rfl) dX3_begin_64 (fun H locs hH => ?_)
  clear ef2
  refine lv_aload_n hx hb dX3_begin_67 rfl (lv_at hl 0 rfl) ?_
  refine z_get S hF hH iX3_begin_X3 0 rfl rfl 8 (by decide) (List.mem_of_getElem? (i := 15) rfl) rfl dX3_begin_68 ?_
  refine lv_iconst (v := (-1)) hx hb dX3_begin_71 (by decide) ?_
  obtain ⟨z72, hz72, h⟩ := zcl_e h
  refine z_callS (As := [.ref q_t_left, .int (-1)]) (rest := []) (st1 := []) (ws' := (wd_X3_begin cy q_t q_t_burgh q_t_ahead q_t_since q_t_stood q_t_due q_t_left q_t_came q_t_burgh_clockName q_t_burgh_clockCorner q_t_burgh_clockAhead q_t_burgh_clockGain q_t_burgh_masterName q_t_burgh_masterCorner q_t_burgh_masterLate q_t_burgh_masterClock q_t_burgh_masterMeets q_t_burgh_meetName q_t_burgh_meetDue 0 0 0 t_burgh_clocks t_burgh_masters t_burgh_meets t_burgh_patience t_burgh_clockAhead f1 z38 z46 t_burgh_meetDue f2 z72 t_came)) S hF hH (c_J7_fill_53178_n36 l G cy E N q_t_left t_left (-1) z72 hz72) (va_cwS 2 hts gX3_begin_J7_fill_53178 rfl rfl rfl (by decide +kernel) ⟨Nat.le_of_ble_eq_true rfl, Nat.le_of_ble_eq_true rfl⟩) [8] [0, 1, 2, 3, 4, 5, 6, 7, 9] [0, 1, 2, 3, 4, 5, 6, 7, 9, 8] rfl rfl (by decide) (by decide) (by decide) (by decide) rfl rfl rfl rfl hl.1 (Nat.le_of_ble_eq_true rfl) dX3_begin_72 ⟨Nat.le_of_ble_eq_true rfl, Nat.le_of_ble_eq_true rfl⟩ (fun H locs hH => ?_)
  refine lv_aload_n hx hb dX3_begin_75 rfl (lv_at hl 0 rfl) ?_
  refine z_get S hF hH iX3_begin_X3 0 rfl rfl 9 (by decide) (List.mem_of_getElem? (i := 16) rfl) rfl dX3_begin_76 ?_
  refine lv_iconst (v := (-1)) hx hb dX3_begin_79 (by decide) ?_
  obtain ⟨z80, hz80, h⟩ := zcl_e h
  refine z_callS (As := [.ref q_t_came, .int (-1)]) (rest := []) (st1 := []) (ws' := (wd_X3_begin cy q_t q_t_burgh q_t_ahead q_t_since q_t_stood q_t_due q_t_left q_t_came q_t_burgh_clockName q_t_burgh_clockCorner q_t_burgh_clockAhead q_t_burgh_clockGain q_t_burgh_masterName q_t_burgh_masterCorner q_t_burgh_masterLate q_t_burgh_masterClock q_t_burgh_masterMeets q_t_burgh_meetName q_t_burgh_meetDue 0 0 0 t_burgh_clocks t_burgh_masters t_burgh_meets t_burgh_patience t_burgh_clockAhead f1 z38 z46 t_burgh_meetDue f2 z72 z80)) S hF hH (c_J7_fill_53178_n36 l G cy E N q_t_came t_came (-1) z80 hz80) (va_cwS 2 hts gX3_begin_J7_fill_53178 rfl rfl rfl (by decide +kernel) ⟨Nat.le_of_ble_eq_true rfl, Nat.le_of_ble_eq_true rfl⟩) [9] [0, 1, 2, 3, 4, 5, 6, 7, 8] [0, 1, 2, 3, 4, 5, 6, 7, 8, 9] rfl rfl (by decide) (by decide) (by decide) (by decide) rfl rfl rfl rfl hl.1 (Nat.le_of_ble_eq_true rfl) dX3_begin_80 ⟨Nat.le_of_ble_eq_true rfl, Nat.le_of_ble_eq_true rfl⟩ (fun H locs hH => ?_)
  cases h
  exact z_vret S hr hlocks hH dX3_begin_83
abbrev wd_X3_copyFrom (cy : Nat → ClassId) (q_t q_p0 q_p0_burgh q_p0_ahead q_p0_since q_p0_stood q_p0_due q_p0_left q_p0_came q_t_burgh q_t_ahead q_t_since q_t_stood q_t_due q_t_left q_t_came : Nat) (p0_minute : Int32) (p0_out : Int32) (p0_stopped : Int32) (t_minute : Int32) (t_out : Int32) (t_stopped : Int32) (p0_ahead : Nat → Int32) (t_ahead : Nat → Int32) (p0_since : Nat → Int32) (t_since : Nat → Int32) (p0_stood : Nat → Int32) (t_stood : Nat → Int32) (p0_due : Nat → Int32) (t_due : Nat → Int32) (p0_left : Nat → Int32) (t_left : Nat → Int32) (p0_came : Nat → Int32) (t_came : Nat → Int32) : va_W := [(q_p0, .inr (4, [.ref q_p0_burgh, .int p0_minute, .int p0_out, .int p0_stopped, .ref q_p0_ahead, .ref q_p0_since, .ref q_p0_stood, .ref q_p0_due, .ref q_p0_left, .ref q_p0_came])), (q_t, .inr (4, [.ref q_t_burgh, .int t_minute, .int t_out, .int t_stopped, .ref q_t_ahead, .ref q_t_since, .ref q_t_stood, .ref q_t_due, .ref q_t_left, .ref q_t_came])), (q_p0_ahead, .inl (cy 1, 6, .inl p0_ahead)), (q_t_ahead, .inl (cy 1, 6, .inl t_ahead)), (q_p0_since, .inl (cy 1, 6, .inl p0_since)), (q_t_since, .inl (cy 1, 6, .inl t_since)), (q_p0_stood, .inl (cy 1, 6, .inl p0_stood)), (q_t_stood, .inl (cy 1, 6, .inl t_stood)), (q_p0_due, .inl (cy 1, 6, .inl p0_due)), (q_t_due, .inl (cy 1, 6, .inl t_due)), (q_p0_left, .inl (cy 1, 36, .inl p0_left)), (q_t_left, .inl (cy 1, 36, .inl t_left)), (q_p0_came, .inl (cy 1, 36, .inl p0_came)), (q_t_came, .inl (cy 1, 36, .inl t_came))]
theorem iX3_copyFrom_X3 : ∀ w ∈ wsX30, w ∈ wsX3_copyFrom := fun _ h => List.mem_cons_of_mem _ (List.mem_append_right _ h)
abbrev rm_X3_copyFrom : Room := { frames := 1, cells := 0, slots := 0, locals := 60 }
set_option maxRecDepth 100000 in
def f_X3_copyFrom (N : Nat) (p0_minute : Int32) (p0_out : Int32) (p0_stopped : Int32) (t_minute : Int32) (t_out : Int32) (t_stopped : Int32) (p0_ahead : Nat → Int32) (t_ahead : Nat → Int32) (p0_since : Nat → Int32) (t_since : Nat → Int32) (p0_stood : Nat → Int32) (t_stood : Nat → Int32) (p0_due : Nat → Int32) (t_due : Nat → Int32) (p0_left : Nat → Int32) (t_left : Nat → Int32) (p0_came : Nat → Int32) (t_came : Nat → Int32) : Option (Int32 × Int32 × Int32 × (Nat → Int32) × (Nat → Int32) × (Nat → Int32) × (Nat → Int32) × (Nat → Int32) × (Nat → Int32)) := zbn (va_cpy p0_ahead t_ahead 0 0 6) fun f1 => zbn (va_cpy p0_since t_since 0 0 6) fun f2 => zbn (va_cpy p0_stood t_stood 0 0 6) fun f3 => zbn (va_cpy p0_due t_due 0 0 6) fun f4 => zbn (va_cpy p0_left t_left 0 0 36) fun f5 => zbn (va_cpy p0_came t_came 0 0 36) fun f6 => some (p0_minute, p0_out, p0_stopped, f1, f2, f3, f4, f5, f6)
set_option maxHeartbeats 4000000 in
set_option maxRecDepth 100000 in
theorem c_X3_copyFrom (l : Launch) (G : va_G) (cy : Nat → ClassId) (E : List (Nat × Cell)) (N : Nat) (q_t q_p0 q_p0_burgh q_p0_ahead q_p0_since q_p0_stood q_p0_due q_p0_left q_p0_came q_t_burgh q_t_ahead q_t_since q_t_stood q_t_due q_t_left q_t_came : Nat) (p0_minute : Int32) (p0_out : Int32) (p0_stopped : Int32) (t_minute : Int32) (t_out : Int32) (t_stopped : Int32) (p0_ahead : Nat → Int32) (t_ahead : Nat → Int32) (p0_since : Nat → Int32) (t_since : Nat → Int32) (p0_stood : Nat → Int32) (t_stood : Nat → Int32) (p0_due : Nat → Int32) (t_due : Nat → Int32) (p0_left : Nat → Int32) (t_left : Nat → Int32) (p0_came : Nat → Int32) (t_came : Nat → Int32) (r_t_minute : Int32) (r_t_out : Int32) (r_t_stopped : Int32) (r_t_ahead : Nat → Int32) (r_t_since : Nat → Int32) (r_t_stood : Nat → Int32) (r_t_due : Nat → Int32) (r_t_left : Nat → Int32) (r_t_came : Nat → Int32) (h : f_X3_copyFrom N p0_minute p0_out p0_stopped t_minute t_out t_stopped p0_ahead t_ahead p0_since t_since p0_stood t_stood p0_due t_due p0_left t_left p0_came t_came = some (r_t_minute, r_t_out, r_t_stopped, r_t_ahead, r_t_since, r_t_stood, r_t_due, r_t_left, r_t_came)) : zM l G cy E yX3_copyFrom wsX3_copyFrom rm_X3_copyFrom [.ref q_t, .ref q_p0] (wd_X3_copyFrom cy q_t q_p0 q_p0_burgh q_p0_ahead q_p0_since q_p0_stood q_p0_due q_p0_left q_p0_came q_t_burgh q_t_ahead q_t_since q_t_stood q_t_due q_t_left q_t_came p0_minute p0_out p0_stopped t_minute t_out t_stopped p0_ahead t_ahead p0_since t_since p0_stood t_stood p0_due t_due p0_left t_left p0_came t_came) (wd_X3_copyFrom cy q_t q_p0 q_p0_burgh q_p0_ahead q_p0_since q_p0_stood q_p0_due q_p0_left q_p0_came q_t_burgh q_t_ahead q_t_since q_t_stood q_t_due q_t_left q_t_came p0_minute p0_out p0_stopped r_t_minute r_t_out r_t_stopped p0_ahead r_t_ahead p0_since r_t_since p0_stood r_t_stood p0_due r_t_due p0_left r_t_left p0_came r_t_came) none 0 0 := by
  refine z_body (cc := cX3_copyFrom) (maxL := 2) (ret := none) (by decide) rfl (Nat.le_of_ble_eq_true rfl) ?_
  intro p e s m below meth c ls S hr hlocks hnm hF hH hl
  have S : CallFix p m c cX3_copyFrom 2 s ([.ref q_t, .ref q_p0] : List Value).toArray wsX3_copyFrom RX3 := S
  obtain ⟨hx, hb, hml, hown, hts⟩ := id S
  have hl : lv_has ls 2 [(0, .ref q_t), (1, .ref q_p0)] := hl
  rw [f_X3_copyFrom] at h
  refine lv_aload_n hx hb dX3_copyFrom_0 rfl (lv_at hl 0 rfl) ?_
  refine lv_aload_n hx hb dX3_copyFrom_1 rfl (lv_at hl 1 rfl) ?_
  refine z_get S hF hH iX3_copyFrom_X3 0 rfl rfl 1 (by decide) (List.mem_of_getElem? (i := 1) rfl) rfl dX3_copyFrom_2 ?_
  refine z_put (ws' := (wd_X3_copyFrom cy q_t q_p0 q_p0_burgh q_p0_ahead q_p0_since q_p0_stood q_p0_due q_p0_left q_p0_came q_t_burgh q_t_ahead q_t_since q_t_stood q_t_due q_t_left q_t_came p0_minute p0_out p0_stopped p0_minute t_out t_stopped p0_ahead t_ahead p0_since t_since p0_stood t_stood p0_due t_due p0_left t_left p0_came t_came)) S hF hH iX3_copyFrom_X3 tyX3 tyX3_ok nmX3 1 rfl rfl 1 (by decide) (List.mem_of_getElem? (i := 1) rfl) rfl rfl rfl (Nat.le_of_ble_eq_true rfl) rfl dX3_copyFrom_5 (fun H locs hH => ?_)
  refine lv_aload_n hx hb dX3_copyFrom_8 rfl (lv_at hl 0 rfl) ?_
  refine lv_aload_n hx hb dX3_copyFrom_9 rfl (lv_at hl 1 rfl) ?_
  refine z_get S hF hH iX3_copyFrom_X3 0 rfl rfl 2 (by decide) (List.mem_of_getElem? (i := 2) rfl) rfl dX3_copyFrom_10 ?_
  refine z_put (ws' := (wd_X3_copyFrom cy q_t q_p0 q_p0_burgh q_p0_ahead q_p0_since q_p0_stood q_p0_due q_p0_left q_p0_came q_t_burgh q_t_ahead q_t_since q_t_stood q_t_due q_t_left q_t_came p0_minute p0_out p0_stopped p0_minute p0_out t_stopped p0_ahead t_ahead p0_since t_since p0_stood t_stood p0_due t_due p0_left t_left p0_came t_came)) S hF hH iX3_copyFrom_X3 tyX3 tyX3_ok nmX3 1 rfl rfl 2 (by decide) (List.mem_of_getElem? (i := 2) rfl) rfl rfl rfl (Nat.le_of_ble_eq_true rfl) rfl dX3_copyFrom_13 (fun H locs hH => ?_)
  refine lv_aload_n hx hb dX3_copyFrom_16 rfl (lv_at hl 0 rfl) ?_
  refine lv_aload_n hx hb dX3_copyFrom_17 rfl (lv_at hl 1 rfl) ?_
  refine z_get S hF hH iX3_copyFrom_X3 0 rfl rfl 3 (by decide) (List.mem_of_getElem? (i := 3) rfl) rfl dX3_copyFrom_18 ?_
  refine z_put (ws' := (wd_X3_copyFrom cy q_t q_p0 q_p0_burgh q_p0_ahead q_p0_since q_p0_stood q_p0_due q_p0_left q_p0_came q_t_burgh q_t_ahead q_t_since q_t_stood q_t_due q_t_left q_t_came p0_minute p0_out p0_stopped p0_minute p0_out p0_stopped p0_ahead t_ahead p0_since t_since p0_stood t_stood p0_due t_due p0_left t_left p0_came t_came)) S hF hH iX3_copyFrom_X3 tyX3 tyX3_ok nmX3 1 rfl rfl 3 (by decide) (List.mem_of_getElem? (i := 3) rfl) rfl rfl rfl (Nat.le_of_ble_eq_true rfl) rfl dX3_copyFrom_21 (fun H locs hH => ?_)
  refine lv_aload_n hx hb dX3_copyFrom_24 rfl (lv_at hl 1 rfl) ?_
  refine z_get S hF hH iX3_copyFrom_X3 0 rfl rfl 4 (by decide) (List.mem_of_getElem? (i := 4) rfl) rfl dX3_copyFrom_25 ?_
  refine lv_iconst (v := 0) hx hb dX3_copyFrom_28 (by decide) ?_
  refine lv_aload_n hx hb dX3_copyFrom_29 rfl (lv_at hl 0 rfl) ?_
  refine z_get S hF hH iX3_copyFrom_X3 1 rfl rfl 4 (by decide) (List.mem_of_getElem? (i := 4) rfl) rfl dX3_copyFrom_30 ?_
  refine lv_iconst (v := 0) hx hb dX3_copyFrom_33 (by decide) ?_
  refine lv_bipush (v := 6) hx hb dX3_copyFrom_34 (by decide) ?_
  obtain ⟨f1, ef1, h⟩ := zbn_e h
  refine z_copyi (ws' := (wd_X3_copyFrom cy q_t q_p0 q_p0_burgh q_p0_ahead q_p0_since q_p0_stood q_p0_due q_p0_left q_p0_came q_t_burgh q_t_ahead q_t_since q_t_stood q_t_due q_t_left q_t_came p0_minute p0_out p0_stopped p0_minute p0_out p0_stopped p0_ahead f1 p0_since t_since p0_stood t_stood p0_due t_due p0_left t_left p0_came t_came)) S hF hH hl.1 (List.mem_of_getElem? (i := 5) rfl) (List.mem_of_getElem? (i := 6) rfl) (List.mem_of_getElem? (i := 7) rfl) (List.mem_of_getElem? (i := 8) rfl) 2 3 rfl rfl 0 0 6 rfl rfl rfl (by decide) (by decide) (by decide) (Nat.le_of_ble_eq_true rfl) (Nat.le_of_ble_eq_true rfl) (Nat.le_of_ble_eq_true rfl) (by decide +kernel) (by rw [ef1]; rfl) dX3_copyFrom_36 (fun H locs hH => ?_)
  clear ef1
  refine lv_aload_n hx hb dX3_copyFrom_39 rfl (lv_at hl 1 rfl) ?_
  refine z_get S hF hH iX3_copyFrom_X3 0 rfl rfl 5 (by decide) (List.mem_of_getElem? (i := 9) rfl) rfl dX3_copyFrom_40 ?_
  refine lv_iconst (v := 0) hx hb dX3_copyFrom_43 (by decide) ?_
  refine lv_aload_n hx hb dX3_copyFrom_44 rfl (lv_at hl 0 rfl) ?_
  refine z_get S hF hH iX3_copyFrom_X3 1 rfl rfl 5 (by decide) (List.mem_of_getElem? (i := 9) rfl) rfl dX3_copyFrom_45 ?_
  refine lv_iconst (v := 0) hx hb dX3_copyFrom_48 (by decide) ?_
  refine lv_bipush (v := 6) hx hb dX3_copyFrom_49 (by decide) ?_
  obtain ⟨f2, ef2, h⟩ := zbn_e h
  refine z_copyi (ws' := (wd_X3_copyFrom cy q_t q_p0 q_p0_burgh q_p0_ahead q_p0_since q_p0_stood q_p0_due q_p0_left q_p0_came q_t_burgh q_t_ahead q_t_since q_t_stood q_t_due q_t_left q_t_came p0_minute p0_out p0_stopped p0_minute p0_out p0_stopped p0_ahead f1 p0_since f2 p0_stood t_stood p0_due t_due p0_left t_left p0_came t_came)) S hF hH hl.1 (List.mem_of_getElem? (i := 5) rfl) (List.mem_of_getElem? (i := 6) rfl) (List.mem_of_getElem? (i := 7) rfl) (List.mem_of_getElem? (i := 8) rfl) 4 5 rfl rfl 0 0 6 rfl rfl rfl (by decide) (by decide) (by decide) (Nat.le_of_ble_eq_true rfl) (Nat.le_of_ble_eq_true rfl) (Nat.le_of_ble_eq_true rfl) (by decide +kernel) (by rw [ef2]; rfl) dX3_copyFrom_51 (fun H locs hH => ?_)
  clear ef2
  refine lv_aload_n hx hb dX3_copyFrom_54 rfl (lv_at hl 1 rfl) ?_
  refine z_get S hF hH iX3_copyFrom_X3 0 rfl rfl 6 (by decide) (List.mem_of_getElem? (i := 10) rfl) rfl dX3_copyFrom_55 ?_
  refine lv_iconst (v := 0) hx hb dX3_copyFrom_58 (by decide) ?_
  refine lv_aload_n hx hb dX3_copyFrom_59 rfl (lv_at hl 0 rfl) ?_
  refine z_get S hF hH iX3_copyFrom_X3 1 rfl rfl 6 (by decide) (List.mem_of_getElem? (i := 10) rfl) rfl dX3_copyFrom_60 ?_
  refine lv_iconst (v := 0) hx hb dX3_copyFrom_63 (by decide) ?_
  refine lv_bipush (v := 6) hx hb dX3_copyFrom_64 (by decide) ?_
  obtain ⟨f3, ef3, h⟩ := zbn_e h
  refine z_copyi (ws' := (wd_X3_copyFrom cy q_t q_p0 q_p0_burgh q_p0_ahead q_p0_since q_p0_stood q_p0_due q_p0_left q_p0_came q_t_burgh q_t_ahead q_t_since q_t_stood q_t_due q_t_left q_t_came p0_minute p0_out p0_stopped p0_minute p0_out p0_stopped p0_ahead f1 p0_since f2 p0_stood f3 p0_due t_due p0_left t_left p0_came t_came)) S hF hH hl.1 (List.mem_of_getElem? (i := 5) rfl) (List.mem_of_getElem? (i := 6) rfl) (List.mem_of_getElem? (i := 7) rfl) (List.mem_of_getElem? (i := 8) rfl) 6 7 rfl rfl 0 0 6 rfl rfl rfl (by decide) (by decide) (by decide) (Nat.le_of_ble_eq_true rfl) (Nat.le_of_ble_eq_true rfl) (Nat.le_of_ble_eq_true rfl) (by decide +kernel) (by rw [ef3]; rfl) dX3_copyFrom_66 (fun H locs hH => ?_)
  clear ef3
  refine lv_aload_n hx hb dX3_copyFrom_69 rfl (lv_at hl 1 rfl) ?_
  refine z_get S hF hH iX3_copyFrom_X3 0 rfl rfl 7 (by decide) (List.mem_of_getElem? (i := 11) rfl) rfl dX3_copyFrom_70 ?_
  refine lv_iconst (v := 0) hx hb dX3_copyFrom_73 (by decide) ?_
  refine lv_aload_n hx hb dX3_copyFrom_74 rfl (lv_at hl 0 rfl) ?_
  refine z_get S hF hH iX3_copyFrom_X3 1 rfl rfl 7 (by decide) (List.mem_of_getElem? (i := 11) rfl) rfl dX3_copyFrom_75 ?_
  refine lv_iconst (v := 0) hx hb dX3_copyFrom_78 (by decide) ?_
  refine lv_bipush (v := 6) hx hb dX3_copyFrom_79 (by decide) ?_
  obtain ⟨f4, ef4, h⟩ := zbn_e h
  refine z_copyi (ws' := (wd_X3_copyFrom cy q_t q_p0 q_p0_burgh q_p0_ahead q_p0_since q_p0_stood q_p0_due q_p0_left q_p0_came q_t_burgh q_t_ahead q_t_since q_t_stood q_t_due q_t_left q_t_came p0_minute p0_out p0_stopped p0_minute p0_out p0_stopped p0_ahead f1 p0_since f2 p0_stood f3 p0_due f4 p0_left t_left p0_came t_came)) S hF hH hl.1 (List.mem_of_getElem? (i := 5) rfl) (List.mem_of_getElem? (i := 6) rfl) (List.mem_of_getElem? (i := 7) rfl) (List.mem_of_getElem? (i := 8) rfl) 8 9 rfl rfl 0 0 6 rfl rfl rfl (by decide) (by decide) (by decide) (Nat.le_of_ble_eq_true rfl) (Nat.le_of_ble_eq_true rfl) (Nat.le_of_ble_eq_true rfl) (by decide +kernel) (by rw [ef4]; rfl) dX3_copyFrom_81 (fun H locs hH => ?_)
  clear ef4
  refine lv_aload_n hx hb dX3_copyFrom_84 rfl (lv_at hl 1 rfl) ?_
  refine z_get S hF hH iX3_copyFrom_X3 0 rfl rfl 8 (by decide) (List.mem_of_getElem? (i := 12) rfl) rfl dX3_copyFrom_85 ?_
  refine lv_iconst (v := 0) hx hb dX3_copyFrom_88 (by decide) ?_
  refine lv_aload_n hx hb dX3_copyFrom_89 rfl (lv_at hl 0 rfl) ?_
  refine z_get S hF hH iX3_copyFrom_X3 1 rfl rfl 8 (by decide) (List.mem_of_getElem? (i := 12) rfl) rfl dX3_copyFrom_90 ?_
  refine lv_iconst (v := 0) hx hb dX3_copyFrom_93 (by decide) ?_
  refine lv_bipush (v := 36) hx hb dX3_copyFrom_94 (by decide) ?_
  obtain ⟨f5, ef5, h⟩ := zbn_e h
  refine z_copyi (ws' := (wd_X3_copyFrom cy q_t q_p0 q_p0_burgh q_p0_ahead q_p0_since q_p0_stood q_p0_due q_p0_left q_p0_came q_t_burgh q_t_ahead q_t_since q_t_stood q_t_due q_t_left q_t_came p0_minute p0_out p0_stopped p0_minute p0_out p0_stopped p0_ahead f1 p0_since f2 p0_stood f3 p0_due f4 p0_left f5 p0_came t_came)) S hF hH hl.1 (List.mem_of_getElem? (i := 5) rfl) (List.mem_of_getElem? (i := 6) rfl) (List.mem_of_getElem? (i := 7) rfl) (List.mem_of_getElem? (i := 8) rfl) 10 11 rfl rfl 0 0 36 rfl rfl rfl (by decide) (by decide) (by decide) (Nat.le_of_ble_eq_true rfl) (Nat.le_of_ble_eq_true rfl) (Nat.le_of_ble_eq_true rfl) (by decide +kernel) (by rw [ef5]; rfl) dX3_copyFrom_96 (fun H locs hH => ?_)
  clear ef5
  refine lv_aload_n hx hb dX3_copyFrom_99 rfl (lv_at hl 1 rfl) ?_
  refine z_get S hF hH iX3_copyFrom_X3 0 rfl rfl 9 (by decide) (List.mem_of_getElem? (i := 13) rfl) rfl dX3_copyFrom_100 ?_
  refine lv_iconst (v := 0) hx hb dX3_copyFrom_103 (by decide) ?_
  refine lv_aload_n hx hb dX3_copyFrom_104 rfl (lv_at hl 0 rfl) ?_
  refine z_get S hF hH iX3_copyFrom_X3 1 rfl rfl 9 (by decide) (List.mem_of_getElem? (i := 13) rfl) rfl dX3_copyFrom_105 ?_
  refine lv_iconst (v := 0) hx hb dX3_copyFrom_108 (by decide) ?_
  refine lv_bipush (v := 36) hx hb dX3_copyFrom_109 (by decide) ?_
  obtain ⟨f6, ef6, h⟩ := zbn_e h
  refine z_copyi (ws' := (wd_X3_copyFrom cy q_t q_p0 q_p0_burgh q_p0_ahead q_p0_since q_p0_stood q_p0_due q_p0_left q_p0_came q_t_burgh q_t_ahead q_t_since q_t_stood q_t_due q_t_left q_t_came p0_minute p0_out p0_stopped p0_minute p0_out p0_stopped p0_ahead f1 p0_since f2 p0_stood f3 p0_due f4 p0_left f5 p0_came f6)) S hF hH hl.1 (List.mem_of_getElem? (i := 5) rfl) (List.mem_of_getElem? (i := 6) rfl) (List.mem_of_getElem? (i := 7) rfl) (List.mem_of_getElem? (i := 8) rfl) 12 13 rfl rfl 0 0 36 rfl rfl rfl (by decide) (by decide) (by decide) (Nat.le_of_ble_eq_true rfl) (Nat.le_of_ble_eq_true rfl) (Nat.le_of_ble_eq_true rfl) (by decide +kernel) (by rw [ef6]; rfl) dX3_copyFrom_111 (fun H locs hH => ?_)
  clear ef6
  cases h
  exact z_vret S hr hlocks hH dX3_copyFrom_114
abbrev rm_J9_floorMod_7cf53 : Room := { frames := 0, cells := 0, slots := 0, locals := 0 }
set_option maxRecDepth 100000 in
def f_J9_floorMod_7cf53 (N : Nat) (x0 : Int32) (x1 : Int32) : Option (Int32) := zck (zne0 x1) <| zbn ((zrem x0 x1)) fun y1 => if 0 ≤ (x0 ^^^ x1) then (some y1) else (if y1 = 0 then (some y1) else (some (y1 + x1)))
set_option maxHeartbeats 4000000 in
set_option maxRecDepth 100000 in
theorem c_J9_floorMod_7cf53 (l : Launch) (G : va_G) (cy : Nat → ClassId) (E : List (Nat × Cell)) (N : Nat) (x0 : Int32) (x1 : Int32) (r : Int32) (h : f_J9_floorMod_7cf53 N x0 x1 = some r) : zM l G cy E yJ9_floorMod_7cf53 wsJ9_floorMod_7cf53 rm_J9_floorMod_7cf53 [.int x0, .int x1] ([] : va_W) ([] : va_W) (some (.int r)) 0 0 := by
  refine z_body (cc := cJ9_floorMod_7cf53) (maxL := 3) (ret := some .int) (by decide) rfl (Nat.le_of_ble_eq_true rfl) ?_
  intro p e s m below meth c ls S hr hlocks hnm hF hH hl
  have S : CallFix p m c cJ9_floorMod_7cf53 3 s ([.int x0, .int x1] : List Value).toArray wsJ9_floorMod_7cf53 RJ9 := S
  obtain ⟨hx, hb, hml, hown, hts⟩ := id S
  have hl : lv_has ls 3 [(0, .int x0), (1, .int x1)] := hl
  rw [f_J9_floorMod_7cf53] at h
  refine lv_iload_n hx hb dJ9_floorMod_7cf53_0 rfl (lv_at hl 0 rfl) ?_
  refine lv_iload_n hx hb dJ9_floorMod_7cf53_1 rfl (lv_at hl 1 rfl) ?_
  obtain ⟨h2, h⟩ := zck_e h
  refine z_irem hx hb dJ9_floorMod_7cf53_2 h2 ?_
  obtain ⟨y1, ey1, h⟩ := zbn_e h
  refine z_top ey1 ?_
  clear ey1
  refine lv_istore_n (lv' := [(2, .int y1), (0, .int x0), (1, .int x1)]) hx hb dJ9_floorMod_7cf53_3 rfl hl (by decide) rfl (fun ls hl => ?_)
  refine lv_iload_n hx hb dJ9_floorMod_7cf53_4 rfl (lv_at hl 1 rfl) ?_
  refine lv_iload_n hx hb dJ9_floorMod_7cf53_5 rfl (lv_at hl 2 rfl) ?_
  refine lv_ixor hx hb dJ9_floorMod_7cf53_6 ?_
  refine lv_if_ge (tgt := 18) hx hb dJ9_floorMod_7cf53_7 (by decide) (fun b7 => ?_) (fun b7 => ?_)
  · replace h := zif_t b7 h
    refine lv_iload_n hx hb dJ9_floorMod_7cf53_18 rfl (lv_at hl 0 rfl) ?_
    cases h
    exact z_iret S hr hlocks hH dJ9_floorMod_7cf53_19
  · replace h := zif_f b7 h
    refine lv_iload_n hx hb dJ9_floorMod_7cf53_10 rfl (lv_at hl 0 rfl) ?_
    refine lv_if_eq (tgt := 18) hx hb dJ9_floorMod_7cf53_11 (by decide) (fun b11 => ?_) (fun b11 => ?_)
    · replace h := zif_t b11 h
      refine lv_iload_n hx hb dJ9_floorMod_7cf53_18 rfl (lv_at hl 0 rfl) ?_
      cases h
      exact z_iret S hr hlocks hH dJ9_floorMod_7cf53_19
    · replace h := zif_f b11 h
      refine lv_iload_n hx hb dJ9_floorMod_7cf53_14 rfl (lv_at hl 0 rfl) ?_
      refine lv_iload_n hx hb dJ9_floorMod_7cf53_15 rfl (lv_at hl 2 rfl) ?_
      refine lv_iadd hx hb dJ9_floorMod_7cf53_16 ?_
      cases h
      exact z_iret S hr hlocks hH dJ9_floorMod_7cf53_17
abbrev wd_X3_shows (cy : Nat → ClassId) (q_t q_t_burgh q_t_ahead q_t_since q_t_stood q_t_due q_t_left q_t_came q_t_burgh_clockName q_t_burgh_clockCorner q_t_burgh_clockAhead q_t_burgh_clockGain q_t_burgh_masterName q_t_burgh_masterCorner q_t_burgh_masterLate q_t_burgh_masterClock q_t_burgh_masterMeets q_t_burgh_meetName q_t_burgh_meetDue : Nat) (t_minute : Int32) (t_out : Int32) (t_stopped : Int32) (t_stood : Nat → Int32) (t_ahead : Nat → Int32) (t_burgh_clocks : Int32) (t_burgh_masters : Int32) (t_burgh_meets : Int32) (t_burgh_patience : Int32) (t_burgh_clockGain : Nat → Int32) (t_since : Nat → Int32) : va_W := [(q_t, .inr (4, [.ref q_t_burgh, .int t_minute, .int t_out, .int t_stopped, .ref q_t_ahead, .ref q_t_since, .ref q_t_stood, .ref q_t_due, .ref q_t_left, .ref q_t_came])), (q_t_stood, .inl (cy 1, 6, .inl t_stood)), (q_t_ahead, .inl (cy 1, 6, .inl t_ahead)), (q_t_burgh, .inr (2, [.int t_burgh_clocks, .int t_burgh_masters, .int t_burgh_meets, .int t_burgh_patience, .ref q_t_burgh_clockName, .ref q_t_burgh_clockCorner, .ref q_t_burgh_clockAhead, .ref q_t_burgh_clockGain, .ref q_t_burgh_masterName, .ref q_t_burgh_masterCorner, .ref q_t_burgh_masterLate, .ref q_t_burgh_masterClock, .ref q_t_burgh_masterMeets, .ref q_t_burgh_meetName, .ref q_t_burgh_meetDue])), (q_t_burgh_clockGain, .inl (cy 1, 6, .inl t_burgh_clockGain)), (q_t_since, .inl (cy 1, 6, .inl t_since))]
abbrev rm_X3_shows : Room := { frames := 2, cells := 0, slots := 0, locals := 43 }
set_option maxRecDepth 100000 in
def f_X3_shows (N : Nat) (x0 : Int32) (x1 : Int32) (t_stopped : Int32) (t_stood : Nat → Int32) (t_ahead : Nat → Int32) (t_burgh_clockGain : Nat → Int32) (t_since : Nat → Int32) : Option (Int32) := zcl (f_X3_reads N x0 x1 t_stopped t_stood t_ahead t_burgh_clockGain t_since) fun z3 => zcl (f_J9_floorMod_7cf53 N z3 720) fun z9 => some z9
set_option maxHeartbeats 4000000 in
set_option maxRecDepth 100000 in
theorem c_X3_shows (l : Launch) (G : va_G) (cy : Nat → ClassId) (E : List (Nat × Cell)) (N : Nat) (q_t q_t_burgh q_t_ahead q_t_since q_t_stood q_t_due q_t_left q_t_came q_t_burgh_clockName q_t_burgh_clockCorner q_t_burgh_clockAhead q_t_burgh_clockGain q_t_burgh_masterName q_t_burgh_masterCorner q_t_burgh_masterLate q_t_burgh_masterClock q_t_burgh_masterMeets q_t_burgh_meetName q_t_burgh_meetDue : Nat) (t_minute : Int32) (t_out : Int32) (t_stopped : Int32) (t_stood : Nat → Int32) (t_ahead : Nat → Int32) (t_burgh_clocks : Int32) (t_burgh_masters : Int32) (t_burgh_meets : Int32) (t_burgh_patience : Int32) (t_burgh_clockGain : Nat → Int32) (t_since : Nat → Int32) (x0 : Int32) (x1 : Int32) (r : Int32) (h : f_X3_shows N x0 x1 t_stopped t_stood t_ahead t_burgh_clockGain t_since = some r) : zM l G cy E yX3_shows wsX3_shows rm_X3_shows [.ref q_t, .int x0, .int x1] (wd_X3_shows cy q_t q_t_burgh q_t_ahead q_t_since q_t_stood q_t_due q_t_left q_t_came q_t_burgh_clockName q_t_burgh_clockCorner q_t_burgh_clockAhead q_t_burgh_clockGain q_t_burgh_masterName q_t_burgh_masterCorner q_t_burgh_masterLate q_t_burgh_masterClock q_t_burgh_masterMeets q_t_burgh_meetName q_t_burgh_meetDue t_minute t_out t_stopped t_stood t_ahead t_burgh_clocks t_burgh_masters t_burgh_meets t_burgh_patience t_burgh_clockGain t_since) (wd_X3_shows cy q_t q_t_burgh q_t_ahead q_t_since q_t_stood q_t_due q_t_left q_t_came q_t_burgh_clockName q_t_burgh_clockCorner q_t_burgh_clockAhead q_t_burgh_clockGain q_t_burgh_masterName q_t_burgh_masterCorner q_t_burgh_masterLate q_t_burgh_masterClock q_t_burgh_masterMeets q_t_burgh_meetName q_t_burgh_meetDue t_minute t_out t_stopped t_stood t_ahead t_burgh_clocks t_burgh_masters t_burgh_meets t_burgh_patience t_burgh_clockGain t_since) (some (.int r)) 0 0 := by
  refine z_body (cc := cX3_shows) (maxL := 3) (ret := some .int) (by decide) rfl (Nat.le_of_ble_eq_true rfl) ?_
  intro p e s m below meth c ls S hr hlocks hnm hF hH hl
  have S : CallFix p m c cX3_shows 3 s ([.ref q_t, .int x0, .int x1] : List Value).toArray wsX3_shows RX3 := S
  obtain ⟨hx, hb, hml, hown, hts⟩ := id S
  have hl : lv_has ls 3 [(0, .ref q_t), (1, .int x0), (2, .int x1)] := hl
  rw [f_X3_shows] at h
  refine lv_aload_n hx hb dX3_shows_0 rfl (lv_at hl 0 rfl) ?_
  refine lv_iload_n hx hb dX3_shows_1 rfl (lv_at hl 1 rfl) ?_
  refine lv_iload_n hx hb dX3_shows_2 rfl (lv_at hl 2 rfl) ?_
  obtain ⟨z3, hz3, h⟩ := zcl_e h
  refine z_callV (As := [.int x0, .int x1]) (rest := []) (st1 := [.int z3]) (ws' := (wd_X3_shows cy q_t q_t_burgh q_t_ahead q_t_since q_t_stood q_t_due q_t_left q_t_came q_t_burgh_clockName q_t_burgh_clockCorner q_t_burgh_clockAhead q_t_burgh_clockGain q_t_burgh_masterName q_t_burgh_masterCorner q_t_burgh_masterLate q_t_burgh_masterClock q_t_burgh_masterMeets q_t_burgh_meetName q_t_burgh_meetDue t_minute t_out t_stopped t_stood t_ahead t_burgh_clocks t_burgh_masters t_burgh_meets t_burgh_patience t_burgh_clockGain t_since)) S hF hH (c_X3_reads l G cy E N q_t q_t_burgh q_t_ahead q_t_since q_t_stood q_t_due q_t_left q_t_came q_t_burgh_clockName q_t_burgh_clockCorner q_t_burgh_clockAhead q_t_burgh_clockGain q_t_burgh_masterName q_t_burgh_masterCorner q_t_burgh_masterLate q_t_burgh_masterClock q_t_burgh_masterMeets q_t_burgh_meetName q_t_burgh_meetDue t_minute t_out t_stopped t_stood t_ahead t_burgh_clocks t_burgh_masters t_burgh_meets t_burgh_patience t_burgh_clockGain t_since x0 x1 z3 hz3) (cwV 2 hts gX3_shows_X3_reads rfl rfl rfl (by decide +kernel) ⟨Nat.le_of_ble_eq_true rfl, Nat.le_of_ble_eq_true rfl⟩) 4 0 rfl rfl [0, 1, 2, 3, 4, 5] [] [0, 1, 2, 3, 4, 5] rfl rfl (by decide) (by decide) (by decide) (by decide) rfl rfl rfl rfl hl.1 (Nat.le_of_ble_eq_true rfl) dX3_shows_3 ⟨Nat.le_of_ble_eq_true rfl, Nat.le_of_ble_eq_true rfl⟩ (fun H locs hH => ?_)
  refine lv_sipush (v := 720) hx hb dX3_shows_6 (by decide) ?_
  obtain ⟨z9, hz9, h⟩ := zcl_e h
  refine z_callS (As := [.int z3, .int 720]) (rest := []) (st1 := [.int z9]) (ws' := (wd_X3_shows cy q_t q_t_burgh q_t_ahead q_t_since q_t_stood q_t_due q_t_left q_t_came q_t_burgh_clockName q_t_burgh_clockCorner q_t_burgh_clockAhead q_t_burgh_clockGain q_t_burgh_masterName q_t_burgh_masterCorner q_t_burgh_masterLate q_t_burgh_masterClock q_t_burgh_masterMeets q_t_burgh_meetName q_t_burgh_meetDue t_minute t_out t_stopped t_stood t_ahead t_burgh_clocks t_burgh_masters t_burgh_meets t_burgh_patience t_burgh_clockGain t_since)) S hF hH (c_J9_floorMod_7cf53 l G cy E N z3 720 z9 hz9) (va_cwS 2 hts gX3_shows_J9_floorMod_7cf53 rfl rfl rfl (by decide +kernel) ⟨Nat.le_of_ble_eq_true rfl, Nat.le_of_ble_eq_true rfl⟩) [] [0, 1, 2, 3, 4, 5] [0, 1, 2, 3, 4, 5] rfl rfl (by decide) (by decide) (by decide) (by decide) rfl rfl rfl rfl hl.1 (Nat.le_of_ble_eq_true rfl) dX3_shows_9 ⟨Nat.le_of_ble_eq_true rfl, Nat.le_of_ble_eq_true rfl⟩ (fun H locs hH => ?_)
  cases h
  exact z_iret S hr hlocks hH dX3_shows_12
abbrev wd_X3_rightClocks (cy : Nat → ClassId) (q_t q_t_burgh q_t_ahead q_t_since q_t_stood q_t_due q_t_left q_t_came q_t_burgh_clockName q_t_burgh_clockCorner q_t_burgh_clockAhead q_t_burgh_clockGain q_t_burgh_masterName q_t_burgh_masterCorner q_t_burgh_masterLate q_t_burgh_masterClock q_t_burgh_masterMeets q_t_burgh_meetName q_t_burgh_meetDue : Nat) (t_minute : Int32) (t_out : Int32) (t_stopped : Int32) (t_burgh_clocks : Int32) (t_burgh_masters : Int32) (t_burgh_meets : Int32) (t_burgh_patience : Int32) (t_stood : Nat → Int32) (t_ahead : Nat → Int32) (t_burgh_clockGain : Nat → Int32) (t_since : Nat → Int32) : va_W := [(q_t, .inr (4, [.ref q_t_burgh, .int t_minute, .int t_out, .int t_stopped, .ref q_t_ahead, .ref q_t_since, .ref q_t_stood, .ref q_t_due, .ref q_t_left, .ref q_t_came])), (q_t_burgh, .inr (2, [.int t_burgh_clocks, .int t_burgh_masters, .int t_burgh_meets, .int t_burgh_patience, .ref q_t_burgh_clockName, .ref q_t_burgh_clockCorner, .ref q_t_burgh_clockAhead, .ref q_t_burgh_clockGain, .ref q_t_burgh_masterName, .ref q_t_burgh_masterCorner, .ref q_t_burgh_masterLate, .ref q_t_burgh_masterClock, .ref q_t_burgh_masterMeets, .ref q_t_burgh_meetName, .ref q_t_burgh_meetDue])), (q_t_stood, .inl (cy 1, 6, .inl t_stood)), (q_t_ahead, .inl (cy 1, 6, .inl t_ahead)), (q_t_burgh_clockGain, .inl (cy 1, 6, .inl t_burgh_clockGain)), (q_t_since, .inl (cy 1, 6, .inl t_since))]
theorem iX3_rightClocks_X1 : ∀ w ∈ wsX10, w ∈ wsX3_rightClocks := fun _ h => List.mem_cons_of_mem _ (List.mem_append_right _ h)
theorem iX3_rightClocks_X3 : ∀ w ∈ wsX30, w ∈ wsX3_rightClocks := fun _ h => List.mem_cons_of_mem _ (List.mem_append_left _ (List.mem_append_right _ h))
abbrev rm_X3_rightClocks : Room := { frames := 3, cells := 0, slots := 0, locals := 64 }
set_option maxRecDepth 100000 in
def f_X3_rightClocks_4 (N : Nat) (t_minute : Int32) (t_stopped : Int32) (t_burgh_clocks : Int32) (t_stood : Nat → Int32) (t_ahead : Nat → Int32) (t_burgh_clockGain : Nat → Int32) (t_since : Nat → Int32) : Nat → Int32 → Int32 → Option (Int32)
  | 0, _, _ => none
  | n + 1, x1, x2 => if t_burgh_clocks ≤ x2 then (some x1) else (zcl (f_X3_wrongBy N x2 t_minute t_stopped t_stood t_ahead t_burgh_clockGain t_since) fun z17 => if z17 = 0 then (zbn ((x1 ||| (1 <<< (x2 &&& 31)))) fun y2 => zbn (x2 + 1) fun y3 => f_X3_rightClocks_4 N t_minute t_stopped t_burgh_clocks t_stood t_ahead t_burgh_clockGain t_since n y2 y3) else (zbn (x2 + 1) fun y1 => f_X3_rightClocks_4 N t_minute t_stopped t_burgh_clocks t_stood t_ahead t_burgh_clockGain t_since n x1 y1))
set_option maxRecDepth 100000 in
def f_X3_rightClocks (N : Nat) (t_minute : Int32) (t_stopped : Int32) (t_burgh_clocks : Int32) (t_stood : Nat → Int32) (t_ahead : Nat → Int32) (t_burgh_clockGain : Nat → Int32) (t_since : Nat → Int32) : Option (Int32) := f_X3_rightClocks_4 N t_minute t_stopped t_burgh_clocks t_stood t_ahead t_burgh_clockGain t_since N 0 0
set_option maxHeartbeats 4000000 in
set_option maxRecDepth 100000 in
theorem w_X3_rightClocks_4 {p : Program} {l : Launch} {e : Env} {s : State} {m : MethodId} {args : Array Value} {below : List Frame} {meth : Method} {c : Code} {G : va_G} {cy : Nat → ClassId} {E : List (Nat × Cell)} {w0 : va_W} {N : Nat} {q_t q_t_burgh q_t_ahead q_t_since q_t_stood q_t_due q_t_left q_t_came q_t_burgh_clockName q_t_burgh_clockCorner q_t_burgh_clockAhead q_t_burgh_clockGain q_t_burgh_masterName q_t_burgh_masterCorner q_t_burgh_masterLate q_t_burgh_masterClock q_t_burgh_masterMeets q_t_burgh_meetName q_t_burgh_meetDue : Nat} {t_minute : Int32} {t_out : Int32} {t_stopped : Int32} {t_burgh_clocks : Int32} {t_burgh_masters : Int32} {t_burgh_meets : Int32} {t_burgh_patience : Int32} {t_stood : Nat → Int32} {t_ahead : Nat → Int32} {t_burgh_clockGain : Nat → Int32} {t_since : Nat → Int32} {r : Int32} (S : CallFix p m c cX3_rightClocks 3 s args wsX3_rightClocks RX3) (hr : meth.sig.returnType = some .int) (hlocks : meth.locks = false) (hF : zF G cy E (va_A w0 s.heap.size) s) :
    ∀ (n : Nat) (x1 : Int32) (x2 : Int32) (H : Heap) (locs : List Loc) (ls : Array Slot), zH G (va_A w0 s.heap.size) s H locs (wd_X3_rightClocks cy q_t q_t_burgh q_t_ahead q_t_since q_t_stood q_t_due q_t_left q_t_came q_t_burgh_clockName q_t_burgh_clockCorner q_t_burgh_clockAhead q_t_burgh_clockGain q_t_burgh_masterName q_t_burgh_masterCorner q_t_burgh_masterLate q_t_burgh_masterClock q_t_burgh_masterMeets q_t_burgh_meetName q_t_burgh_meetDue t_minute t_out t_stopped t_burgh_clocks t_burgh_masters t_burgh_meets t_burgh_patience t_stood t_ahead t_burgh_clockGain t_since) → lv_has ls 3 [(0, .ref q_t), (1, .int x1), (2, .int x2)] → f_X3_rightClocks_4 N t_minute t_stopped t_burgh_clocks t_stood t_ahead t_burgh_clockGain t_since n x1 x2 = some r → W p l e rm_X3_rightClocks s m args below meth c H locs 0 0 (MQ below (zQ G w0 (wd_X3_rightClocks cy q_t q_t_burgh q_t_ahead q_t_since q_t_stood q_t_due q_t_left q_t_came q_t_burgh_clockName q_t_burgh_clockCorner q_t_burgh_clockAhead q_t_burgh_clockGain q_t_burgh_masterName q_t_burgh_masterCorner q_t_burgh_masterLate q_t_burgh_masterClock q_t_burgh_masterMeets q_t_burgh_meetName q_t_burgh_meetDue t_minute t_out t_stopped t_burgh_clocks t_burgh_masters t_burgh_meets t_burgh_patience t_stood t_ahead t_burgh_clockGain t_since) s.heap.size (some (.int r))) args s 0 0 (va_A w0 s.heap.size)) (F0 m 4 ls []) := by
  obtain ⟨hx, hb, hml, hown, hts⟩ := id S
  intro n
  induction n with
  | zero =>
    intro x1 x2 H locs ls hH hl h
    rw [f_X3_rightClocks_4] at h
    cases h
  | succ n ih =>
    intro x1 x2 H locs ls hH hl h
    rw [f_X3_rightClocks_4] at h
    refine lv_iload_n hx hb dX3_rightClocks_4 rfl (lv_at hl 2 rfl) ?_
    refine lv_aload_n hx hb dX3_rightClocks_5 rfl (lv_at hl 0 rfl) ?_
    refine z_get S hF hH iX3_rightClocks_X3 0 rfl rfl 0 (by decide) (List.mem_of_getElem? (i := 1) rfl) rfl dX3_rightClocks_6 ?_
    refine z_get S hF hH iX3_rightClocks_X1 1 rfl rfl 0 (by decide) (List.mem_of_getElem? (i := 2) rfl) rfl dX3_rightClocks_9 ?_
    refine lv_icmp_ge (tgt := 35) hx hb dX3_rightClocks_12 (by decide) (fun b12 => ?_) (fun b12 => ?_)
    · replace h := zif_t b12 h
      refine lv_iload_n hx hb dX3_rightClocks_35 rfl (lv_at hl 1 rfl) ?_
      cases h
      exact z_iret S hr hlocks hH dX3_rightClocks_36
    · replace h := zif_f b12 h
      refine lv_aload_n hx hb dX3_rightClocks_15 rfl (lv_at hl 0 rfl) ?_
      refine lv_iload_n hx hb dX3_rightClocks_16 rfl (lv_at hl 2 rfl) ?_
      obtain ⟨z17, hz17, h⟩ := zcl_e h
      refine z_callV (As := [.int x2]) (rest := []) (st1 := [.int z17]) (ws' := (wd_X3_rightClocks cy q_t q_t_burgh q_t_ahead q_t_since q_t_stood q_t_due q_t_left q_t_came q_t_burgh_clockName q_t_burgh_clockCorner q_t_burgh_clockAhead q_t_burgh_clockGain q_t_burgh_masterName q_t_burgh_masterCorner q_t_burgh_masterLate q_t_burgh_masterClock q_t_burgh_masterMeets q_t_burgh_meetName q_t_burgh_meetDue t_minute t_out t_stopped t_burgh_clocks t_burgh_masters t_burgh_meets t_burgh_patience t_stood t_ahead t_burgh_clockGain t_since)) S hF hH (c_X3_wrongBy l G cy E N q_t q_t_burgh q_t_ahead q_t_since q_t_stood q_t_due q_t_left q_t_came q_t_burgh_clockName q_t_burgh_clockCorner q_t_burgh_clockAhead q_t_burgh_clockGain q_t_burgh_masterName q_t_burgh_masterCorner q_t_burgh_masterLate q_t_burgh_masterClock q_t_burgh_masterMeets q_t_burgh_meetName q_t_burgh_meetDue t_minute t_out t_stopped t_stood t_ahead t_burgh_clocks t_burgh_masters t_burgh_meets t_burgh_patience t_burgh_clockGain t_since x2 z17 hz17) (cwV 1 hts gX3_rightClocks_X3_wrongBy rfl rfl rfl (by decide +kernel) ⟨Nat.le_of_ble_eq_true rfl, Nat.le_of_ble_eq_true rfl⟩) 4 0 rfl rfl [0, 2, 3, 1, 4, 5] [] [0, 3, 1, 2, 4, 5] rfl rfl (by decide) (by decide) (by decide) (by decide) rfl rfl rfl rfl hl.1 (Nat.le_of_ble_eq_true rfl) dX3_rightClocks_17 ⟨Nat.le_of_ble_eq_true rfl, Nat.le_of_ble_eq_true rfl⟩ (fun H locs hH => ?_)
      refine lv_if_ne (tgt := 29) hx hb dX3_rightClocks_20 (by decide) (fun b20 => ?_) (fun b20 => ?_)
      · replace h := zif_f b20 h
        obtain ⟨y1, ey1, h⟩ := zbn_e h
        refine lv_iinc (v := y1) (lv' := [(2, .int y1), (0, .ref q_t), (1, .int x1)]) hx hb dX3_rightClocks_29 hl (k := 2) rfl (by rw [ey1]; exact congrArg (fun z => x2 + z) (by decide)) (by decide) rfl (fun ls hl => ?_)
        clear ey1
        refine lv_goto (tgt := 4) hx hb dX3_rightClocks_32 (by decide) ?_
        exact ih x1 y1 _ _ _ hH (lv_sub hl [1, 2, 0] rfl) h
      · replace h := zif_t b20 h
        refine lv_iload_n hx hb dX3_rightClocks_23 rfl (lv_at hl 1 rfl) ?_
        refine lv_iconst (v := 1) hx hb dX3_rightClocks_24 (by decide) ?_
        refine lv_iload_n hx hb dX3_rightClocks_25 rfl (lv_at hl 2 rfl) ?_
        refine lv_ishl hx hb dX3_rightClocks_26 ?_
        refine lv_ior hx hb dX3_rightClocks_27 ?_
        obtain ⟨y2, ey2, h⟩ := zbn_e h
        refine z_top ey2 ?_
        clear ey2
        refine lv_istore_n (lv' := [(1, .int y2), (0, .ref q_t), (2, .int x2)]) hx hb dX3_rightClocks_28 rfl hl (by decide) rfl (fun ls hl => ?_)
        obtain ⟨y3, ey3, h⟩ := zbn_e h
        refine lv_iinc (v := y3) (lv' := [(2, .int y3), (1, .int y2), (0, .ref q_t)]) hx hb dX3_rightClocks_29 hl (k := 2) rfl (by rw [ey3]; exact congrArg (fun z => x2 + z) (by decide)) (by decide) rfl (fun ls hl => ?_)
        clear ey3
        refine lv_goto (tgt := 4) hx hb dX3_rightClocks_32 (by decide) ?_
        exact ih y2 y3 _ _ _ hH (lv_sub hl [2, 1, 0] rfl) h
set_option maxHeartbeats 4000000 in
set_option maxRecDepth 100000 in
theorem c_X3_rightClocks (l : Launch) (G : va_G) (cy : Nat → ClassId) (E : List (Nat × Cell)) (N : Nat) (q_t q_t_burgh q_t_ahead q_t_since q_t_stood q_t_due q_t_left q_t_came q_t_burgh_clockName q_t_burgh_clockCorner q_t_burgh_clockAhead q_t_burgh_clockGain q_t_burgh_masterName q_t_burgh_masterCorner q_t_burgh_masterLate q_t_burgh_masterClock q_t_burgh_masterMeets q_t_burgh_meetName q_t_burgh_meetDue : Nat) (t_minute : Int32) (t_out : Int32) (t_stopped : Int32) (t_burgh_clocks : Int32) (t_burgh_masters : Int32) (t_burgh_meets : Int32) (t_burgh_patience : Int32) (t_stood : Nat → Int32) (t_ahead : Nat → Int32) (t_burgh_clockGain : Nat → Int32) (t_since : Nat → Int32) (r : Int32) (h : f_X3_rightClocks N t_minute t_stopped t_burgh_clocks t_stood t_ahead t_burgh_clockGain t_since = some r) : zM l G cy E yX3_rightClocks wsX3_rightClocks rm_X3_rightClocks [.ref q_t] (wd_X3_rightClocks cy q_t q_t_burgh q_t_ahead q_t_since q_t_stood q_t_due q_t_left q_t_came q_t_burgh_clockName q_t_burgh_clockCorner q_t_burgh_clockAhead q_t_burgh_clockGain q_t_burgh_masterName q_t_burgh_masterCorner q_t_burgh_masterLate q_t_burgh_masterClock q_t_burgh_masterMeets q_t_burgh_meetName q_t_burgh_meetDue t_minute t_out t_stopped t_burgh_clocks t_burgh_masters t_burgh_meets t_burgh_patience t_stood t_ahead t_burgh_clockGain t_since) (wd_X3_rightClocks cy q_t q_t_burgh q_t_ahead q_t_since q_t_stood q_t_due q_t_left q_t_came q_t_burgh_clockName q_t_burgh_clockCorner q_t_burgh_clockAhead q_t_burgh_clockGain q_t_burgh_masterName q_t_burgh_masterCorner q_t_burgh_masterLate q_t_burgh_masterClock q_t_burgh_masterMeets q_t_burgh_meetName q_t_burgh_meetDue t_minute t_out t_stopped t_burgh_clocks t_burgh_masters t_burgh_meets t_burgh_patience t_stood t_ahead t_burgh_clockGain t_since) (some (.int r)) 0 0 := by
  refine z_body (cc := cX3_rightClocks) (maxL := 3) (ret := some .int) (by decide) rfl (Nat.le_of_ble_eq_true rfl) ?_
  intro p e s m below meth c ls S hr hlocks hnm hF hH hl
  have S : CallFix p m c cX3_rightClocks 3 s ([.ref q_t] : List Value).toArray wsX3_rightClocks RX3 := S
  obtain ⟨hx, hb, hml, hown, hts⟩ := id S
  have hl : lv_has ls 3 [(0, .ref q_t)] := hl
  rw [f_X3_rightClocks] at h
  refine lv_iconst (v := 0) hx hb dX3_rightClocks_0 (by decide) ?_
  refine lv_istore_n (lv' := [(1, .int 0), (0, .ref q_t)]) hx hb dX3_rightClocks_1 rfl hl (by decide) rfl (fun ls hl => ?_)
  refine lv_iconst (v := 0) hx hb dX3_rightClocks_2 (by decide) ?_
  refine lv_istore_n (lv' := [(2, .int 0), (1, .int 0), (0, .ref q_t)]) hx hb dX3_rightClocks_3 rfl hl (by decide) rfl (fun ls hl => ?_)
  exact w_X3_rightClocks_4 S hr hlocks hF N 0 0 _ _ _ hH (lv_sub hl [2, 1, 0] rfl) h
abbrev wd_X3_showAlike (cy : Nat → ClassId) (q_t q_t_burgh q_t_ahead q_t_since q_t_stood q_t_due q_t_left q_t_came q_t_burgh_clockName q_t_burgh_clockCorner q_t_burgh_clockAhead q_t_burgh_clockGain q_t_burgh_masterName q_t_burgh_masterCorner q_t_burgh_masterLate q_t_burgh_masterClock q_t_burgh_masterMeets q_t_burgh_meetName q_t_burgh_meetDue : Nat) (t_minute : Int32) (t_out : Int32) (t_stopped : Int32) (t_burgh_clocks : Int32) (t_burgh_masters : Int32) (t_burgh_meets : Int32) (t_burgh_patience : Int32) (t_stood : Nat → Int32) (t_ahead : Nat → Int32) (t_burgh_clockGain : Nat → Int32) (t_since : Nat → Int32) : va_W := [(q_t, .inr (4, [.ref q_t_burgh, .int t_minute, .int t_out, .int t_stopped, .ref q_t_ahead, .ref q_t_since, .ref q_t_stood, .ref q_t_due, .ref q_t_left, .ref q_t_came])), (q_t_burgh, .inr (2, [.int t_burgh_clocks, .int t_burgh_masters, .int t_burgh_meets, .int t_burgh_patience, .ref q_t_burgh_clockName, .ref q_t_burgh_clockCorner, .ref q_t_burgh_clockAhead, .ref q_t_burgh_clockGain, .ref q_t_burgh_masterName, .ref q_t_burgh_masterCorner, .ref q_t_burgh_masterLate, .ref q_t_burgh_masterClock, .ref q_t_burgh_masterMeets, .ref q_t_burgh_meetName, .ref q_t_burgh_meetDue])), (q_t_stood, .inl (cy 1, 6, .inl t_stood)), (q_t_ahead, .inl (cy 1, 6, .inl t_ahead)), (q_t_burgh_clockGain, .inl (cy 1, 6, .inl t_burgh_clockGain)), (q_t_since, .inl (cy 1, 6, .inl t_since))]
theorem iX3_showAlike_X1 : ∀ w ∈ wsX10, w ∈ wsX3_showAlike := fun _ h => List.mem_cons_of_mem _ (List.mem_append_right _ h)
theorem iX3_showAlike_X3 : ∀ w ∈ wsX30, w ∈ wsX3_showAlike := fun _ h => List.mem_cons_of_mem _ (List.mem_append_left _ (List.mem_append_right _ h))
abbrev rm_X3_showAlike : Room := { frames := 3, cells := 0, slots := 0, locals := 65 }
set_option maxRecDepth 100000 in
def f_X3_showAlike_2 (N : Nat) (t_stopped : Int32) (t_burgh_clocks : Int32) (t_stood : Nat → Int32) (t_ahead : Nat → Int32) (t_burgh_clockGain : Nat → Int32) (t_since : Nat → Int32) : Nat → Int32 → Int32 → Option (Int32)
  | 0, _, _ => none
  | n + 1, x1, x2 => if t_burgh_clocks ≤ x2 then (some 1) else (zcl (f_X3_shows N x2 x1 t_stopped t_stood t_ahead t_burgh_clockGain t_since) fun z16 => zcl (f_X3_shows N 0 x1 t_stopped t_stood t_ahead t_burgh_clockGain t_since) fun z22 => if z16 = z22 then (zbn (x2 + 1) fun y1 => f_X3_showAlike_2 N t_stopped t_burgh_clocks t_stood t_ahead t_burgh_clockGain t_since n x1 y1) else (some 0))
set_option maxRecDepth 100000 in
def f_X3_showAlike (N : Nat) (x0 : Int32) (t_stopped : Int32) (t_burgh_clocks : Int32) (t_stood : Nat → Int32) (t_ahead : Nat → Int32) (t_burgh_clockGain : Nat → Int32) (t_since : Nat → Int32) : Option (Int32) := f_X3_showAlike_2 N t_stopped t_burgh_clocks t_stood t_ahead t_burgh_clockGain t_since N x0 1
set_option maxHeartbeats 4000000 in
set_option maxRecDepth 100000 in
theorem w_X3_showAlike_2 {p : Program} {l : Launch} {e : Env} {s : State} {m : MethodId} {args : Array Value} {below : List Frame} {meth : Method} {c : Code} {G : va_G} {cy : Nat → ClassId} {E : List (Nat × Cell)} {w0 : va_W} {N : Nat} {q_t q_t_burgh q_t_ahead q_t_since q_t_stood q_t_due q_t_left q_t_came q_t_burgh_clockName q_t_burgh_clockCorner q_t_burgh_clockAhead q_t_burgh_clockGain q_t_burgh_masterName q_t_burgh_masterCorner q_t_burgh_masterLate q_t_burgh_masterClock q_t_burgh_masterMeets q_t_burgh_meetName q_t_burgh_meetDue : Nat} {t_minute : Int32} {t_out : Int32} {t_stopped : Int32} {t_burgh_clocks : Int32} {t_burgh_masters : Int32} {t_burgh_meets : Int32} {t_burgh_patience : Int32} {t_stood : Nat → Int32} {t_ahead : Nat → Int32} {t_burgh_clockGain : Nat → Int32} {t_since : Nat → Int32} {r : Int32} (S : CallFix p m c cX3_showAlike 3 s args wsX3_showAlike RX3) (hr : meth.sig.returnType = some .boolean) (hlocks : meth.locks = false) (hF : zF G cy E (va_A w0 s.heap.size) s) :
    ∀ (n : Nat) (x1 : Int32) (x2 : Int32) (H : Heap) (locs : List Loc) (ls : Array Slot), zH G (va_A w0 s.heap.size) s H locs (wd_X3_showAlike cy q_t q_t_burgh q_t_ahead q_t_since q_t_stood q_t_due q_t_left q_t_came q_t_burgh_clockName q_t_burgh_clockCorner q_t_burgh_clockAhead q_t_burgh_clockGain q_t_burgh_masterName q_t_burgh_masterCorner q_t_burgh_masterLate q_t_burgh_masterClock q_t_burgh_masterMeets q_t_burgh_meetName q_t_burgh_meetDue t_minute t_out t_stopped t_burgh_clocks t_burgh_masters t_burgh_meets t_burgh_patience t_stood t_ahead t_burgh_clockGain t_since) → lv_has ls 3 [(0, .ref q_t), (1, .int x1), (2, .int x2)] → f_X3_showAlike_2 N t_stopped t_burgh_clocks t_stood t_ahead t_burgh_clockGain t_since n x1 x2 = some r → W p l e rm_X3_showAlike s m args below meth c H locs 0 0 (MQ below (zQ G w0 (wd_X3_showAlike cy q_t q_t_burgh q_t_ahead q_t_since q_t_stood q_t_due q_t_left q_t_came q_t_burgh_clockName q_t_burgh_clockCorner q_t_burgh_clockAhead q_t_burgh_clockGain q_t_burgh_masterName q_t_burgh_masterCorner q_t_burgh_masterLate q_t_burgh_masterClock q_t_burgh_masterMeets q_t_burgh_meetName q_t_burgh_meetDue t_minute t_out t_stopped t_burgh_clocks t_burgh_masters t_burgh_meets t_burgh_patience t_stood t_ahead t_burgh_clockGain t_since) s.heap.size (some (.int r))) args s 0 0 (va_A w0 s.heap.size)) (F0 m 2 ls []) := by
  obtain ⟨hx, hb, hml, hown, hts⟩ := id S
  intro n
  induction n with
  | zero =>
    intro x1 x2 H locs ls hH hl h
    rw [f_X3_showAlike_2] at h
    cases h
  | succ n ih =>
    intro x1 x2 H locs ls hH hl h
    rw [f_X3_showAlike_2] at h
    refine lv_iload_n hx hb dX3_showAlike_2 rfl (lv_at hl 2 rfl) ?_
    refine lv_aload_n hx hb dX3_showAlike_3 rfl (lv_at hl 0 rfl) ?_
    refine z_get S hF hH iX3_showAlike_X3 0 rfl rfl 0 (by decide) (List.mem_of_getElem? (i := 1) rfl) rfl dX3_showAlike_4 ?_
    refine z_get S hF hH iX3_showAlike_X1 1 rfl rfl 0 (by decide) (List.mem_of_getElem? (i := 2) rfl) rfl dX3_showAlike_7 ?_
    refine lv_icmp_ge (tgt := 36) hx hb dX3_showAlike_10 (by decide) (fun b10 => ?_) (fun b10 => ?_)
    · replace h := zif_t b10 h
      refine lv_iconst (v := 1) hx hb dX3_showAlike_36 (by decide) ?_
      cases h
      exact z_zret S hr hlocks hH rfl dX3_showAlike_37
    · replace h := zif_f b10 h
      refine lv_aload_n hx hb dX3_showAlike_13 rfl (lv_at hl 0 rfl) ?_
      refine lv_iload_n hx hb dX3_showAlike_14 rfl (lv_at hl 2 rfl) ?_
      refine lv_iload_n hx hb dX3_showAlike_15 rfl (lv_at hl 1 rfl) ?_
      obtain ⟨z16, hz16, h⟩ := zcl_e h
      refine z_callV (As := [.int x2, .int x1]) (rest := []) (st1 := [.int z16]) (ws' := (wd_X3_showAlike cy q_t q_t_burgh q_t_ahead q_t_since q_t_stood q_t_due q_t_left q_t_came q_t_burgh_clockName q_t_burgh_clockCorner q_t_burgh_clockAhead q_t_burgh_clockGain q_t_burgh_masterName q_t_burgh_masterCorner q_t_burgh_masterLate q_t_burgh_masterClock q_t_burgh_masterMeets q_t_burgh_meetName q_t_burgh_meetDue t_minute t_out t_stopped t_burgh_clocks t_burgh_masters t_burgh_meets t_burgh_patience t_stood t_ahead t_burgh_clockGain t_since)) S hF hH (c_X3_shows l G cy E N q_t q_t_burgh q_t_ahead q_t_since q_t_stood q_t_due q_t_left q_t_came q_t_burgh_clockName q_t_burgh_clockCorner q_t_burgh_clockAhead q_t_burgh_clockGain q_t_burgh_masterName q_t_burgh_masterCorner q_t_burgh_masterLate q_t_burgh_masterClock q_t_burgh_masterMeets q_t_burgh_meetName q_t_burgh_meetDue t_minute t_out t_stopped t_stood t_ahead t_burgh_clocks t_burgh_masters t_burgh_meets t_burgh_patience t_burgh_clockGain t_since x2 x1 z16 hz16) (cwV 2 hts gX3_showAlike_X3_shows rfl rfl rfl (by decide +kernel) ⟨Nat.le_of_ble_eq_true rfl, Nat.le_of_ble_eq_true rfl⟩) 4 0 rfl rfl [0, 2, 3, 1, 4, 5] [] [0, 3, 1, 2, 4, 5] rfl rfl (by decide) (by decide) (by decide) (by decide) rfl rfl rfl rfl hl.1 (Nat.le_of_ble_eq_true rfl) dX3_showAlike_16 ⟨Nat.le_of_ble_eq_true rfl, Nat.le_of_ble_eq_true rfl⟩ (fun H locs hH => ?_)
      refine lv_aload_n hx hb dX3_showAlike_19 rfl (lv_at hl 0 rfl) ?_
      refine lv_iconst (v := 0) hx hb dX3_showAlike_20 (by decide) ?_
      refine lv_iload_n hx hb dX3_showAlike_21 rfl (lv_at hl 1 rfl) ?_
      obtain ⟨z22, hz22, h⟩ := zcl_e h
      refine z_callV (As := [.int 0, .int x1]) (rest := [.int z16]) (st1 := [.int z22, .int z16]) (ws' := (wd_X3_showAlike cy q_t q_t_burgh q_t_ahead q_t_since q_t_stood q_t_due q_t_left q_t_came q_t_burgh_clockName q_t_burgh_clockCorner q_t_burgh_clockAhead q_t_burgh_clockGain q_t_burgh_masterName q_t_burgh_masterCorner q_t_burgh_masterLate q_t_burgh_masterClock q_t_burgh_masterMeets q_t_burgh_meetName q_t_burgh_meetDue t_minute t_out t_stopped t_burgh_clocks t_burgh_masters t_burgh_meets t_burgh_patience t_stood t_ahead t_burgh_clockGain t_since)) S hF hH (c_X3_shows l G cy E N q_t q_t_burgh q_t_ahead q_t_since q_t_stood q_t_due q_t_left q_t_came q_t_burgh_clockName q_t_burgh_clockCorner q_t_burgh_clockAhead q_t_burgh_clockGain q_t_burgh_masterName q_t_burgh_masterCorner q_t_burgh_masterLate q_t_burgh_masterClock q_t_burgh_masterMeets q_t_burgh_meetName q_t_burgh_meetDue t_minute t_out t_stopped t_stood t_ahead t_burgh_clocks t_burgh_masters t_burgh_meets t_burgh_patience t_burgh_clockGain t_since 0 x1 z22 hz22) (cwV 2 hts gX3_showAlike_X3_shows rfl rfl rfl (by decide +kernel) ⟨Nat.le_of_ble_eq_true rfl, Nat.le_of_ble_eq_true rfl⟩) 4 0 rfl rfl [0, 2, 3, 1, 4, 5] [] [0, 3, 1, 2, 4, 5] rfl rfl (by decide) (by decide) (by decide) (by decide) rfl rfl rfl rfl hl.1 (Nat.le_of_ble_eq_true rfl) dX3_showAlike_22 ⟨Nat.le_of_ble_eq_true rfl, Nat.le_of_ble_eq_true rfl⟩ (fun H locs hH => ?_)
      refine lv_icmp_eq (tgt := 30) hx hb dX3_showAlike_25 (by decide) (fun b25 => ?_) (fun b25 => ?_)
      · replace h := zif_t b25 h
        obtain ⟨y1, ey1, h⟩ := zbn_e h
        refine lv_iinc (v := y1) (lv' := [(2, .int y1), (0, .ref q_t), (1, .int x1)]) hx hb dX3_showAlike_30 hl (k := 2) rfl (by rw [ey1]; exact congrArg (fun z => x2 + z) (by decide)) (by decide) rfl (fun ls hl => ?_)
        clear ey1
        refine lv_goto (tgt := 2) hx hb dX3_showAlike_33 (by decide) ?_
        exact ih x1 y1 _ _ _ hH (lv_sub hl [1, 2, 0] rfl) h
      · replace h := zif_f b25 h
        refine lv_iconst (v := 0) hx hb dX3_showAlike_28 (by decide) ?_
        cases h
        exact z_zret S hr hlocks hH rfl dX3_showAlike_29
set_option maxHeartbeats 4000000 in
set_option maxRecDepth 100000 in
theorem c_X3_showAlike (l : Launch) (G : va_G) (cy : Nat → ClassId) (E : List (Nat × Cell)) (N : Nat) (q_t q_t_burgh q_t_ahead q_t_since q_t_stood q_t_due q_t_left q_t_came q_t_burgh_clockName q_t_burgh_clockCorner q_t_burgh_clockAhead q_t_burgh_clockGain q_t_burgh_masterName q_t_burgh_masterCorner q_t_burgh_masterLate q_t_burgh_masterClock q_t_burgh_masterMeets q_t_burgh_meetName q_t_burgh_meetDue : Nat) (t_minute : Int32) (t_out : Int32) (t_stopped : Int32) (t_burgh_clocks : Int32) (t_burgh_masters : Int32) (t_burgh_meets : Int32) (t_burgh_patience : Int32) (t_stood : Nat → Int32) (t_ahead : Nat → Int32) (t_burgh_clockGain : Nat → Int32) (t_since : Nat → Int32) (x0 : Int32) (r : Int32) (h : f_X3_showAlike N x0 t_stopped t_burgh_clocks t_stood t_ahead t_burgh_clockGain t_since = some r) : zM l G cy E yX3_showAlike wsX3_showAlike rm_X3_showAlike [.ref q_t, .int x0] (wd_X3_showAlike cy q_t q_t_burgh q_t_ahead q_t_since q_t_stood q_t_due q_t_left q_t_came q_t_burgh_clockName q_t_burgh_clockCorner q_t_burgh_clockAhead q_t_burgh_clockGain q_t_burgh_masterName q_t_burgh_masterCorner q_t_burgh_masterLate q_t_burgh_masterClock q_t_burgh_masterMeets q_t_burgh_meetName q_t_burgh_meetDue t_minute t_out t_stopped t_burgh_clocks t_burgh_masters t_burgh_meets t_burgh_patience t_stood t_ahead t_burgh_clockGain t_since) (wd_X3_showAlike cy q_t q_t_burgh q_t_ahead q_t_since q_t_stood q_t_due q_t_left q_t_came q_t_burgh_clockName q_t_burgh_clockCorner q_t_burgh_clockAhead q_t_burgh_clockGain q_t_burgh_masterName q_t_burgh_masterCorner q_t_burgh_masterLate q_t_burgh_masterClock q_t_burgh_masterMeets q_t_burgh_meetName q_t_burgh_meetDue t_minute t_out t_stopped t_burgh_clocks t_burgh_masters t_burgh_meets t_burgh_patience t_stood t_ahead t_burgh_clockGain t_since) (some (.int r)) 0 0 := by
  refine z_body (cc := cX3_showAlike) (maxL := 3) (ret := some .boolean) (by decide) rfl (Nat.le_of_ble_eq_true rfl) ?_
  intro p e s m below meth c ls S hr hlocks hnm hF hH hl
  have S : CallFix p m c cX3_showAlike 3 s ([.ref q_t, .int x0] : List Value).toArray wsX3_showAlike RX3 := S
  obtain ⟨hx, hb, hml, hown, hts⟩ := id S
  have hl : lv_has ls 3 [(0, .ref q_t), (1, .int x0)] := hl
  rw [f_X3_showAlike] at h
  refine lv_iconst (v := 1) hx hb dX3_showAlike_0 (by decide) ?_
  refine lv_istore_n (lv' := [(2, .int 1), (0, .ref q_t), (1, .int x0)]) hx hb dX3_showAlike_1 rfl hl (by decide) rfl (fun ls hl => ?_)
  exact w_X3_showAlike_2 S hr hlocks hF N x0 1 _ _ _ hH (lv_sub hl [1, 2, 0] rfl) h
abbrev rm_X3_drawOf : Room := { frames := 0, cells := 0, slots := 0, locals := 0 }
set_option maxRecDepth 100000 in
def f_X3_drawOf (N : Nat) (x0 : Int32) (x1 : Int32) : Option (Int32) := if x1 ≤ 0 then (some 0) else (zck (zne0 x1) <| some (zrem (zushr x0 8) x1))
set_option maxHeartbeats 4000000 in
set_option maxRecDepth 100000 in
theorem c_X3_drawOf (l : Launch) (G : va_G) (cy : Nat → ClassId) (E : List (Nat × Cell)) (N : Nat) (x0 : Int32) (x1 : Int32) (r : Int32) (h : f_X3_drawOf N x0 x1 = some r) : zM l G cy E yX3_drawOf wsX3_drawOf rm_X3_drawOf [.int x0, .int x1] ([] : va_W) ([] : va_W) (some (.int r)) 0 0 := by
  refine z_body (cc := cX3_drawOf) (maxL := 2) (ret := some .int) (by decide) rfl (Nat.le_of_ble_eq_true rfl) ?_
  intro p e s m below meth c ls S hr hlocks hnm hF hH hl
  have S : CallFix p m c cX3_drawOf 2 s ([.int x0, .int x1] : List Value).toArray wsX3_drawOf RX3 := S
  obtain ⟨hx, hb, hml, hown, hts⟩ := id S
  have hl : lv_has ls 2 [(0, .int x0), (1, .int x1)] := hl
  rw [f_X3_drawOf] at h
  refine lv_iload_n hx hb dX3_drawOf_0 rfl (lv_at hl 1 rfl) ?_
  refine lv_if_le (tgt := 13) hx hb dX3_drawOf_1 (by decide) (fun b1 => ?_) (fun b1 => ?_)
  · replace h := zif_t b1 h
    refine lv_iconst (v := 0) hx hb dX3_drawOf_13 (by decide) ?_
    cases h
    exact z_iret S hr hlocks hH dX3_drawOf_14
  · replace h := zif_f b1 h
    refine lv_iload_n hx hb dX3_drawOf_4 rfl (lv_at hl 0 rfl) ?_
    refine lv_bipush (v := 8) hx hb dX3_drawOf_5 (by decide) ?_
    refine lv_iushr (v := zushr x0 8) hx hb dX3_drawOf_7 rfl ?_
    refine lv_iload_n hx hb dX3_drawOf_8 rfl (lv_at hl 1 rfl) ?_
    obtain ⟨h9, h⟩ := zck_e h
    refine z_irem hx hb dX3_drawOf_9 h9 ?_
    refine lv_goto (tgt := 14) hx hb dX3_drawOf_10 (by decide) ?_
    cases h
    exact z_iret S hr hlocks hH dX3_drawOf_14
abbrev rm_X3_nextSeed : Room := { frames := 0, cells := 0, slots := 0, locals := 0 }
set_option maxRecDepth 100000 in
def f_X3_nextSeed (N : Nat) (x0 : Int32) : Option (Int32) := some ((x0 * 1103515245) + 12345)
set_option maxHeartbeats 4000000 in
set_option maxRecDepth 100000 in
theorem c_X3_nextSeed (l : Launch) (G : va_G) (cy : Nat → ClassId) (E : List (Nat × Cell)) (N : Nat) (x0 : Int32) (r : Int32) (h : f_X3_nextSeed N x0 = some r) : zM l G cy E yX3_nextSeed wsX3_nextSeed rm_X3_nextSeed [.int x0] ([] : va_W) ([] : va_W) (some (.int r)) 0 0 := by
  refine z_body (cc := cX3_nextSeed) (maxL := 1) (ret := some .int) (by decide) rfl (Nat.le_of_ble_eq_true rfl) ?_
  intro p e s m below meth c ls S hr hlocks hnm hF hH hl
  have S : CallFix p m c cX3_nextSeed 1 s ([.int x0] : List Value).toArray wsX3_nextSeed RX3 := S
  obtain ⟨hx, hb, hml, hown, hts⟩ := id S
  have hl : lv_has ls 1 [(0, .int x0)] := hl
  rw [f_X3_nextSeed] at h
  refine lv_iload_n hx hb dX3_nextSeed_0 rfl (lv_at hl 0 rfl) ?_
  refine lv_ldc (v := 1103515245) hx hb hown (hts _ (List.mem_of_getElem? (i := 1) rfl)) dX3_nextSeed_1 ?_
  refine lv_imul hx hb dX3_nextSeed_3 ?_
  refine lv_sipush (v := 12345) hx hb dX3_nextSeed_4 (by decide) ?_
  refine lv_iadd hx hb dX3_nextSeed_7 ?_
  cases h
  exact z_iret S hr hlocks hH dX3_nextSeed_8
abbrev wd_X3_toggle (cy : Nat → ClassId) (q_t q_t_burgh q_t_ahead q_t_since q_t_stood q_t_due q_t_left q_t_came q_t_burgh_clockName q_t_burgh_clockCorner q_t_burgh_clockAhead q_t_burgh_clockGain q_t_burgh_masterName q_t_burgh_masterCorner q_t_burgh_masterLate q_t_burgh_masterClock q_t_burgh_masterMeets q_t_burgh_meetName q_t_burgh_meetDue : Nat) (t_minute : Int32) (t_out : Int32) (t_stopped : Int32) (t_stood : Nat → Int32) (t_ahead : Nat → Int32) (t_burgh_clocks : Int32) (t_burgh_masters : Int32) (t_burgh_meets : Int32) (t_burgh_patience : Int32) (t_burgh_clockGain : Nat → Int32) (t_since : Nat → Int32) : va_W := [(q_t, .inr (4, [.ref q_t_burgh, .int t_minute, .int t_out, .int t_stopped, .ref q_t_ahead, .ref q_t_since, .ref q_t_stood, .ref q_t_due, .ref q_t_left, .ref q_t_came])), (q_t_stood, .inl (cy 1, 6, .inl t_stood)), (q_t_ahead, .inl (cy 1, 6, .inl t_ahead)), (q_t_burgh, .inr (2, [.int t_burgh_clocks, .int t_burgh_masters, .int t_burgh_meets, .int t_burgh_patience, .ref q_t_burgh_clockName, .ref q_t_burgh_clockCorner, .ref q_t_burgh_clockAhead, .ref q_t_burgh_clockGain, .ref q_t_burgh_masterName, .ref q_t_burgh_masterCorner, .ref q_t_burgh_masterLate, .ref q_t_burgh_masterClock, .ref q_t_burgh_masterMeets, .ref q_t_burgh_meetName, .ref q_t_burgh_meetDue])), (q_t_burgh_clockGain, .inl (cy 1, 6, .inl t_burgh_clockGain)), (q_t_since, .inl (cy 1, 6, .inl t_since))]
abbrev rm_X3_toggle : Room := { frames := 4, cells := 0, slots := 0, locals := 85 }
set_option maxRecDepth 100000 in
def f_X3_toggle (N : Nat) (x0 : Int32) (t_minute : Int32) (t_stopped : Int32) (t_stood : Nat → Int32) (t_ahead : Nat → Int32) (t_burgh_clockGain : Nat → Int32) (t_since : Nat → Int32) : Option (Int32 × (Nat → Int32) × (Nat → Int32) × (Nat → Int32)) := zcl (f_X3_isStopped N x0 t_stopped) fun z2 => if z2 = 0 then (zcl (f_X3_halt N x0 t_minute t_stopped t_stood t_ahead t_burgh_clockGain t_since) fun z18 => some (z18.1, z18.2, t_ahead, t_since)) else (zcl (f_X3_resume N x0 t_minute t_stopped t_stood t_ahead t_burgh_clockGain t_since) fun z10 => some (z10.1, t_stood, z10.2.1, z10.2.2))
set_option maxHeartbeats 4000000 in
set_option maxRecDepth 100000 in
theorem c_X3_toggle (l : Launch) (G : va_G) (cy : Nat → ClassId) (E : List (Nat × Cell)) (N : Nat) (q_t q_t_burgh q_t_ahead q_t_since q_t_stood q_t_due q_t_left q_t_came q_t_burgh_clockName q_t_burgh_clockCorner q_t_burgh_clockAhead q_t_burgh_clockGain q_t_burgh_masterName q_t_burgh_masterCorner q_t_burgh_masterLate q_t_burgh_masterClock q_t_burgh_masterMeets q_t_burgh_meetName q_t_burgh_meetDue : Nat) (t_minute : Int32) (t_out : Int32) (t_stopped : Int32) (t_stood : Nat → Int32) (t_ahead : Nat → Int32) (t_burgh_clocks : Int32) (t_burgh_masters : Int32) (t_burgh_meets : Int32) (t_burgh_patience : Int32) (t_burgh_clockGain : Nat → Int32) (t_since : Nat → Int32) (x0 : Int32) (r_t_stopped : Int32) (r_t_stood : Nat → Int32) (r_t_ahead : Nat → Int32) (r_t_since : Nat → Int32) (h : f_X3_toggle N x0 t_minute t_stopped t_stood t_ahead t_burgh_clockGain t_since = some (r_t_stopped, r_t_stood, r_t_ahead, r_t_since)) : zM l G cy E yX3_toggle wsX3_toggle rm_X3_toggle [.ref q_t, .int x0] (wd_X3_toggle cy q_t q_t_burgh q_t_ahead q_t_since q_t_stood q_t_due q_t_left q_t_came q_t_burgh_clockName q_t_burgh_clockCorner q_t_burgh_clockAhead q_t_burgh_clockGain q_t_burgh_masterName q_t_burgh_masterCorner q_t_burgh_masterLate q_t_burgh_masterClock q_t_burgh_masterMeets q_t_burgh_meetName q_t_burgh_meetDue t_minute t_out t_stopped t_stood t_ahead t_burgh_clocks t_burgh_masters t_burgh_meets t_burgh_patience t_burgh_clockGain t_since) (wd_X3_toggle cy q_t q_t_burgh q_t_ahead q_t_since q_t_stood q_t_due q_t_left q_t_came q_t_burgh_clockName q_t_burgh_clockCorner q_t_burgh_clockAhead q_t_burgh_clockGain q_t_burgh_masterName q_t_burgh_masterCorner q_t_burgh_masterLate q_t_burgh_masterClock q_t_burgh_masterMeets q_t_burgh_meetName q_t_burgh_meetDue t_minute t_out r_t_stopped r_t_stood r_t_ahead t_burgh_clocks t_burgh_masters t_burgh_meets t_burgh_patience t_burgh_clockGain r_t_since) none 0 0 := by
  refine z_body (cc := cX3_toggle) (maxL := 2) (ret := none) (by decide) rfl (Nat.le_of_ble_eq_true rfl) ?_
  intro p e s m below meth c ls S hr hlocks hnm hF hH hl
  have S : CallFix p m c cX3_toggle 2 s ([.ref q_t, .int x0] : List Value).toArray wsX3_toggle RX3 := S
  obtain ⟨hx, hb, hml, hown, hts⟩ := id S
  have hl : lv_has ls 2 [(0, .ref q_t), (1, .int x0)] := hl
  rw [f_X3_toggle] at h
  refine lv_aload_n hx hb dX3_toggle_0 rfl (lv_at hl 0 rfl) ?_
  refine lv_iload_n hx hb dX3_toggle_1 rfl (lv_at hl 1 rfl) ?_
  obtain ⟨z2, hz2, h⟩ := zcl_e h
  refine z_callV (As := [.int x0]) (rest := []) (st1 := [.int z2]) (ws' := (wd_X3_toggle cy q_t q_t_burgh q_t_ahead q_t_since q_t_stood q_t_due q_t_left q_t_came q_t_burgh_clockName q_t_burgh_clockCorner q_t_burgh_clockAhead q_t_burgh_clockGain q_t_burgh_masterName q_t_burgh_masterCorner q_t_burgh_masterLate q_t_burgh_masterClock q_t_burgh_masterMeets q_t_burgh_meetName q_t_burgh_meetDue t_minute t_out t_stopped t_stood t_ahead t_burgh_clocks t_burgh_masters t_burgh_meets t_burgh_patience t_burgh_clockGain t_since)) S hF hH (c_X3_isStopped l G cy E N q_t q_t_burgh q_t_ahead q_t_since q_t_stood q_t_due q_t_left q_t_came t_minute t_out t_stopped x0 z2 hz2) (cwV 1 hts gX3_toggle_X3_isStopped rfl rfl rfl (by decide +kernel) ⟨Nat.le_of_ble_eq_true rfl, Nat.le_of_ble_eq_true rfl⟩) 4 0 rfl rfl [0] [1, 2, 3, 4, 5] [5, 0, 1, 2, 3, 4] rfl rfl (by decide) (by decide) (by decide) (by decide) rfl rfl rfl rfl hl.1 (Nat.le_of_ble_eq_true rfl) dX3_toggle_2 ⟨Nat.le_of_ble_eq_true rfl, Nat.le_of_ble_eq_true rfl⟩ (fun H locs hH => ?_)
  refine lv_if_eq (tgt := 16) hx hb dX3_toggle_5 (by decide) (fun b5 => ?_) (fun b5 => ?_)
  · replace h := zif_t b5 h
    refine lv_aload_n hx hb dX3_toggle_16 rfl (lv_at hl 0 rfl) ?_
    refine lv_iload_n hx hb dX3_toggle_17 rfl (lv_at hl 1 rfl) ?_
    obtain ⟨z18, hz18, h⟩ := zcl_e h
    refine z_callV (As := [.int x0]) (rest := []) (st1 := []) (ws' := (wd_X3_toggle cy q_t q_t_burgh q_t_ahead q_t_since q_t_stood q_t_due q_t_left q_t_came q_t_burgh_clockName q_t_burgh_clockCorner q_t_burgh_clockAhead q_t_burgh_clockGain q_t_burgh_masterName q_t_burgh_masterCorner q_t_burgh_masterLate q_t_burgh_masterClock q_t_burgh_masterMeets q_t_burgh_meetName q_t_burgh_meetDue t_minute t_out z18.1 z18.2 t_ahead t_burgh_clocks t_burgh_masters t_burgh_meets t_burgh_patience t_burgh_clockGain t_since)) S hF hH (c_X3_halt l G cy E N q_t q_t_burgh q_t_ahead q_t_since q_t_stood q_t_due q_t_left q_t_came q_t_burgh_clockName q_t_burgh_clockCorner q_t_burgh_clockAhead q_t_burgh_clockGain q_t_burgh_masterName q_t_burgh_masterCorner q_t_burgh_masterLate q_t_burgh_masterClock q_t_burgh_masterMeets q_t_burgh_meetName q_t_burgh_meetDue t_minute t_out t_stopped t_stood t_ahead t_burgh_clocks t_burgh_masters t_burgh_meets t_burgh_patience t_burgh_clockGain t_since x0 z18.1 z18.2 hz18) (cwV 1 hts gX3_toggle_X3_halt rfl rfl rfl (by decide +kernel) ⟨Nat.le_of_ble_eq_true rfl, Nat.le_of_ble_eq_true rfl⟩) 4 0 rfl rfl [0, 1, 2, 3, 4, 5] [] [0, 1, 2, 3, 4, 5] rfl rfl (by decide) (by decide) (by decide) (by decide) rfl rfl rfl rfl hl.1 (Nat.le_of_ble_eq_true rfl) dX3_toggle_18 ⟨Nat.le_of_ble_eq_true rfl, Nat.le_of_ble_eq_true rfl⟩ (fun H locs hH => ?_)
    cases h
    exact z_vret S hr hlocks hH dX3_toggle_21
  · replace h := zif_f b5 h
    refine lv_aload_n hx hb dX3_toggle_8 rfl (lv_at hl 0 rfl) ?_
    refine lv_iload_n hx hb dX3_toggle_9 rfl (lv_at hl 1 rfl) ?_
    obtain ⟨z10, hz10, h⟩ := zcl_e h
    refine z_callV (As := [.int x0]) (rest := []) (st1 := []) (ws' := (wd_X3_toggle cy q_t q_t_burgh q_t_ahead q_t_since q_t_stood q_t_due q_t_left q_t_came q_t_burgh_clockName q_t_burgh_clockCorner q_t_burgh_clockAhead q_t_burgh_clockGain q_t_burgh_masterName q_t_burgh_masterCorner q_t_burgh_masterLate q_t_burgh_masterClock q_t_burgh_masterMeets q_t_burgh_meetName q_t_burgh_meetDue t_minute t_out z10.1 t_stood z10.2.1 t_burgh_clocks t_burgh_masters t_burgh_meets t_burgh_patience t_burgh_clockGain z10.2.2)) S hF hH (c_X3_resume l G cy E N q_t q_t_burgh q_t_ahead q_t_since q_t_stood q_t_due q_t_left q_t_came q_t_burgh_clockName q_t_burgh_clockCorner q_t_burgh_clockAhead q_t_burgh_clockGain q_t_burgh_masterName q_t_burgh_masterCorner q_t_burgh_masterLate q_t_burgh_masterClock q_t_burgh_masterMeets q_t_burgh_meetName q_t_burgh_meetDue t_minute t_out t_stopped t_stood t_ahead t_burgh_clocks t_burgh_masters t_burgh_meets t_burgh_patience t_burgh_clockGain t_since x0 z10.1 z10.2.1 z10.2.2 hz10) (cwV 1 hts gX3_toggle_X3_resume rfl rfl rfl (by decide +kernel) ⟨Nat.le_of_ble_eq_true rfl, Nat.le_of_ble_eq_true rfl⟩) 4 0 rfl rfl [0, 1, 2, 3, 4, 5] [] [0, 1, 2, 3, 4, 5] rfl rfl (by decide) (by decide) (by decide) (by decide) rfl rfl rfl rfl hl.1 (Nat.le_of_ble_eq_true rfl) dX3_toggle_10 ⟨Nat.le_of_ble_eq_true rfl, Nat.le_of_ble_eq_true rfl⟩ (fun H locs hH => ?_)
    refine lv_goto (tgt := 21) hx hb dX3_toggle_13 (by decide) ?_
    cases h
    exact z_vret S hr hlocks hH dX3_toggle_21
abbrev wd_X3_passDrawn (cy : Nat → ClassId) (q_t q_t_burgh q_t_ahead q_t_since q_t_stood q_t_due q_t_left q_t_came q_t_burgh_clockName q_t_burgh_clockCorner q_t_burgh_clockAhead q_t_burgh_clockGain q_t_burgh_masterName q_t_burgh_masterCorner q_t_burgh_masterLate q_t_burgh_masterClock q_t_burgh_masterMeets q_t_burgh_meetName q_t_burgh_meetDue : Nat) (t_minute : Int32) (t_out : Int32) (t_stopped : Int32) (t_burgh_clocks : Int32) (t_burgh_masters : Int32) (t_burgh_meets : Int32) (t_burgh_patience : Int32) (t_stood : Nat → Int32) (t_ahead : Nat → Int32) (t_burgh_clockGain : Nat → Int32) (t_since : Nat → Int32) (t_burgh_masterMeets : Nat → Int32) (t_came : Nat → Int32) (t_left : Nat → Int32) (t_burgh_masterCorner : Nat → Int32) (t_burgh_masterClock : Nat → Int32) (t_due : Nat → Int32) (t_burgh_masterLate : Nat → Int32) : va_W := [(q_t, .inr (4, [.ref q_t_burgh, .int t_minute, .int t_out, .int t_stopped, .ref q_t_ahead, .ref q_t_since, .ref q_t_stood, .ref q_t_due, .ref q_t_left, .ref q_t_came])), (q_t_burgh, .inr (2, [.int t_burgh_clocks, .int t_burgh_masters, .int t_burgh_meets, .int t_burgh_patience, .ref q_t_burgh_clockName, .ref q_t_burgh_clockCorner, .ref q_t_burgh_clockAhead, .ref q_t_burgh_clockGain, .ref q_t_burgh_masterName, .ref q_t_burgh_masterCorner, .ref q_t_burgh_masterLate, .ref q_t_burgh_masterClock, .ref q_t_burgh_masterMeets, .ref q_t_burgh_meetName, .ref q_t_burgh_meetDue])), (q_t_stood, .inl (cy 1, 6, .inl t_stood)), (q_t_ahead, .inl (cy 1, 6, .inl t_ahead)), (q_t_burgh_clockGain, .inl (cy 1, 6, .inl t_burgh_clockGain)), (q_t_since, .inl (cy 1, 6, .inl t_since)), (q_t_burgh_masterMeets, .inl (cy 1, 6, .inl t_burgh_masterMeets)), (q_t_came, .inl (cy 1, 36, .inl t_came)), (q_t_left, .inl (cy 1, 36, .inl t_left)), (q_t_burgh_masterCorner, .inl (cy 1, 6, .inl t_burgh_masterCorner)), (q_t_burgh_masterClock, .inl (cy 1, 6, .inl t_burgh_masterClock)), (q_t_due, .inl (cy 1, 6, .inl t_due)), (q_t_burgh_masterLate, .inl (cy 1, 6, .inl t_burgh_masterLate))]
theorem iX3_passDrawn_X1 : ∀ w ∈ wsX10, w ∈ wsX3_passDrawn := fun _ h => List.mem_cons_of_mem _ (List.mem_append_right _ h)
theorem iX3_passDrawn_X3 : ∀ w ∈ wsX30, w ∈ wsX3_passDrawn := fun _ h => List.mem_cons_of_mem _ (List.mem_append_left _ (List.mem_append_right _ h))
abbrev rm_X3_passDrawn : Room := { frames := 5, cells := 0, slots := 0, locals := 117 }
set_option maxRecDepth 100000 in
def f_X3_passDrawn_77 (N : Nat) (t_burgh_clocks : Int32) (t_burgh_masters : Int32) (t_burgh_meets : Int32) (t_burgh_clockGain : Nat → Int32) (t_burgh_masterMeets : Nat → Int32) (t_burgh_masterCorner : Nat → Int32) (t_burgh_masterClock : Nat → Int32) (t_due : Nat → Int32) (t_burgh_masterLate : Nat → Int32) (k_164 : Int32 → Int32 → Int32 → Int32 → Int32 → Int32 → Int32 → (Nat → Int32) → (Nat → Int32) → (Nat → Int32) → (Nat → Int32) → (Nat → Int32) → (Option (Int32 × Int32 × Int32 × Int32 × (Nat → Int32) × (Nat → Int32) × (Nat → Int32) × (Nat → Int32) × (Nat → Int32)))) (x1 : Int32) (x3 : Int32) (x4 : Int32) (x5 : Int32) (x6 : Int32) (c_t_minute : Int32) (c_t_out : Int32) (c_t_stopped : Int32) (c_t_stood : Nat → Int32) (c_t_ahead : Nat → Int32) (c_t_since : Nat → Int32) (c_t_came : Nat → Int32) (c_t_left : Nat → Int32) : Option (Int32 × Int32 × Int32 × Int32 × (Nat → Int32) × (Nat → Int32) × (Nat → Int32) × (Nat → Int32) × (Nat → Int32)) := if x6 = 1 then (if t_burgh_clocks ≤ 0 then (k_164 x1 x3 x4 x5 c_t_minute c_t_out c_t_stopped c_t_stood c_t_ahead c_t_since c_t_came c_t_left) else (if t_burgh_masters ≤ 0 then (k_164 x1 x3 x4 x5 c_t_minute c_t_out c_t_stopped c_t_stood c_t_ahead c_t_since c_t_came c_t_left) else (zcl (f_X3_nextSeed N x4) fun z105 => zcl (f_X3_drawOf N z105 t_burgh_masters) fun z119 => zcl (f_X3_nextSeed N z105) fun z126 => zcl (f_X3_drawOf N z126 t_burgh_clocks) fun z140 => zcl (f_X3_whyNotSet N z119 z140 c_t_out c_t_stopped) fun z150 => if z150 = 0 then (zcl (f_X3_adjust N z119 z140 c_t_minute t_burgh_masterLate c_t_ahead c_t_since) fun z161 => k_164 x1 x3 z126 x5 c_t_minute c_t_out c_t_stopped c_t_stood z161.1 z161.2 c_t_came c_t_left) else (k_164 x1 x3 z126 x5 c_t_minute c_t_out c_t_stopped c_t_stood c_t_ahead c_t_since c_t_came c_t_left)))) else (k_164 x1 x3 x4 x5 c_t_minute c_t_out c_t_stopped c_t_stood c_t_ahead c_t_since c_t_came c_t_left)
set_option maxRecDepth 100000 in
def f_X3_passDrawn_164 (N : Nat) (t_burgh_clocks : Int32) (t_burgh_masters : Int32) (t_burgh_meets : Int32) (t_burgh_clockGain : Nat → Int32) (t_burgh_masterMeets : Nat → Int32) (t_burgh_masterCorner : Nat → Int32) (t_burgh_masterClock : Nat → Int32) (t_due : Nat → Int32) (t_burgh_masterLate : Nat → Int32) (k_8 : Int32 → Int32 → Int32 → Int32 → Int32 → Int32 → Int32 → (Nat → Int32) → (Nat → Int32) → (Nat → Int32) → (Nat → Int32) → (Nat → Int32) → (Option (Int32 × Int32 × Int32 × Int32 × (Nat → Int32) × (Nat → Int32) × (Nat → Int32) × (Nat → Int32) × (Nat → Int32)))) (x1 : Int32) (x3 : Int32) (x4 : Int32) (x5 : Int32) (c_t_minute : Int32) (c_t_out : Int32) (c_t_stopped : Int32) (c_t_stood : Nat → Int32) (c_t_ahead : Nat → Int32) (c_t_since : Nat → Int32) (c_t_came : Nat → Int32) (c_t_left : Nat → Int32) : Option (Int32 × Int32 × Int32 × Int32 × (Nat → Int32) × (Nat → Int32) × (Nat → Int32) × (Nat → Int32) × (Nat → Int32)) := zcl (f_X3_pass N 60 c_t_minute c_t_out c_t_stopped t_burgh_masters t_burgh_meets t_burgh_masterMeets c_t_came c_t_left t_burgh_masterCorner t_burgh_masterClock t_due t_burgh_masterLate c_t_stood c_t_ahead t_burgh_clockGain c_t_since) fun z168 => zbn ((x3 + z168.1)) fun y1 => zbn (x5 + 1) fun y2 => k_8 x1 y1 x4 y2 z168.2.1 z168.2.2.1 c_t_stopped c_t_stood c_t_ahead c_t_since z168.2.2.2.1 z168.2.2.2.2
set_option maxRecDepth 100000 in
def f_X3_passDrawn_8 (N : Nat) (t_burgh_clocks : Int32) (t_burgh_masters : Int32) (t_burgh_meets : Int32) (t_burgh_clockGain : Nat → Int32) (t_burgh_masterMeets : Nat → Int32) (t_burgh_masterCorner : Nat → Int32) (t_burgh_masterClock : Nat → Int32) (t_due : Nat → Int32) (t_burgh_masterLate : Nat → Int32) : Nat → Int32 → Int32 → Int32 → Int32 → Int32 → Int32 → Int32 → (Nat → Int32) → (Nat → Int32) → (Nat → Int32) → (Nat → Int32) → (Nat → Int32) → (Option (Int32 × Int32 × Int32 × Int32 × (Nat → Int32) × (Nat → Int32) × (Nat → Int32) × (Nat → Int32) × (Nat → Int32)))
  | 0, _, _, _, _, _, _, _, _, _, _, _, _ => none
  | n + 1, x1, x3, x4, x5, c_t_minute, c_t_out, c_t_stopped, c_t_stood, c_t_ahead, c_t_since, c_t_came, c_t_left => if x1 ≤ x5 then (some (x3, c_t_minute, c_t_out, c_t_stopped, c_t_stood, c_t_ahead, c_t_since, c_t_came, c_t_left)) else (zcl (f_X3_minutesLeft N c_t_minute) fun z15 => if z15 ≤ 0 then (some (x3, c_t_minute, c_t_out, c_t_stopped, c_t_stood, c_t_ahead, c_t_since, c_t_came, c_t_left)) else (zcl (f_X3_nextSeed N x4) fun z23 => zcl (f_X3_drawOf N z23 4) fun z31 => if z31 = 0 then (if t_burgh_clocks ≤ 0 then (f_X3_passDrawn_77 N t_burgh_clocks t_burgh_masters t_burgh_meets t_burgh_clockGain t_burgh_masterMeets t_burgh_masterCorner t_burgh_masterClock t_due t_burgh_masterLate (f_X3_passDrawn_164 N t_burgh_clocks t_burgh_masters t_burgh_meets t_burgh_clockGain t_burgh_masterMeets t_burgh_masterCorner t_burgh_masterClock t_due t_burgh_masterLate (f_X3_passDrawn_8 N t_burgh_clocks t_burgh_masters t_burgh_meets t_burgh_clockGain t_burgh_masterMeets t_burgh_masterCorner t_burgh_masterClock t_due t_burgh_masterLate n)) x1 x3 z23 x5 z31 c_t_minute c_t_out c_t_stopped c_t_stood c_t_ahead c_t_since c_t_came c_t_left) else (zcl (f_X3_nextSeed N z23) fun z53 => zcl (f_X3_drawOf N z53 t_burgh_clocks) fun z68 => zcl (f_X3_toggle N z68 c_t_minute c_t_stopped c_t_stood c_t_ahead t_burgh_clockGain c_t_since) fun z71 => f_X3_passDrawn_164 N t_burgh_clocks t_burgh_masters t_burgh_meets t_burgh_clockGain t_burgh_masterMeets t_burgh_masterCorner t_burgh_masterClock t_due t_burgh_masterLate (f_X3_passDrawn_8 N t_burgh_clocks t_burgh_masters t_burgh_meets t_burgh_clockGain t_burgh_masterMeets t_burgh_masterCorner t_burgh_masterClock t_due t_burgh_masterLate n) x1 x3 z53 x5 c_t_minute c_t_out z71.1 z71.2.1 z71.2.2.1 z71.2.2.2 c_t_came c_t_left)) else (f_X3_passDrawn_77 N t_burgh_clocks t_burgh_masters t_burgh_meets t_burgh_clockGain t_burgh_masterMeets t_burgh_masterCorner t_burgh_masterClock t_due t_burgh_masterLate (f_X3_passDrawn_164 N t_burgh_clocks t_burgh_masters t_burgh_meets t_burgh_clockGain t_burgh_masterMeets t_burgh_masterCorner t_burgh_masterClock t_due t_burgh_masterLate (f_X3_passDrawn_8 N t_burgh_clocks t_burgh_masters t_burgh_meets t_burgh_clockGain t_burgh_masterMeets t_burgh_masterCorner t_burgh_masterClock t_due t_burgh_masterLate n)) x1 x3 z23 x5 z31 c_t_minute c_t_out c_t_stopped c_t_stood c_t_ahead c_t_since c_t_came c_t_left)))
set_option maxRecDepth 100000 in
def f_X3_passDrawn (N : Nat) (x0 : Int32) (x1 : Int32) (t_minute : Int32) (t_out : Int32) (t_stopped : Int32) (t_burgh_clocks : Int32) (t_burgh_masters : Int32) (t_burgh_meets : Int32) (t_stood : Nat → Int32) (t_ahead : Nat → Int32) (t_burgh_clockGain : Nat → Int32) (t_since : Nat → Int32) (t_burgh_masterMeets : Nat → Int32) (t_came : Nat → Int32) (t_left : Nat → Int32) (t_burgh_masterCorner : Nat → Int32) (t_burgh_masterClock : Nat → Int32) (t_due : Nat → Int32) (t_burgh_masterLate : Nat → Int32) : Option (Int32 × Int32 × Int32 × Int32 × (Nat → Int32) × (Nat → Int32) × (Nat → Int32) × (Nat → Int32) × (Nat → Int32)) := f_X3_passDrawn_8 N t_burgh_clocks t_burgh_masters t_burgh_meets t_burgh_clockGain t_burgh_masterMeets t_burgh_masterCorner t_burgh_masterClock t_due t_burgh_masterLate N x0 0 x1 0 t_minute t_out t_stopped t_stood t_ahead t_since t_came t_left
set_option maxHeartbeats 4000000 in
set_option maxRecDepth 100000 in
theorem w_X3_passDrawn_77 {p : Program} {l : Launch} {e : Env} {s : State} {m : MethodId} {args : Array Value} {below : List Frame} {meth : Method} {c : Code} {G : va_G} {cy : Nat → ClassId} {E : List (Nat × Cell)} {w0 : va_W} {N : Nat} {q_t q_t_burgh q_t_ahead q_t_since q_t_stood q_t_due q_t_left q_t_came q_t_burgh_clockName q_t_burgh_clockCorner q_t_burgh_clockAhead q_t_burgh_clockGain q_t_burgh_masterName q_t_burgh_masterCorner q_t_burgh_masterLate q_t_burgh_masterClock q_t_burgh_masterMeets q_t_burgh_meetName q_t_burgh_meetDue : Nat} {t_burgh_clocks : Int32} {t_burgh_masters : Int32} {t_burgh_meets : Int32} {t_burgh_patience : Int32} {t_burgh_clockGain : Nat → Int32} {t_burgh_masterMeets : Nat → Int32} {t_burgh_masterCorner : Nat → Int32} {t_burgh_masterClock : Nat → Int32} {t_due : Nat → Int32} {t_burgh_masterLate : Nat → Int32} {r : Int32} {r_t_minute : Int32} {r_t_out : Int32} {r_t_stopped : Int32} {r_t_stood : Nat → Int32} {r_t_ahead : Nat → Int32} {r_t_since : Nat → Int32} {r_t_came : Nat → Int32} {r_t_left : Nat → Int32} {k_164 : Int32 → Int32 → Int32 → Int32 → Int32 → Int32 → Int32 → (Nat → Int32) → (Nat → Int32) → (Nat → Int32) → (Nat → Int32) → (Nat → Int32) → (Option (Int32 × Int32 × Int32 × Int32 × (Nat → Int32) × (Nat → Int32) × (Nat → Int32) × (Nat → Int32) × (Nat → Int32)))} (S : CallFix p m c cX3_passDrawn 9 s args wsX3_passDrawn RX3) (hr : meth.sig.returnType = some .int) (hlocks : meth.locks = false) (hF : zF G cy E (va_A w0 s.heap.size) s) (hk_164 : ∀ (x1 : Int32) (x3 : Int32) (x4 : Int32) (x5 : Int32) (c_t_minute : Int32) (c_t_out : Int32) (c_t_stopped : Int32) (c_t_stood : Nat → Int32) (c_t_ahead : Nat → Int32) (c_t_since : Nat → Int32) (c_t_came : Nat → Int32) (c_t_left : Nat → Int32) (H : Heap) (locs : List Loc) (ls : Array Slot), zH G (va_A w0 s.heap.size) s H locs (wd_X3_passDrawn cy q_t q_t_burgh q_t_ahead q_t_since q_t_stood q_t_due q_t_left q_t_came q_t_burgh_clockName q_t_burgh_clockCorner q_t_burgh_clockAhead q_t_burgh_clockGain q_t_burgh_masterName q_t_burgh_masterCorner q_t_burgh_masterLate q_t_burgh_masterClock q_t_burgh_masterMeets q_t_burgh_meetName q_t_burgh_meetDue c_t_minute c_t_out c_t_stopped t_burgh_clocks t_burgh_masters t_burgh_meets t_burgh_patience c_t_stood c_t_ahead t_burgh_clockGain c_t_since t_burgh_masterMeets c_t_came c_t_left t_burgh_masterCorner t_burgh_masterClock t_due t_burgh_masterLate) → lv_has ls 9 [(0, .ref q_t), (1, .int x1), (3, .int x3), (4, .int x4), (5, .int x5)] → k_164 x1 x3 x4 x5 c_t_minute c_t_out c_t_stopped c_t_stood c_t_ahead c_t_since c_t_came c_t_left = some (r, r_t_minute, r_t_out, r_t_stopped, r_t_stood, r_t_ahead, r_t_since, r_t_came, r_t_left) → W p l e rm_X3_passDrawn s m args below meth c H locs 0 0 (MQ below (zQ G w0 (wd_X3_passDrawn cy q_t q_t_burgh q_t_ahead q_t_since q_t_stood q_t_due q_t_left q_t_came q_t_burgh_clockName q_t_burgh_clockCorner q_t_burgh_clockAhead q_t_burgh_clockGain q_t_burgh_masterName q_t_burgh_masterCorner q_t_burgh_masterLate q_t_burgh_masterClock q_t_burgh_masterMeets q_t_burgh_meetName q_t_burgh_meetDue r_t_minute r_t_out r_t_stopped t_burgh_clocks t_burgh_masters t_burgh_meets t_burgh_patience r_t_stood r_t_ahead t_burgh_clockGain r_t_since t_burgh_masterMeets r_t_came r_t_left t_burgh_masterCorner t_burgh_masterClock t_due t_burgh_masterLate) s.heap.size (some (.int r))) args s 0 0 (va_A w0 s.heap.size)) (F0 m 164 ls [])) :
    ∀ (x1 : Int32) (x3 : Int32) (x4 : Int32) (x5 : Int32) (x6 : Int32) (c_t_minute : Int32) (c_t_out : Int32) (c_t_stopped : Int32) (c_t_stood : Nat → Int32) (c_t_ahead : Nat → Int32) (c_t_since : Nat → Int32) (c_t_came : Nat → Int32) (c_t_left : Nat → Int32) (H : Heap) (locs : List Loc) (ls : Array Slot), zH G (va_A w0 s.heap.size) s H locs (wd_X3_passDrawn cy q_t q_t_burgh q_t_ahead q_t_since q_t_stood q_t_due q_t_left q_t_came q_t_burgh_clockName q_t_burgh_clockCorner q_t_burgh_clockAhead q_t_burgh_clockGain q_t_burgh_masterName q_t_burgh_masterCorner q_t_burgh_masterLate q_t_burgh_masterClock q_t_burgh_masterMeets q_t_burgh_meetName q_t_burgh_meetDue c_t_minute c_t_out c_t_stopped t_burgh_clocks t_burgh_masters t_burgh_meets t_burgh_patience c_t_stood c_t_ahead t_burgh_clockGain c_t_since t_burgh_masterMeets c_t_came c_t_left t_burgh_masterCorner t_burgh_masterClock t_due t_burgh_masterLate) → lv_has ls 9 [(0, .ref q_t), (1, .int x1), (3, .int x3), (4, .int x4), (5, .int x5), (6, .int x6)] → f_X3_passDrawn_77 N t_burgh_clocks t_burgh_masters t_burgh_meets t_burgh_clockGain t_burgh_masterMeets t_burgh_masterCorner t_burgh_masterClock t_due t_burgh_masterLate k_164 x1 x3 x4 x5 x6 c_t_minute c_t_out c_t_stopped c_t_stood c_t_ahead c_t_since c_t_came c_t_left = some (r, r_t_minute, r_t_out, r_t_stopped, r_t_stood, r_t_ahead, r_t_since, r_t_came, r_t_left) → W p l e rm_X3_passDrawn s m args below meth c H locs 0 0 (MQ below (zQ G w0 (wd_X3_passDrawn cy q_t q_t_burgh q_t_ahead q_t_since q_t_stood q_t_due q_t_left q_t_came q_t_burgh_clockName q_t_burgh_clockCorner q_t_burgh_clockAhead q_t_burgh_clockGain q_t_burgh_masterName q_t_burgh_masterCorner q_t_burgh_masterLate q_t_burgh_masterClock q_t_burgh_masterMeets q_t_burgh_meetName q_t_burgh_meetDue r_t_minute r_t_out r_t_stopped t_burgh_clocks t_burgh_masters t_burgh_meets t_burgh_patience r_t_stood r_t_ahead t_burgh_clockGain r_t_since t_burgh_masterMeets r_t_came r_t_left t_burgh_masterCorner t_burgh_masterClock t_due t_burgh_masterLate) s.heap.size (some (.int r))) args s 0 0 (va_A w0 s.heap.size)) (F0 m 77 ls []) := by
  obtain ⟨hx, hb, hml, hown, hts⟩ := id S
  intro x1 x3 x4 x5 x6 c_t_minute c_t_out c_t_stopped c_t_stood c_t_ahead c_t_since c_t_came c_t_left H locs ls hH hl h
  rw [f_X3_passDrawn_77] at h
  refine lv_iload hx hb dX3_passDrawn_77 (lv_at hl 5 rfl) ?_
  refine lv_iconst (v := 1) hx hb dX3_passDrawn_79 (by decide) ?_
  refine lv_icmp_ne (tgt := 164) hx hb dX3_passDrawn_80 (by decide) (fun b80 => ?_) (fun b80 => ?_)
  · replace h := zif_f b80 h
    exact hk_164 x1 x3 x4 x5 c_t_minute c_t_out c_t_stopped c_t_stood c_t_ahead c_t_since c_t_came c_t_left _ _ _ hH (lv_sub hl [0, 1, 2, 3, 4] rfl) h
  · replace h := zif_t b80 h
    refine lv_aload_n hx hb dX3_passDrawn_83 rfl (lv_at hl 0 rfl) ?_
    refine z_get S hF hH iX3_passDrawn_X3 0 rfl rfl 0 (by decide) (List.mem_of_getElem? (i := 1) rfl) rfl dX3_passDrawn_84 ?_
    refine z_get S hF hH iX3_passDrawn_X1 1 rfl rfl 0 (by decide) (List.mem_of_getElem? (i := 2) rfl) rfl dX3_passDrawn_87 ?_
    refine lv_if_le (tgt := 164) hx hb dX3_passDrawn_90 (by decide) (fun b90 => ?_) (fun b90 => ?_)
    · replace h := zif_t b90 h
      exact hk_164 x1 x3 x4 x5 c_t_minute c_t_out c_t_stopped c_t_stood c_t_ahead c_t_since c_t_came c_t_left _ _ _ hH (lv_sub hl [0, 1, 2, 3, 4] rfl) h
    · replace h := zif_f b90 h
      refine lv_aload_n hx hb dX3_passDrawn_93 rfl (lv_at hl 0 rfl) ?_
      refine z_get S hF hH iX3_passDrawn_X3 0 rfl rfl 0 (by decide) (List.mem_of_getElem? (i := 1) rfl) rfl dX3_passDrawn_94 ?_
      refine z_get S hF hH iX3_passDrawn_X1 1 rfl rfl 1 (by decide) (List.mem_of_getElem? (i := 3) rfl) rfl dX3_passDrawn_97 ?_
      refine lv_if_le (tgt := 164) hx hb dX3_passDrawn_100 (by decide) (fun b100 => ?_) (fun b100 => ?_)
      · replace h := zif_t b100 h
        exact hk_164 x1 x3 x4 x5 c_t_minute c_t_out c_t_stopped c_t_stood c_t_ahead c_t_since c_t_came c_t_left _ _ _ hH (lv_sub hl [0, 1, 2, 3, 4] rfl) h
      · replace h := zif_f b100 h
        refine lv_iload hx hb dX3_passDrawn_103 (lv_at hl 3 rfl) ?_
        obtain ⟨z105, hz105, h⟩ := zcl_e h
        refine z_callS (As := [.int x4]) (rest := []) (st1 := [.int z105]) (ws' := (wd_X3_passDrawn cy q_t q_t_burgh q_t_ahead q_t_since q_t_stood q_t_due q_t_left q_t_came q_t_burgh_clockName q_t_burgh_clockCorner q_t_burgh_clockAhead q_t_burgh_clockGain q_t_burgh_masterName q_t_burgh_masterCorner q_t_burgh_masterLate q_t_burgh_masterClock q_t_burgh_masterMeets q_t_burgh_meetName q_t_burgh_meetDue c_t_minute c_t_out c_t_stopped t_burgh_clocks t_burgh_masters t_burgh_meets t_burgh_patience c_t_stood c_t_ahead t_burgh_clockGain c_t_since t_burgh_masterMeets c_t_came c_t_left t_burgh_masterCorner t_burgh_masterClock t_due t_burgh_masterLate)) S hF hH (c_X3_nextSeed l G cy E N x4 z105 hz105) (cwS 1 hts gX3_passDrawn_X3_nextSeed rfl rfl rfl (by decide +kernel) ⟨Nat.le_of_ble_eq_true rfl, Nat.le_of_ble_eq_true rfl⟩) [] [0, 1, 2, 3, 4, 5, 6, 7, 8, 9, 10, 11, 12] [0, 1, 2, 3, 4, 5, 6, 7, 8, 9, 10, 11, 12] rfl rfl (by decide) (by decide) (by decide) (by decide) rfl rfl rfl rfl hl.1 (Nat.le_of_ble_eq_true rfl) dX3_passDrawn_105 ⟨Nat.le_of_ble_eq_true rfl, Nat.le_of_ble_eq_true rfl⟩ (fun H locs hH => ?_)
        refine lv_istore (lv' := [(4, .int z105), (0, .ref q_t), (1, .int x1), (3, .int x3), (5, .int x5), (6, .int x6)]) hx hb dX3_passDrawn_108 hl (by decide) rfl (fun ls hl => ?_)
        refine lv_iload hx hb dX3_passDrawn_110 (lv_at hl 0 rfl) ?_
        refine lv_aload_n hx hb dX3_passDrawn_112 rfl (lv_at hl 1 rfl) ?_
        refine z_get S hF hH iX3_passDrawn_X3 0 rfl rfl 0 (by decide) (List.mem_of_getElem? (i := 1) rfl) rfl dX3_passDrawn_113 ?_
        refine z_get S hF hH iX3_passDrawn_X1 1 rfl rfl 1 (by decide) (List.mem_of_getElem? (i := 3) rfl) rfl dX3_passDrawn_116 ?_
        obtain ⟨z119, hz119, h⟩ := zcl_e h
        refine z_callS (As := [.int z105, .int t_burgh_masters]) (rest := []) (st1 := [.int z119]) (ws' := (wd_X3_passDrawn cy q_t q_t_burgh q_t_ahead q_t_since q_t_stood q_t_due q_t_left q_t_came q_t_burgh_clockName q_t_burgh_clockCorner q_t_burgh_clockAhead q_t_burgh_clockGain q_t_burgh_masterName q_t_burgh_masterCorner q_t_burgh_masterLate q_t_burgh_masterClock q_t_burgh_masterMeets q_t_burgh_meetName q_t_burgh_meetDue c_t_minute c_t_out c_t_stopped t_burgh_clocks t_burgh_masters t_burgh_meets t_burgh_patience c_t_stood c_t_ahead t_burgh_clockGain c_t_since t_burgh_masterMeets c_t_came c_t_left t_burgh_masterCorner t_burgh_masterClock t_due t_burgh_masterLate)) S hF hH (c_X3_drawOf l G cy E N z105 t_burgh_masters z119 hz119) (cwS 2 hts gX3_passDrawn_X3_drawOf rfl rfl rfl (by decide +kernel) ⟨Nat.le_of_ble_eq_true rfl, Nat.le_of_ble_eq_true rfl⟩) [] [0, 1, 2, 3, 4, 5, 6, 7, 8, 9, 10, 11, 12] [0, 1, 2, 3, 4, 5, 6, 7, 8, 9, 10, 11, 12] rfl rfl (by decide) (by decide) (by decide) (by decide) rfl rfl rfl rfl hl.1 (Nat.le_of_ble_eq_true rfl) dX3_passDrawn_119 ⟨Nat.le_of_ble_eq_true rfl, Nat.le_of_ble_eq_true rfl⟩ (fun H locs hH => ?_)
        refine lv_istore (lv' := [(7, .int z119), (4, .int z105), (0, .ref q_t), (1, .int x1), (3, .int x3), (5, .int x5), (6, .int x6)]) hx hb dX3_passDrawn_122 hl (by decide) rfl (fun ls hl => ?_)
        refine lv_iload hx hb dX3_passDrawn_124 (lv_at hl 1 rfl) ?_
        obtain ⟨z126, hz126, h⟩ := zcl_e h
        refine z_callS (As := [.int z105]) (rest := []) (st1 := [.int z126]) (ws' := (wd_X3_passDrawn cy q_t q_t_burgh q_t_ahead q_t_since q_t_stood q_t_due q_t_left q_t_came q_t_burgh_clockName q_t_burgh_clockCorner q_t_burgh_clockAhead q_t_burgh_clockGain q_t_burgh_masterName q_t_burgh_masterCorner q_t_burgh_masterLate q_t_burgh_masterClock q_t_burgh_masterMeets q_t_burgh_meetName q_t_burgh_meetDue c_t_minute c_t_out c_t_stopped t_burgh_clocks t_burgh_masters t_burgh_meets t_burgh_patience c_t_stood c_t_ahead t_burgh_clockGain c_t_since t_burgh_masterMeets c_t_came c_t_left t_burgh_masterCorner t_burgh_masterClock t_due t_burgh_masterLate)) S hF hH (c_X3_nextSeed l G cy E N z105 z126 hz126) (cwS 1 hts gX3_passDrawn_X3_nextSeed rfl rfl rfl (by decide +kernel) ⟨Nat.le_of_ble_eq_true rfl, Nat.le_of_ble_eq_true rfl⟩) [] [0, 1, 2, 3, 4, 5, 6, 7, 8, 9, 10, 11, 12] [0, 1, 2, 3, 4, 5, 6, 7, 8, 9, 10, 11, 12] rfl rfl (by decide) (by decide) (by decide) (by decide) rfl rfl rfl rfl hl.1 (Nat.le_of_ble_eq_true rfl) dX3_passDrawn_126 ⟨Nat.le_of_ble_eq_true rfl, Nat.le_of_ble_eq_true rfl⟩ (fun H locs hH => ?_)
        refine lv_istore (lv' := [(4, .int z126), (7, .int z119), (0, .ref q_t), (1, .int x1), (3, .int x3), (5, .int x5), (6, .int x6)]) hx hb dX3_passDrawn_129 hl (by decide) rfl (fun ls hl => ?_)
        refine lv_iload hx hb dX3_passDrawn_131 (lv_at hl 0 rfl) ?_
        refine lv_aload_n hx hb dX3_passDrawn_133 rfl (lv_at hl 2 rfl) ?_
        refine z_get S hF hH iX3_passDrawn_X3 0 rfl rfl 0 (by decide) (List.mem_of_getElem? (i := 1) rfl) rfl dX3_passDrawn_134 ?_
        refine z_get S hF hH iX3_passDrawn_X1 1 rfl rfl 0 (by decide) (List.mem_of_getElem? (i := 2) rfl) rfl dX3_passDrawn_137 ?_
        obtain ⟨z140, hz140, h⟩ := zcl_e h
        refine z_callS (As := [.int z126, .int t_burgh_clocks]) (rest := []) (st1 := [.int z140]) (ws' := (wd_X3_passDrawn cy q_t q_t_burgh q_t_ahead q_t_since q_t_stood q_t_due q_t_left q_t_came q_t_burgh_clockName q_t_burgh_clockCorner q_t_burgh_clockAhead q_t_burgh_clockGain q_t_burgh_masterName q_t_burgh_masterCorner q_t_burgh_masterLate q_t_burgh_masterClock q_t_burgh_masterMeets q_t_burgh_meetName q_t_burgh_meetDue c_t_minute c_t_out c_t_stopped t_burgh_clocks t_burgh_masters t_burgh_meets t_burgh_patience c_t_stood c_t_ahead t_burgh_clockGain c_t_since t_burgh_masterMeets c_t_came c_t_left t_burgh_masterCorner t_burgh_masterClock t_due t_burgh_masterLate)) S hF hH (c_X3_drawOf l G cy E N z126 t_burgh_clocks z140 hz140) (cwS 2 hts gX3_passDrawn_X3_drawOf rfl rfl rfl (by decide +kernel) ⟨Nat.le_of_ble_eq_true rfl, Nat.le_of_ble_eq_true rfl⟩) [] [0, 1, 2, 3, 4, 5, 6, 7, 8, 9, 10, 11, 12] [0, 1, 2, 3, 4, 5, 6, 7, 8, 9, 10, 11, 12] rfl rfl (by decide) (by decide) (by decide) (by decide) rfl rfl rfl rfl hl.1 (Nat.le_of_ble_eq_true rfl) dX3_passDrawn_140 ⟨Nat.le_of_ble_eq_true rfl, Nat.le_of_ble_eq_true rfl⟩ (fun H locs hH => ?_)
        refine lv_istore (lv' := [(8, .int z140), (4, .int z126), (7, .int z119), (0, .ref q_t), (1, .int x1), (3, .int x3), (5, .int x5), (6, .int x6)]) hx hb dX3_passDrawn_143 hl (by decide) rfl (fun ls hl => ?_)
        refine lv_aload_n hx hb dX3_passDrawn_145 rfl (lv_at hl 3 rfl) ?_
        refine lv_iload hx hb dX3_passDrawn_146 (lv_at hl 2 rfl) ?_
        refine lv_iload hx hb dX3_passDrawn_148 (lv_at hl 0 rfl) ?_
        obtain ⟨z150, hz150, h⟩ := zcl_e h
        refine z_callV (As := [.int z119, .int z140]) (rest := []) (st1 := [.int z150]) (ws' := (wd_X3_passDrawn cy q_t q_t_burgh q_t_ahead q_t_since q_t_stood q_t_due q_t_left q_t_came q_t_burgh_clockName q_t_burgh_clockCorner q_t_burgh_clockAhead q_t_burgh_clockGain q_t_burgh_masterName q_t_burgh_masterCorner q_t_burgh_masterLate q_t_burgh_masterClock q_t_burgh_masterMeets q_t_burgh_meetName q_t_burgh_meetDue c_t_minute c_t_out c_t_stopped t_burgh_clocks t_burgh_masters t_burgh_meets t_burgh_patience c_t_stood c_t_ahead t_burgh_clockGain c_t_since t_burgh_masterMeets c_t_came c_t_left t_burgh_masterCorner t_burgh_masterClock t_due t_burgh_masterLate)) S hF hH (c_X3_whyNotSet l G cy E N q_t q_t_burgh q_t_ahead q_t_since q_t_stood q_t_due q_t_left q_t_came c_t_minute c_t_out c_t_stopped z119 z140 z150 hz150) (cwV 2 hts gX3_passDrawn_X3_whyNotSet rfl rfl rfl (by decide +kernel) ⟨Nat.le_of_ble_eq_true rfl, Nat.le_of_ble_eq_true rfl⟩) 4 0 rfl rfl [0] [1, 2, 3, 4, 5, 6, 7, 8, 9, 10, 11, 12] [12, 0, 1, 2, 3, 4, 5, 6, 7, 8, 9, 10, 11] rfl rfl (by decide) (by decide) (by decide) (by decide) rfl rfl rfl rfl hl.1 (Nat.le_of_ble_eq_true rfl) dX3_passDrawn_150 ⟨Nat.le_of_ble_eq_true rfl, Nat.le_of_ble_eq_true rfl⟩ (fun H locs hH => ?_)
        refine lv_if_ne (tgt := 164) hx hb dX3_passDrawn_153 (by decide) (fun b153 => ?_) (fun b153 => ?_)
        · replace h := zif_f b153 h
          exact hk_164 x1 x3 z126 x5 c_t_minute c_t_out c_t_stopped c_t_stood c_t_ahead c_t_since c_t_came c_t_left _ _ _ hH (lv_sub hl [3, 4, 5, 1, 6] rfl) h
        · replace h := zif_t b153 h
          refine lv_aload_n hx hb dX3_passDrawn_156 rfl (lv_at hl 3 rfl) ?_
          refine lv_iload hx hb dX3_passDrawn_157 (lv_at hl 2 rfl) ?_
          refine lv_iload hx hb dX3_passDrawn_159 (lv_at hl 0 rfl) ?_
          obtain ⟨z161, hz161, h⟩ := zcl_e h
          refine z_callV (As := [.int z119, .int z140]) (rest := []) (st1 := []) (ws' := (wd_X3_passDrawn cy q_t q_t_burgh q_t_ahead q_t_since q_t_stood q_t_due q_t_left q_t_came q_t_burgh_clockName q_t_burgh_clockCorner q_t_burgh_clockAhead q_t_burgh_clockGain q_t_burgh_masterName q_t_burgh_masterCorner q_t_burgh_masterLate q_t_burgh_masterClock q_t_burgh_masterMeets q_t_burgh_meetName q_t_burgh_meetDue c_t_minute c_t_out c_t_stopped t_burgh_clocks t_burgh_masters t_burgh_meets t_burgh_patience c_t_stood z161.1 t_burgh_clockGain z161.2 t_burgh_masterMeets c_t_came c_t_left t_burgh_masterCorner t_burgh_masterClock t_due t_burgh_masterLate)) S hF hH (c_X3_adjust l G cy E N q_t q_t_burgh q_t_ahead q_t_since q_t_stood q_t_due q_t_left q_t_came q_t_burgh_clockName q_t_burgh_clockCorner q_t_burgh_clockAhead q_t_burgh_clockGain q_t_burgh_masterName q_t_burgh_masterCorner q_t_burgh_masterLate q_t_burgh_masterClock q_t_burgh_masterMeets q_t_burgh_meetName q_t_burgh_meetDue c_t_minute c_t_out c_t_stopped t_burgh_clocks t_burgh_masters t_burgh_meets t_burgh_patience t_burgh_masterLate c_t_ahead c_t_since z119 z140 z161.1 z161.2 hz161) (cwV 2 hts gX3_passDrawn_X3_adjust rfl rfl rfl (by decide +kernel) ⟨Nat.le_of_ble_eq_true rfl, Nat.le_of_ble_eq_true rfl⟩) 4 0 rfl rfl [0, 1, 12, 3, 5] [2, 4, 6, 7, 8, 9, 10, 11] [8, 9, 0, 11, 1, 12, 2, 3, 4, 5, 6, 7, 10] rfl rfl (by decide) (by decide) (by decide) (by decide) rfl rfl rfl rfl hl.1 (Nat.le_of_ble_eq_true rfl) dX3_passDrawn_161 ⟨Nat.le_of_ble_eq_true rfl, Nat.le_of_ble_eq_true rfl⟩ (fun H locs hH => ?_)
          exact hk_164 x1 x3 z126 x5 c_t_minute c_t_out c_t_stopped c_t_stood z161.1 z161.2 c_t_came c_t_left _ _ _ hH (lv_sub hl [3, 4, 5, 1, 6] rfl) h
set_option maxHeartbeats 4000000 in
set_option maxRecDepth 100000 in
theorem w_X3_passDrawn_164 {p : Program} {l : Launch} {e : Env} {s : State} {m : MethodId} {args : Array Value} {below : List Frame} {meth : Method} {c : Code} {G : va_G} {cy : Nat → ClassId} {E : List (Nat × Cell)} {w0 : va_W} {N : Nat} {q_t q_t_burgh q_t_ahead q_t_since q_t_stood q_t_due q_t_left q_t_came q_t_burgh_clockName q_t_burgh_clockCorner q_t_burgh_clockAhead q_t_burgh_clockGain q_t_burgh_masterName q_t_burgh_masterCorner q_t_burgh_masterLate q_t_burgh_masterClock q_t_burgh_masterMeets q_t_burgh_meetName q_t_burgh_meetDue : Nat} {t_burgh_clocks : Int32} {t_burgh_masters : Int32} {t_burgh_meets : Int32} {t_burgh_patience : Int32} {t_burgh_clockGain : Nat → Int32} {t_burgh_masterMeets : Nat → Int32} {t_burgh_masterCorner : Nat → Int32} {t_burgh_masterClock : Nat → Int32} {t_due : Nat → Int32} {t_burgh_masterLate : Nat → Int32} {r : Int32} {r_t_minute : Int32} {r_t_out : Int32} {r_t_stopped : Int32} {r_t_stood : Nat → Int32} {r_t_ahead : Nat → Int32} {r_t_since : Nat → Int32} {r_t_came : Nat → Int32} {r_t_left : Nat → Int32} {k_8 : Int32 → Int32 → Int32 → Int32 → Int32 → Int32 → Int32 → (Nat → Int32) → (Nat → Int32) → (Nat → Int32) → (Nat → Int32) → (Nat → Int32) → (Option (Int32 × Int32 × Int32 × Int32 × (Nat → Int32) × (Nat → Int32) × (Nat → Int32) × (Nat → Int32) × (Nat → Int32)))} (S : CallFix p m c cX3_passDrawn 9 s args wsX3_passDrawn RX3) (hr : meth.sig.returnType = some .int) (hlocks : meth.locks = false) (hF : zF G cy E (va_A w0 s.heap.size) s) (hk_8 : ∀ (x1 : Int32) (x3 : Int32) (x4 : Int32) (x5 : Int32) (c_t_minute : Int32) (c_t_out : Int32) (c_t_stopped : Int32) (c_t_stood : Nat → Int32) (c_t_ahead : Nat → Int32) (c_t_since : Nat → Int32) (c_t_came : Nat → Int32) (c_t_left : Nat → Int32) (H : Heap) (locs : List Loc) (ls : Array Slot), zH G (va_A w0 s.heap.size) s H locs (wd_X3_passDrawn cy q_t q_t_burgh q_t_ahead q_t_since q_t_stood q_t_due q_t_left q_t_came q_t_burgh_clockName q_t_burgh_clockCorner q_t_burgh_clockAhead q_t_burgh_clockGain q_t_burgh_masterName q_t_burgh_masterCorner q_t_burgh_masterLate q_t_burgh_masterClock q_t_burgh_masterMeets q_t_burgh_meetName q_t_burgh_meetDue c_t_minute c_t_out c_t_stopped t_burgh_clocks t_burgh_masters t_burgh_meets t_burgh_patience c_t_stood c_t_ahead t_burgh_clockGain c_t_since t_burgh_masterMeets c_t_came c_t_left t_burgh_masterCorner t_burgh_masterClock t_due t_burgh_masterLate) → lv_has ls 9 [(0, .ref q_t), (1, .int x1), (3, .int x3), (4, .int x4), (5, .int x5)] → k_8 x1 x3 x4 x5 c_t_minute c_t_out c_t_stopped c_t_stood c_t_ahead c_t_since c_t_came c_t_left = some (r, r_t_minute, r_t_out, r_t_stopped, r_t_stood, r_t_ahead, r_t_since, r_t_came, r_t_left) → W p l e rm_X3_passDrawn s m args below meth c H locs 0 0 (MQ below (zQ G w0 (wd_X3_passDrawn cy q_t q_t_burgh q_t_ahead q_t_since q_t_stood q_t_due q_t_left q_t_came q_t_burgh_clockName q_t_burgh_clockCorner q_t_burgh_clockAhead q_t_burgh_clockGain q_t_burgh_masterName q_t_burgh_masterCorner q_t_burgh_masterLate q_t_burgh_masterClock q_t_burgh_masterMeets q_t_burgh_meetName q_t_burgh_meetDue r_t_minute r_t_out r_t_stopped t_burgh_clocks t_burgh_masters t_burgh_meets t_burgh_patience r_t_stood r_t_ahead t_burgh_clockGain r_t_since t_burgh_masterMeets r_t_came r_t_left t_burgh_masterCorner t_burgh_masterClock t_due t_burgh_masterLate) s.heap.size (some (.int r))) args s 0 0 (va_A w0 s.heap.size)) (F0 m 8 ls [])) :
    ∀ (x1 : Int32) (x3 : Int32) (x4 : Int32) (x5 : Int32) (c_t_minute : Int32) (c_t_out : Int32) (c_t_stopped : Int32) (c_t_stood : Nat → Int32) (c_t_ahead : Nat → Int32) (c_t_since : Nat → Int32) (c_t_came : Nat → Int32) (c_t_left : Nat → Int32) (H : Heap) (locs : List Loc) (ls : Array Slot), zH G (va_A w0 s.heap.size) s H locs (wd_X3_passDrawn cy q_t q_t_burgh q_t_ahead q_t_since q_t_stood q_t_due q_t_left q_t_came q_t_burgh_clockName q_t_burgh_clockCorner q_t_burgh_clockAhead q_t_burgh_clockGain q_t_burgh_masterName q_t_burgh_masterCorner q_t_burgh_masterLate q_t_burgh_masterClock q_t_burgh_masterMeets q_t_burgh_meetName q_t_burgh_meetDue c_t_minute c_t_out c_t_stopped t_burgh_clocks t_burgh_masters t_burgh_meets t_burgh_patience c_t_stood c_t_ahead t_burgh_clockGain c_t_since t_burgh_masterMeets c_t_came c_t_left t_burgh_masterCorner t_burgh_masterClock t_due t_burgh_masterLate) → lv_has ls 9 [(0, .ref q_t), (1, .int x1), (3, .int x3), (4, .int x4), (5, .int x5)] → f_X3_passDrawn_164 N t_burgh_clocks t_burgh_masters t_burgh_meets t_burgh_clockGain t_burgh_masterMeets t_burgh_masterCorner t_burgh_masterClock t_due t_burgh_masterLate k_8 x1 x3 x4 x5 c_t_minute c_t_out c_t_stopped c_t_stood c_t_ahead c_t_since c_t_came c_t_left = some (r, r_t_minute, r_t_out, r_t_stopped, r_t_stood, r_t_ahead, r_t_since, r_t_came, r_t_left) → W p l e rm_X3_passDrawn s m args below meth c H locs 0 0 (MQ below (zQ G w0 (wd_X3_passDrawn cy q_t q_t_burgh q_t_ahead q_t_since q_t_stood q_t_due q_t_left q_t_came q_t_burgh_clockName q_t_burgh_clockCorner q_t_burgh_clockAhead q_t_burgh_clockGain q_t_burgh_masterName q_t_burgh_masterCorner q_t_burgh_masterLate q_t_burgh_masterClock q_t_burgh_masterMeets q_t_burgh_meetName q_t_burgh_meetDue r_t_minute r_t_out r_t_stopped t_burgh_clocks t_burgh_masters t_burgh_meets t_burgh_patience r_t_stood r_t_ahead t_burgh_clockGain r_t_since t_burgh_masterMeets r_t_came r_t_left t_burgh_masterCorner t_burgh_masterClock t_due t_burgh_masterLate) s.heap.size (some (.int r))) args s 0 0 (va_A w0 s.heap.size)) (F0 m 164 ls []) := by
  obtain ⟨hx, hb, hml, hown, hts⟩ := id S
  intro x1 x3 x4 x5 c_t_minute c_t_out c_t_stopped c_t_stood c_t_ahead c_t_since c_t_came c_t_left H locs ls hH hl h
  rw [f_X3_passDrawn_164] at h
  refine lv_iload_n hx hb dX3_passDrawn_164 rfl (lv_at hl 2 rfl) ?_
  refine lv_aload_n hx hb dX3_passDrawn_165 rfl (lv_at hl 0 rfl) ?_
  refine lv_bipush (v := 60) hx hb dX3_passDrawn_166 (by decide) ?_
  obtain ⟨z168, hz168, h⟩ := zcl_e h
  refine z_callV (As := [.int 60]) (rest := [.int x3]) (st1 := [.int z168.1, .int x3]) (ws' := (wd_X3_passDrawn cy q_t q_t_burgh q_t_ahead q_t_since q_t_stood q_t_due q_t_left q_t_came q_t_burgh_clockName q_t_burgh_clockCorner q_t_burgh_clockAhead q_t_burgh_clockGain q_t_burgh_masterName q_t_burgh_masterCorner q_t_burgh_masterLate q_t_burgh_masterClock q_t_burgh_masterMeets q_t_burgh_meetName q_t_burgh_meetDue z168.2.1 z168.2.2.1 c_t_stopped t_burgh_clocks t_burgh_masters t_burgh_meets t_burgh_patience c_t_stood c_t_ahead t_burgh_clockGain c_t_since t_burgh_masterMeets z168.2.2.2.1 z168.2.2.2.2 t_burgh_masterCorner t_burgh_masterClock t_due t_burgh_masterLate)) S hF hH (c_X3_pass l G cy E N q_t q_t_burgh q_t_ahead q_t_since q_t_stood q_t_due q_t_left q_t_came q_t_burgh_clockName q_t_burgh_clockCorner q_t_burgh_clockAhead q_t_burgh_clockGain q_t_burgh_masterName q_t_burgh_masterCorner q_t_burgh_masterLate q_t_burgh_masterClock q_t_burgh_masterMeets q_t_burgh_meetName q_t_burgh_meetDue c_t_minute c_t_out c_t_stopped t_burgh_clocks t_burgh_masters t_burgh_meets t_burgh_patience t_burgh_masterMeets c_t_came c_t_left t_burgh_masterCorner t_burgh_masterClock t_due t_burgh_masterLate c_t_stood c_t_ahead t_burgh_clockGain c_t_since 60 z168.1 z168.2.1 z168.2.2.1 z168.2.2.2.1 z168.2.2.2.2 hz168) (cwV 1 hts gX3_passDrawn_X3_pass rfl rfl rfl (by decide +kernel) ⟨Nat.le_of_ble_eq_true rfl, Nat.le_of_ble_eq_true rfl⟩) 4 0 rfl rfl [0, 1, 6, 7, 8, 9, 10, 11, 12, 2, 3, 4, 5] [] [0, 1, 9, 10, 11, 12, 2, 3, 4, 5, 6, 7, 8] rfl rfl (by decide) (by decide) (by decide) (by decide) rfl rfl rfl rfl hl.1 (Nat.le_of_ble_eq_true rfl) dX3_passDrawn_168 ⟨Nat.le_of_ble_eq_true rfl, Nat.le_of_ble_eq_true rfl⟩ (fun H locs hH => ?_)
  refine lv_iadd hx hb dX3_passDrawn_171 ?_
  obtain ⟨y1, ey1, h⟩ := zbn_e h
  refine z_top ey1 ?_
  clear ey1
  refine lv_istore_n (lv' := [(3, .int y1), (0, .ref q_t), (1, .int x1), (4, .int x4), (5, .int x5)]) hx hb dX3_passDrawn_172 rfl hl (by decide) rfl (fun ls hl => ?_)
  obtain ⟨y2, ey2, h⟩ := zbn_e h
  refine lv_iinc (v := y2) (lv' := [(5, .int y2), (3, .int y1), (0, .ref q_t), (1, .int x1), (4, .int x4)]) hx hb dX3_passDrawn_173 hl (k := 4) rfl (by rw [ey2]; exact congrArg (fun z => x5 + z) (by decide)) (by decide) rfl (fun ls hl => ?_)
  clear ey2
  refine lv_goto (tgt := 8) hx hb dX3_passDrawn_176 (by decide) ?_
  exact hk_8 x1 y1 x4 y2 z168.2.1 z168.2.2.1 c_t_stopped c_t_stood c_t_ahead c_t_since z168.2.2.2.1 z168.2.2.2.2 _ _ _ hH (lv_sub hl [2, 3, 1, 4, 0] rfl) h
set_option maxHeartbeats 4000000 in
set_option maxRecDepth 100000 in
theorem w_X3_passDrawn_8 {p : Program} {l : Launch} {e : Env} {s : State} {m : MethodId} {args : Array Value} {below : List Frame} {meth : Method} {c : Code} {G : va_G} {cy : Nat → ClassId} {E : List (Nat × Cell)} {w0 : va_W} {N : Nat} {q_t q_t_burgh q_t_ahead q_t_since q_t_stood q_t_due q_t_left q_t_came q_t_burgh_clockName q_t_burgh_clockCorner q_t_burgh_clockAhead q_t_burgh_clockGain q_t_burgh_masterName q_t_burgh_masterCorner q_t_burgh_masterLate q_t_burgh_masterClock q_t_burgh_masterMeets q_t_burgh_meetName q_t_burgh_meetDue : Nat} {t_burgh_clocks : Int32} {t_burgh_masters : Int32} {t_burgh_meets : Int32} {t_burgh_patience : Int32} {t_burgh_clockGain : Nat → Int32} {t_burgh_masterMeets : Nat → Int32} {t_burgh_masterCorner : Nat → Int32} {t_burgh_masterClock : Nat → Int32} {t_due : Nat → Int32} {t_burgh_masterLate : Nat → Int32} {r : Int32} {r_t_minute : Int32} {r_t_out : Int32} {r_t_stopped : Int32} {r_t_stood : Nat → Int32} {r_t_ahead : Nat → Int32} {r_t_since : Nat → Int32} {r_t_came : Nat → Int32} {r_t_left : Nat → Int32} (S : CallFix p m c cX3_passDrawn 9 s args wsX3_passDrawn RX3) (hr : meth.sig.returnType = some .int) (hlocks : meth.locks = false) (hF : zF G cy E (va_A w0 s.heap.size) s) :
    ∀ (n : Nat) (x1 : Int32) (x3 : Int32) (x4 : Int32) (x5 : Int32) (c_t_minute : Int32) (c_t_out : Int32) (c_t_stopped : Int32) (c_t_stood : Nat → Int32) (c_t_ahead : Nat → Int32) (c_t_since : Nat → Int32) (c_t_came : Nat → Int32) (c_t_left : Nat → Int32) (H : Heap) (locs : List Loc) (ls : Array Slot), zH G (va_A w0 s.heap.size) s H locs (wd_X3_passDrawn cy q_t q_t_burgh q_t_ahead q_t_since q_t_stood q_t_due q_t_left q_t_came q_t_burgh_clockName q_t_burgh_clockCorner q_t_burgh_clockAhead q_t_burgh_clockGain q_t_burgh_masterName q_t_burgh_masterCorner q_t_burgh_masterLate q_t_burgh_masterClock q_t_burgh_masterMeets q_t_burgh_meetName q_t_burgh_meetDue c_t_minute c_t_out c_t_stopped t_burgh_clocks t_burgh_masters t_burgh_meets t_burgh_patience c_t_stood c_t_ahead t_burgh_clockGain c_t_since t_burgh_masterMeets c_t_came c_t_left t_burgh_masterCorner t_burgh_masterClock t_due t_burgh_masterLate) → lv_has ls 9 [(0, .ref q_t), (1, .int x1), (3, .int x3), (4, .int x4), (5, .int x5)] → f_X3_passDrawn_8 N t_burgh_clocks t_burgh_masters t_burgh_meets t_burgh_clockGain t_burgh_masterMeets t_burgh_masterCorner t_burgh_masterClock t_due t_burgh_masterLate n x1 x3 x4 x5 c_t_minute c_t_out c_t_stopped c_t_stood c_t_ahead c_t_since c_t_came c_t_left = some (r, r_t_minute, r_t_out, r_t_stopped, r_t_stood, r_t_ahead, r_t_since, r_t_came, r_t_left) → W p l e rm_X3_passDrawn s m args below meth c H locs 0 0 (MQ below (zQ G w0 (wd_X3_passDrawn cy q_t q_t_burgh q_t_ahead q_t_since q_t_stood q_t_due q_t_left q_t_came q_t_burgh_clockName q_t_burgh_clockCorner q_t_burgh_clockAhead q_t_burgh_clockGain q_t_burgh_masterName q_t_burgh_masterCorner q_t_burgh_masterLate q_t_burgh_masterClock q_t_burgh_masterMeets q_t_burgh_meetName q_t_burgh_meetDue r_t_minute r_t_out r_t_stopped t_burgh_clocks t_burgh_masters t_burgh_meets t_burgh_patience r_t_stood r_t_ahead t_burgh_clockGain r_t_since t_burgh_masterMeets r_t_came r_t_left t_burgh_masterCorner t_burgh_masterClock t_due t_burgh_masterLate) s.heap.size (some (.int r))) args s 0 0 (va_A w0 s.heap.size)) (F0 m 8 ls []) := by
  obtain ⟨hx, hb, hml, hown, hts⟩ := id S
  intro n
  induction n with
  | zero =>
    intro x1 x3 x4 x5 c_t_minute c_t_out c_t_stopped c_t_stood c_t_ahead c_t_since c_t_came c_t_left H locs ls hH hl h
    rw [f_X3_passDrawn_8] at h
    cases h
  | succ n ih =>
    intro x1 x3 x4 x5 c_t_minute c_t_out c_t_stopped c_t_stood c_t_ahead c_t_since c_t_came c_t_left H locs ls hH hl h
    rw [f_X3_passDrawn_8] at h
    refine lv_iload hx hb dX3_passDrawn_8 (lv_at hl 4 rfl) ?_
    refine lv_iload_n hx hb dX3_passDrawn_10 rfl (lv_at hl 1 rfl) ?_
    refine lv_icmp_ge (tgt := 179) hx hb dX3_passDrawn_11 (by decide) (fun b11 => ?_) (fun b11 => ?_)
    · replace h := zif_t b11 h
      refine lv_iload_n hx hb dX3_passDrawn_179 rfl (lv_at hl 2 rfl) ?_
      cases h
      exact z_iret S hr hlocks hH dX3_passDrawn_180
    · replace h := zif_f b11 h
      refine lv_aload_n hx hb dX3_passDrawn_14 rfl (lv_at hl 0 rfl) ?_
      obtain ⟨z15, hz15, h⟩ := zcl_e h
      refine z_callV (As := []) (rest := []) (st1 := [.int z15]) (ws' := (wd_X3_passDrawn cy q_t q_t_burgh q_t_ahead q_t_since q_t_stood q_t_due q_t_left q_t_came q_t_burgh_clockName q_t_burgh_clockCorner q_t_burgh_clockAhead q_t_burgh_clockGain q_t_burgh_masterName q_t_burgh_masterCorner q_t_burgh_masterLate q_t_burgh_masterClock q_t_burgh_masterMeets q_t_burgh_meetName q_t_burgh_meetDue c_t_minute c_t_out c_t_stopped t_burgh_clocks t_burgh_masters t_burgh_meets t_burgh_patience c_t_stood c_t_ahead t_burgh_clockGain c_t_since t_burgh_masterMeets c_t_came c_t_left t_burgh_masterCorner t_burgh_masterClock t_due t_burgh_masterLate)) S hF hH (c_X3_minutesLeft l G cy E N q_t q_t_burgh q_t_ahead q_t_since q_t_stood q_t_due q_t_left q_t_came c_t_minute c_t_out c_t_stopped z15 hz15) (cwV 0 hts gX3_passDrawn_X3_minutesLeft rfl rfl rfl (by decide +kernel) ⟨Nat.le_of_ble_eq_true rfl, Nat.le_of_ble_eq_true rfl⟩) 4 0 rfl rfl [0] [1, 2, 3, 4, 5, 6, 7, 8, 9, 10, 11, 12] [12, 0, 1, 2, 3, 4, 5, 6, 7, 8, 9, 10, 11] rfl rfl (by decide) (by decide) (by decide) (by decide) rfl rfl rfl rfl hl.1 (Nat.le_of_ble_eq_true rfl) dX3_passDrawn_15 ⟨Nat.le_of_ble_eq_true rfl, Nat.le_of_ble_eq_true rfl⟩ (fun H locs hH => ?_)
      refine lv_if_le (tgt := 179) hx hb dX3_passDrawn_18 (by decide) (fun b18 => ?_) (fun b18 => ?_)
      · replace h := zif_t b18 h
        refine lv_iload_n hx hb dX3_passDrawn_179 rfl (lv_at hl 2 rfl) ?_
        cases h
        exact z_iret S hr hlocks hH dX3_passDrawn_180
      · replace h := zif_f b18 h
        refine lv_iload hx hb dX3_passDrawn_21 (lv_at hl 3 rfl) ?_
        obtain ⟨z23, hz23, h⟩ := zcl_e h
        refine z_callS (As := [.int x4]) (rest := []) (st1 := [.int z23]) (ws' := (wd_X3_passDrawn cy q_t q_t_burgh q_t_ahead q_t_since q_t_stood q_t_due q_t_left q_t_came q_t_burgh_clockName q_t_burgh_clockCorner q_t_burgh_clockAhead q_t_burgh_clockGain q_t_burgh_masterName q_t_burgh_masterCorner q_t_burgh_masterLate q_t_burgh_masterClock q_t_burgh_masterMeets q_t_burgh_meetName q_t_burgh_meetDue c_t_minute c_t_out c_t_stopped t_burgh_clocks t_burgh_masters t_burgh_meets t_burgh_patience c_t_stood c_t_ahead t_burgh_clockGain c_t_since t_burgh_masterMeets c_t_came c_t_left t_burgh_masterCorner t_burgh_masterClock t_due t_burgh_masterLate)) S hF hH (c_X3_nextSeed l G cy E N x4 z23 hz23) (cwS 1 hts gX3_passDrawn_X3_nextSeed rfl rfl rfl (by decide +kernel) ⟨Nat.le_of_ble_eq_true rfl, Nat.le_of_ble_eq_true rfl⟩) [] [0, 1, 2, 3, 4, 5, 6, 7, 8, 9, 10, 11, 12] [0, 1, 2, 3, 4, 5, 6, 7, 8, 9, 10, 11, 12] rfl rfl (by decide) (by decide) (by decide) (by decide) rfl rfl rfl rfl hl.1 (Nat.le_of_ble_eq_true rfl) dX3_passDrawn_23 ⟨Nat.le_of_ble_eq_true rfl, Nat.le_of_ble_eq_true rfl⟩ (fun H locs hH => ?_)
        refine lv_istore (lv' := [(4, .int z23), (0, .ref q_t), (1, .int x1), (3, .int x3), (5, .int x5)]) hx hb dX3_passDrawn_26 hl (by decide) rfl (fun ls hl => ?_)
        refine lv_iload hx hb dX3_passDrawn_28 (lv_at hl 0 rfl) ?_
        refine lv_iconst (v := 4) hx hb dX3_passDrawn_30 (by decide) ?_
        obtain ⟨z31, hz31, h⟩ := zcl_e h
        refine z_callS (As := [.int z23, .int 4]) (rest := []) (st1 := [.int z31]) (ws' := (wd_X3_passDrawn cy q_t q_t_burgh q_t_ahead q_t_since q_t_stood q_t_due q_t_left q_t_came q_t_burgh_clockName q_t_burgh_clockCorner q_t_burgh_clockAhead q_t_burgh_clockGain q_t_burgh_masterName q_t_burgh_masterCorner q_t_burgh_masterLate q_t_burgh_masterClock q_t_burgh_masterMeets q_t_burgh_meetName q_t_burgh_meetDue c_t_minute c_t_out c_t_stopped t_burgh_clocks t_burgh_masters t_burgh_meets t_burgh_patience c_t_stood c_t_ahead t_burgh_clockGain c_t_since t_burgh_masterMeets c_t_came c_t_left t_burgh_masterCorner t_burgh_masterClock t_due t_burgh_masterLate)) S hF hH (c_X3_drawOf l G cy E N z23 4 z31 hz31) (cwS 2 hts gX3_passDrawn_X3_drawOf rfl rfl rfl (by decide +kernel) ⟨Nat.le_of_ble_eq_true rfl, Nat.le_of_ble_eq_true rfl⟩) [] [0, 1, 2, 3, 4, 5, 6, 7, 8, 9, 10, 11, 12] [0, 1, 2, 3, 4, 5, 6, 7, 8, 9, 10, 11, 12] rfl rfl (by decide) (by decide) (by decide) (by decide) rfl rfl rfl rfl hl.1 (Nat.le_of_ble_eq_true rfl) dX3_passDrawn_31 ⟨Nat.le_of_ble_eq_true rfl, Nat.le_of_ble_eq_true rfl⟩ (fun H locs hH => ?_)
        refine lv_istore (lv' := [(6, .int z31), (4, .int z23), (0, .ref q_t), (1, .int x1), (3, .int x3), (5, .int x5)]) hx hb dX3_passDrawn_34 hl (by decide) rfl (fun ls hl => ?_)
        refine lv_iload hx hb dX3_passDrawn_36 (lv_at hl 0 rfl) ?_
        refine lv_if_ne (tgt := 77) hx hb dX3_passDrawn_38 (by decide) (fun b38 => ?_) (fun b38 => ?_)
        · replace h := zif_f b38 h
          exact w_X3_passDrawn_77 S hr hlocks hF (w_X3_passDrawn_164 S hr hlocks hF ih) x1 x3 z23 x5 z31 c_t_minute c_t_out c_t_stopped c_t_stood c_t_ahead c_t_since c_t_came c_t_left _ _ _ hH (lv_sub hl [2, 3, 4, 1, 5, 0] rfl) h
        · replace h := zif_t b38 h
          refine lv_aload_n hx hb dX3_passDrawn_41 rfl (lv_at hl 2 rfl) ?_
          refine z_get S hF hH iX3_passDrawn_X3 0 rfl rfl 0 (by decide) (List.mem_of_getElem? (i := 1) rfl) rfl dX3_passDrawn_42 ?_
          refine z_get S hF hH iX3_passDrawn_X1 1 rfl rfl 0 (by decide) (List.mem_of_getElem? (i := 2) rfl) rfl dX3_passDrawn_45 ?_
          refine lv_if_le (tgt := 77) hx hb dX3_passDrawn_48 (by decide) (fun b48 => ?_) (fun b48 => ?_)
          · replace h := zif_t b48 h
            exact w_X3_passDrawn_77 S hr hlocks hF (w_X3_passDrawn_164 S hr hlocks hF ih) x1 x3 z23 x5 z31 c_t_minute c_t_out c_t_stopped c_t_stood c_t_ahead c_t_since c_t_came c_t_left _ _ _ hH (lv_sub hl [2, 3, 4, 1, 5, 0] rfl) h
          · replace h := zif_f b48 h
            refine lv_iload hx hb dX3_passDrawn_51 (lv_at hl 1 rfl) ?_
            obtain ⟨z53, hz53, h⟩ := zcl_e h
            refine z_callS (As := [.int z23]) (rest := []) (st1 := [.int z53]) (ws' := (wd_X3_passDrawn cy q_t q_t_burgh q_t_ahead q_t_since q_t_stood q_t_due q_t_left q_t_came q_t_burgh_clockName q_t_burgh_clockCorner q_t_burgh_clockAhead q_t_burgh_clockGain q_t_burgh_masterName q_t_burgh_masterCorner q_t_burgh_masterLate q_t_burgh_masterClock q_t_burgh_masterMeets q_t_burgh_meetName q_t_burgh_meetDue c_t_minute c_t_out c_t_stopped t_burgh_clocks t_burgh_masters t_burgh_meets t_burgh_patience c_t_stood c_t_ahead t_burgh_clockGain c_t_since t_burgh_masterMeets c_t_came c_t_left t_burgh_masterCorner t_burgh_masterClock t_due t_burgh_masterLate)) S hF hH (c_X3_nextSeed l G cy E N z23 z53 hz53) (cwS 1 hts gX3_passDrawn_X3_nextSeed rfl rfl rfl (by decide +kernel) ⟨Nat.le_of_ble_eq_true rfl, Nat.le_of_ble_eq_true rfl⟩) [] [0, 1, 2, 3, 4, 5, 6, 7, 8, 9, 10, 11, 12] [0, 1, 2, 3, 4, 5, 6, 7, 8, 9, 10, 11, 12] rfl rfl (by decide) (by decide) (by decide) (by decide) rfl rfl rfl rfl hl.1 (Nat.le_of_ble_eq_true rfl) dX3_passDrawn_53 ⟨Nat.le_of_ble_eq_true rfl, Nat.le_of_ble_eq_true rfl⟩ (fun H locs hH => ?_)
            refine lv_istore (lv' := [(4, .int z53), (6, .int z31), (0, .ref q_t), (1, .int x1), (3, .int x3), (5, .int x5)]) hx hb dX3_passDrawn_56 hl (by decide) rfl (fun ls hl => ?_)
            refine lv_aload_n hx hb dX3_passDrawn_58 rfl (lv_at hl 2 rfl) ?_
            refine lv_iload hx hb dX3_passDrawn_59 (lv_at hl 0 rfl) ?_
            refine lv_aload_n hx hb dX3_passDrawn_61 rfl (lv_at hl 2 rfl) ?_
            refine z_get S hF hH iX3_passDrawn_X3 0 rfl rfl 0 (by decide) (List.mem_of_getElem? (i := 1) rfl) rfl dX3_passDrawn_62 ?_
            refine z_get S hF hH iX3_passDrawn_X1 1 rfl rfl 0 (by decide) (List.mem_of_getElem? (i := 2) rfl) rfl dX3_passDrawn_65 ?_
            obtain ⟨z68, hz68, h⟩ := zcl_e h
            refine z_callS (As := [.int z53, .int t_burgh_clocks]) (rest := [.ref q_t]) (st1 := [.int z68, .ref q_t]) (ws' := (wd_X3_passDrawn cy q_t q_t_burgh q_t_ahead q_t_since q_t_stood q_t_due q_t_left q_t_came q_t_burgh_clockName q_t_burgh_clockCorner q_t_burgh_clockAhead q_t_burgh_clockGain q_t_burgh_masterName q_t_burgh_masterCorner q_t_burgh_masterLate q_t_burgh_masterClock q_t_burgh_masterMeets q_t_burgh_meetName q_t_burgh_meetDue c_t_minute c_t_out c_t_stopped t_burgh_clocks t_burgh_masters t_burgh_meets t_burgh_patience c_t_stood c_t_ahead t_burgh_clockGain c_t_since t_burgh_masterMeets c_t_came c_t_left t_burgh_masterCorner t_burgh_masterClock t_due t_burgh_masterLate)) S hF hH (c_X3_drawOf l G cy E N z53 t_burgh_clocks z68 hz68) (cwS 2 hts gX3_passDrawn_X3_drawOf rfl rfl rfl (by decide +kernel) ⟨Nat.le_of_ble_eq_true rfl, Nat.le_of_ble_eq_true rfl⟩) [] [0, 1, 2, 3, 4, 5, 6, 7, 8, 9, 10, 11, 12] [0, 1, 2, 3, 4, 5, 6, 7, 8, 9, 10, 11, 12] rfl rfl (by decide) (by decide) (by decide) (by decide) rfl rfl rfl rfl hl.1 (Nat.le_of_ble_eq_true rfl) dX3_passDrawn_68 ⟨Nat.le_of_ble_eq_true rfl, Nat.le_of_ble_eq_true rfl⟩ (fun H locs hH => ?_)
            obtain ⟨z71, hz71, h⟩ := zcl_e h
            refine z_callV (As := [.int z68]) (rest := []) (st1 := []) (ws' := (wd_X3_passDrawn cy q_t q_t_burgh q_t_ahead q_t_since q_t_stood q_t_due q_t_left q_t_came q_t_burgh_clockName q_t_burgh_clockCorner q_t_burgh_clockAhead q_t_burgh_clockGain q_t_burgh_masterName q_t_burgh_masterCorner q_t_burgh_masterLate q_t_burgh_masterClock q_t_burgh_masterMeets q_t_burgh_meetName q_t_burgh_meetDue c_t_minute c_t_out z71.1 t_burgh_clocks t_burgh_masters t_burgh_meets t_burgh_patience z71.2.1 z71.2.2.1 t_burgh_clockGain z71.2.2.2 t_burgh_masterMeets c_t_came c_t_left t_burgh_masterCorner t_burgh_masterClock t_due t_burgh_masterLate)) S hF hH (c_X3_toggle l G cy E N q_t q_t_burgh q_t_ahead q_t_since q_t_stood q_t_due q_t_left q_t_came q_t_burgh_clockName q_t_burgh_clockCorner q_t_burgh_clockAhead q_t_burgh_clockGain q_t_burgh_masterName q_t_burgh_masterCorner q_t_burgh_masterLate q_t_burgh_masterClock q_t_burgh_masterMeets q_t_burgh_meetName q_t_burgh_meetDue c_t_minute c_t_out c_t_stopped c_t_stood c_t_ahead t_burgh_clocks t_burgh_masters t_burgh_meets t_burgh_patience t_burgh_clockGain c_t_since z68 z71.1 z71.2.1 z71.2.2.1 z71.2.2.2 hz71) (cwV 1 hts gX3_passDrawn_X3_toggle rfl rfl rfl (by decide +kernel) ⟨Nat.le_of_ble_eq_true rfl, Nat.le_of_ble_eq_true rfl⟩) 4 0 rfl rfl [0, 2, 3, 1, 4, 5] [6, 7, 8, 9, 10, 11, 12] [7, 10, 8, 9, 11, 12, 0, 1, 2, 3, 4, 5, 6] rfl rfl (by decide) (by decide) (by decide) (by decide) rfl rfl rfl rfl hl.1 (Nat.le_of_ble_eq_true rfl) dX3_passDrawn_71 ⟨Nat.le_of_ble_eq_true rfl, Nat.le_of_ble_eq_true rfl⟩ (fun H locs hH => ?_)
            refine lv_goto (tgt := 164) hx hb dX3_passDrawn_74 (by decide) ?_
            exact w_X3_passDrawn_164 S hr hlocks hF ih x1 x3 z53 x5 c_t_minute c_t_out z71.1 z71.2.1 z71.2.2.1 z71.2.2.2 c_t_came c_t_left _ _ _ hH (lv_sub hl [2, 3, 4, 0, 5] rfl) h
set_option maxHeartbeats 4000000 in
set_option maxRecDepth 100000 in
theorem c_X3_passDrawn (l : Launch) (G : va_G) (cy : Nat → ClassId) (E : List (Nat × Cell)) (N : Nat) (q_t q_t_burgh q_t_ahead q_t_since q_t_stood q_t_due q_t_left q_t_came q_t_burgh_clockName q_t_burgh_clockCorner q_t_burgh_clockAhead q_t_burgh_clockGain q_t_burgh_masterName q_t_burgh_masterCorner q_t_burgh_masterLate q_t_burgh_masterClock q_t_burgh_masterMeets q_t_burgh_meetName q_t_burgh_meetDue : Nat) (t_minute : Int32) (t_out : Int32) (t_stopped : Int32) (t_burgh_clocks : Int32) (t_burgh_masters : Int32) (t_burgh_meets : Int32) (t_burgh_patience : Int32) (t_stood : Nat → Int32) (t_ahead : Nat → Int32) (t_burgh_clockGain : Nat → Int32) (t_since : Nat → Int32) (t_burgh_masterMeets : Nat → Int32) (t_came : Nat → Int32) (t_left : Nat → Int32) (t_burgh_masterCorner : Nat → Int32) (t_burgh_masterClock : Nat → Int32) (t_due : Nat → Int32) (t_burgh_masterLate : Nat → Int32) (x0 : Int32) (x1 : Int32) (r : Int32) (r_t_minute : Int32) (r_t_out : Int32) (r_t_stopped : Int32) (r_t_stood : Nat → Int32) (r_t_ahead : Nat → Int32) (r_t_since : Nat → Int32) (r_t_came : Nat → Int32) (r_t_left : Nat → Int32) (h : f_X3_passDrawn N x0 x1 t_minute t_out t_stopped t_burgh_clocks t_burgh_masters t_burgh_meets t_stood t_ahead t_burgh_clockGain t_since t_burgh_masterMeets t_came t_left t_burgh_masterCorner t_burgh_masterClock t_due t_burgh_masterLate = some (r, r_t_minute, r_t_out, r_t_stopped, r_t_stood, r_t_ahead, r_t_since, r_t_came, r_t_left)) : zM l G cy E yX3_passDrawn wsX3_passDrawn rm_X3_passDrawn [.ref q_t, .int x0, .int x1] (wd_X3_passDrawn cy q_t q_t_burgh q_t_ahead q_t_since q_t_stood q_t_due q_t_left q_t_came q_t_burgh_clockName q_t_burgh_clockCorner q_t_burgh_clockAhead q_t_burgh_clockGain q_t_burgh_masterName q_t_burgh_masterCorner q_t_burgh_masterLate q_t_burgh_masterClock q_t_burgh_masterMeets q_t_burgh_meetName q_t_burgh_meetDue t_minute t_out t_stopped t_burgh_clocks t_burgh_masters t_burgh_meets t_burgh_patience t_stood t_ahead t_burgh_clockGain t_since t_burgh_masterMeets t_came t_left t_burgh_masterCorner t_burgh_masterClock t_due t_burgh_masterLate) (wd_X3_passDrawn cy q_t q_t_burgh q_t_ahead q_t_since q_t_stood q_t_due q_t_left q_t_came q_t_burgh_clockName q_t_burgh_clockCorner q_t_burgh_clockAhead q_t_burgh_clockGain q_t_burgh_masterName q_t_burgh_masterCorner q_t_burgh_masterLate q_t_burgh_masterClock q_t_burgh_masterMeets q_t_burgh_meetName q_t_burgh_meetDue r_t_minute r_t_out r_t_stopped t_burgh_clocks t_burgh_masters t_burgh_meets t_burgh_patience r_t_stood r_t_ahead t_burgh_clockGain r_t_since t_burgh_masterMeets r_t_came r_t_left t_burgh_masterCorner t_burgh_masterClock t_due t_burgh_masterLate) (some (.int r)) 0 0 := by
  refine z_body (cc := cX3_passDrawn) (maxL := 9) (ret := some .int) (by decide) rfl (Nat.le_of_ble_eq_true rfl) ?_
  intro p e s m below meth c ls S hr hlocks hnm hF hH hl
  have S : CallFix p m c cX3_passDrawn 9 s ([.ref q_t, .int x0, .int x1] : List Value).toArray wsX3_passDrawn RX3 := S
  obtain ⟨hx, hb, hml, hown, hts⟩ := id S
  have hl : lv_has ls 9 [(0, .ref q_t), (1, .int x0), (2, .int x1)] := hl
  rw [f_X3_passDrawn] at h
  refine lv_iconst (v := 0) hx hb dX3_passDrawn_0 (by decide) ?_
  refine lv_istore_n (lv' := [(3, .int 0), (0, .ref q_t), (1, .int x0), (2, .int x1)]) hx hb dX3_passDrawn_1 rfl hl (by decide) rfl (fun ls hl => ?_)
  refine lv_iload_n hx hb dX3_passDrawn_2 rfl (lv_at hl 3 rfl) ?_
  refine lv_istore (lv' := [(4, .int x1), (3, .int 0), (0, .ref q_t), (1, .int x0), (2, .int x1)]) hx hb dX3_passDrawn_3 hl (by decide) rfl (fun ls hl => ?_)
  refine lv_iconst (v := 0) hx hb dX3_passDrawn_5 (by decide) ?_
  refine lv_istore (lv' := [(5, .int 0), (4, .int x1), (3, .int 0), (0, .ref q_t), (1, .int x0), (2, .int x1)]) hx hb dX3_passDrawn_6 hl (by decide) rfl (fun ls hl => ?_)
  exact w_X3_passDrawn_8 S hr hlocks hF N x0 0 x1 0 t_minute t_out t_stopped t_stood t_ahead t_since t_came t_left _ _ _ hH (lv_sub hl [3, 4, 2, 1, 0] rfl) h
abbrev wd_X3_meetsIn (cy : Nat → ClassId) (q_t q_p0 q_t_burgh q_t_ahead q_t_since q_t_stood q_t_due q_t_left q_t_came q_t_burgh_clockName q_t_burgh_clockCorner q_t_burgh_clockAhead q_t_burgh_clockGain q_t_burgh_masterName q_t_burgh_masterCorner q_t_burgh_masterLate q_t_burgh_masterClock q_t_burgh_masterMeets q_t_burgh_meetName q_t_burgh_meetDue : Nat) (t_minute : Int32) (t_out : Int32) (t_stopped : Int32) (t_burgh_clocks : Int32) (t_burgh_masters : Int32) (t_burgh_meets : Int32) (t_burgh_patience : Int32) (p0 : Nat → Int32) : va_W := [(q_t, .inr (4, [.ref q_t_burgh, .int t_minute, .int t_out, .int t_stopped, .ref q_t_ahead, .ref q_t_since, .ref q_t_stood, .ref q_t_due, .ref q_t_left, .ref q_t_came])), (q_t_burgh, .inr (2, [.int t_burgh_clocks, .int t_burgh_masters, .int t_burgh_meets, .int t_burgh_patience, .ref q_t_burgh_clockName, .ref q_t_burgh_clockCorner, .ref q_t_burgh_clockAhead, .ref q_t_burgh_clockGain, .ref q_t_burgh_masterName, .ref q_t_burgh_masterCorner, .ref q_t_burgh_masterLate, .ref q_t_burgh_masterClock, .ref q_t_burgh_masterMeets, .ref q_t_burgh_meetName, .ref q_t_burgh_meetDue])), (q_p0, .inl (cy 1, 36, .inl p0))]
theorem iX3_meetsIn_X1 : ∀ w ∈ wsX10, w ∈ wsX3_meetsIn := fun _ h => List.mem_cons_of_mem _ (List.mem_append_right _ h)
theorem iX3_meetsIn_X3 : ∀ w ∈ wsX30, w ∈ wsX3_meetsIn := fun _ h => List.mem_cons_of_mem _ (List.mem_append_left _ (List.mem_append_right _ h))
abbrev rm_X3_meetsIn : Room := { frames := 1, cells := 0, slots := 0, locals := 21 }
set_option maxRecDepth 100000 in
def f_X3_meetsIn_5 (N : Nat) (t_burgh_meets : Int32) (p0 : Nat → Int32) : Nat → Int32 → Int32 → Int32 → Option (Int32)
  | 0, _, _, _ => none
  | n + 1, x2, x3, x4 => if t_burgh_meets ≤ x4 then (some x3) else (zcl (f_X11_slot N x2 x4) fun z21 => zck (zin z21 36) <| if (p0 (Int32.toNatClampNeg z21)) = (-1) then (zbn (x4 + 1) fun y1 => f_X3_meetsIn_5 N t_burgh_meets p0 n x2 x3 y1) else (zbn ((x3 ||| (1 <<< (x4 &&& 31)))) fun y2 => zbn (x4 + 1) fun y3 => f_X3_meetsIn_5 N t_burgh_meets p0 n x2 y2 y3))
set_option maxRecDepth 100000 in
def f_X3_meetsIn (N : Nat) (x1 : Int32) (t_burgh_meets : Int32) (p0 : Nat → Int32) : Option (Int32) := f_X3_meetsIn_5 N t_burgh_meets p0 N x1 0 0
set_option maxHeartbeats 4000000 in
set_option maxRecDepth 100000 in
theorem w_X3_meetsIn_5 {p : Program} {l : Launch} {e : Env} {s : State} {m : MethodId} {args : Array Value} {below : List Frame} {meth : Method} {c : Code} {G : va_G} {cy : Nat → ClassId} {E : List (Nat × Cell)} {w0 : va_W} {N : Nat} {q_t q_p0 q_t_burgh q_t_ahead q_t_since q_t_stood q_t_due q_t_left q_t_came q_t_burgh_clockName q_t_burgh_clockCorner q_t_burgh_clockAhead q_t_burgh_clockGain q_t_burgh_masterName q_t_burgh_masterCorner q_t_burgh_masterLate q_t_burgh_masterClock q_t_burgh_masterMeets q_t_burgh_meetName q_t_burgh_meetDue : Nat} {t_minute : Int32} {t_out : Int32} {t_stopped : Int32} {t_burgh_clocks : Int32} {t_burgh_masters : Int32} {t_burgh_meets : Int32} {t_burgh_patience : Int32} {p0 : Nat → Int32} {r : Int32} (S : CallFix p m c cX3_meetsIn 5 s args wsX3_meetsIn RX3) (hr : meth.sig.returnType = some .int) (hlocks : meth.locks = false) (hF : zF G cy E (va_A w0 s.heap.size) s) :
    ∀ (n : Nat) (x2 : Int32) (x3 : Int32) (x4 : Int32) (H : Heap) (locs : List Loc) (ls : Array Slot), zH G (va_A w0 s.heap.size) s H locs (wd_X3_meetsIn cy q_t q_p0 q_t_burgh q_t_ahead q_t_since q_t_stood q_t_due q_t_left q_t_came q_t_burgh_clockName q_t_burgh_clockCorner q_t_burgh_clockAhead q_t_burgh_clockGain q_t_burgh_masterName q_t_burgh_masterCorner q_t_burgh_masterLate q_t_burgh_masterClock q_t_burgh_masterMeets q_t_burgh_meetName q_t_burgh_meetDue t_minute t_out t_stopped t_burgh_clocks t_burgh_masters t_burgh_meets t_burgh_patience p0) → lv_has ls 5 [(0, .ref q_t), (1, .ref q_p0), (2, .int x2), (3, .int x3), (4, .int x4)] → f_X3_meetsIn_5 N t_burgh_meets p0 n x2 x3 x4 = some r → W p l e rm_X3_meetsIn s m args below meth c H locs 0 0 (MQ below (zQ G w0 (wd_X3_meetsIn cy q_t q_p0 q_t_burgh q_t_ahead q_t_since q_t_stood q_t_due q_t_left q_t_came q_t_burgh_clockName q_t_burgh_clockCorner q_t_burgh_clockAhead q_t_burgh_clockGain q_t_burgh_masterName q_t_burgh_masterCorner q_t_burgh_masterLate q_t_burgh_masterClock q_t_burgh_masterMeets q_t_burgh_meetName q_t_burgh_meetDue t_minute t_out t_stopped t_burgh_clocks t_burgh_masters t_burgh_meets t_burgh_patience p0) s.heap.size (some (.int r))) args s 0 0 (va_A w0 s.heap.size)) (F0 m 5 ls []) := by
  obtain ⟨hx, hb, hml, hown, hts⟩ := id S
  intro n
  induction n with
  | zero =>
    intro x2 x3 x4 H locs ls hH hl h
    rw [f_X3_meetsIn_5] at h
    cases h
  | succ n ih =>
    intro x2 x3 x4 H locs ls hH hl h
    rw [f_X3_meetsIn_5] at h
    refine lv_iload hx hb dX3_meetsIn_5 (lv_at hl 4 rfl) ?_
    refine lv_aload_n hx hb dX3_meetsIn_7 rfl (lv_at hl 0 rfl) ?_
    refine z_get S hF hH iX3_meetsIn_X3 0 rfl rfl 0 (by decide) (List.mem_of_getElem? (i := 1) rfl) rfl dX3_meetsIn_8 ?_
    refine z_get S hF hH iX3_meetsIn_X1 1 rfl rfl 2 (by decide) (List.mem_of_getElem? (i := 2) rfl) rfl dX3_meetsIn_11 ?_
    refine lv_icmp_ge (tgt := 42) hx hb dX3_meetsIn_14 (by decide) (fun b14 => ?_) (fun b14 => ?_)
    · replace h := zif_t b14 h
      refine lv_iload_n hx hb dX3_meetsIn_42 rfl (lv_at hl 3 rfl) ?_
      cases h
      exact z_iret S hr hlocks hH dX3_meetsIn_43
    · replace h := zif_f b14 h
      refine lv_aload_n hx hb dX3_meetsIn_17 rfl (lv_at hl 1 rfl) ?_
      refine lv_iload_n hx hb dX3_meetsIn_18 rfl (lv_at hl 2 rfl) ?_
      refine lv_iload hx hb dX3_meetsIn_19 (lv_at hl 4 rfl) ?_
      obtain ⟨z21, hz21, h⟩ := zcl_e h
      refine z_callSN (As := [.int x2, .int x4]) (rest := [.ref q_p0]) (st1 := [.int z21, .ref q_p0]) (ws' := (wd_X3_meetsIn cy q_t q_p0 q_t_burgh q_t_ahead q_t_since q_t_stood q_t_due q_t_left q_t_came q_t_burgh_clockName q_t_burgh_clockCorner q_t_burgh_clockAhead q_t_burgh_clockGain q_t_burgh_masterName q_t_burgh_masterCorner q_t_burgh_masterLate q_t_burgh_masterClock q_t_burgh_masterMeets q_t_burgh_meetName q_t_burgh_meetDue t_minute t_out t_stopped t_burgh_clocks t_burgh_masters t_burgh_meets t_burgh_patience p0)) S hF hH (c_X11_slot l G cy E N x2 x4 z21 hz21) ⟨va_cnB 2 hts gX3_meetsIn_X11_slot_n131 rfl rfl rfl (hF.2.1 _ (List.mem_of_getElem? (i := 8) rfl)) (hts _ (List.mem_of_getElem? (i := 4) rfl)) (by decide +kernel) ⟨Nat.le_of_ble_eq_true rfl, Nat.le_of_ble_eq_true rfl⟩, hts _ (List.mem_of_getElem? (i := 3) rfl), trivial⟩ [] [0, 1, 2] [0, 1, 2] rfl rfl (by decide) (by decide) (by decide) (by decide) rfl rfl rfl rfl hl.1 (Nat.le_of_ble_eq_true rfl) dX3_meetsIn_21 ⟨Nat.le_of_ble_eq_true rfl, Nat.le_of_ble_eq_true rfl⟩ (fun H locs hH => ?_)
      obtain ⟨h24, h⟩ := zck_e h
      refine z_iald S hF hH 2 rfl h24 dX3_meetsIn_24 ?_
      refine lv_iconst (v := (-1)) hx hb dX3_meetsIn_25 (by decide) ?_
      refine lv_icmp_eq (tgt := 36) hx hb dX3_meetsIn_26 (by decide) (fun b26 => ?_) (fun b26 => ?_)
      · replace h := zif_t b26 h
        obtain ⟨y1, ey1, h⟩ := zbn_e h
        refine lv_iinc (v := y1) (lv' := [(4, .int y1), (0, .ref q_t), (1, .ref q_p0), (2, .int x2), (3, .int x3)]) hx hb dX3_meetsIn_36 hl (k := 4) rfl (by rw [ey1]; exact congrArg (fun z => x4 + z) (by decide)) (by decide) rfl (fun ls hl => ?_)
        clear ey1
        refine lv_goto (tgt := 5) hx hb dX3_meetsIn_39 (by decide) ?_
        exact ih x2 x3 y1 _ _ _ hH (lv_sub hl [1, 2, 3, 4, 0] rfl) h
      · replace h := zif_f b26 h
        refine lv_iload_n hx hb dX3_meetsIn_29 rfl (lv_at hl 3 rfl) ?_
        refine lv_iconst (v := 1) hx hb dX3_meetsIn_30 (by decide) ?_
        refine lv_iload hx hb dX3_meetsIn_31 (lv_at hl 4 rfl) ?_
        refine lv_ishl hx hb dX3_meetsIn_33 ?_
        refine lv_ior hx hb dX3_meetsIn_34 ?_
        obtain ⟨y2, ey2, h⟩ := zbn_e h
        refine z_top ey2 ?_
        clear ey2
        refine lv_istore_n (lv' := [(3, .int y2), (0, .ref q_t), (1, .ref q_p0), (2, .int x2), (4, .int x4)]) hx hb dX3_meetsIn_35 rfl hl (by decide) rfl (fun ls hl => ?_)
        obtain ⟨y3, ey3, h⟩ := zbn_e h
        refine lv_iinc (v := y3) (lv' := [(4, .int y3), (3, .int y2), (0, .ref q_t), (1, .ref q_p0), (2, .int x2)]) hx hb dX3_meetsIn_36 hl (k := 4) rfl (by rw [ey3]; exact congrArg (fun z => x4 + z) (by decide)) (by decide) rfl (fun ls hl => ?_)
        clear ey3
        refine lv_goto (tgt := 5) hx hb dX3_meetsIn_39 (by decide) ?_
        exact ih x2 y2 y3 _ _ _ hH (lv_sub hl [2, 3, 4, 1, 0] rfl) h
set_option maxHeartbeats 4000000 in
set_option maxRecDepth 100000 in
theorem c_X3_meetsIn (l : Launch) (G : va_G) (cy : Nat → ClassId) (E : List (Nat × Cell)) (N : Nat) (q_t q_p0 q_t_burgh q_t_ahead q_t_since q_t_stood q_t_due q_t_left q_t_came q_t_burgh_clockName q_t_burgh_clockCorner q_t_burgh_clockAhead q_t_burgh_clockGain q_t_burgh_masterName q_t_burgh_masterCorner q_t_burgh_masterLate q_t_burgh_masterClock q_t_burgh_masterMeets q_t_burgh_meetName q_t_burgh_meetDue : Nat) (t_minute : Int32) (t_out : Int32) (t_stopped : Int32) (t_burgh_clocks : Int32) (t_burgh_masters : Int32) (t_burgh_meets : Int32) (t_burgh_patience : Int32) (p0 : Nat → Int32) (x1 : Int32) (r : Int32) (h : f_X3_meetsIn N x1 t_burgh_meets p0 = some r) : zM l G cy E yX3_meetsIn wsX3_meetsIn rm_X3_meetsIn [.ref q_t, .ref q_p0, .int x1] (wd_X3_meetsIn cy q_t q_p0 q_t_burgh q_t_ahead q_t_since q_t_stood q_t_due q_t_left q_t_came q_t_burgh_clockName q_t_burgh_clockCorner q_t_burgh_clockAhead q_t_burgh_clockGain q_t_burgh_masterName q_t_burgh_masterCorner q_t_burgh_masterLate q_t_burgh_masterClock q_t_burgh_masterMeets q_t_burgh_meetName q_t_burgh_meetDue t_minute t_out t_stopped t_burgh_clocks t_burgh_masters t_burgh_meets t_burgh_patience p0) (wd_X3_meetsIn cy q_t q_p0 q_t_burgh q_t_ahead q_t_since q_t_stood q_t_due q_t_left q_t_came q_t_burgh_clockName q_t_burgh_clockCorner q_t_burgh_clockAhead q_t_burgh_clockGain q_t_burgh_masterName q_t_burgh_masterCorner q_t_burgh_masterLate q_t_burgh_masterClock q_t_burgh_masterMeets q_t_burgh_meetName q_t_burgh_meetDue t_minute t_out t_stopped t_burgh_clocks t_burgh_masters t_burgh_meets t_burgh_patience p0) (some (.int r)) 0 0 := by
  refine z_body (cc := cX3_meetsIn) (maxL := 5) (ret := some .int) (by decide) rfl (Nat.le_of_ble_eq_true rfl) ?_
  intro p e s m below meth c ls S hr hlocks hnm hF hH hl
  have S : CallFix p m c cX3_meetsIn 5 s ([.ref q_t, .ref q_p0, .int x1] : List Value).toArray wsX3_meetsIn RX3 := S
  obtain ⟨hx, hb, hml, hown, hts⟩ := id S
  have hl : lv_has ls 5 [(0, .ref q_t), (1, .ref q_p0), (2, .int x1)] := hl
  rw [f_X3_meetsIn] at h
  refine lv_iconst (v := 0) hx hb dX3_meetsIn_0 (by decide) ?_
  refine lv_istore_n (lv' := [(3, .int 0), (0, .ref q_t), (1, .ref q_p0), (2, .int x1)]) hx hb dX3_meetsIn_1 rfl hl (by decide) rfl (fun ls hl => ?_)
  refine lv_iconst (v := 0) hx hb dX3_meetsIn_2 (by decide) ?_
  refine lv_istore (lv' := [(4, .int 0), (3, .int 0), (0, .ref q_t), (1, .ref q_p0), (2, .int x1)]) hx hb dX3_meetsIn_3 hl (by decide) rfl (fun ls hl => ?_)
  exact w_X3_meetsIn_5 S hr hlocks hF N x1 0 0 _ _ _ hH (lv_sub hl [2, 3, 4, 1, 0] rfl) h
abbrev wd_X3_cameBy (cy : Nat → ClassId) (q_t q_t_burgh q_t_ahead q_t_since q_t_stood q_t_due q_t_left q_t_came q_t_burgh_clockName q_t_burgh_clockCorner q_t_burgh_clockAhead q_t_burgh_clockGain q_t_burgh_masterName q_t_burgh_masterCorner q_t_burgh_masterLate q_t_burgh_masterClock q_t_burgh_masterMeets q_t_burgh_meetName q_t_burgh_meetDue : Nat) (t_minute : Int32) (t_out : Int32) (t_stopped : Int32) (t_burgh_clocks : Int32) (t_burgh_masters : Int32) (t_burgh_meets : Int32) (t_burgh_patience : Int32) (t_came : Nat → Int32) : va_W := [(q_t, .inr (4, [.ref q_t_burgh, .int t_minute, .int t_out, .int t_stopped, .ref q_t_ahead, .ref q_t_since, .ref q_t_stood, .ref q_t_due, .ref q_t_left, .ref q_t_came])), (q_t_burgh, .inr (2, [.int t_burgh_clocks, .int t_burgh_masters, .int t_burgh_meets, .int t_burgh_patience, .ref q_t_burgh_clockName, .ref q_t_burgh_clockCorner, .ref q_t_burgh_clockAhead, .ref q_t_burgh_clockGain, .ref q_t_burgh_masterName, .ref q_t_burgh_masterCorner, .ref q_t_burgh_masterLate, .ref q_t_burgh_masterClock, .ref q_t_burgh_masterMeets, .ref q_t_burgh_meetName, .ref q_t_burgh_meetDue])), (q_t_came, .inl (cy 1, 36, .inl t_came))]
theorem iX3_cameBy_X1 : ∀ w ∈ wsX10, w ∈ wsX3_cameBy := fun _ h => List.mem_cons_of_mem _ (List.mem_append_right _ h)
theorem iX3_cameBy_X3 : ∀ w ∈ wsX30, w ∈ wsX3_cameBy := fun _ h => List.mem_cons_of_mem _ (List.mem_append_left _ (List.mem_append_right _ h))
abbrev rm_X3_cameBy : Room := { frames := 1, cells := 0, slots := 0, locals := 21 }
set_option maxRecDepth 100000 in
def f_X3_cameBy_5 (N : Nat) (t_burgh_masters : Int32) (t_came : Nat → Int32) : Nat → Int32 → Int32 → Int32 → Int32 → Option (Int32)
  | 0, _, _, _, _ => none
  | n + 1, x1, x2, x3, x4 => if t_burgh_masters ≤ x4 then (some x3) else (zcl (f_X11_slot N x4 x1) fun z24 => zck (zin z24 36) <| zbn ((t_came (Int32.toNatClampNeg z24))) fun y1 => if y1 = (-1) then (zbn (x4 + 1) fun y2 => f_X3_cameBy_5 N t_burgh_masters t_came n x1 x2 x3 y2) else (if x2 < y1 then (zbn (x4 + 1) fun y3 => f_X3_cameBy_5 N t_burgh_masters t_came n x1 x2 x3 y3) else (zbn ((x3 ||| (1 <<< (x4 &&& 31)))) fun y4 => zbn (x4 + 1) fun y5 => f_X3_cameBy_5 N t_burgh_masters t_came n x1 x2 y4 y5)))
set_option maxRecDepth 100000 in
def f_X3_cameBy (N : Nat) (x0 : Int32) (x1 : Int32) (t_burgh_masters : Int32) (t_came : Nat → Int32) : Option (Int32) := f_X3_cameBy_5 N t_burgh_masters t_came N x0 x1 0 0
set_option maxHeartbeats 4000000 in
set_option maxRecDepth 100000 in
theorem w_X3_cameBy_5 {p : Program} {l : Launch} {e : Env} {s : State} {m : MethodId} {args : Array Value} {below : List Frame} {meth : Method} {c : Code} {G : va_G} {cy : Nat → ClassId} {E : List (Nat × Cell)} {w0 : va_W} {N : Nat} {q_t q_t_burgh q_t_ahead q_t_since q_t_stood q_t_due q_t_left q_t_came q_t_burgh_clockName q_t_burgh_clockCorner q_t_burgh_clockAhead q_t_burgh_clockGain q_t_burgh_masterName q_t_burgh_masterCorner q_t_burgh_masterLate q_t_burgh_masterClock q_t_burgh_masterMeets q_t_burgh_meetName q_t_burgh_meetDue : Nat} {t_minute : Int32} {t_out : Int32} {t_stopped : Int32} {t_burgh_clocks : Int32} {t_burgh_masters : Int32} {t_burgh_meets : Int32} {t_burgh_patience : Int32} {t_came : Nat → Int32} {r : Int32} (S : CallFix p m c cX3_cameBy 6 s args wsX3_cameBy RX3) (hr : meth.sig.returnType = some .int) (hlocks : meth.locks = false) (hF : zF G cy E (va_A w0 s.heap.size) s) :
    ∀ (n : Nat) (x1 : Int32) (x2 : Int32) (x3 : Int32) (x4 : Int32) (H : Heap) (locs : List Loc) (ls : Array Slot), zH G (va_A w0 s.heap.size) s H locs (wd_X3_cameBy cy q_t q_t_burgh q_t_ahead q_t_since q_t_stood q_t_due q_t_left q_t_came q_t_burgh_clockName q_t_burgh_clockCorner q_t_burgh_clockAhead q_t_burgh_clockGain q_t_burgh_masterName q_t_burgh_masterCorner q_t_burgh_masterLate q_t_burgh_masterClock q_t_burgh_masterMeets q_t_burgh_meetName q_t_burgh_meetDue t_minute t_out t_stopped t_burgh_clocks t_burgh_masters t_burgh_meets t_burgh_patience t_came) → lv_has ls 6 [(0, .ref q_t), (1, .int x1), (2, .int x2), (3, .int x3), (4, .int x4)] → f_X3_cameBy_5 N t_burgh_masters t_came n x1 x2 x3 x4 = some r → W p l e rm_X3_cameBy s m args below meth c H locs 0 0 (MQ below (zQ G w0 (wd_X3_cameBy cy q_t q_t_burgh q_t_ahead q_t_since q_t_stood q_t_due q_t_left q_t_came q_t_burgh_clockName q_t_burgh_clockCorner q_t_burgh_clockAhead q_t_burgh_clockGain q_t_burgh_masterName q_t_burgh_masterCorner q_t_burgh_masterLate q_t_burgh_masterClock q_t_burgh_masterMeets q_t_burgh_meetName q_t_burgh_meetDue t_minute t_out t_stopped t_burgh_clocks t_burgh_masters t_burgh_meets t_burgh_patience t_came) s.heap.size (some (.int r))) args s 0 0 (va_A w0 s.heap.size)) (F0 m 5 ls []) := by
  obtain ⟨hx, hb, hml, hown, hts⟩ := id S
  intro n
  induction n with
  | zero =>
    intro x1 x2 x3 x4 H locs ls hH hl h
    rw [f_X3_cameBy_5] at h
    cases h
  | succ n ih =>
    intro x1 x2 x3 x4 H locs ls hH hl h
    rw [f_X3_cameBy_5] at h
    refine lv_iload hx hb dX3_cameBy_5 (lv_at hl 4 rfl) ?_
    refine lv_aload_n hx hb dX3_cameBy_7 rfl (lv_at hl 0 rfl) ?_
    refine z_get S hF hH iX3_cameBy_X3 0 rfl rfl 0 (by decide) (List.mem_of_getElem? (i := 1) rfl) rfl dX3_cameBy_8 ?_
    refine z_get S hF hH iX3_cameBy_X1 1 rfl rfl 1 (by decide) (List.mem_of_getElem? (i := 2) rfl) rfl dX3_cameBy_11 ?_
    refine lv_icmp_ge (tgt := 55) hx hb dX3_cameBy_14 (by decide) (fun b14 => ?_) (fun b14 => ?_)
    · replace h := zif_t b14 h
      refine lv_iload_n hx hb dX3_cameBy_55 rfl (lv_at hl 3 rfl) ?_
      cases h
      exact z_iret S hr hlocks hH dX3_cameBy_56
    · replace h := zif_f b14 h
      refine lv_aload_n hx hb dX3_cameBy_17 rfl (lv_at hl 0 rfl) ?_
      refine z_get S hF hH iX3_cameBy_X3 0 rfl rfl 9 (by decide) (List.mem_of_getElem? (i := 3) rfl) rfl dX3_cameBy_18 ?_
      refine lv_iload hx hb dX3_cameBy_21 (lv_at hl 4 rfl) ?_
      refine lv_iload_n hx hb dX3_cameBy_23 rfl (lv_at hl 1 rfl) ?_
      obtain ⟨z24, hz24, h⟩ := zcl_e h
      refine z_callSN (As := [.int x4, .int x1]) (rest := [.ref q_t_came]) (st1 := [.int z24, .ref q_t_came]) (ws' := (wd_X3_cameBy cy q_t q_t_burgh q_t_ahead q_t_since q_t_stood q_t_due q_t_left q_t_came q_t_burgh_clockName q_t_burgh_clockCorner q_t_burgh_clockAhead q_t_burgh_clockGain q_t_burgh_masterName q_t_burgh_masterCorner q_t_burgh_masterLate q_t_burgh_masterClock q_t_burgh_masterMeets q_t_burgh_meetName q_t_burgh_meetDue t_minute t_out t_stopped t_burgh_clocks t_burgh_masters t_burgh_meets t_burgh_patience t_came)) S hF hH (c_X11_slot l G cy E N x4 x1 z24 hz24) ⟨va_cnB 2 hts gX3_cameBy_X11_slot_n131 rfl rfl rfl (hF.2.1 _ (List.mem_of_getElem? (i := 8) rfl)) (hts _ (List.mem_of_getElem? (i := 5) rfl)) (by decide +kernel) ⟨Nat.le_of_ble_eq_true rfl, Nat.le_of_ble_eq_true rfl⟩, hts _ (List.mem_of_getElem? (i := 4) rfl), trivial⟩ [] [0, 1, 2] [0, 1, 2] rfl rfl (by decide) (by decide) (by decide) (by decide) rfl rfl rfl rfl hl.1 (Nat.le_of_ble_eq_true rfl) dX3_cameBy_24 ⟨Nat.le_of_ble_eq_true rfl, Nat.le_of_ble_eq_true rfl⟩ (fun H locs hH => ?_)
      obtain ⟨h27, h⟩ := zck_e h
      refine z_iald S hF hH 2 rfl h27 dX3_cameBy_27 ?_
      obtain ⟨y1, ey1, h⟩ := zbn_e h
      refine z_top ey1 ?_
      clear ey1
      refine lv_istore (lv' := [(5, .int y1), (0, .ref q_t), (1, .int x1), (2, .int x2), (3, .int x3), (4, .int x4)]) hx hb dX3_cameBy_28 hl (by decide) rfl (fun ls hl => ?_)
      refine lv_iload hx hb dX3_cameBy_30 (lv_at hl 0 rfl) ?_
      refine lv_iconst (v := (-1)) hx hb dX3_cameBy_32 (by decide) ?_
      refine lv_icmp_eq (tgt := 49) hx hb dX3_cameBy_33 (by decide) (fun b33 => ?_) (fun b33 => ?_)
      · replace h := zif_t b33 h
        obtain ⟨y2, ey2, h⟩ := zbn_e h
        refine lv_iinc (v := y2) (lv' := [(4, .int y2), (5, .int y1), (0, .ref q_t), (1, .int x1), (2, .int x2), (3, .int x3)]) hx hb dX3_cameBy_49 hl (k := 5) rfl (by rw [ey2]; exact congrArg (fun z => x4 + z) (by decide)) (by decide) rfl (fun ls hl => ?_)
        clear ey2
        refine lv_goto (tgt := 5) hx hb dX3_cameBy_52 (by decide) ?_
        exact ih x1 x2 x3 y2 _ _ _ hH (lv_sub hl [2, 3, 4, 5, 0] rfl) h
      · replace h := zif_f b33 h
        refine lv_iload hx hb dX3_cameBy_36 (lv_at hl 0 rfl) ?_
        refine lv_iload_n hx hb dX3_cameBy_38 rfl (lv_at hl 3 rfl) ?_
        refine lv_icmp_gt (tgt := 49) hx hb dX3_cameBy_39 (by decide) (fun b39 => ?_) (fun b39 => ?_)
        · replace h := zif_t b39 h
          obtain ⟨y3, ey3, h⟩ := zbn_e h
          refine lv_iinc (v := y3) (lv' := [(4, .int y3), (5, .int y1), (0, .ref q_t), (1, .int x1), (2, .int x2), (3, .int x3)]) hx hb dX3_cameBy_49 hl (k := 5) rfl (by rw [ey3]; exact congrArg (fun z => x4 + z) (by decide)) (by decide) rfl (fun ls hl => ?_)
          clear ey3
          refine lv_goto (tgt := 5) hx hb dX3_cameBy_52 (by decide) ?_
          exact ih x1 x2 x3 y3 _ _ _ hH (lv_sub hl [2, 3, 4, 5, 0] rfl) h
        · replace h := zif_f b39 h
          refine lv_iload_n hx hb dX3_cameBy_42 rfl (lv_at hl 4 rfl) ?_
          refine lv_iconst (v := 1) hx hb dX3_cameBy_43 (by decide) ?_
          refine lv_iload hx hb dX3_cameBy_44 (lv_at hl 5 rfl) ?_
          refine lv_ishl hx hb dX3_cameBy_46 ?_
          refine lv_ior hx hb dX3_cameBy_47 ?_
          obtain ⟨y4, ey4, h⟩ := zbn_e h
          refine z_top ey4 ?_
          clear ey4
          refine lv_istore_n (lv' := [(3, .int y4), (5, .int y1), (0, .ref q_t), (1, .int x1), (2, .int x2), (4, .int x4)]) hx hb dX3_cameBy_48 rfl hl (by decide) rfl (fun ls hl => ?_)
          obtain ⟨y5, ey5, h⟩ := zbn_e h
          refine lv_iinc (v := y5) (lv' := [(4, .int y5), (3, .int y4), (5, .int y1), (0, .ref q_t), (1, .int x1), (2, .int x2)]) hx hb dX3_cameBy_49 hl (k := 5) rfl (by rw [ey5]; exact congrArg (fun z => x4 + z) (by decide)) (by decide) rfl (fun ls hl => ?_)
          clear ey5
          refine lv_goto (tgt := 5) hx hb dX3_cameBy_52 (by decide) ?_
          exact ih x1 x2 y4 y5 _ _ _ hH (lv_sub hl [3, 4, 5, 1, 0] rfl) h
set_option maxHeartbeats 4000000 in
set_option maxRecDepth 100000 in
theorem c_X3_cameBy (l : Launch) (G : va_G) (cy : Nat → ClassId) (E : List (Nat × Cell)) (N : Nat) (q_t q_t_burgh q_t_ahead q_t_since q_t_stood q_t_due q_t_left q_t_came q_t_burgh_clockName q_t_burgh_clockCorner q_t_burgh_clockAhead q_t_burgh_clockGain q_t_burgh_masterName q_t_burgh_masterCorner q_t_burgh_masterLate q_t_burgh_masterClock q_t_burgh_masterMeets q_t_burgh_meetName q_t_burgh_meetDue : Nat) (t_minute : Int32) (t_out : Int32) (t_stopped : Int32) (t_burgh_clocks : Int32) (t_burgh_masters : Int32) (t_burgh_meets : Int32) (t_burgh_patience : Int32) (t_came : Nat → Int32) (x0 : Int32) (x1 : Int32) (r : Int32) (h : f_X3_cameBy N x0 x1 t_burgh_masters t_came = some r) : zM l G cy E yX3_cameBy wsX3_cameBy rm_X3_cameBy [.ref q_t, .int x0, .int x1] (wd_X3_cameBy cy q_t q_t_burgh q_t_ahead q_t_since q_t_stood q_t_due q_t_left q_t_came q_t_burgh_clockName q_t_burgh_clockCorner q_t_burgh_clockAhead q_t_burgh_clockGain q_t_burgh_masterName q_t_burgh_masterCorner q_t_burgh_masterLate q_t_burgh_masterClock q_t_burgh_masterMeets q_t_burgh_meetName q_t_burgh_meetDue t_minute t_out t_stopped t_burgh_clocks t_burgh_masters t_burgh_meets t_burgh_patience t_came) (wd_X3_cameBy cy q_t q_t_burgh q_t_ahead q_t_since q_t_stood q_t_due q_t_left q_t_came q_t_burgh_clockName q_t_burgh_clockCorner q_t_burgh_clockAhead q_t_burgh_clockGain q_t_burgh_masterName q_t_burgh_masterCorner q_t_burgh_masterLate q_t_burgh_masterClock q_t_burgh_masterMeets q_t_burgh_meetName q_t_burgh_meetDue t_minute t_out t_stopped t_burgh_clocks t_burgh_masters t_burgh_meets t_burgh_patience t_came) (some (.int r)) 0 0 := by
  refine z_body (cc := cX3_cameBy) (maxL := 6) (ret := some .int) (by decide) rfl (Nat.le_of_ble_eq_true rfl) ?_
  intro p e s m below meth c ls S hr hlocks hnm hF hH hl
  have S : CallFix p m c cX3_cameBy 6 s ([.ref q_t, .int x0, .int x1] : List Value).toArray wsX3_cameBy RX3 := S
  obtain ⟨hx, hb, hml, hown, hts⟩ := id S
  have hl : lv_has ls 6 [(0, .ref q_t), (1, .int x0), (2, .int x1)] := hl
  rw [f_X3_cameBy] at h
  refine lv_iconst (v := 0) hx hb dX3_cameBy_0 (by decide) ?_
  refine lv_istore_n (lv' := [(3, .int 0), (0, .ref q_t), (1, .int x0), (2, .int x1)]) hx hb dX3_cameBy_1 rfl hl (by decide) rfl (fun ls hl => ?_)
  refine lv_iconst (v := 0) hx hb dX3_cameBy_2 (by decide) ?_
  refine lv_istore (lv' := [(4, .int 0), (3, .int 0), (0, .ref q_t), (1, .int x0), (2, .int x1)]) hx hb dX3_cameBy_3 hl (by decide) rfl (fun ls hl => ?_)
  exact w_X3_cameBy_5 S hr hlocks hF N x0 x1 0 0 _ _ _ hH (lv_sub hl [2, 3, 4, 1, 0] rfl) h
abbrev wd_X3_lastComes (cy : Nat → ClassId) (q_t q_t_burgh q_t_ahead q_t_since q_t_stood q_t_due q_t_left q_t_came q_t_burgh_clockName q_t_burgh_clockCorner q_t_burgh_clockAhead q_t_burgh_clockGain q_t_burgh_masterName q_t_burgh_masterCorner q_t_burgh_masterLate q_t_burgh_masterClock q_t_burgh_masterMeets q_t_burgh_meetName q_t_burgh_meetDue : Nat) (t_minute : Int32) (t_out : Int32) (t_stopped : Int32) (t_burgh_clocks : Int32) (t_burgh_masters : Int32) (t_burgh_meets : Int32) (t_burgh_patience : Int32) (t_burgh_masterMeets : Nat → Int32) (t_came : Nat → Int32) : va_W := [(q_t, .inr (4, [.ref q_t_burgh, .int t_minute, .int t_out, .int t_stopped, .ref q_t_ahead, .ref q_t_since, .ref q_t_stood, .ref q_t_due, .ref q_t_left, .ref q_t_came])), (q_t_burgh, .inr (2, [.int t_burgh_clocks, .int t_burgh_masters, .int t_burgh_meets, .int t_burgh_patience, .ref q_t_burgh_clockName, .ref q_t_burgh_clockCorner, .ref q_t_burgh_clockAhead, .ref q_t_burgh_clockGain, .ref q_t_burgh_masterName, .ref q_t_burgh_masterCorner, .ref q_t_burgh_masterLate, .ref q_t_burgh_masterClock, .ref q_t_burgh_masterMeets, .ref q_t_burgh_meetName, .ref q_t_burgh_meetDue])), (q_t_burgh_masterMeets, .inl (cy 1, 6, .inl t_burgh_masterMeets)), (q_t_came, .inl (cy 1, 36, .inl t_came))]
theorem iX3_lastComes_X1 : ∀ w ∈ wsX10, w ∈ wsX3_lastComes := fun _ h => List.mem_cons_of_mem _ (List.mem_append_right _ h)
theorem iX3_lastComes_X3 : ∀ w ∈ wsX30, w ∈ wsX3_lastComes := fun _ h => List.mem_cons_of_mem _ (List.mem_append_left _ (List.mem_append_right _ h))
abbrev rm_X3_lastComes : Room := { frames := 2, cells := 0, slots := 0, locals := 43 }
set_option maxRecDepth 100000 in
def f_X3_lastComes_4 (N : Nat) (t_burgh_masters : Int32) (t_burgh_masterMeets : Nat → Int32) (t_came : Nat → Int32) : Nat → Int32 → Int32 → Int32 → Option (Int32)
  | 0, _, _, _ => none
  | n + 1, x1, x2, x3 => if t_burgh_masters ≤ x3 then (some x2) else (zcl (f_X1_isToCome N x3 x1 t_burgh_masterMeets) fun z21 => if z21 = 0 then (zbn (x3 + 1) fun y1 => f_X3_lastComes_4 N t_burgh_masters t_burgh_masterMeets t_came n x1 x2 y1) else (zcl (f_X11_slot N x3 x1) fun z33 => zck (zin z33 36) <| zbn ((t_came (Int32.toNatClampNeg z33))) fun y2 => if y2 = (-1) then (some (-1)) else (zbn ((zmax x2 y2)) fun y3 => zbn (x3 + 1) fun y4 => f_X3_lastComes_4 N t_burgh_masters t_burgh_masterMeets t_came n x1 y3 y4)))
set_option maxRecDepth 100000 in
def f_X3_lastComes (N : Nat) (x0 : Int32) (t_burgh_masters : Int32) (t_burgh_masterMeets : Nat → Int32) (t_came : Nat → Int32) : Option (Int32) := f_X3_lastComes_4 N t_burgh_masters t_burgh_masterMeets t_came N x0 (-1) 0
set_option maxHeartbeats 4000000 in
set_option maxRecDepth 100000 in
theorem w_X3_lastComes_4 {p : Program} {l : Launch} {e : Env} {s : State} {m : MethodId} {args : Array Value} {below : List Frame} {meth : Method} {c : Code} {G : va_G} {cy : Nat → ClassId} {E : List (Nat × Cell)} {w0 : va_W} {N : Nat} {q_t q_t_burgh q_t_ahead q_t_since q_t_stood q_t_due q_t_left q_t_came q_t_burgh_clockName q_t_burgh_clockCorner q_t_burgh_clockAhead q_t_burgh_clockGain q_t_burgh_masterName q_t_burgh_masterCorner q_t_burgh_masterLate q_t_burgh_masterClock q_t_burgh_masterMeets q_t_burgh_meetName q_t_burgh_meetDue : Nat} {t_minute : Int32} {t_out : Int32} {t_stopped : Int32} {t_burgh_clocks : Int32} {t_burgh_masters : Int32} {t_burgh_meets : Int32} {t_burgh_patience : Int32} {t_burgh_masterMeets : Nat → Int32} {t_came : Nat → Int32} {r : Int32} (S : CallFix p m c cX3_lastComes 5 s args wsX3_lastComes RX3) (hr : meth.sig.returnType = some .int) (hlocks : meth.locks = false) (hF : zF G cy E (va_A w0 s.heap.size) s) :
    ∀ (n : Nat) (x1 : Int32) (x2 : Int32) (x3 : Int32) (H : Heap) (locs : List Loc) (ls : Array Slot), zH G (va_A w0 s.heap.size) s H locs (wd_X3_lastComes cy q_t q_t_burgh q_t_ahead q_t_since q_t_stood q_t_due q_t_left q_t_came q_t_burgh_clockName q_t_burgh_clockCorner q_t_burgh_clockAhead q_t_burgh_clockGain q_t_burgh_masterName q_t_burgh_masterCorner q_t_burgh_masterLate q_t_burgh_masterClock q_t_burgh_masterMeets q_t_burgh_meetName q_t_burgh_meetDue t_minute t_out t_stopped t_burgh_clocks t_burgh_masters t_burgh_meets t_burgh_patience t_burgh_masterMeets t_came) → lv_has ls 5 [(0, .ref q_t), (1, .int x1), (2, .int x2), (3, .int x3)] → f_X3_lastComes_4 N t_burgh_masters t_burgh_masterMeets t_came n x1 x2 x3 = some r → W p l e rm_X3_lastComes s m args below meth c H locs 0 0 (MQ below (zQ G w0 (wd_X3_lastComes cy q_t q_t_burgh q_t_ahead q_t_since q_t_stood q_t_due q_t_left q_t_came q_t_burgh_clockName q_t_burgh_clockCorner q_t_burgh_clockAhead q_t_burgh_clockGain q_t_burgh_masterName q_t_burgh_masterCorner q_t_burgh_masterLate q_t_burgh_masterClock q_t_burgh_masterMeets q_t_burgh_meetName q_t_burgh_meetDue t_minute t_out t_stopped t_burgh_clocks t_burgh_masters t_burgh_meets t_burgh_patience t_burgh_masterMeets t_came) s.heap.size (some (.int r))) args s 0 0 (va_A w0 s.heap.size)) (F0 m 4 ls []) := by
  obtain ⟨hx, hb, hml, hown, hts⟩ := id S
  intro n
  induction n with
  | zero =>
    intro x1 x2 x3 H locs ls hH hl h
    rw [f_X3_lastComes_4] at h
    cases h
  | succ n ih =>
    intro x1 x2 x3 H locs ls hH hl h
    rw [f_X3_lastComes_4] at h
    refine lv_iload_n hx hb dX3_lastComes_4 rfl (lv_at hl 3 rfl) ?_
    refine lv_aload_n hx hb dX3_lastComes_5 rfl (lv_at hl 0 rfl) ?_
    refine z_get S hF hH iX3_lastComes_X3 0 rfl rfl 0 (by decide) (List.mem_of_getElem? (i := 1) rfl) rfl dX3_lastComes_6 ?_
    refine z_get S hF hH iX3_lastComes_X1 1 rfl rfl 1 (by decide) (List.mem_of_getElem? (i := 2) rfl) rfl dX3_lastComes_9 ?_
    refine lv_icmp_ge (tgt := 60) hx hb dX3_lastComes_12 (by decide) (fun b12 => ?_) (fun b12 => ?_)
    · replace h := zif_t b12 h
      refine lv_iload_n hx hb dX3_lastComes_60 rfl (lv_at hl 2 rfl) ?_
      cases h
      exact z_iret S hr hlocks hH dX3_lastComes_61
    · replace h := zif_f b12 h
      refine lv_aload_n hx hb dX3_lastComes_15 rfl (lv_at hl 0 rfl) ?_
      refine z_get S hF hH iX3_lastComes_X3 0 rfl rfl 0 (by decide) (List.mem_of_getElem? (i := 1) rfl) rfl dX3_lastComes_16 ?_
      refine lv_iload_n hx hb dX3_lastComes_19 rfl (lv_at hl 3 rfl) ?_
      refine lv_iload_n hx hb dX3_lastComes_20 rfl (lv_at hl 1 rfl) ?_
      obtain ⟨z21, hz21, h⟩ := zcl_e h
      refine z_callV (As := [.int x3, .int x1]) (rest := []) (st1 := [.int z21]) (ws' := (wd_X3_lastComes cy q_t q_t_burgh q_t_ahead q_t_since q_t_stood q_t_due q_t_left q_t_came q_t_burgh_clockName q_t_burgh_clockCorner q_t_burgh_clockAhead q_t_burgh_clockGain q_t_burgh_masterName q_t_burgh_masterCorner q_t_burgh_masterLate q_t_burgh_masterClock q_t_burgh_masterMeets q_t_burgh_meetName q_t_burgh_meetDue t_minute t_out t_stopped t_burgh_clocks t_burgh_masters t_burgh_meets t_burgh_patience t_burgh_masterMeets t_came)) S hF hH (c_X1_isToCome l G cy E N q_t_burgh q_t_burgh_clockName q_t_burgh_clockCorner q_t_burgh_clockAhead q_t_burgh_clockGain q_t_burgh_masterName q_t_burgh_masterCorner q_t_burgh_masterLate q_t_burgh_masterClock q_t_burgh_masterMeets q_t_burgh_meetName q_t_burgh_meetDue t_burgh_clocks t_burgh_masters t_burgh_meets t_burgh_patience t_burgh_masterMeets x3 x1 z21 hz21) (cwV 2 hts gX3_lastComes_X1_isToCome rfl rfl rfl (by decide +kernel) ⟨Nat.le_of_ble_eq_true rfl, Nat.le_of_ble_eq_true rfl⟩) 2 0 rfl rfl [1, 2] [0, 3] [0, 2, 3, 1] rfl rfl (by decide) (by decide) (by decide) (by decide) rfl rfl rfl rfl hl.1 (Nat.le_of_ble_eq_true rfl) dX3_lastComes_21 ⟨Nat.le_of_ble_eq_true rfl, Nat.le_of_ble_eq_true rfl⟩ (fun H locs hH => ?_)
      refine lv_if_eq (tgt := 54) hx hb dX3_lastComes_24 (by decide) (fun b24 => ?_) (fun b24 => ?_)
      · replace h := zif_t b24 h
        obtain ⟨y1, ey1, h⟩ := zbn_e h
        refine lv_iinc (v := y1) (lv' := [(3, .int y1), (0, .ref q_t), (1, .int x1), (2, .int x2)]) hx hb dX3_lastComes_54 hl (k := 3) rfl (by rw [ey1]; exact congrArg (fun z => x3 + z) (by decide)) (by decide) rfl (fun ls hl => ?_)
        clear ey1
        refine lv_goto (tgt := 4) hx hb dX3_lastComes_57 (by decide) ?_
        exact ih x1 x2 y1 _ _ _ hH (lv_sub hl [1, 2, 3, 0] rfl) h
      · replace h := zif_f b24 h
        refine lv_aload_n hx hb dX3_lastComes_27 rfl (lv_at hl 0 rfl) ?_
        refine z_get S hF hH iX3_lastComes_X3 0 rfl rfl 9 (by decide) (List.mem_of_getElem? (i := 3) rfl) rfl dX3_lastComes_28 ?_
        refine lv_iload_n hx hb dX3_lastComes_31 rfl (lv_at hl 3 rfl) ?_
        refine lv_iload_n hx hb dX3_lastComes_32 rfl (lv_at hl 1 rfl) ?_
        obtain ⟨z33, hz33, h⟩ := zcl_e h
        refine z_callSN (As := [.int x3, .int x1]) (rest := [.ref q_t_came]) (st1 := [.int z33, .ref q_t_came]) (ws' := (wd_X3_lastComes cy q_t q_t_burgh q_t_ahead q_t_since q_t_stood q_t_due q_t_left q_t_came q_t_burgh_clockName q_t_burgh_clockCorner q_t_burgh_clockAhead q_t_burgh_clockGain q_t_burgh_masterName q_t_burgh_masterCorner q_t_burgh_masterLate q_t_burgh_masterClock q_t_burgh_masterMeets q_t_burgh_meetName q_t_burgh_meetDue t_minute t_out t_stopped t_burgh_clocks t_burgh_masters t_burgh_meets t_burgh_patience t_burgh_masterMeets t_came)) S hF hH (c_X11_slot l G cy E N x3 x1 z33 hz33) ⟨va_cnB 2 hts gX3_lastComes_X11_slot_n131 rfl rfl rfl (hF.2.1 _ (List.mem_of_getElem? (i := 8) rfl)) (hts _ (List.mem_of_getElem? (i := 15) rfl)) (by decide +kernel) ⟨Nat.le_of_ble_eq_true rfl, Nat.le_of_ble_eq_true rfl⟩, hts _ (List.mem_of_getElem? (i := 17) rfl), trivial⟩ [] [0, 1, 2, 3] [0, 1, 2, 3] rfl rfl (by decide) (by decide) (by decide) (by decide) rfl rfl rfl rfl hl.1 (Nat.le_of_ble_eq_true rfl) dX3_lastComes_33 ⟨Nat.le_of_ble_eq_true rfl, Nat.le_of_ble_eq_true rfl⟩ (fun H locs hH => ?_)
        obtain ⟨h36, h⟩ := zck_e h
        refine z_iald S hF hH 3 rfl h36 dX3_lastComes_36 ?_
        obtain ⟨y2, ey2, h⟩ := zbn_e h
        refine z_top ey2 ?_
        clear ey2
        refine lv_istore (lv' := [(4, .int y2), (0, .ref q_t), (1, .int x1), (2, .int x2), (3, .int x3)]) hx hb dX3_lastComes_37 hl (by decide) rfl (fun ls hl => ?_)
        refine lv_iload hx hb dX3_lastComes_39 (lv_at hl 0 rfl) ?_
        refine lv_iconst (v := (-1)) hx hb dX3_lastComes_41 (by decide) ?_
        refine lv_icmp_ne (tgt := 47) hx hb dX3_lastComes_42 (by decide) (fun b42 => ?_) (fun b42 => ?_)
        · replace h := zif_f b42 h
          refine lv_iload_n hx hb dX3_lastComes_47 rfl (lv_at hl 3 rfl) ?_
          refine lv_iload hx hb dX3_lastComes_48 (lv_at hl 0 rfl) ?_
          refine z_mmax S hl.1 (List.mem_of_getElem? (i := 4) rfl) (List.mem_of_getElem? (i := 5) rfl) (List.mem_of_getElem? (i := 6) rfl) (List.mem_of_getElem? (i := 7) rfl) (Nat.le_of_ble_eq_true rfl) (Nat.le_of_ble_eq_true rfl) (Nat.le_of_ble_eq_true rfl) (Nat.le_of_ble_eq_true rfl) dX3_lastComes_50 ?_
          obtain ⟨y3, ey3, h⟩ := zbn_e h
          refine z_top ey3 ?_
          clear ey3
          refine lv_istore_n (lv' := [(2, .int y3), (4, .int y2), (0, .ref q_t), (1, .int x1), (3, .int x3)]) hx hb dX3_lastComes_53 rfl hl (by decide) rfl (fun ls hl => ?_)
          obtain ⟨y4, ey4, h⟩ := zbn_e h
          refine lv_iinc (v := y4) (lv' := [(3, .int y4), (2, .int y3), (4, .int y2), (0, .ref q_t), (1, .int x1)]) hx hb dX3_lastComes_54 hl (k := 4) rfl (by rw [ey4]; exact congrArg (fun z => x3 + z) (by decide)) (by decide) rfl (fun ls hl => ?_)
          clear ey4
          refine lv_goto (tgt := 4) hx hb dX3_lastComes_57 (by decide) ?_
          exact ih x1 y3 y4 _ _ _ hH (lv_sub hl [3, 4, 1, 0] rfl) h
        · replace h := zif_t b42 h
          refine lv_iconst (v := (-1)) hx hb dX3_lastComes_45 (by decide) ?_
          cases h
          exact z_iret S hr hlocks hH dX3_lastComes_46
set_option maxHeartbeats 4000000 in
set_option maxRecDepth 100000 in
theorem c_X3_lastComes (l : Launch) (G : va_G) (cy : Nat → ClassId) (E : List (Nat × Cell)) (N : Nat) (q_t q_t_burgh q_t_ahead q_t_since q_t_stood q_t_due q_t_left q_t_came q_t_burgh_clockName q_t_burgh_clockCorner q_t_burgh_clockAhead q_t_burgh_clockGain q_t_burgh_masterName q_t_burgh_masterCorner q_t_burgh_masterLate q_t_burgh_masterClock q_t_burgh_masterMeets q_t_burgh_meetName q_t_burgh_meetDue : Nat) (t_minute : Int32) (t_out : Int32) (t_stopped : Int32) (t_burgh_clocks : Int32) (t_burgh_masters : Int32) (t_burgh_meets : Int32) (t_burgh_patience : Int32) (t_burgh_masterMeets : Nat → Int32) (t_came : Nat → Int32) (x0 : Int32) (r : Int32) (h : f_X3_lastComes N x0 t_burgh_masters t_burgh_masterMeets t_came = some r) : zM l G cy E yX3_lastComes wsX3_lastComes rm_X3_lastComes [.ref q_t, .int x0] (wd_X3_lastComes cy q_t q_t_burgh q_t_ahead q_t_since q_t_stood q_t_due q_t_left q_t_came q_t_burgh_clockName q_t_burgh_clockCorner q_t_burgh_clockAhead q_t_burgh_clockGain q_t_burgh_masterName q_t_burgh_masterCorner q_t_burgh_masterLate q_t_burgh_masterClock q_t_burgh_masterMeets q_t_burgh_meetName q_t_burgh_meetDue t_minute t_out t_stopped t_burgh_clocks t_burgh_masters t_burgh_meets t_burgh_patience t_burgh_masterMeets t_came) (wd_X3_lastComes cy q_t q_t_burgh q_t_ahead q_t_since q_t_stood q_t_due q_t_left q_t_came q_t_burgh_clockName q_t_burgh_clockCorner q_t_burgh_clockAhead q_t_burgh_clockGain q_t_burgh_masterName q_t_burgh_masterCorner q_t_burgh_masterLate q_t_burgh_masterClock q_t_burgh_masterMeets q_t_burgh_meetName q_t_burgh_meetDue t_minute t_out t_stopped t_burgh_clocks t_burgh_masters t_burgh_meets t_burgh_patience t_burgh_masterMeets t_came) (some (.int r)) 0 0 := by
  refine z_body (cc := cX3_lastComes) (maxL := 5) (ret := some .int) (by decide) rfl (Nat.le_of_ble_eq_true rfl) ?_
  intro p e s m below meth c ls S hr hlocks hnm hF hH hl
  have S : CallFix p m c cX3_lastComes 5 s ([.ref q_t, .int x0] : List Value).toArray wsX3_lastComes RX3 := S
  obtain ⟨hx, hb, hml, hown, hts⟩ := id S
  have hl : lv_has ls 5 [(0, .ref q_t), (1, .int x0)] := hl
  rw [f_X3_lastComes] at h
  refine lv_iconst (v := (-1)) hx hb dX3_lastComes_0 (by decide) ?_
  refine lv_istore_n (lv' := [(2, .int (-1)), (0, .ref q_t), (1, .int x0)]) hx hb dX3_lastComes_1 rfl hl (by decide) rfl (fun ls hl => ?_)
  refine lv_iconst (v := 0) hx hb dX3_lastComes_2 (by decide) ?_
  refine lv_istore_n (lv' := [(3, .int 0), (2, .int (-1)), (0, .ref q_t), (1, .int x0)]) hx hb dX3_lastComes_3 rfl hl (by decide) rfl (fun ls hl => ?_)
  exact w_X3_lastComes_4 S hr hlocks hF N x0 (-1) 0 _ _ _ hH (lv_sub hl [2, 3, 1, 0] rfl) h
abbrev rm_J6_bitCount_0f7a4 : Room := { frames := 0, cells := 0, slots := 0, locals := 0 }
set_option maxRecDepth 100000 in
def f_J6_bitCount_0f7a4 (N : Nat) (x0 : Int32) : Option (Int32) := zbn ((x0 - ((zushr x0 1) &&& 1431655765))) fun y1 => zbn (((y1 &&& 858993459) + ((zushr y1 2) &&& 858993459))) fun y2 => zbn (((y2 + (zushr y2 4)) &&& 252645135)) fun y3 => zbn ((y3 + (zushr y3 8))) fun y4 => zbn ((y4 + (zushr y4 16))) fun y5 => some (y5 &&& 63)
set_option maxHeartbeats 4000000 in
set_option maxRecDepth 100000 in
theorem c_J6_bitCount_0f7a4 (l : Launch) (G : va_G) (cy : Nat → ClassId) (E : List (Nat × Cell)) (N : Nat) (x0 : Int32) (r : Int32) (h : f_J6_bitCount_0f7a4 N x0 = some r) : zM l G cy E yJ6_bitCount_0f7a4 wsJ6_bitCount_0f7a4 rm_J6_bitCount_0f7a4 [.int x0] ([] : va_W) ([] : va_W) (some (.int r)) 0 0 := by
  refine z_body (cc := cJ6_bitCount_0f7a4) (maxL := 1) (ret := some .int) (by decide) rfl (Nat.le_of_ble_eq_true rfl) ?_
  intro p e s m below meth c ls S hr hlocks hnm hF hH hl
  have S : CallFix p m c cJ6_bitCount_0f7a4 1 s ([.int x0] : List Value).toArray wsJ6_bitCount_0f7a4 RJ6 := S
  obtain ⟨hx, hb, hml, hown, hts⟩ := id S
  have hl : lv_has ls 1 [(0, .int x0)] := hl
  rw [f_J6_bitCount_0f7a4] at h
  refine lv_iload_n hx hb dJ6_bitCount_0f7a4_0 rfl (lv_at hl 0 rfl) ?_
  refine lv_iload_n hx hb dJ6_bitCount_0f7a4_1 rfl (lv_at hl 0 rfl) ?_
  refine lv_iconst (v := 1) hx hb dJ6_bitCount_0f7a4_2 (by decide) ?_
  refine lv_iushr (v := zushr x0 1) hx hb dJ6_bitCount_0f7a4_3 rfl ?_
  refine lv_ldcw (v := 1431655765) hx hb hown (hts _ (List.mem_of_getElem? (i := 1) rfl)) dJ6_bitCount_0f7a4_4 ?_
  refine lv_iand hx hb dJ6_bitCount_0f7a4_7 ?_
  refine lv_isub hx hb dJ6_bitCount_0f7a4_8 ?_
  obtain ⟨y1, ey1, h⟩ := zbn_e h
  refine z_top ey1 ?_
  clear ey1
  refine lv_istore_n (lv' := [(0, .int y1)]) hx hb dJ6_bitCount_0f7a4_9 rfl hl (by decide) rfl (fun ls hl => ?_)
  refine lv_iload_n hx hb dJ6_bitCount_0f7a4_10 rfl (lv_at hl 0 rfl) ?_
  refine lv_ldcw (v := 858993459) hx hb hown (hts _ (List.mem_of_getElem? (i := 2) rfl)) dJ6_bitCount_0f7a4_11 ?_
  refine lv_iand hx hb dJ6_bitCount_0f7a4_14 ?_
  refine lv_iload_n hx hb dJ6_bitCount_0f7a4_15 rfl (lv_at hl 0 rfl) ?_
  refine lv_iconst (v := 2) hx hb dJ6_bitCount_0f7a4_16 (by decide) ?_
  refine lv_iushr (v := zushr y1 2) hx hb dJ6_bitCount_0f7a4_17 rfl ?_
  refine lv_ldcw (v := 858993459) hx hb hown (hts _ (List.mem_of_getElem? (i := 2) rfl)) dJ6_bitCount_0f7a4_18 ?_
  refine lv_iand hx hb dJ6_bitCount_0f7a4_21 ?_
  refine lv_iadd hx hb dJ6_bitCount_0f7a4_22 ?_
  obtain ⟨y2, ey2, h⟩ := zbn_e h
  refine z_top ey2 ?_
  clear ey2
  refine lv_istore_n (lv' := [(0, .int y2)]) hx hb dJ6_bitCount_0f7a4_23 rfl hl (by decide) rfl (fun ls hl => ?_)
  refine lv_iload_n hx hb dJ6_bitCount_0f7a4_24 rfl (lv_at hl 0 rfl) ?_
  refine lv_iload_n hx hb dJ6_bitCount_0f7a4_25 rfl (lv_at hl 0 rfl) ?_
  refine lv_iconst (v := 4) hx hb dJ6_bitCount_0f7a4_26 (by decide) ?_
  refine lv_iushr (v := zushr y2 4) hx hb dJ6_bitCount_0f7a4_27 rfl ?_
  refine lv_iadd hx hb dJ6_bitCount_0f7a4_28 ?_
  refine lv_ldcw (v := 252645135) hx hb hown (hts _ (List.mem_of_getElem? (i := 3) rfl)) dJ6_bitCount_0f7a4_29 ?_
  refine lv_iand hx hb dJ6_bitCount_0f7a4_32 ?_
  obtain ⟨y3, ey3, h⟩ := zbn_e h
  refine z_top ey3 ?_
  clear ey3
  refine lv_istore_n (lv' := [(0, .int y3)]) hx hb dJ6_bitCount_0f7a4_33 rfl hl (by decide) rfl (fun ls hl => ?_)
  refine lv_iload_n hx hb dJ6_bitCount_0f7a4_34 rfl (lv_at hl 0 rfl) ?_
  refine lv_iload_n hx hb dJ6_bitCount_0f7a4_35 rfl (lv_at hl 0 rfl) ?_
  refine lv_bipush (v := 8) hx hb dJ6_bitCount_0f7a4_36 (by decide) ?_
  refine lv_iushr (v := zushr y3 8) hx hb dJ6_bitCount_0f7a4_38 rfl ?_
  refine lv_iadd hx hb dJ6_bitCount_0f7a4_39 ?_
  obtain ⟨y4, ey4, h⟩ := zbn_e h
  refine z_top ey4 ?_
  clear ey4
  refine lv_istore_n (lv' := [(0, .int y4)]) hx hb dJ6_bitCount_0f7a4_40 rfl hl (by decide) rfl (fun ls hl => ?_)
  refine lv_iload_n hx hb dJ6_bitCount_0f7a4_41 rfl (lv_at hl 0 rfl) ?_
  refine lv_iload_n hx hb dJ6_bitCount_0f7a4_42 rfl (lv_at hl 0 rfl) ?_
  refine lv_bipush (v := 16) hx hb dJ6_bitCount_0f7a4_43 (by decide) ?_
  refine lv_iushr (v := zushr y4 16) hx hb dJ6_bitCount_0f7a4_45 rfl ?_
  refine lv_iadd hx hb dJ6_bitCount_0f7a4_46 ?_
  obtain ⟨y5, ey5, h⟩ := zbn_e h
  refine z_top ey5 ?_
  clear ey5
  refine lv_istore_n (lv' := [(0, .int y5)]) hx hb dJ6_bitCount_0f7a4_47 rfl hl (by decide) rfl (fun ls hl => ?_)
  refine lv_iload_n hx hb dJ6_bitCount_0f7a4_48 rfl (lv_at hl 0 rfl) ?_
  refine lv_bipush (v := 63) hx hb dJ6_bitCount_0f7a4_49 (by decide) ?_
  refine lv_iand hx hb dJ6_bitCount_0f7a4_51 ?_
  cases h
  exact z_iret S hr hlocks hH dJ6_bitCount_0f7a4_52
abbrev wd_X3_howOftenCame (cy : Nat → ClassId) (q_t q_t_burgh q_t_ahead q_t_since q_t_stood q_t_due q_t_left q_t_came q_t_burgh_clockName q_t_burgh_clockCorner q_t_burgh_clockAhead q_t_burgh_clockGain q_t_burgh_masterName q_t_burgh_masterCorner q_t_burgh_masterLate q_t_burgh_masterClock q_t_burgh_masterMeets q_t_burgh_meetName q_t_burgh_meetDue : Nat) (t_minute : Int32) (t_out : Int32) (t_stopped : Int32) (t_burgh_clocks : Int32) (t_burgh_masters : Int32) (t_burgh_meets : Int32) (t_burgh_patience : Int32) (t_came : Nat → Int32) : va_W := [(q_t, .inr (4, [.ref q_t_burgh, .int t_minute, .int t_out, .int t_stopped, .ref q_t_ahead, .ref q_t_since, .ref q_t_stood, .ref q_t_due, .ref q_t_left, .ref q_t_came])), (q_t_burgh, .inr (2, [.int t_burgh_clocks, .int t_burgh_masters, .int t_burgh_meets, .int t_burgh_patience, .ref q_t_burgh_clockName, .ref q_t_burgh_clockCorner, .ref q_t_burgh_clockAhead, .ref q_t_burgh_clockGain, .ref q_t_burgh_masterName, .ref q_t_burgh_masterCorner, .ref q_t_burgh_masterLate, .ref q_t_burgh_masterClock, .ref q_t_burgh_masterMeets, .ref q_t_burgh_meetName, .ref q_t_burgh_meetDue])), (q_t_came, .inl (cy 1, 36, .inl t_came))]
theorem iX3_howOftenCame_X1 : ∀ w ∈ wsX10, w ∈ wsX3_howOftenCame := fun _ h => List.mem_cons_of_mem _ (List.mem_append_right _ h)
theorem iX3_howOftenCame_X3 : ∀ w ∈ wsX30, w ∈ wsX3_howOftenCame := fun _ h => List.mem_cons_of_mem _ (List.mem_append_left _ (List.mem_append_right _ h))
abbrev rm_X3_howOftenCame : Room := { frames := 2, cells := 0, slots := 0, locals := 45 }
set_option maxRecDepth 100000 in
def f_X3_howOftenCame_4 (N : Nat) (t_burgh_masters : Int32) (t_burgh_meets : Int32) (t_came : Nat → Int32) : Nat → Int32 → Int32 → Option (Int32)
  | 0, _, _ => none
  | n + 1, x1, x2 => if t_burgh_meets ≤ x2 then (some x1) else (zcl (f_X3_mastersIn N x2 t_burgh_masters t_came) fun z22 => zcl (f_J6_bitCount_0f7a4 N z22) fun z25 => zbn ((x1 + z25)) fun y1 => zbn (x2 + 1) fun y2 => f_X3_howOftenCame_4 N t_burgh_masters t_burgh_meets t_came n y1 y2)
set_option maxRecDepth 100000 in
def f_X3_howOftenCame (N : Nat) (t_burgh_masters : Int32) (t_burgh_meets : Int32) (t_came : Nat → Int32) : Option (Int32) := f_X3_howOftenCame_4 N t_burgh_masters t_burgh_meets t_came N 0 0
set_option maxHeartbeats 4000000 in
set_option maxRecDepth 100000 in
theorem w_X3_howOftenCame_4 {p : Program} {l : Launch} {e : Env} {s : State} {m : MethodId} {args : Array Value} {below : List Frame} {meth : Method} {c : Code} {G : va_G} {cy : Nat → ClassId} {E : List (Nat × Cell)} {w0 : va_W} {N : Nat} {q_t q_t_burgh q_t_ahead q_t_since q_t_stood q_t_due q_t_left q_t_came q_t_burgh_clockName q_t_burgh_clockCorner q_t_burgh_clockAhead q_t_burgh_clockGain q_t_burgh_masterName q_t_burgh_masterCorner q_t_burgh_masterLate q_t_burgh_masterClock q_t_burgh_masterMeets q_t_burgh_meetName q_t_burgh_meetDue : Nat} {t_minute : Int32} {t_out : Int32} {t_stopped : Int32} {t_burgh_clocks : Int32} {t_burgh_masters : Int32} {t_burgh_meets : Int32} {t_burgh_patience : Int32} {t_came : Nat → Int32} {r : Int32} (S : CallFix p m c cX3_howOftenCame 3 s args wsX3_howOftenCame RX3) (hr : meth.sig.returnType = some .int) (hlocks : meth.locks = false) (hF : zF G cy E (va_A w0 s.heap.size) s) :
    ∀ (n : Nat) (x1 : Int32) (x2 : Int32) (H : Heap) (locs : List Loc) (ls : Array Slot), zH G (va_A w0 s.heap.size) s H locs (wd_X3_howOftenCame cy q_t q_t_burgh q_t_ahead q_t_since q_t_stood q_t_due q_t_left q_t_came q_t_burgh_clockName q_t_burgh_clockCorner q_t_burgh_clockAhead q_t_burgh_clockGain q_t_burgh_masterName q_t_burgh_masterCorner q_t_burgh_masterLate q_t_burgh_masterClock q_t_burgh_masterMeets q_t_burgh_meetName q_t_burgh_meetDue t_minute t_out t_stopped t_burgh_clocks t_burgh_masters t_burgh_meets t_burgh_patience t_came) → lv_has ls 3 [(0, .ref q_t), (1, .int x1), (2, .int x2)] → f_X3_howOftenCame_4 N t_burgh_masters t_burgh_meets t_came n x1 x2 = some r → W p l e rm_X3_howOftenCame s m args below meth c H locs 0 0 (MQ below (zQ G w0 (wd_X3_howOftenCame cy q_t q_t_burgh q_t_ahead q_t_since q_t_stood q_t_due q_t_left q_t_came q_t_burgh_clockName q_t_burgh_clockCorner q_t_burgh_clockAhead q_t_burgh_clockGain q_t_burgh_masterName q_t_burgh_masterCorner q_t_burgh_masterLate q_t_burgh_masterClock q_t_burgh_masterMeets q_t_burgh_meetName q_t_burgh_meetDue t_minute t_out t_stopped t_burgh_clocks t_burgh_masters t_burgh_meets t_burgh_patience t_came) s.heap.size (some (.int r))) args s 0 0 (va_A w0 s.heap.size)) (F0 m 4 ls []) := by
  obtain ⟨hx, hb, hml, hown, hts⟩ := id S
  intro n
  induction n with
  | zero =>
    intro x1 x2 H locs ls hH hl h
    rw [f_X3_howOftenCame_4] at h
    cases h
  | succ n ih =>
    intro x1 x2 H locs ls hH hl h
    rw [f_X3_howOftenCame_4] at h
    refine lv_iload_n hx hb dX3_howOftenCame_4 rfl (lv_at hl 2 rfl) ?_
    refine lv_aload_n hx hb dX3_howOftenCame_5 rfl (lv_at hl 0 rfl) ?_
    refine z_get S hF hH iX3_howOftenCame_X3 0 rfl rfl 0 (by decide) (List.mem_of_getElem? (i := 1) rfl) rfl dX3_howOftenCame_6 ?_
    refine z_get S hF hH iX3_howOftenCame_X1 1 rfl rfl 2 (by decide) (List.mem_of_getElem? (i := 2) rfl) rfl dX3_howOftenCame_9 ?_
    refine lv_icmp_ge (tgt := 36) hx hb dX3_howOftenCame_12 (by decide) (fun b12 => ?_) (fun b12 => ?_)
    · replace h := zif_t b12 h
      refine lv_iload_n hx hb dX3_howOftenCame_36 rfl (lv_at hl 1 rfl) ?_
      cases h
      exact z_iret S hr hlocks hH dX3_howOftenCame_37
    · replace h := zif_f b12 h
      refine lv_iload_n hx hb dX3_howOftenCame_15 rfl (lv_at hl 1 rfl) ?_
      refine lv_aload_n hx hb dX3_howOftenCame_16 rfl (lv_at hl 0 rfl) ?_
      refine lv_aload_n hx hb dX3_howOftenCame_17 rfl (lv_at hl 0 rfl) ?_
      refine z_get S hF hH iX3_howOftenCame_X3 0 rfl rfl 9 (by decide) (List.mem_of_getElem? (i := 3) rfl) rfl dX3_howOftenCame_18 ?_
      refine lv_iload_n hx hb dX3_howOftenCame_21 rfl (lv_at hl 2 rfl) ?_
      obtain ⟨z22, hz22, h⟩ := zcl_e h
      refine z_callV (As := [.ref q_t_came, .int x2]) (rest := [.int x1]) (st1 := [.int z22, .int x1]) (ws' := (wd_X3_howOftenCame cy q_t q_t_burgh q_t_ahead q_t_since q_t_stood q_t_due q_t_left q_t_came q_t_burgh_clockName q_t_burgh_clockCorner q_t_burgh_clockAhead q_t_burgh_clockGain q_t_burgh_masterName q_t_burgh_masterCorner q_t_burgh_masterLate q_t_burgh_masterClock q_t_burgh_masterMeets q_t_burgh_meetName q_t_burgh_meetDue t_minute t_out t_stopped t_burgh_clocks t_burgh_masters t_burgh_meets t_burgh_patience t_came)) S hF hH (c_X3_mastersIn l G cy E N q_t q_t_came q_t_burgh q_t_ahead q_t_since q_t_stood q_t_due q_t_left q_t_came q_t_burgh_clockName q_t_burgh_clockCorner q_t_burgh_clockAhead q_t_burgh_clockGain q_t_burgh_masterName q_t_burgh_masterCorner q_t_burgh_masterLate q_t_burgh_masterClock q_t_burgh_masterMeets q_t_burgh_meetName q_t_burgh_meetDue t_minute t_out t_stopped t_burgh_clocks t_burgh_masters t_burgh_meets t_burgh_patience t_came x2 z22 hz22) (cwV 2 hts gX3_howOftenCame_X3_mastersIn rfl rfl rfl (by decide +kernel) ⟨Nat.le_of_ble_eq_true rfl, Nat.le_of_ble_eq_true rfl⟩) 4 0 rfl rfl [0, 1, 2] [] [0, 1, 2] rfl rfl (by decide) (by decide) (by decide) (by decide) rfl rfl rfl rfl hl.1 (Nat.le_of_ble_eq_true rfl) dX3_howOftenCame_22 ⟨Nat.le_of_ble_eq_true rfl, Nat.le_of_ble_eq_true rfl⟩ (fun H locs hH => ?_)
      obtain ⟨z25, hz25, h⟩ := zcl_e h
      refine z_callS (As := [.int z22]) (rest := [.int x1]) (st1 := [.int z25, .int x1]) (ws' := (wd_X3_howOftenCame cy q_t q_t_burgh q_t_ahead q_t_since q_t_stood q_t_due q_t_left q_t_came q_t_burgh_clockName q_t_burgh_clockCorner q_t_burgh_clockAhead q_t_burgh_clockGain q_t_burgh_masterName q_t_burgh_masterCorner q_t_burgh_masterLate q_t_burgh_masterClock q_t_burgh_masterMeets q_t_burgh_meetName q_t_burgh_meetDue t_minute t_out t_stopped t_burgh_clocks t_burgh_masters t_burgh_meets t_burgh_patience t_came)) S hF hH (c_J6_bitCount_0f7a4 l G cy E N z22 z25 hz25) (va_cwS 1 hts gX3_howOftenCame_J6_bitCount_0f7a4 rfl rfl rfl (by decide +kernel) ⟨Nat.le_of_ble_eq_true rfl, Nat.le_of_ble_eq_true rfl⟩) [] [0, 1, 2] [0, 1, 2] rfl rfl (by decide) (by decide) (by decide) (by decide) rfl rfl rfl rfl hl.1 (Nat.le_of_ble_eq_true rfl) dX3_howOftenCame_25 ⟨Nat.le_of_ble_eq_true rfl, Nat.le_of_ble_eq_true rfl⟩ (fun H locs hH => ?_)
      refine lv_iadd hx hb dX3_howOftenCame_28 ?_
      obtain ⟨y1, ey1, h⟩ := zbn_e h
      refine z_top ey1 ?_
      clear ey1
      refine lv_istore_n (lv' := [(1, .int y1), (0, .ref q_t), (2, .int x2)]) hx hb dX3_howOftenCame_29 rfl hl (by decide) rfl (fun ls hl => ?_)
      obtain ⟨y2, ey2, h⟩ := zbn_e h
      refine lv_iinc (v := y2) (lv' := [(2, .int y2), (1, .int y1), (0, .ref q_t)]) hx hb dX3_howOftenCame_30 hl (k := 2) rfl (by rw [ey2]; exact congrArg (fun z => x2 + z) (by decide)) (by decide) rfl (fun ls hl => ?_)
      clear ey2
      refine lv_goto (tgt := 4) hx hb dX3_howOftenCame_33 (by decide) ?_
      exact ih y1 y2 _ _ _ hH (lv_sub hl [2, 1, 0] rfl) h
set_option maxHeartbeats 4000000 in
set_option maxRecDepth 100000 in
theorem c_X3_howOftenCame (l : Launch) (G : va_G) (cy : Nat → ClassId) (E : List (Nat × Cell)) (N : Nat) (q_t q_t_burgh q_t_ahead q_t_since q_t_stood q_t_due q_t_left q_t_came q_t_burgh_clockName q_t_burgh_clockCorner q_t_burgh_clockAhead q_t_burgh_clockGain q_t_burgh_masterName q_t_burgh_masterCorner q_t_burgh_masterLate q_t_burgh_masterClock q_t_burgh_masterMeets q_t_burgh_meetName q_t_burgh_meetDue : Nat) (t_minute : Int32) (t_out : Int32) (t_stopped : Int32) (t_burgh_clocks : Int32) (t_burgh_masters : Int32) (t_burgh_meets : Int32) (t_burgh_patience : Int32) (t_came : Nat → Int32) (r : Int32) (h : f_X3_howOftenCame N t_burgh_masters t_burgh_meets t_came = some r) : zM l G cy E yX3_howOftenCame wsX3_howOftenCame rm_X3_howOftenCame [.ref q_t] (wd_X3_howOftenCame cy q_t q_t_burgh q_t_ahead q_t_since q_t_stood q_t_due q_t_left q_t_came q_t_burgh_clockName q_t_burgh_clockCorner q_t_burgh_clockAhead q_t_burgh_clockGain q_t_burgh_masterName q_t_burgh_masterCorner q_t_burgh_masterLate q_t_burgh_masterClock q_t_burgh_masterMeets q_t_burgh_meetName q_t_burgh_meetDue t_minute t_out t_stopped t_burgh_clocks t_burgh_masters t_burgh_meets t_burgh_patience t_came) (wd_X3_howOftenCame cy q_t q_t_burgh q_t_ahead q_t_since q_t_stood q_t_due q_t_left q_t_came q_t_burgh_clockName q_t_burgh_clockCorner q_t_burgh_clockAhead q_t_burgh_clockGain q_t_burgh_masterName q_t_burgh_masterCorner q_t_burgh_masterLate q_t_burgh_masterClock q_t_burgh_masterMeets q_t_burgh_meetName q_t_burgh_meetDue t_minute t_out t_stopped t_burgh_clocks t_burgh_masters t_burgh_meets t_burgh_patience t_came) (some (.int r)) 0 0 := by
  refine z_body (cc := cX3_howOftenCame) (maxL := 3) (ret := some .int) (by decide) rfl (Nat.le_of_ble_eq_true rfl) ?_
  intro p e s m below meth c ls S hr hlocks hnm hF hH hl
  have S : CallFix p m c cX3_howOftenCame 3 s ([.ref q_t] : List Value).toArray wsX3_howOftenCame RX3 := S
  obtain ⟨hx, hb, hml, hown, hts⟩ := id S
  have hl : lv_has ls 3 [(0, .ref q_t)] := hl
  rw [f_X3_howOftenCame] at h
  refine lv_iconst (v := 0) hx hb dX3_howOftenCame_0 (by decide) ?_
  refine lv_istore_n (lv' := [(1, .int 0), (0, .ref q_t)]) hx hb dX3_howOftenCame_1 rfl hl (by decide) rfl (fun ls hl => ?_)
  refine lv_iconst (v := 0) hx hb dX3_howOftenCame_2 (by decide) ?_
  refine lv_istore_n (lv' := [(2, .int 0), (1, .int 0), (0, .ref q_t)]) hx hb dX3_howOftenCame_3 rfl hl (by decide) rfl (fun ls hl => ?_)
  exact w_X3_howOftenCame_4 S hr hlocks hF N 0 0 _ _ _ hH (lv_sub hl [2, 1, 0] rfl) h
abbrev wd_X3_behindDue (cy : Nat → ClassId) (q_t q_t_burgh q_t_ahead q_t_since q_t_stood q_t_due q_t_left q_t_came : Nat) (t_minute : Int32) (t_out : Int32) (t_stopped : Int32) (t_came : Nat → Int32) (t_due : Nat → Int32) : va_W := [(q_t, .inr (4, [.ref q_t_burgh, .int t_minute, .int t_out, .int t_stopped, .ref q_t_ahead, .ref q_t_since, .ref q_t_stood, .ref q_t_due, .ref q_t_left, .ref q_t_came])), (q_t_came, .inl (cy 1, 36, .inl t_came)), (q_t_due, .inl (cy 1, 6, .inl t_due))]
theorem iX3_behindDue_X3 : ∀ w ∈ wsX30, w ∈ wsX3_behindDue := fun _ h => List.mem_cons_of_mem _ (List.mem_append_right _ h)
abbrev rm_X3_behindDue : Room := { frames := 1, cells := 0, slots := 0, locals := 21 }
set_option maxRecDepth 100000 in
def f_X3_behindDue (N : Nat) (x0 : Int32) (x1 : Int32) (t_came : Nat → Int32) (t_due : Nat → Int32) : Option (Int32) := zcl (f_X11_slot N x0 x1) fun z6 => zck (zin z6 36) <| zbn ((t_came (Int32.toNatClampNeg z6))) fun y1 => if y1 = (-1) then (some 0) else (zck (zin x1 6) <| some (zmax 0 (y1 - (t_due (Int32.toNatClampNeg x1)))))
set_option maxHeartbeats 4000000 in
set_option maxRecDepth 100000 in
theorem c_X3_behindDue (l : Launch) (G : va_G) (cy : Nat → ClassId) (E : List (Nat × Cell)) (N : Nat) (q_t q_t_burgh q_t_ahead q_t_since q_t_stood q_t_due q_t_left q_t_came : Nat) (t_minute : Int32) (t_out : Int32) (t_stopped : Int32) (t_came : Nat → Int32) (t_due : Nat → Int32) (x0 : Int32) (x1 : Int32) (r : Int32) (h : f_X3_behindDue N x0 x1 t_came t_due = some r) : zM l G cy E yX3_behindDue wsX3_behindDue rm_X3_behindDue [.ref q_t, .int x0, .int x1] (wd_X3_behindDue cy q_t q_t_burgh q_t_ahead q_t_since q_t_stood q_t_due q_t_left q_t_came t_minute t_out t_stopped t_came t_due) (wd_X3_behindDue cy q_t q_t_burgh q_t_ahead q_t_since q_t_stood q_t_due q_t_left q_t_came t_minute t_out t_stopped t_came t_due) (some (.int r)) 0 0 := by
  refine z_body (cc := cX3_behindDue) (maxL := 4) (ret := some .int) (by decide) rfl (Nat.le_of_ble_eq_true rfl) ?_
  intro p e s m below meth c ls S hr hlocks hnm hF hH hl
  have S : CallFix p m c cX3_behindDue 4 s ([.ref q_t, .int x0, .int x1] : List Value).toArray wsX3_behindDue RX3 := S
  obtain ⟨hx, hb, hml, hown, hts⟩ := id S
  have hl : lv_has ls 4 [(0, .ref q_t), (1, .int x0), (2, .int x1)] := hl
  rw [f_X3_behindDue] at h
  refine lv_aload_n hx hb dX3_behindDue_0 rfl (lv_at hl 0 rfl) ?_
  refine z_get S hF hH iX3_behindDue_X3 0 rfl rfl 9 (by decide) (List.mem_of_getElem? (i := 1) rfl) rfl dX3_behindDue_1 ?_
  refine lv_iload_n hx hb dX3_behindDue_4 rfl (lv_at hl 1 rfl) ?_
  refine lv_iload_n hx hb dX3_behindDue_5 rfl (lv_at hl 2 rfl) ?_
  obtain ⟨z6, hz6, h⟩ := zcl_e h
  refine z_callSN (As := [.int x0, .int x1]) (rest := [.ref q_t_came]) (st1 := [.int z6, .ref q_t_came]) (ws' := (wd_X3_behindDue cy q_t q_t_burgh q_t_ahead q_t_since q_t_stood q_t_due q_t_left q_t_came t_minute t_out t_stopped t_came t_due)) S hF hH (c_X11_slot l G cy E N x0 x1 z6 hz6) ⟨va_cnB 2 hts gX3_behindDue_X11_slot_n131 rfl rfl rfl (hF.2.1 _ (List.mem_of_getElem? (i := 8) rfl)) (hts _ (List.mem_of_getElem? (i := 8) rfl)) (by decide +kernel) ⟨Nat.le_of_ble_eq_true rfl, Nat.le_of_ble_eq_true rfl⟩, hts _ (List.mem_of_getElem? (i := 7) rfl), trivial⟩ [] [0, 1, 2] [0, 1, 2] rfl rfl (by decide) (by decide) (by decide) (by decide) rfl rfl rfl rfl hl.1 (Nat.le_of_ble_eq_true rfl) dX3_behindDue_6 ⟨Nat.le_of_ble_eq_true rfl, Nat.le_of_ble_eq_true rfl⟩ (fun H locs hH => ?_)
  obtain ⟨h9, h⟩ := zck_e h
  refine z_iald S hF hH 1 rfl h9 dX3_behindDue_9 ?_
  obtain ⟨y1, ey1, h⟩ := zbn_e h
  refine z_top ey1 ?_
  clear ey1
  refine lv_istore_n (lv' := [(3, .int y1), (0, .ref q_t), (1, .int x0), (2, .int x1)]) hx hb dX3_behindDue_10 rfl hl (by decide) rfl (fun ls hl => ?_)
  refine lv_iload_n hx hb dX3_behindDue_11 rfl (lv_at hl 0 rfl) ?_
  refine lv_iconst (v := (-1)) hx hb dX3_behindDue_12 (by decide) ?_
  refine lv_icmp_ne (tgt := 20) hx hb dX3_behindDue_13 (by decide) (fun b13 => ?_) (fun b13 => ?_)
  · replace h := zif_f b13 h
    refine lv_iconst (v := 0) hx hb dX3_behindDue_20 (by decide) ?_
    refine lv_iload_n hx hb dX3_behindDue_21 rfl (lv_at hl 0 rfl) ?_
    refine lv_aload_n hx hb dX3_behindDue_22 rfl (lv_at hl 1 rfl) ?_
    refine z_get S hF hH iX3_behindDue_X3 0 rfl rfl 7 (by decide) (List.mem_of_getElem? (i := 2) rfl) rfl dX3_behindDue_23 ?_
    refine lv_iload_n hx hb dX3_behindDue_26 rfl (lv_at hl 3 rfl) ?_
    obtain ⟨h27, h⟩ := zck_e h
    refine z_iald S hF hH 2 rfl h27 dX3_behindDue_27 ?_
    refine lv_isub hx hb dX3_behindDue_28 ?_
    refine z_mmax S hl.1 (List.mem_of_getElem? (i := 3) rfl) (List.mem_of_getElem? (i := 4) rfl) (List.mem_of_getElem? (i := 5) rfl) (List.mem_of_getElem? (i := 6) rfl) (Nat.le_of_ble_eq_true rfl) (Nat.le_of_ble_eq_true rfl) (Nat.le_of_ble_eq_true rfl) (Nat.le_of_ble_eq_true rfl) dX3_behindDue_29 ?_
    cases h
    exact z_iret S hr hlocks hH dX3_behindDue_32
  · replace h := zif_t b13 h
    refine lv_iconst (v := 0) hx hb dX3_behindDue_16 (by decide) ?_
    refine lv_goto (tgt := 32) hx hb dX3_behindDue_17 (by decide) ?_
    cases h
    exact z_iret S hr hlocks hH dX3_behindDue_32
abbrev wd_X3_minutesBehind (cy : Nat → ClassId) (q_t q_t_burgh q_t_ahead q_t_since q_t_stood q_t_due q_t_left q_t_came q_t_burgh_clockName q_t_burgh_clockCorner q_t_burgh_clockAhead q_t_burgh_clockGain q_t_burgh_masterName q_t_burgh_masterCorner q_t_burgh_masterLate q_t_burgh_masterClock q_t_burgh_masterMeets q_t_burgh_meetName q_t_burgh_meetDue : Nat) (t_minute : Int32) (t_out : Int32) (t_stopped : Int32) (t_burgh_clocks : Int32) (t_burgh_masters : Int32) (t_burgh_meets : Int32) (t_burgh_patience : Int32) (t_came : Nat → Int32) (t_due : Nat → Int32) : va_W := [(q_t, .inr (4, [.ref q_t_burgh, .int t_minute, .int t_out, .int t_stopped, .ref q_t_ahead, .ref q_t_since, .ref q_t_stood, .ref q_t_due, .ref q_t_left, .ref q_t_came])), (q_t_burgh, .inr (2, [.int t_burgh_clocks, .int t_burgh_masters, .int t_burgh_meets, .int t_burgh_patience, .ref q_t_burgh_clockName, .ref q_t_burgh_clockCorner, .ref q_t_burgh_clockAhead, .ref q_t_burgh_clockGain, .ref q_t_burgh_masterName, .ref q_t_burgh_masterCorner, .ref q_t_burgh_masterLate, .ref q_t_burgh_masterClock, .ref q_t_burgh_masterMeets, .ref q_t_burgh_meetName, .ref q_t_burgh_meetDue])), (q_t_came, .inl (cy 1, 36, .inl t_came)), (q_t_due, .inl (cy 1, 6, .inl t_due))]
theorem iX3_minutesBehind_X1 : ∀ w ∈ wsX10, w ∈ wsX3_minutesBehind := fun _ h => List.mem_cons_of_mem _ (List.mem_append_right _ h)
theorem iX3_minutesBehind_X3 : ∀ w ∈ wsX30, w ∈ wsX3_minutesBehind := fun _ h => List.mem_cons_of_mem _ (List.mem_append_left _ (List.mem_append_right _ h))
abbrev rm_X3_minutesBehind : Room := { frames := 2, cells := 0, slots := 0, locals := 44 }
set_option maxRecDepth 100000 in
def f_X3_minutesBehind_17 (N : Nat) (t_burgh_masters : Int32) (t_burgh_meets : Int32) (t_came : Nat → Int32) (t_due : Nat → Int32) (k_4 : Int32 → Int32 → Option (Int32)) : Nat → Int32 → Int32 → Int32 → Option (Int32)
  | 0, _, _, _ => none
  | n + 1, x1, x2, x3 => if t_burgh_meets ≤ x3 then (zbn (x2 + 1) fun y1 => k_4 x1 y1) else (zcl (f_X3_behindDue N x2 x3 t_came t_due) fun z32 => zbn ((x1 + z32)) fun y2 => zbn (x3 + 1) fun y3 => f_X3_minutesBehind_17 N t_burgh_masters t_burgh_meets t_came t_due k_4 n y2 x2 y3)
set_option maxRecDepth 100000 in
def f_X3_minutesBehind_4 (N : Nat) (t_burgh_masters : Int32) (t_burgh_meets : Int32) (t_came : Nat → Int32) (t_due : Nat → Int32) : Nat → Int32 → Int32 → Option (Int32)
  | 0, _, _ => none
  | n + 1, x1, x2 => if t_burgh_masters ≤ x2 then (some x1) else (f_X3_minutesBehind_17 N t_burgh_masters t_burgh_meets t_came t_due (f_X3_minutesBehind_4 N t_burgh_masters t_burgh_meets t_came t_due n) N x1 x2 0)
set_option maxRecDepth 100000 in
def f_X3_minutesBehind (N : Nat) (t_burgh_masters : Int32) (t_burgh_meets : Int32) (t_came : Nat → Int32) (t_due : Nat → Int32) : Option (Int32) := f_X3_minutesBehind_4 N t_burgh_masters t_burgh_meets t_came t_due N 0 0
set_option maxHeartbeats 4000000 in
set_option maxRecDepth 100000 in
theorem w_X3_minutesBehind_17 {p : Program} {l : Launch} {e : Env} {s : State} {m : MethodId} {args : Array Value} {below : List Frame} {meth : Method} {c : Code} {G : va_G} {cy : Nat → ClassId} {E : List (Nat × Cell)} {w0 : va_W} {N : Nat} {q_t q_t_burgh q_t_ahead q_t_since q_t_stood q_t_due q_t_left q_t_came q_t_burgh_clockName q_t_burgh_clockCorner q_t_burgh_clockAhead q_t_burgh_clockGain q_t_burgh_masterName q_t_burgh_masterCorner q_t_burgh_masterLate q_t_burgh_masterClock q_t_burgh_masterMeets q_t_burgh_meetName q_t_burgh_meetDue : Nat} {t_minute : Int32} {t_out : Int32} {t_stopped : Int32} {t_burgh_clocks : Int32} {t_burgh_masters : Int32} {t_burgh_meets : Int32} {t_burgh_patience : Int32} {t_came : Nat → Int32} {t_due : Nat → Int32} {r : Int32} {k_4 : Int32 → Int32 → Option (Int32)} (S : CallFix p m c cX3_minutesBehind 4 s args wsX3_minutesBehind RX3) (hr : meth.sig.returnType = some .int) (hlocks : meth.locks = false) (hF : zF G cy E (va_A w0 s.heap.size) s) (hk_4 : ∀ (x1 : Int32) (x2 : Int32) (H : Heap) (locs : List Loc) (ls : Array Slot), zH G (va_A w0 s.heap.size) s H locs (wd_X3_minutesBehind cy q_t q_t_burgh q_t_ahead q_t_since q_t_stood q_t_due q_t_left q_t_came q_t_burgh_clockName q_t_burgh_clockCorner q_t_burgh_clockAhead q_t_burgh_clockGain q_t_burgh_masterName q_t_burgh_masterCorner q_t_burgh_masterLate q_t_burgh_masterClock q_t_burgh_masterMeets q_t_burgh_meetName q_t_burgh_meetDue t_minute t_out t_stopped t_burgh_clocks t_burgh_masters t_burgh_meets t_burgh_patience t_came t_due) → lv_has ls 4 [(0, .ref q_t), (1, .int x1), (2, .int x2)] → k_4 x1 x2 = some r → W p l e rm_X3_minutesBehind s m args below meth c H locs 0 0 (MQ below (zQ G w0 (wd_X3_minutesBehind cy q_t q_t_burgh q_t_ahead q_t_since q_t_stood q_t_due q_t_left q_t_came q_t_burgh_clockName q_t_burgh_clockCorner q_t_burgh_clockAhead q_t_burgh_clockGain q_t_burgh_masterName q_t_burgh_masterCorner q_t_burgh_masterLate q_t_burgh_masterClock q_t_burgh_masterMeets q_t_burgh_meetName q_t_burgh_meetDue t_minute t_out t_stopped t_burgh_clocks t_burgh_masters t_burgh_meets t_burgh_patience t_came t_due) s.heap.size (some (.int r))) args s 0 0 (va_A w0 s.heap.size)) (F0 m 4 ls [])) :
    ∀ (n : Nat) (x1 : Int32) (x2 : Int32) (x3 : Int32) (H : Heap) (locs : List Loc) (ls : Array Slot), zH G (va_A w0 s.heap.size) s H locs (wd_X3_minutesBehind cy q_t q_t_burgh q_t_ahead q_t_since q_t_stood q_t_due q_t_left q_t_came q_t_burgh_clockName q_t_burgh_clockCorner q_t_burgh_clockAhead q_t_burgh_clockGain q_t_burgh_masterName q_t_burgh_masterCorner q_t_burgh_masterLate q_t_burgh_masterClock q_t_burgh_masterMeets q_t_burgh_meetName q_t_burgh_meetDue t_minute t_out t_stopped t_burgh_clocks t_burgh_masters t_burgh_meets t_burgh_patience t_came t_due) → lv_has ls 4 [(0, .ref q_t), (1, .int x1), (2, .int x2), (3, .int x3)] → f_X3_minutesBehind_17 N t_burgh_masters t_burgh_meets t_came t_due k_4 n x1 x2 x3 = some r → W p l e rm_X3_minutesBehind s m args below meth c H locs 0 0 (MQ below (zQ G w0 (wd_X3_minutesBehind cy q_t q_t_burgh q_t_ahead q_t_since q_t_stood q_t_due q_t_left q_t_came q_t_burgh_clockName q_t_burgh_clockCorner q_t_burgh_clockAhead q_t_burgh_clockGain q_t_burgh_masterName q_t_burgh_masterCorner q_t_burgh_masterLate q_t_burgh_masterClock q_t_burgh_masterMeets q_t_burgh_meetName q_t_burgh_meetDue t_minute t_out t_stopped t_burgh_clocks t_burgh_masters t_burgh_meets t_burgh_patience t_came t_due) s.heap.size (some (.int r))) args s 0 0 (va_A w0 s.heap.size)) (F0 m 17 ls []) := by
  obtain ⟨hx, hb, hml, hown, hts⟩ := id S
  intro n
  induction n with
  | zero =>
    intro x1 x2 x3 H locs ls hH hl h
    rw [f_X3_minutesBehind_17] at h
    cases h
  | succ n ih =>
    intro x1 x2 x3 H locs ls hH hl h
    rw [f_X3_minutesBehind_17] at h
    refine lv_iload_n hx hb dX3_minutesBehind_17 rfl (lv_at hl 3 rfl) ?_
    refine lv_aload_n hx hb dX3_minutesBehind_18 rfl (lv_at hl 0 rfl) ?_
    refine z_get S hF hH iX3_minutesBehind_X3 0 rfl rfl 0 (by decide) (List.mem_of_getElem? (i := 1) rfl) rfl dX3_minutesBehind_19 ?_
    refine z_get S hF hH iX3_minutesBehind_X1 1 rfl rfl 2 (by decide) (List.mem_of_getElem? (i := 3) rfl) rfl dX3_minutesBehind_22 ?_
    refine lv_icmp_ge (tgt := 43) hx hb dX3_minutesBehind_25 (by decide) (fun b25 => ?_) (fun b25 => ?_)
    · replace h := zif_t b25 h
      obtain ⟨y1, ey1, h⟩ := zbn_e h
      refine lv_iinc (v := y1) (lv' := [(2, .int y1), (0, .ref q_t), (1, .int x1), (3, .int x3)]) hx hb dX3_minutesBehind_43 hl (k := 2) rfl (by rw [ey1]; exact congrArg (fun z => x2 + z) (by decide)) (by decide) rfl (fun ls hl => ?_)
      clear ey1
      refine lv_goto (tgt := 4) hx hb dX3_minutesBehind_46 (by decide) ?_
      exact hk_4 x1 y1 _ _ _ hH (lv_sub hl [1, 2, 0] rfl) h
    · replace h := zif_f b25 h
      refine lv_iload_n hx hb dX3_minutesBehind_28 rfl (lv_at hl 1 rfl) ?_
      refine lv_aload_n hx hb dX3_minutesBehind_29 rfl (lv_at hl 0 rfl) ?_
      refine lv_iload_n hx hb dX3_minutesBehind_30 rfl (lv_at hl 2 rfl) ?_
      refine lv_iload_n hx hb dX3_minutesBehind_31 rfl (lv_at hl 3 rfl) ?_
      obtain ⟨z32, hz32, h⟩ := zcl_e h
      refine z_callV (As := [.int x2, .int x3]) (rest := [.int x1]) (st1 := [.int z32, .int x1]) (ws' := (wd_X3_minutesBehind cy q_t q_t_burgh q_t_ahead q_t_since q_t_stood q_t_due q_t_left q_t_came q_t_burgh_clockName q_t_burgh_clockCorner q_t_burgh_clockAhead q_t_burgh_clockGain q_t_burgh_masterName q_t_burgh_masterCorner q_t_burgh_masterLate q_t_burgh_masterClock q_t_burgh_masterMeets q_t_burgh_meetName q_t_burgh_meetDue t_minute t_out t_stopped t_burgh_clocks t_burgh_masters t_burgh_meets t_burgh_patience t_came t_due)) S hF hH (c_X3_behindDue l G cy E N q_t q_t_burgh q_t_ahead q_t_since q_t_stood q_t_due q_t_left q_t_came t_minute t_out t_stopped t_came t_due x2 x3 z32 hz32) (cwV 2 hts gX3_minutesBehind_X3_behindDue rfl rfl rfl (by decide +kernel) ⟨Nat.le_of_ble_eq_true rfl, Nat.le_of_ble_eq_true rfl⟩) 4 0 rfl rfl [0, 2, 3] [1] [1, 0, 2, 3] rfl rfl (by decide) (by decide) (by decide) (by decide) rfl rfl rfl rfl hl.1 (Nat.le_of_ble_eq_true rfl) dX3_minutesBehind_32 ⟨Nat.le_of_ble_eq_true rfl, Nat.le_of_ble_eq_true rfl⟩ (fun H locs hH => ?_)
      refine lv_iadd hx hb dX3_minutesBehind_35 ?_
      obtain ⟨y2, ey2, h⟩ := zbn_e h
      refine z_top ey2 ?_
      clear ey2
      refine lv_istore_n (lv' := [(1, .int y2), (0, .ref q_t), (2, .int x2), (3, .int x3)]) hx hb dX3_minutesBehind_36 rfl hl (by decide) rfl (fun ls hl => ?_)
      obtain ⟨y3, ey3, h⟩ := zbn_e h
      refine lv_iinc (v := y3) (lv' := [(3, .int y3), (1, .int y2), (0, .ref q_t), (2, .int x2)]) hx hb dX3_minutesBehind_37 hl (k := 3) rfl (by rw [ey3]; exact congrArg (fun z => x3 + z) (by decide)) (by decide) rfl (fun ls hl => ?_)
      clear ey3
      refine lv_goto (tgt := 17) hx hb dX3_minutesBehind_40 (by decide) ?_
      exact ih y2 x2 y3 _ _ _ hH (lv_sub hl [2, 1, 3, 0] rfl) h
set_option maxHeartbeats 4000000 in
set_option maxRecDepth 100000 in
theorem w_X3_minutesBehind_4 {p : Program} {l : Launch} {e : Env} {s : State} {m : MethodId} {args : Array Value} {below : List Frame} {meth : Method} {c : Code} {G : va_G} {cy : Nat → ClassId} {E : List (Nat × Cell)} {w0 : va_W} {N : Nat} {q_t q_t_burgh q_t_ahead q_t_since q_t_stood q_t_due q_t_left q_t_came q_t_burgh_clockName q_t_burgh_clockCorner q_t_burgh_clockAhead q_t_burgh_clockGain q_t_burgh_masterName q_t_burgh_masterCorner q_t_burgh_masterLate q_t_burgh_masterClock q_t_burgh_masterMeets q_t_burgh_meetName q_t_burgh_meetDue : Nat} {t_minute : Int32} {t_out : Int32} {t_stopped : Int32} {t_burgh_clocks : Int32} {t_burgh_masters : Int32} {t_burgh_meets : Int32} {t_burgh_patience : Int32} {t_came : Nat → Int32} {t_due : Nat → Int32} {r : Int32} (S : CallFix p m c cX3_minutesBehind 4 s args wsX3_minutesBehind RX3) (hr : meth.sig.returnType = some .int) (hlocks : meth.locks = false) (hF : zF G cy E (va_A w0 s.heap.size) s) :
    ∀ (n : Nat) (x1 : Int32) (x2 : Int32) (H : Heap) (locs : List Loc) (ls : Array Slot), zH G (va_A w0 s.heap.size) s H locs (wd_X3_minutesBehind cy q_t q_t_burgh q_t_ahead q_t_since q_t_stood q_t_due q_t_left q_t_came q_t_burgh_clockName q_t_burgh_clockCorner q_t_burgh_clockAhead q_t_burgh_clockGain q_t_burgh_masterName q_t_burgh_masterCorner q_t_burgh_masterLate q_t_burgh_masterClock q_t_burgh_masterMeets q_t_burgh_meetName q_t_burgh_meetDue t_minute t_out t_stopped t_burgh_clocks t_burgh_masters t_burgh_meets t_burgh_patience t_came t_due) → lv_has ls 4 [(0, .ref q_t), (1, .int x1), (2, .int x2)] → f_X3_minutesBehind_4 N t_burgh_masters t_burgh_meets t_came t_due n x1 x2 = some r → W p l e rm_X3_minutesBehind s m args below meth c H locs 0 0 (MQ below (zQ G w0 (wd_X3_minutesBehind cy q_t q_t_burgh q_t_ahead q_t_since q_t_stood q_t_due q_t_left q_t_came q_t_burgh_clockName q_t_burgh_clockCorner q_t_burgh_clockAhead q_t_burgh_clockGain q_t_burgh_masterName q_t_burgh_masterCorner q_t_burgh_masterLate q_t_burgh_masterClock q_t_burgh_masterMeets q_t_burgh_meetName q_t_burgh_meetDue t_minute t_out t_stopped t_burgh_clocks t_burgh_masters t_burgh_meets t_burgh_patience t_came t_due) s.heap.size (some (.int r))) args s 0 0 (va_A w0 s.heap.size)) (F0 m 4 ls []) := by
  obtain ⟨hx, hb, hml, hown, hts⟩ := id S
  intro n
  induction n with
  | zero =>
    intro x1 x2 H locs ls hH hl h
    rw [f_X3_minutesBehind_4] at h
    cases h
  | succ n ih =>
    intro x1 x2 H locs ls hH hl h
    rw [f_X3_minutesBehind_4] at h
    refine lv_iload_n hx hb dX3_minutesBehind_4 rfl (lv_at hl 2 rfl) ?_
    refine lv_aload_n hx hb dX3_minutesBehind_5 rfl (lv_at hl 0 rfl) ?_
    refine z_get S hF hH iX3_minutesBehind_X3 0 rfl rfl 0 (by decide) (List.mem_of_getElem? (i := 1) rfl) rfl dX3_minutesBehind_6 ?_
    refine z_get S hF hH iX3_minutesBehind_X1 1 rfl rfl 1 (by decide) (List.mem_of_getElem? (i := 2) rfl) rfl dX3_minutesBehind_9 ?_
    refine lv_icmp_ge (tgt := 49) hx hb dX3_minutesBehind_12 (by decide) (fun b12 => ?_) (fun b12 => ?_)
    · replace h := zif_t b12 h
      refine lv_iload_n hx hb dX3_minutesBehind_49 rfl (lv_at hl 1 rfl) ?_
      cases h
      exact z_iret S hr hlocks hH dX3_minutesBehind_50
    · replace h := zif_f b12 h
      refine lv_iconst (v := 0) hx hb dX3_minutesBehind_15 (by decide) ?_
      refine lv_istore_n (lv' := [(3, .int 0), (0, .ref q_t), (1, .int x1), (2, .int x2)]) hx hb dX3_minutesBehind_16 rfl hl (by decide) rfl (fun ls hl => ?_)
      exact w_X3_minutesBehind_17 S hr hlocks hF ih N x1 x2 0 _ _ _ hH (lv_sub hl [1, 2, 3, 0] rfl) h
set_option maxHeartbeats 4000000 in
set_option maxRecDepth 100000 in
theorem c_X3_minutesBehind (l : Launch) (G : va_G) (cy : Nat → ClassId) (E : List (Nat × Cell)) (N : Nat) (q_t q_t_burgh q_t_ahead q_t_since q_t_stood q_t_due q_t_left q_t_came q_t_burgh_clockName q_t_burgh_clockCorner q_t_burgh_clockAhead q_t_burgh_clockGain q_t_burgh_masterName q_t_burgh_masterCorner q_t_burgh_masterLate q_t_burgh_masterClock q_t_burgh_masterMeets q_t_burgh_meetName q_t_burgh_meetDue : Nat) (t_minute : Int32) (t_out : Int32) (t_stopped : Int32) (t_burgh_clocks : Int32) (t_burgh_masters : Int32) (t_burgh_meets : Int32) (t_burgh_patience : Int32) (t_came : Nat → Int32) (t_due : Nat → Int32) (r : Int32) (h : f_X3_minutesBehind N t_burgh_masters t_burgh_meets t_came t_due = some r) : zM l G cy E yX3_minutesBehind wsX3_minutesBehind rm_X3_minutesBehind [.ref q_t] (wd_X3_minutesBehind cy q_t q_t_burgh q_t_ahead q_t_since q_t_stood q_t_due q_t_left q_t_came q_t_burgh_clockName q_t_burgh_clockCorner q_t_burgh_clockAhead q_t_burgh_clockGain q_t_burgh_masterName q_t_burgh_masterCorner q_t_burgh_masterLate q_t_burgh_masterClock q_t_burgh_masterMeets q_t_burgh_meetName q_t_burgh_meetDue t_minute t_out t_stopped t_burgh_clocks t_burgh_masters t_burgh_meets t_burgh_patience t_came t_due) (wd_X3_minutesBehind cy q_t q_t_burgh q_t_ahead q_t_since q_t_stood q_t_due q_t_left q_t_came q_t_burgh_clockName q_t_burgh_clockCorner q_t_burgh_clockAhead q_t_burgh_clockGain q_t_burgh_masterName q_t_burgh_masterCorner q_t_burgh_masterLate q_t_burgh_masterClock q_t_burgh_masterMeets q_t_burgh_meetName q_t_burgh_meetDue t_minute t_out t_stopped t_burgh_clocks t_burgh_masters t_burgh_meets t_burgh_patience t_came t_due) (some (.int r)) 0 0 := by
  refine z_body (cc := cX3_minutesBehind) (maxL := 4) (ret := some .int) (by decide) rfl (Nat.le_of_ble_eq_true rfl) ?_
  intro p e s m below meth c ls S hr hlocks hnm hF hH hl
  have S : CallFix p m c cX3_minutesBehind 4 s ([.ref q_t] : List Value).toArray wsX3_minutesBehind RX3 := S
  obtain ⟨hx, hb, hml, hown, hts⟩ := id S
  have hl : lv_has ls 4 [(0, .ref q_t)] := hl
  rw [f_X3_minutesBehind] at h
  refine lv_iconst (v := 0) hx hb dX3_minutesBehind_0 (by decide) ?_
  refine lv_istore_n (lv' := [(1, .int 0), (0, .ref q_t)]) hx hb dX3_minutesBehind_1 rfl hl (by decide) rfl (fun ls hl => ?_)
  refine lv_iconst (v := 0) hx hb dX3_minutesBehind_2 (by decide) ?_
  refine lv_istore_n (lv' := [(2, .int 0), (1, .int 0), (0, .ref q_t)]) hx hb dX3_minutesBehind_3 rfl hl (by decide) rfl (fun ls hl => ?_)
  exact w_X3_minutesBehind_4 S hr hlocks hF N 0 0 _ _ _ hH (lv_sub hl [2, 1, 0] rfl) h
abbrev wd_X3_mostBehind (cy : Nat → ClassId) (q_t q_t_burgh q_t_ahead q_t_since q_t_stood q_t_due q_t_left q_t_came q_t_burgh_clockName q_t_burgh_clockCorner q_t_burgh_clockAhead q_t_burgh_clockGain q_t_burgh_masterName q_t_burgh_masterCorner q_t_burgh_masterLate q_t_burgh_masterClock q_t_burgh_masterMeets q_t_burgh_meetName q_t_burgh_meetDue : Nat) (t_minute : Int32) (t_out : Int32) (t_stopped : Int32) (t_burgh_clocks : Int32) (t_burgh_masters : Int32) (t_burgh_meets : Int32) (t_burgh_patience : Int32) (t_came : Nat → Int32) (t_due : Nat → Int32) : va_W := [(q_t, .inr (4, [.ref q_t_burgh, .int t_minute, .int t_out, .int t_stopped, .ref q_t_ahead, .ref q_t_since, .ref q_t_stood, .ref q_t_due, .ref q_t_left, .ref q_t_came])), (q_t_burgh, .inr (2, [.int t_burgh_clocks, .int t_burgh_masters, .int t_burgh_meets, .int t_burgh_patience, .ref q_t_burgh_clockName, .ref q_t_burgh_clockCorner, .ref q_t_burgh_clockAhead, .ref q_t_burgh_clockGain, .ref q_t_burgh_masterName, .ref q_t_burgh_masterCorner, .ref q_t_burgh_masterLate, .ref q_t_burgh_masterClock, .ref q_t_burgh_masterMeets, .ref q_t_burgh_meetName, .ref q_t_burgh_meetDue])), (q_t_came, .inl (cy 1, 36, .inl t_came)), (q_t_due, .inl (cy 1, 6, .inl t_due))]
theorem iX3_mostBehind_X1 : ∀ w ∈ wsX10, w ∈ wsX3_mostBehind := fun _ h => List.mem_cons_of_mem _ (List.mem_append_right _ h)
theorem iX3_mostBehind_X3 : ∀ w ∈ wsX30, w ∈ wsX3_mostBehind := fun _ h => List.mem_cons_of_mem _ (List.mem_append_left _ (List.mem_append_right _ h))
abbrev rm_X3_mostBehind : Room := { frames := 2, cells := 0, slots := 0, locals := 44 }
set_option maxRecDepth 100000 in
def f_X3_mostBehind_4 (N : Nat) (t_burgh_meets : Int32) (t_came : Nat → Int32) (t_due : Nat → Int32) : Nat → Int32 → Int32 → Int32 → Option (Int32)
  | 0, _, _, _ => none
  | n + 1, x1, x2, x3 => if t_burgh_meets ≤ x3 then (some x2) else (zcl (f_X3_behindDue N x1 x3 t_came t_due) fun z19 => zbn ((zmax x2 z19)) fun y1 => zbn (x3 + 1) fun y2 => f_X3_mostBehind_4 N t_burgh_meets t_came t_due n x1 y1 y2)
set_option maxRecDepth 100000 in
def f_X3_mostBehind (N : Nat) (x0 : Int32) (t_burgh_meets : Int32) (t_came : Nat → Int32) (t_due : Nat → Int32) : Option (Int32) := f_X3_mostBehind_4 N t_burgh_meets t_came t_due N x0 0 0
set_option maxHeartbeats 4000000 in
set_option maxRecDepth 100000 in
theorem w_X3_mostBehind_4 {p : Program} {l : Launch} {e : Env} {s : State} {m : MethodId} {args : Array Value} {below : List Frame} {meth : Method} {c : Code} {G : va_G} {cy : Nat → ClassId} {E : List (Nat × Cell)} {w0 : va_W} {N : Nat} {q_t q_t_burgh q_t_ahead q_t_since q_t_stood q_t_due q_t_left q_t_came q_t_burgh_clockName q_t_burgh_clockCorner q_t_burgh_clockAhead q_t_burgh_clockGain q_t_burgh_masterName q_t_burgh_masterCorner q_t_burgh_masterLate q_t_burgh_masterClock q_t_burgh_masterMeets q_t_burgh_meetName q_t_burgh_meetDue : Nat} {t_minute : Int32} {t_out : Int32} {t_stopped : Int32} {t_burgh_clocks : Int32} {t_burgh_masters : Int32} {t_burgh_meets : Int32} {t_burgh_patience : Int32} {t_came : Nat → Int32} {t_due : Nat → Int32} {r : Int32} (S : CallFix p m c cX3_mostBehind 4 s args wsX3_mostBehind RX3) (hr : meth.sig.returnType = some .int) (hlocks : meth.locks = false) (hF : zF G cy E (va_A w0 s.heap.size) s) :
    ∀ (n : Nat) (x1 : Int32) (x2 : Int32) (x3 : Int32) (H : Heap) (locs : List Loc) (ls : Array Slot), zH G (va_A w0 s.heap.size) s H locs (wd_X3_mostBehind cy q_t q_t_burgh q_t_ahead q_t_since q_t_stood q_t_due q_t_left q_t_came q_t_burgh_clockName q_t_burgh_clockCorner q_t_burgh_clockAhead q_t_burgh_clockGain q_t_burgh_masterName q_t_burgh_masterCorner q_t_burgh_masterLate q_t_burgh_masterClock q_t_burgh_masterMeets q_t_burgh_meetName q_t_burgh_meetDue t_minute t_out t_stopped t_burgh_clocks t_burgh_masters t_burgh_meets t_burgh_patience t_came t_due) → lv_has ls 4 [(0, .ref q_t), (1, .int x1), (2, .int x2), (3, .int x3)] → f_X3_mostBehind_4 N t_burgh_meets t_came t_due n x1 x2 x3 = some r → W p l e rm_X3_mostBehind s m args below meth c H locs 0 0 (MQ below (zQ G w0 (wd_X3_mostBehind cy q_t q_t_burgh q_t_ahead q_t_since q_t_stood q_t_due q_t_left q_t_came q_t_burgh_clockName q_t_burgh_clockCorner q_t_burgh_clockAhead q_t_burgh_clockGain q_t_burgh_masterName q_t_burgh_masterCorner q_t_burgh_masterLate q_t_burgh_masterClock q_t_burgh_masterMeets q_t_burgh_meetName q_t_burgh_meetDue t_minute t_out t_stopped t_burgh_clocks t_burgh_masters t_burgh_meets t_burgh_patience t_came t_due) s.heap.size (some (.int r))) args s 0 0 (va_A w0 s.heap.size)) (F0 m 4 ls []) := by
  obtain ⟨hx, hb, hml, hown, hts⟩ := id S
  intro n
  induction n with
  | zero =>
    intro x1 x2 x3 H locs ls hH hl h
    rw [f_X3_mostBehind_4] at h
    cases h
  | succ n ih =>
    intro x1 x2 x3 H locs ls hH hl h
    rw [f_X3_mostBehind_4] at h
    refine lv_iload_n hx hb dX3_mostBehind_4 rfl (lv_at hl 3 rfl) ?_
    refine lv_aload_n hx hb dX3_mostBehind_5 rfl (lv_at hl 0 rfl) ?_
    refine z_get S hF hH iX3_mostBehind_X3 0 rfl rfl 0 (by decide) (List.mem_of_getElem? (i := 1) rfl) rfl dX3_mostBehind_6 ?_
    refine z_get S hF hH iX3_mostBehind_X1 1 rfl rfl 2 (by decide) (List.mem_of_getElem? (i := 2) rfl) rfl dX3_mostBehind_9 ?_
    refine lv_icmp_ge (tgt := 32) hx hb dX3_mostBehind_12 (by decide) (fun b12 => ?_) (fun b12 => ?_)
    · replace h := zif_t b12 h
      refine lv_iload_n hx hb dX3_mostBehind_32 rfl (lv_at hl 2 rfl) ?_
      cases h
      exact z_iret S hr hlocks hH dX3_mostBehind_33
    · replace h := zif_f b12 h
      refine lv_iload_n hx hb dX3_mostBehind_15 rfl (lv_at hl 2 rfl) ?_
      refine lv_aload_n hx hb dX3_mostBehind_16 rfl (lv_at hl 0 rfl) ?_
      refine lv_iload_n hx hb dX3_mostBehind_17 rfl (lv_at hl 1 rfl) ?_
      refine lv_iload_n hx hb dX3_mostBehind_18 rfl (lv_at hl 3 rfl) ?_
      obtain ⟨z19, hz19, h⟩ := zcl_e h
      refine z_callV (As := [.int x1, .int x3]) (rest := [.int x2]) (st1 := [.int z19, .int x2]) (ws' := (wd_X3_mostBehind cy q_t q_t_burgh q_t_ahead q_t_since q_t_stood q_t_due q_t_left q_t_came q_t_burgh_clockName q_t_burgh_clockCorner q_t_burgh_clockAhead q_t_burgh_clockGain q_t_burgh_masterName q_t_burgh_masterCorner q_t_burgh_masterLate q_t_burgh_masterClock q_t_burgh_masterMeets q_t_burgh_meetName q_t_burgh_meetDue t_minute t_out t_stopped t_burgh_clocks t_burgh_masters t_burgh_meets t_burgh_patience t_came t_due)) S hF hH (c_X3_behindDue l G cy E N q_t q_t_burgh q_t_ahead q_t_since q_t_stood q_t_due q_t_left q_t_came t_minute t_out t_stopped t_came t_due x1 x3 z19 hz19) (cwV 2 hts gX3_mostBehind_X3_behindDue rfl rfl rfl (by decide +kernel) ⟨Nat.le_of_ble_eq_true rfl, Nat.le_of_ble_eq_true rfl⟩) 4 0 rfl rfl [0, 2, 3] [1] [1, 0, 2, 3] rfl rfl (by decide) (by decide) (by decide) (by decide) rfl rfl rfl rfl hl.1 (Nat.le_of_ble_eq_true rfl) dX3_mostBehind_19 ⟨Nat.le_of_ble_eq_true rfl, Nat.le_of_ble_eq_true rfl⟩ (fun H locs hH => ?_)
      refine z_mmax S hl.1 (List.mem_of_getElem? (i := 3) rfl) (List.mem_of_getElem? (i := 4) rfl) (List.mem_of_getElem? (i := 5) rfl) (List.mem_of_getElem? (i := 6) rfl) (Nat.le_of_ble_eq_true rfl) (Nat.le_of_ble_eq_true rfl) (Nat.le_of_ble_eq_true rfl) (Nat.le_of_ble_eq_true rfl) dX3_mostBehind_22 ?_
      obtain ⟨y1, ey1, h⟩ := zbn_e h
      refine z_top ey1 ?_
      clear ey1
      refine lv_istore_n (lv' := [(2, .int y1), (0, .ref q_t), (1, .int x1), (3, .int x3)]) hx hb dX3_mostBehind_25 rfl hl (by decide) rfl (fun ls hl => ?_)
      obtain ⟨y2, ey2, h⟩ := zbn_e h
      refine lv_iinc (v := y2) (lv' := [(3, .int y2), (2, .int y1), (0, .ref q_t), (1, .int x1)]) hx hb dX3_mostBehind_26 hl (k := 3) rfl (by rw [ey2]; exact congrArg (fun z => x3 + z) (by decide)) (by decide) rfl (fun ls hl => ?_)
      clear ey2
      refine lv_goto (tgt := 4) hx hb dX3_mostBehind_29 (by decide) ?_
      exact ih x1 y1 y2 _ _ _ hH (lv_sub hl [2, 3, 1, 0] rfl) h
set_option maxHeartbeats 4000000 in
set_option maxRecDepth 100000 in
theorem c_X3_mostBehind (l : Launch) (G : va_G) (cy : Nat → ClassId) (E : List (Nat × Cell)) (N : Nat) (q_t q_t_burgh q_t_ahead q_t_since q_t_stood q_t_due q_t_left q_t_came q_t_burgh_clockName q_t_burgh_clockCorner q_t_burgh_clockAhead q_t_burgh_clockGain q_t_burgh_masterName q_t_burgh_masterCorner q_t_burgh_masterLate q_t_burgh_masterClock q_t_burgh_masterMeets q_t_burgh_meetName q_t_burgh_meetDue : Nat) (t_minute : Int32) (t_out : Int32) (t_stopped : Int32) (t_burgh_clocks : Int32) (t_burgh_masters : Int32) (t_burgh_meets : Int32) (t_burgh_patience : Int32) (t_came : Nat → Int32) (t_due : Nat → Int32) (x0 : Int32) (r : Int32) (h : f_X3_mostBehind N x0 t_burgh_meets t_came t_due = some r) : zM l G cy E yX3_mostBehind wsX3_mostBehind rm_X3_mostBehind [.ref q_t, .int x0] (wd_X3_mostBehind cy q_t q_t_burgh q_t_ahead q_t_since q_t_stood q_t_due q_t_left q_t_came q_t_burgh_clockName q_t_burgh_clockCorner q_t_burgh_clockAhead q_t_burgh_clockGain q_t_burgh_masterName q_t_burgh_masterCorner q_t_burgh_masterLate q_t_burgh_masterClock q_t_burgh_masterMeets q_t_burgh_meetName q_t_burgh_meetDue t_minute t_out t_stopped t_burgh_clocks t_burgh_masters t_burgh_meets t_burgh_patience t_came t_due) (wd_X3_mostBehind cy q_t q_t_burgh q_t_ahead q_t_since q_t_stood q_t_due q_t_left q_t_came q_t_burgh_clockName q_t_burgh_clockCorner q_t_burgh_clockAhead q_t_burgh_clockGain q_t_burgh_masterName q_t_burgh_masterCorner q_t_burgh_masterLate q_t_burgh_masterClock q_t_burgh_masterMeets q_t_burgh_meetName q_t_burgh_meetDue t_minute t_out t_stopped t_burgh_clocks t_burgh_masters t_burgh_meets t_burgh_patience t_came t_due) (some (.int r)) 0 0 := by
  refine z_body (cc := cX3_mostBehind) (maxL := 4) (ret := some .int) (by decide) rfl (Nat.le_of_ble_eq_true rfl) ?_
  intro p e s m below meth c ls S hr hlocks hnm hF hH hl
  have S : CallFix p m c cX3_mostBehind 4 s ([.ref q_t, .int x0] : List Value).toArray wsX3_mostBehind RX3 := S
  obtain ⟨hx, hb, hml, hown, hts⟩ := id S
  have hl : lv_has ls 4 [(0, .ref q_t), (1, .int x0)] := hl
  rw [f_X3_mostBehind] at h
  refine lv_iconst (v := 0) hx hb dX3_mostBehind_0 (by decide) ?_
  refine lv_istore_n (lv' := [(2, .int 0), (0, .ref q_t), (1, .int x0)]) hx hb dX3_mostBehind_1 rfl hl (by decide) rfl (fun ls hl => ?_)
  refine lv_iconst (v := 0) hx hb dX3_mostBehind_2 (by decide) ?_
  refine lv_istore_n (lv' := [(3, .int 0), (2, .int 0), (0, .ref q_t), (1, .int x0)]) hx hb dX3_mostBehind_3 rfl hl (by decide) rfl (fun ls hl => ?_)
  exact w_X3_mostBehind_4 S hr hlocks hF N x0 0 0 _ _ _ hH (lv_sub hl [2, 3, 1, 0] rfl) h
abbrev wd_X4_forget (cy : Nat → ClassId) (q_t q_t_days : Nat) (t_next : Int32) (t_size : Int32) : va_W := [(q_t, .inr (5, [.ref q_t_days, .int t_next, .int t_size]))]
theorem iX4_forget_X4 : ∀ w ∈ wsX40, w ∈ wsX4_forget := fun _ h => List.mem_cons_of_mem _ (List.mem_append_right _ h)
abbrev rm_X4_forget : Room := { frames := 0, cells := 0, slots := 0, locals := 0 }
set_option maxRecDepth 100000 in
def f_X4_forget (N : Nat) (t_size : Int32) : Option (Int32) := some 0
set_option maxHeartbeats 4000000 in
set_option maxRecDepth 100000 in
theorem c_X4_forget (l : Launch) (G : va_G) (cy : Nat → ClassId) (E : List (Nat × Cell)) (N : Nat) (q_t q_t_days : Nat) (t_next : Int32) (t_size : Int32) (r_t_size : Int32) (h : f_X4_forget N t_size = some r_t_size) : zM l G cy E yX4_forget wsX4_forget rm_X4_forget [.ref q_t] (wd_X4_forget cy q_t q_t_days t_next t_size) (wd_X4_forget cy q_t q_t_days t_next r_t_size) none 0 0 := by
  refine z_body (cc := cX4_forget) (maxL := 1) (ret := none) (by decide) rfl (Nat.le_of_ble_eq_true rfl) ?_
  intro p e s m below meth c ls S hr hlocks hnm hF hH hl
  have S : CallFix p m c cX4_forget 1 s ([.ref q_t] : List Value).toArray wsX4_forget RX4 := S
  obtain ⟨hx, hb, hml, hown, hts⟩ := id S
  have hl : lv_has ls 1 [(0, .ref q_t)] := hl
  rw [f_X4_forget] at h
  refine lv_aload_n hx hb dX4_forget_0 rfl (lv_at hl 0 rfl) ?_
  refine lv_iconst (v := 0) hx hb dX4_forget_1 (by decide) ?_
  refine z_put (ws' := (wd_X4_forget cy q_t q_t_days t_next 0)) S hF hH iX4_forget_X4 tyX4 tyX4_ok nmX4 0 rfl rfl 2 (by decide) (List.mem_of_getElem? (i := 1) rfl) rfl rfl rfl (Nat.le_of_ble_eq_true rfl) rfl dX4_forget_2 (fun H locs hH => ?_)
  cases h
  exact z_vret S hr hlocks hH dX4_forget_5
abbrev wd_X5_clear (cy : Nat → ClassId) (q_t q_t_code q_t_stack : Nat) (t_length : Int32) : va_W := [(q_t, .inr (6, [.int t_length, .ref q_t_code, .ref q_t_stack]))]
theorem iX5_clear_X5 : ∀ w ∈ wsX50, w ∈ wsX5_clear := fun _ h => List.mem_cons_of_mem _ (List.mem_append_right _ h)
abbrev rm_X5_clear : Room := { frames := 0, cells := 0, slots := 0, locals := 0 }
set_option maxRecDepth 100000 in
def f_X5_clear (N : Nat) (t_length : Int32) : Option (Int32) := some 0
set_option maxHeartbeats 4000000 in
set_option maxRecDepth 100000 in
theorem c_X5_clear (l : Launch) (G : va_G) (cy : Nat → ClassId) (E : List (Nat × Cell)) (N : Nat) (q_t q_t_code q_t_stack : Nat) (t_length : Int32) (r_t_length : Int32) (h : f_X5_clear N t_length = some r_t_length) : zM l G cy E yX5_clear wsX5_clear rm_X5_clear [.ref q_t] (wd_X5_clear cy q_t q_t_code q_t_stack t_length) (wd_X5_clear cy q_t q_t_code q_t_stack r_t_length) none 0 0 := by
  refine z_body (cc := cX5_clear) (maxL := 1) (ret := none) (by decide) rfl (Nat.le_of_ble_eq_true rfl) ?_
  intro p e s m below meth c ls S hr hlocks hnm hF hH hl
  have S : CallFix p m c cX5_clear 1 s ([.ref q_t] : List Value).toArray wsX5_clear RX5 := S
  obtain ⟨hx, hb, hml, hown, hts⟩ := id S
  have hl : lv_has ls 1 [(0, .ref q_t)] := hl
  rw [f_X5_clear] at h
  refine lv_aload_n hx hb dX5_clear_0 rfl (lv_at hl 0 rfl) ?_
  refine lv_iconst (v := 0) hx hb dX5_clear_1 (by decide) ?_
  refine z_put (ws' := (wd_X5_clear cy q_t q_t_code q_t_stack 0)) S hF hH iX5_clear_X5 tyX5 tyX5_ok nmX5 0 rfl rfl 0 (by decide) (List.mem_of_getElem? (i := 1) rfl) rfl rfl rfl (Nat.le_of_ble_eq_true rfl) rfl dX5_clear_2 (fun H locs hH => ?_)
  cases h
  exact z_vret S hr hlocks hH dX5_clear_5
abbrev wd_X5_copyFrom (cy : Nat → ClassId) (q_t q_p0 q_p0_code q_p0_stack q_t_code q_t_stack : Nat) (p0_length : Int32) (t_length : Int32) (t_code : Nat → Int32) (p0_code : Nat → Int32) : va_W := [(q_p0, .inr (6, [.int p0_length, .ref q_p0_code, .ref q_p0_stack])), (q_t, .inr (6, [.int t_length, .ref q_t_code, .ref q_t_stack])), (q_t_code, .inl (cy 1, 40, .inl t_code)), (q_p0_code, .inl (cy 1, 40, .inl p0_code))]
theorem iX5_copyFrom_X5 : ∀ w ∈ wsX50, w ∈ wsX5_copyFrom := fun _ h => List.mem_cons_of_mem _ (List.mem_append_right _ h)
abbrev rm_X5_copyFrom : Room := { frames := 1, cells := 0, slots := 0, locals := 60 }
set_option maxRecDepth 100000 in
def f_X5_copyFrom (N : Nat) (p0_length : Int32) (t_length : Int32) (t_code : Nat → Int32) (p0_code : Nat → Int32) : Option (Int32 × (Nat → Int32)) := zbn (va_cpy p0_code t_code 0 0 40) fun f1 => some (p0_length, f1)
set_option maxHeartbeats 4000000 in
set_option maxRecDepth 100000 in
theorem c_X5_copyFrom (l : Launch) (G : va_G) (cy : Nat → ClassId) (E : List (Nat × Cell)) (N : Nat) (q_t q_p0 q_p0_code q_p0_stack q_t_code q_t_stack : Nat) (p0_length : Int32) (t_length : Int32) (t_code : Nat → Int32) (p0_code : Nat → Int32) (r_t_length : Int32) (r_t_code : Nat → Int32) (h : f_X5_copyFrom N p0_length t_length t_code p0_code = some (r_t_length, r_t_code)) : zM l G cy E yX5_copyFrom wsX5_copyFrom rm_X5_copyFrom [.ref q_t, .ref q_p0] (wd_X5_copyFrom cy q_t q_p0 q_p0_code q_p0_stack q_t_code q_t_stack p0_length t_length t_code p0_code) (wd_X5_copyFrom cy q_t q_p0 q_p0_code q_p0_stack q_t_code q_t_stack p0_length r_t_length r_t_code p0_code) none 0 0 := by
  refine z_body (cc := cX5_copyFrom) (maxL := 2) (ret := none) (by decide) rfl (Nat.le_of_ble_eq_true rfl) ?_
  intro p e s m below meth c ls S hr hlocks hnm hF hH hl
  have S : CallFix p m c cX5_copyFrom 2 s ([.ref q_t, .ref q_p0] : List Value).toArray wsX5_copyFrom RX5 := S
  obtain ⟨hx, hb, hml, hown, hts⟩ := id S
  have hl : lv_has ls 2 [(0, .ref q_t), (1, .ref q_p0)] := hl
  rw [f_X5_copyFrom] at h
  refine lv_aload_n hx hb dX5_copyFrom_0 rfl (lv_at hl 0 rfl) ?_
  refine lv_aload_n hx hb dX5_copyFrom_1 rfl (lv_at hl 1 rfl) ?_
  refine z_get S hF hH iX5_copyFrom_X5 0 rfl rfl 0 (by decide) (List.mem_of_getElem? (i := 1) rfl) rfl dX5_copyFrom_2 ?_
  refine z_put (ws' := (wd_X5_copyFrom cy q_t q_p0 q_p0_code q_p0_stack q_t_code q_t_stack p0_length p0_length t_code p0_code)) S hF hH iX5_copyFrom_X5 tyX5 tyX5_ok nmX5 1 rfl rfl 0 (by decide) (List.mem_of_getElem? (i := 1) rfl) rfl rfl rfl (Nat.le_of_ble_eq_true rfl) rfl dX5_copyFrom_5 (fun H locs hH => ?_)
  refine lv_aload_n hx hb dX5_copyFrom_8 rfl (lv_at hl 1 rfl) ?_
  refine z_get S hF hH iX5_copyFrom_X5 0 rfl rfl 1 (by decide) (List.mem_of_getElem? (i := 2) rfl) rfl dX5_copyFrom_9 ?_
  refine lv_iconst (v := 0) hx hb dX5_copyFrom_12 (by decide) ?_
  refine lv_aload_n hx hb dX5_copyFrom_13 rfl (lv_at hl 0 rfl) ?_
  refine z_get S hF hH iX5_copyFrom_X5 1 rfl rfl 1 (by decide) (List.mem_of_getElem? (i := 2) rfl) rfl dX5_copyFrom_14 ?_
  refine lv_iconst (v := 0) hx hb dX5_copyFrom_17 (by decide) ?_
  refine lv_aload_n hx hb dX5_copyFrom_18 rfl (lv_at hl 0 rfl) ?_
  refine z_get S hF hH iX5_copyFrom_X5 1 rfl rfl 1 (by decide) (List.mem_of_getElem? (i := 2) rfl) rfl dX5_copyFrom_19 ?_
  refine z_alen (v := 40) S hF hH 2 1 rfl rfl rfl dX5_copyFrom_22 ?_
  obtain ⟨f1, ef1, h⟩ := zbn_e h
  refine z_copyi (ws' := (wd_X5_copyFrom cy q_t q_p0 q_p0_code q_p0_stack q_t_code q_t_stack p0_length p0_length f1 p0_code)) S hF hH hl.1 (List.mem_of_getElem? (i := 3) rfl) (List.mem_of_getElem? (i := 4) rfl) (List.mem_of_getElem? (i := 5) rfl) (List.mem_of_getElem? (i := 6) rfl) 3 2 rfl rfl 0 0 40 rfl rfl rfl (by decide) (by decide) (by decide) (Nat.le_of_ble_eq_true rfl) (Nat.le_of_ble_eq_true rfl) (Nat.le_of_ble_eq_true rfl) (by decide +kernel) (by rw [ef1]; rfl) dX5_copyFrom_23 (fun H locs hH => ?_)
  clear ef1
  cases h
  exact z_vret S hr hlocks hH dX5_copyFrom_26
abbrev wd_X5_put (cy : Nat → ClassId) (q_t q_t_code q_t_stack : Nat) (t_length : Int32) (t_code : Nat → Int32) : va_W := [(q_t, .inr (6, [.int t_length, .ref q_t_code, .ref q_t_stack])), (q_t_code, .inl (cy 1, 40, .inl t_code))]
theorem iX5_put_X5 : ∀ w ∈ wsX50, w ∈ wsX5_put := fun _ h => List.mem_cons_of_mem _ (List.mem_append_right _ h)
abbrev rm_X5_put : Room := { frames := 0, cells := 0, slots := 0, locals := 0 }
set_option maxRecDepth 100000 in
def f_X5_put (N : Nat) (x0 : Int32) (x1 : Int32) (x2 : Int32) (t_length : Int32) (t_code : Nat → Int32) : Option (Int32 × (Nat → Int32)) := if 40 ≤ t_length then (some (t_length, t_code)) else (zbn ((((x0 * 8192) + ((x1 - 60) * 1024)) + x2)) fun y1 => zck (zin t_length 40) <| zbn (upd t_code (Int32.toNatClampNeg t_length) y1) fun f2 => zbn ((t_length + 1)) fun y3 => some (y3, f2))
set_option maxHeartbeats 4000000 in
set_option maxRecDepth 100000 in
theorem c_X5_put (l : Launch) (G : va_G) (cy : Nat → ClassId) (E : List (Nat × Cell)) (N : Nat) (q_t q_t_code q_t_stack : Nat) (t_length : Int32) (t_code : Nat → Int32) (x0 : Int32) (x1 : Int32) (x2 : Int32) (r_t_length : Int32) (r_t_code : Nat → Int32) (h : f_X5_put N x0 x1 x2 t_length t_code = some (r_t_length, r_t_code)) : zM l G cy E yX5_put wsX5_put rm_X5_put [.ref q_t, .int x0, .int x1, .int x2] (wd_X5_put cy q_t q_t_code q_t_stack t_length t_code) (wd_X5_put cy q_t q_t_code q_t_stack r_t_length r_t_code) none 0 0 := by
  refine z_body (cc := cX5_put) (maxL := 4) (ret := none) (by decide) rfl (Nat.le_of_ble_eq_true rfl) ?_
  intro p e s m below meth c ls S hr hlocks hnm hF hH hl
  have S : CallFix p m c cX5_put 4 s ([.ref q_t, .int x0, .int x1, .int x2] : List Value).toArray wsX5_put RX5 := S
  obtain ⟨hx, hb, hml, hown, hts⟩ := id S
  have hl : lv_has ls 4 [(0, .ref q_t), (1, .int x0), (2, .int x1), (3, .int x2)] := hl
  rw [f_X5_put] at h
  refine lv_aload_n hx hb dX5_put_0 rfl (lv_at hl 0 rfl) ?_
  refine z_get S hF hH iX5_put_X5 0 rfl rfl 0 (by decide) (List.mem_of_getElem? (i := 1) rfl) rfl dX5_put_1 ?_
  refine lv_aload_n hx hb dX5_put_4 rfl (lv_at hl 0 rfl) ?_
  refine z_get S hF hH iX5_put_X5 0 rfl rfl 1 (by decide) (List.mem_of_getElem? (i := 2) rfl) rfl dX5_put_5 ?_
  refine z_alen (v := 40) S hF hH 1 1 rfl rfl rfl dX5_put_8 ?_
  refine lv_icmp_ge (tgt := 47) hx hb dX5_put_9 (by decide) (fun b9 => ?_) (fun b9 => ?_)
  · replace h := zif_t b9 h
    cases h
    exact z_vret S hr hlocks hH dX5_put_47
  · replace h := zif_f b9 h
    refine lv_aload_n hx hb dX5_put_12 rfl (lv_at hl 0 rfl) ?_
    refine z_get S hF hH iX5_put_X5 0 rfl rfl 1 (by decide) (List.mem_of_getElem? (i := 2) rfl) rfl dX5_put_13 ?_
    refine lv_aload_n hx hb dX5_put_16 rfl (lv_at hl 0 rfl) ?_
    refine z_get S hF hH iX5_put_X5 0 rfl rfl 0 (by decide) (List.mem_of_getElem? (i := 1) rfl) rfl dX5_put_17 ?_
    refine lv_iload_n hx hb dX5_put_20 rfl (lv_at hl 1 rfl) ?_
    refine lv_sipush (v := 8192) hx hb dX5_put_21 (by decide) ?_
    refine lv_imul hx hb dX5_put_24 ?_
    refine lv_iload_n hx hb dX5_put_25 rfl (lv_at hl 2 rfl) ?_
    refine lv_bipush (v := 60) hx hb dX5_put_26 (by decide) ?_
    refine lv_isub hx hb dX5_put_28 ?_
    refine lv_sipush (v := 1024) hx hb dX5_put_29 (by decide) ?_
    refine lv_imul hx hb dX5_put_32 ?_
    refine lv_iadd hx hb dX5_put_33 ?_
    refine lv_iload_n hx hb dX5_put_34 rfl (lv_at hl 3 rfl) ?_
    refine lv_iadd hx hb dX5_put_35 ?_
    obtain ⟨y1, ey1, h⟩ := zbn_e h
    refine z_top ey1 ?_
    clear ey1
    obtain ⟨h36, h⟩ := zck_e h
    obtain ⟨f2, ef2, h⟩ := zbn_e h
    refine z_iast (ws' := (wd_X5_put cy q_t q_t_code q_t_stack t_length f2)) S hF hH 1 rfl h36 (by rw [ef2]; rfl) dX5_put_36 (fun H locs hH => ?_)
    clear ef2
    refine lv_aload_n hx hb dX5_put_37 rfl (lv_at hl 0 rfl) ?_
    refine lv_dup hx hb dX5_put_38 rfl ?_
    refine z_get S hF hH iX5_put_X5 0 rfl rfl 0 (by decide) (List.mem_of_getElem? (i := 1) rfl) rfl dX5_put_39 ?_
    refine lv_iconst (v := 1) hx hb dX5_put_42 (by decide) ?_
    refine lv_iadd hx hb dX5_put_43 ?_
    obtain ⟨y3, ey3, h⟩ := zbn_e h
    refine z_top ey3 ?_
    clear ey3
    refine z_put (ws' := (wd_X5_put cy q_t q_t_code q_t_stack y3 f2)) S hF hH iX5_put_X5 tyX5 tyX5_ok nmX5 0 rfl rfl 0 (by decide) (List.mem_of_getElem? (i := 1) rfl) rfl rfl rfl (Nat.le_of_ble_eq_true rfl) rfl dX5_put_44 (fun H locs hH => ?_)
    cases h
    exact z_vret S hr hlocks hH dX5_put_47
abbrev rm_X5_compares : Room := { frames := 0, cells := 0, slots := 0, locals := 0 }
set_option maxRecDepth 100000 in
def f_X5_compares (N : Nat) (x0 : Int32) (x1 : Int32) (x2 : Int32) : Option (Int32) := if x1 = 60 then (if x2 ≤ x0 then (some 0) else (some 1)) else (if x1 = 61 then (if x0 = x2 then (some 1) else (some 0)) else (if x0 ≤ x2 then (some 0) else (some 1)))
set_option maxHeartbeats 4000000 in
set_option maxRecDepth 100000 in
theorem c_X5_compares (l : Launch) (G : va_G) (cy : Nat → ClassId) (E : List (Nat × Cell)) (N : Nat) (x0 : Int32) (x1 : Int32) (x2 : Int32) (r : Int32) (h : f_X5_compares N x0 x1 x2 = some r) : zM l G cy E yX5_compares wsX5_compares rm_X5_compares [.int x0, .int x1, .int x2] ([] : va_W) ([] : va_W) (some (.int r)) 0 0 := by
  refine z_body (cc := cX5_compares) (maxL := 3) (ret := some .boolean) (by decide) rfl (Nat.le_of_ble_eq_true rfl) ?_
  intro p e s m below meth c ls S hr hlocks hnm hF hH hl
  have S : CallFix p m c cX5_compares 3 s ([.int x0, .int x1, .int x2] : List Value).toArray wsX5_compares RX5 := S
  obtain ⟨hx, hb, hml, hown, hts⟩ := id S
  have hl : lv_has ls 3 [(0, .int x0), (1, .int x1), (2, .int x2)] := hl
  rw [f_X5_compares] at h
  refine lv_iload_n hx hb dX5_compares_0 rfl (lv_at hl 1 rfl) ?_
  refine lv_bipush (v := 60) hx hb dX5_compares_1 (by decide) ?_
  refine lv_icmp_ne (tgt := 17) hx hb dX5_compares_3 (by decide) (fun b3 => ?_) (fun b3 => ?_)
  · replace h := zif_f b3 h
    refine lv_iload_n hx hb dX5_compares_17 rfl (lv_at hl 1 rfl) ?_
    refine lv_bipush (v := 61) hx hb dX5_compares_18 (by decide) ?_
    refine lv_icmp_ne (tgt := 36) hx hb dX5_compares_20 (by decide) (fun b20 => ?_) (fun b20 => ?_)
    · replace h := zif_f b20 h
      refine lv_iload_n hx hb dX5_compares_36 rfl (lv_at hl 0 rfl) ?_
      refine lv_iload_n hx hb dX5_compares_37 rfl (lv_at hl 2 rfl) ?_
      refine lv_icmp_le (tgt := 45) hx hb dX5_compares_38 (by decide) (fun b38 => ?_) (fun b38 => ?_)
      · replace h := zif_t b38 h
        refine lv_iconst (v := 0) hx hb dX5_compares_45 (by decide) ?_
        cases h
        exact z_zret S hr hlocks hH rfl dX5_compares_46
      · replace h := zif_f b38 h
        refine lv_iconst (v := 1) hx hb dX5_compares_41 (by decide) ?_
        refine lv_goto (tgt := 46) hx hb dX5_compares_42 (by decide) ?_
        cases h
        exact z_zret S hr hlocks hH rfl dX5_compares_46
    · replace h := zif_t b20 h
      refine lv_iload_n hx hb dX5_compares_23 rfl (lv_at hl 0 rfl) ?_
      refine lv_iload_n hx hb dX5_compares_24 rfl (lv_at hl 2 rfl) ?_
      refine lv_icmp_ne (tgt := 32) hx hb dX5_compares_25 (by decide) (fun b25 => ?_) (fun b25 => ?_)
      · replace h := zif_f b25 h
        refine lv_iconst (v := 0) hx hb dX5_compares_32 (by decide) ?_
        refine lv_goto (tgt := 46) hx hb dX5_compares_33 (by decide) ?_
        cases h
        exact z_zret S hr hlocks hH rfl dX5_compares_46
      · replace h := zif_t b25 h
        refine lv_iconst (v := 1) hx hb dX5_compares_28 (by decide) ?_
        refine lv_goto (tgt := 46) hx hb dX5_compares_29 (by decide) ?_
        cases h
        exact z_zret S hr hlocks hH rfl dX5_compares_46
  · replace h := zif_t b3 h
    refine lv_iload_n hx hb dX5_compares_6 rfl (lv_at hl 0 rfl) ?_
    refine lv_iload_n hx hb dX5_compares_7 rfl (lv_at hl 2 rfl) ?_
    refine lv_icmp_ge (tgt := 15) hx hb dX5_compares_8 (by decide) (fun b8 => ?_) (fun b8 => ?_)
    · replace h := zif_t b8 h
      refine lv_iconst (v := 0) hx hb dX5_compares_15 (by decide) ?_
      cases h
      exact z_zret S hr hlocks hH rfl dX5_compares_16
    · replace h := zif_f b8 h
      refine lv_iconst (v := 1) hx hb dX5_compares_11 (by decide) ?_
      refine lv_goto (tgt := 16) hx hb dX5_compares_12 (by decide) ?_
      cases h
      exact z_zret S hr hlocks hH rfl dX5_compares_16
abbrev wd_X5_holds (cy : Nat → ClassId) (q_p1 q_p1_burgh q_p1_ahead q_p1_since q_p1_stood q_p1_due q_p1_left q_p1_came q_p1_burgh_clockName q_p1_burgh_clockCorner q_p1_burgh_clockAhead q_p1_burgh_clockGain q_p1_burgh_masterName q_p1_burgh_masterCorner q_p1_burgh_masterLate q_p1_burgh_masterClock q_p1_burgh_masterMeets q_p1_burgh_meetName q_p1_burgh_meetDue : Nat) (p1_minute : Int32) (p1_out : Int32) (p1_stopped : Int32) (p1_burgh_clocks : Int32) (p1_burgh_masters : Int32) (p1_burgh_meets : Int32) (p1_burgh_patience : Int32) (p1_came : Nat → Int32) (p1_burgh_masterCorner : Nat → Int32) (p1_burgh_masterLate : Nat → Int32) (p1_burgh_masterMeets : Nat → Int32) (p1_burgh_masterClock : Nat → Int32) (p1_stood : Nat → Int32) (p1_ahead : Nat → Int32) (p1_burgh_clockGain : Nat → Int32) (p1_since : Nat → Int32) (p1_left : Nat → Int32) : va_W := [(q_p1, .inr (4, [.ref q_p1_burgh, .int p1_minute, .int p1_out, .int p1_stopped, .ref q_p1_ahead, .ref q_p1_since, .ref q_p1_stood, .ref q_p1_due, .ref q_p1_left, .ref q_p1_came])), (q_p1_burgh, .inr (2, [.int p1_burgh_clocks, .int p1_burgh_masters, .int p1_burgh_meets, .int p1_burgh_patience, .ref q_p1_burgh_clockName, .ref q_p1_burgh_clockCorner, .ref q_p1_burgh_clockAhead, .ref q_p1_burgh_clockGain, .ref q_p1_burgh_masterName, .ref q_p1_burgh_masterCorner, .ref q_p1_burgh_masterLate, .ref q_p1_burgh_masterClock, .ref q_p1_burgh_masterMeets, .ref q_p1_burgh_meetName, .ref q_p1_burgh_meetDue])), (q_p1_came, .inl (cy 1, 36, .inl p1_came)), (q_p1_burgh_masterCorner, .inl (cy 1, 6, .inl p1_burgh_masterCorner)), (q_p1_burgh_masterLate, .inl (cy 1, 6, .inl p1_burgh_masterLate)), (q_p1_burgh_masterMeets, .inl (cy 1, 6, .inl p1_burgh_masterMeets)), (q_p1_burgh_masterClock, .inl (cy 1, 6, .inl p1_burgh_masterClock)), (q_p1_stood, .inl (cy 1, 6, .inl p1_stood)), (q_p1_ahead, .inl (cy 1, 6, .inl p1_ahead)), (q_p1_burgh_clockGain, .inl (cy 1, 6, .inl p1_burgh_clockGain)), (q_p1_since, .inl (cy 1, 6, .inl p1_since)), (q_p1_left, .inl (cy 1, 36, .inl p1_left))]
theorem iX5_holds_X1 : ∀ w ∈ wsX10, w ∈ wsX5_holds := fun _ h => List.mem_cons_of_mem _ (List.mem_append_right _ h)
theorem iX5_holds_X3 : ∀ w ∈ wsX30, w ∈ wsX5_holds := fun _ h => List.mem_cons_of_mem _ (List.mem_append_left _ (List.mem_append_right _ h))
abbrev rm_X5_holds : Room := { frames := 3, cells := 0, slots := 0, locals := 64 }
set_option maxRecDepth 100000 in
def f_X5_holds (N : Nat) (x0 : Int32) (x2 : Int32) (p1_minute : Int32) (p1_out : Int32) (p1_stopped : Int32) (p1_burgh_meets : Int32) (p1_came : Nat → Int32) (p1_burgh_masterCorner : Nat → Int32) (p1_burgh_masterLate : Nat → Int32) (p1_burgh_masterMeets : Nat → Int32) (p1_burgh_masterClock : Nat → Int32) (p1_stood : Nat → Int32) (p1_ahead : Nat → Int32) (p1_burgh_clockGain : Nat → Int32) (p1_since : Nat → Int32) (p1_left : Nat → Int32) : Option (Int32) := zbn ((zrem x0 1024)) fun y1 => zbn ((((zrem x0 8192) / 1024) + 60)) fun y2 => zbn ((x0 / 8192)) fun y3 => if y3 = 17 then (zcl (f_X3_isOut N x2 p1_out) fun z74 => zck (zbo z74) <| some z74) else (if y3 = 18 then (zcl (f_X3_meetsIn N x2 p1_burgh_meets p1_left) fun z84 => zcl (f_X3_meetsIn N x2 p1_burgh_meets p1_came) fun z93 => if z84 = z93 then (some 0) else (some 1)) else (if y3 = 19 then (zck (zin x2 6) <| zcl (f_X3_wrongBy N (p1_burgh_masterClock (Int32.toNatClampNeg x2)) p1_minute p1_stopped p1_stood p1_ahead p1_burgh_clockGain p1_since) fun z115 => if z115 = 0 then (some 1) else (some 0)) else (if y3 = 20 then (zck (zin x2 6) <| if (p1_burgh_masterClock (Int32.toNatClampNeg x2)) = y1 then (some 1) else (some 0)) else (if y3 = 21 then (zcl (f_X1_isToCome N x2 y1 p1_burgh_masterMeets) fun z152 => zck (zbo z152) <| some z152) else (if y3 = 22 then (zck (zin x2 6) <| zcl (f_X5_compares N (p1_burgh_masterLate (Int32.toNatClampNeg x2)) y2 y1) fun z168 => zck (zbo z168) <| some z168) else (if y3 = 23 then (zck (zin x2 6) <| zcl (f_X5_compares N (p1_burgh_masterCorner (Int32.toNatClampNeg x2)) y2 y1) fun z184 => zck (zbo z184) <| some z184) else (if y3 = 24 then (zcl (f_X3_meetsIn N x2 p1_burgh_meets p1_came) fun z194 => zcl (f_J6_bitCount_0f7a4 N z194) fun z197 => zcl (f_X5_compares N z197 y2 y1) fun z203 => zck (zbo z203) <| some z203) else (zcl (f_X5_compares N x2 y2 y1) fun z211 => zck (zbo z211) <| some z211))))))))
set_option maxHeartbeats 4000000 in
set_option maxRecDepth 100000 in
theorem c_X5_holds (l : Launch) (G : va_G) (cy : Nat → ClassId) (E : List (Nat × Cell)) (N : Nat) (q_p1 q_p1_burgh q_p1_ahead q_p1_since q_p1_stood q_p1_due q_p1_left q_p1_came q_p1_burgh_clockName q_p1_burgh_clockCorner q_p1_burgh_clockAhead q_p1_burgh_clockGain q_p1_burgh_masterName q_p1_burgh_masterCorner q_p1_burgh_masterLate q_p1_burgh_masterClock q_p1_burgh_masterMeets q_p1_burgh_meetName q_p1_burgh_meetDue : Nat) (p1_minute : Int32) (p1_out : Int32) (p1_stopped : Int32) (p1_burgh_clocks : Int32) (p1_burgh_masters : Int32) (p1_burgh_meets : Int32) (p1_burgh_patience : Int32) (p1_came : Nat → Int32) (p1_burgh_masterCorner : Nat → Int32) (p1_burgh_masterLate : Nat → Int32) (p1_burgh_masterMeets : Nat → Int32) (p1_burgh_masterClock : Nat → Int32) (p1_stood : Nat → Int32) (p1_ahead : Nat → Int32) (p1_burgh_clockGain : Nat → Int32) (p1_since : Nat → Int32) (p1_left : Nat → Int32) (x0 : Int32) (x2 : Int32) (r : Int32) (h : f_X5_holds N x0 x2 p1_minute p1_out p1_stopped p1_burgh_meets p1_came p1_burgh_masterCorner p1_burgh_masterLate p1_burgh_masterMeets p1_burgh_masterClock p1_stood p1_ahead p1_burgh_clockGain p1_since p1_left = some r) : zM l G cy E yX5_holds wsX5_holds rm_X5_holds [.int x0, .ref q_p1, .int x2] (wd_X5_holds cy q_p1 q_p1_burgh q_p1_ahead q_p1_since q_p1_stood q_p1_due q_p1_left q_p1_came q_p1_burgh_clockName q_p1_burgh_clockCorner q_p1_burgh_clockAhead q_p1_burgh_clockGain q_p1_burgh_masterName q_p1_burgh_masterCorner q_p1_burgh_masterLate q_p1_burgh_masterClock q_p1_burgh_masterMeets q_p1_burgh_meetName q_p1_burgh_meetDue p1_minute p1_out p1_stopped p1_burgh_clocks p1_burgh_masters p1_burgh_meets p1_burgh_patience p1_came p1_burgh_masterCorner p1_burgh_masterLate p1_burgh_masterMeets p1_burgh_masterClock p1_stood p1_ahead p1_burgh_clockGain p1_since p1_left) (wd_X5_holds cy q_p1 q_p1_burgh q_p1_ahead q_p1_since q_p1_stood q_p1_due q_p1_left q_p1_came q_p1_burgh_clockName q_p1_burgh_clockCorner q_p1_burgh_clockAhead q_p1_burgh_clockGain q_p1_burgh_masterName q_p1_burgh_masterCorner q_p1_burgh_masterLate q_p1_burgh_masterClock q_p1_burgh_masterMeets q_p1_burgh_meetName q_p1_burgh_meetDue p1_minute p1_out p1_stopped p1_burgh_clocks p1_burgh_masters p1_burgh_meets p1_burgh_patience p1_came p1_burgh_masterCorner p1_burgh_masterLate p1_burgh_masterMeets p1_burgh_masterClock p1_stood p1_ahead p1_burgh_clockGain p1_since p1_left) (some (.int r)) 0 0 := by
  refine z_body (cc := cX5_holds) (maxL := 5) (ret := some .boolean) (by decide) rfl (Nat.le_of_ble_eq_true rfl) ?_
  intro p e s m below meth c ls S hr hlocks hnm hF hH hl
  have S : CallFix p m c cX5_holds 5 s ([.int x0, .ref q_p1, .int x2] : List Value).toArray wsX5_holds RX5 := S
  obtain ⟨hx, hb, hml, hown, hts⟩ := id S
  have hl : lv_has ls 5 [(0, .int x0), (1, .ref q_p1), (2, .int x2)] := hl
  rw [f_X5_holds] at h
  refine lv_iload_n hx hb dX5_holds_0 rfl (lv_at hl 0 rfl) ?_
  refine lv_sipush (v := 1024) hx hb dX5_holds_1 (by decide) ?_
  refine z_irem hx hb dX5_holds_4 (by decide) ?_
  obtain ⟨y1, ey1, h⟩ := zbn_e h
  refine z_top ey1 ?_
  clear ey1
  refine lv_istore_n (lv' := [(3, .int y1), (0, .int x0), (1, .ref q_p1), (2, .int x2)]) hx hb dX5_holds_5 rfl hl (by decide) rfl (fun ls hl => ?_)
  refine lv_iload_n hx hb dX5_holds_6 rfl (lv_at hl 1 rfl) ?_
  refine lv_sipush (v := 8192) hx hb dX5_holds_7 (by decide) ?_
  refine z_irem hx hb dX5_holds_10 (by decide) ?_
  refine lv_sipush (v := 1024) hx hb dX5_holds_11 (by decide) ?_
  refine lv_idiv hx hb dX5_holds_14 (by decide) ?_
  refine lv_bipush (v := 60) hx hb dX5_holds_15 (by decide) ?_
  refine lv_iadd hx hb dX5_holds_17 ?_
  obtain ⟨y2, ey2, h⟩ := zbn_e h
  refine z_top ey2 ?_
  clear ey2
  refine lv_istore (lv' := [(4, .int y2), (3, .int y1), (0, .int x0), (1, .ref q_p1), (2, .int x2)]) hx hb dX5_holds_18 hl (by decide) rfl (fun ls hl => ?_)
  refine lv_iload_n hx hb dX5_holds_20 rfl (lv_at hl 2 rfl) ?_
  refine lv_sipush (v := 8192) hx hb dX5_holds_21 (by decide) ?_
  refine lv_idiv hx hb dX5_holds_24 (by decide) ?_
  obtain ⟨y3, ey3, h⟩ := zbn_e h
  refine z_top ey3 ?_
  clear ey3
  by_cases b25_0 : y3 = 17
  · replace h := zif_t b25_0 h
    refine lv_tableIn (tgt := 72) hx hb dX5_holds_25 (by rw [b25_0]; decide) (by rw [b25_0]; decide) (by rw [b25_0]; rfl) (by decide) ?_
    refine lv_aload_n hx hb dX5_holds_72 rfl (lv_at hl 3 rfl) ?_
    refine lv_iload_n hx hb dX5_holds_73 rfl (lv_at hl 4 rfl) ?_
    obtain ⟨z74, hz74, h⟩ := zcl_e h
    refine z_callV (As := [.int x2]) (rest := []) (st1 := [.int z74]) (ws' := (wd_X5_holds cy q_p1 q_p1_burgh q_p1_ahead q_p1_since q_p1_stood q_p1_due q_p1_left q_p1_came q_p1_burgh_clockName q_p1_burgh_clockCorner q_p1_burgh_clockAhead q_p1_burgh_clockGain q_p1_burgh_masterName q_p1_burgh_masterCorner q_p1_burgh_masterLate q_p1_burgh_masterClock q_p1_burgh_masterMeets q_p1_burgh_meetName q_p1_burgh_meetDue p1_minute p1_out p1_stopped p1_burgh_clocks p1_burgh_masters p1_burgh_meets p1_burgh_patience p1_came p1_burgh_masterCorner p1_burgh_masterLate p1_burgh_masterMeets p1_burgh_masterClock p1_stood p1_ahead p1_burgh_clockGain p1_since p1_left)) S hF hH (c_X3_isOut l G cy E N q_p1 q_p1_burgh q_p1_ahead q_p1_since q_p1_stood q_p1_due q_p1_left q_p1_came p1_minute p1_out p1_stopped x2 z74 hz74) (cwV 1 hts gX5_holds_X3_isOut rfl rfl rfl (by decide +kernel) ⟨Nat.le_of_ble_eq_true rfl, Nat.le_of_ble_eq_true rfl⟩) 4 0 rfl rfl [0] [1, 2, 3, 4, 5, 6, 7, 8, 9, 10, 11] [11, 0, 1, 2, 3, 4, 5, 6, 7, 8, 9, 10] rfl rfl (by decide) (by decide) (by decide) (by decide) rfl rfl rfl rfl hl.1 (Nat.le_of_ble_eq_true rfl) dX5_holds_74 ⟨Nat.le_of_ble_eq_true rfl, Nat.le_of_ble_eq_true rfl⟩ (fun H locs hH => ?_)
    obtain ⟨h77, h⟩ := zck_e h
    cases h
    exact z_zret S hr hlocks hH h77 dX5_holds_77
  · replace h := zif_f b25_0 h
    by_cases b25_1 : y3 = 18
    · replace h := zif_t b25_1 h
      refine lv_tableIn (tgt := 78) hx hb dX5_holds_25 (by rw [b25_1]; decide) (by rw [b25_1]; decide) (by rw [b25_1]; rfl) (by decide) ?_
      refine lv_aload_n hx hb dX5_holds_78 rfl (lv_at hl 3 rfl) ?_
      refine lv_aload_n hx hb dX5_holds_79 rfl (lv_at hl 3 rfl) ?_
      refine z_get S hF hH iX5_holds_X3 0 rfl rfl 8 (by decide) (List.mem_of_getElem? (i := 1) rfl) rfl dX5_holds_80 ?_
      refine lv_iload_n hx hb dX5_holds_83 rfl (lv_at hl 4 rfl) ?_
      obtain ⟨z84, hz84, h⟩ := zcl_e h
      refine z_callV (As := [.ref q_p1_left, .int x2]) (rest := []) (st1 := [.int z84]) (ws' := (wd_X5_holds cy q_p1 q_p1_burgh q_p1_ahead q_p1_since q_p1_stood q_p1_due q_p1_left q_p1_came q_p1_burgh_clockName q_p1_burgh_clockCorner q_p1_burgh_clockAhead q_p1_burgh_clockGain q_p1_burgh_masterName q_p1_burgh_masterCorner q_p1_burgh_masterLate q_p1_burgh_masterClock q_p1_burgh_masterMeets q_p1_burgh_meetName q_p1_burgh_meetDue p1_minute p1_out p1_stopped p1_burgh_clocks p1_burgh_masters p1_burgh_meets p1_burgh_patience p1_came p1_burgh_masterCorner p1_burgh_masterLate p1_burgh_masterMeets p1_burgh_masterClock p1_stood p1_ahead p1_burgh_clockGain p1_since p1_left)) S hF hH (c_X3_meetsIn l G cy E N q_p1 q_p1_left q_p1_burgh q_p1_ahead q_p1_since q_p1_stood q_p1_due q_p1_left q_p1_came q_p1_burgh_clockName q_p1_burgh_clockCorner q_p1_burgh_clockAhead q_p1_burgh_clockGain q_p1_burgh_masterName q_p1_burgh_masterCorner q_p1_burgh_masterLate q_p1_burgh_masterClock q_p1_burgh_masterMeets q_p1_burgh_meetName q_p1_burgh_meetDue p1_minute p1_out p1_stopped p1_burgh_clocks p1_burgh_masters p1_burgh_meets p1_burgh_patience p1_left x2 z84 hz84) (cwV 2 hts gX5_holds_X3_meetsIn rfl rfl rfl (by decide +kernel) ⟨Nat.le_of_ble_eq_true rfl, Nat.le_of_ble_eq_true rfl⟩) 4 0 rfl rfl [0, 1, 11] [2, 3, 4, 5, 6, 7, 8, 9, 10] [9, 10, 0, 1, 2, 3, 4, 5, 6, 7, 8, 11] rfl rfl (by decide) (by decide) (by decide) (by decide) rfl rfl rfl rfl hl.1 (Nat.le_of_ble_eq_true rfl) dX5_holds_84 ⟨Nat.le_of_ble_eq_true rfl, Nat.le_of_ble_eq_true rfl⟩ (fun H locs hH => ?_)
      refine lv_aload_n hx hb dX5_holds_87 rfl (lv_at hl 3 rfl) ?_
      refine lv_aload_n hx hb dX5_holds_88 rfl (lv_at hl 3 rfl) ?_
      refine z_get S hF hH iX5_holds_X3 0 rfl rfl 9 (by decide) (List.mem_of_getElem? (i := 2) rfl) rfl dX5_holds_89 ?_
      refine lv_iload_n hx hb dX5_holds_92 rfl (lv_at hl 4 rfl) ?_
      obtain ⟨z93, hz93, h⟩ := zcl_e h
      refine z_callV (As := [.ref q_p1_came, .int x2]) (rest := [.int z84]) (st1 := [.int z93, .int z84]) (ws' := (wd_X5_holds cy q_p1 q_p1_burgh q_p1_ahead q_p1_since q_p1_stood q_p1_due q_p1_left q_p1_came q_p1_burgh_clockName q_p1_burgh_clockCorner q_p1_burgh_clockAhead q_p1_burgh_clockGain q_p1_burgh_masterName q_p1_burgh_masterCorner q_p1_burgh_masterLate q_p1_burgh_masterClock q_p1_burgh_masterMeets q_p1_burgh_meetName q_p1_burgh_meetDue p1_minute p1_out p1_stopped p1_burgh_clocks p1_burgh_masters p1_burgh_meets p1_burgh_patience p1_came p1_burgh_masterCorner p1_burgh_masterLate p1_burgh_masterMeets p1_burgh_masterClock p1_stood p1_ahead p1_burgh_clockGain p1_since p1_left)) S hF hH (c_X3_meetsIn l G cy E N q_p1 q_p1_came q_p1_burgh q_p1_ahead q_p1_since q_p1_stood q_p1_due q_p1_left q_p1_came q_p1_burgh_clockName q_p1_burgh_clockCorner q_p1_burgh_clockAhead q_p1_burgh_clockGain q_p1_burgh_masterName q_p1_burgh_masterCorner q_p1_burgh_masterLate q_p1_burgh_masterClock q_p1_burgh_masterMeets q_p1_burgh_meetName q_p1_burgh_meetDue p1_minute p1_out p1_stopped p1_burgh_clocks p1_burgh_masters p1_burgh_meets p1_burgh_patience p1_came x2 z93 hz93) (cwV 2 hts gX5_holds_X3_meetsIn rfl rfl rfl (by decide +kernel) ⟨Nat.le_of_ble_eq_true rfl, Nat.le_of_ble_eq_true rfl⟩) 4 0 rfl rfl [0, 1, 2] [3, 4, 5, 6, 7, 8, 9, 10, 11] [9, 10, 11, 0, 1, 2, 3, 4, 5, 6, 7, 8] rfl rfl (by decide) (by decide) (by decide) (by decide) rfl rfl rfl rfl hl.1 (Nat.le_of_ble_eq_true rfl) dX5_holds_93 ⟨Nat.le_of_ble_eq_true rfl, Nat.le_of_ble_eq_true rfl⟩ (fun H locs hH => ?_)
      refine lv_icmp_eq (tgt := 103) hx hb dX5_holds_96 (by decide) (fun b96 => ?_) (fun b96 => ?_)
      · replace h := zif_t b96 h
        refine lv_iconst (v := 0) hx hb dX5_holds_103 (by decide) ?_
        cases h
        exact z_zret S hr hlocks hH rfl dX5_holds_104
      · replace h := zif_f b96 h
        refine lv_iconst (v := 1) hx hb dX5_holds_99 (by decide) ?_
        refine lv_goto (tgt := 104) hx hb dX5_holds_100 (by decide) ?_
        cases h
        exact z_zret S hr hlocks hH rfl dX5_holds_104
    · replace h := zif_f b25_1 h
      by_cases b25_2 : y3 = 19
      · replace h := zif_t b25_2 h
        refine lv_tableIn (tgt := 105) hx hb dX5_holds_25 (by rw [b25_2]; decide) (by rw [b25_2]; decide) (by rw [b25_2]; rfl) (by decide) ?_
        refine lv_aload_n hx hb dX5_holds_105 rfl (lv_at hl 3 rfl) ?_
        refine lv_aload_n hx hb dX5_holds_106 rfl (lv_at hl 3 rfl) ?_
        refine z_get S hF hH iX5_holds_X3 0 rfl rfl 0 (by decide) (List.mem_of_getElem? (i := 3) rfl) rfl dX5_holds_107 ?_
        refine z_get S hF hH iX5_holds_X1 1 rfl rfl 11 (by decide) (List.mem_of_getElem? (i := 4) rfl) rfl dX5_holds_110 ?_
        refine lv_iload_n hx hb dX5_holds_113 rfl (lv_at hl 4 rfl) ?_
        obtain ⟨h114, h⟩ := zck_e h
        refine z_iald S hF hH 6 rfl h114 dX5_holds_114 ?_
        obtain ⟨z115, hz115, h⟩ := zcl_e h
        refine z_callV (As := [.int (p1_burgh_masterClock (Int32.toNatClampNeg x2))]) (rest := []) (st1 := [.int z115]) (ws' := (wd_X5_holds cy q_p1 q_p1_burgh q_p1_ahead q_p1_since q_p1_stood q_p1_due q_p1_left q_p1_came q_p1_burgh_clockName q_p1_burgh_clockCorner q_p1_burgh_clockAhead q_p1_burgh_clockGain q_p1_burgh_masterName q_p1_burgh_masterCorner q_p1_burgh_masterLate q_p1_burgh_masterClock q_p1_burgh_masterMeets q_p1_burgh_meetName q_p1_burgh_meetDue p1_minute p1_out p1_stopped p1_burgh_clocks p1_burgh_masters p1_burgh_meets p1_burgh_patience p1_came p1_burgh_masterCorner p1_burgh_masterLate p1_burgh_masterMeets p1_burgh_masterClock p1_stood p1_ahead p1_burgh_clockGain p1_since p1_left)) S hF hH (c_X3_wrongBy l G cy E N q_p1 q_p1_burgh q_p1_ahead q_p1_since q_p1_stood q_p1_due q_p1_left q_p1_came q_p1_burgh_clockName q_p1_burgh_clockCorner q_p1_burgh_clockAhead q_p1_burgh_clockGain q_p1_burgh_masterName q_p1_burgh_masterCorner q_p1_burgh_masterLate q_p1_burgh_masterClock q_p1_burgh_masterMeets q_p1_burgh_meetName q_p1_burgh_meetDue p1_minute p1_out p1_stopped p1_stood p1_ahead p1_burgh_clocks p1_burgh_masters p1_burgh_meets p1_burgh_patience p1_burgh_clockGain p1_since (p1_burgh_masterClock (Int32.toNatClampNeg x2)) z115 hz115) (cwV 1 hts gX5_holds_X3_wrongBy rfl rfl rfl (by decide +kernel) ⟨Nat.le_of_ble_eq_true rfl, Nat.le_of_ble_eq_true rfl⟩) 4 0 rfl rfl [0, 7, 8, 1, 9, 10] [2, 3, 4, 5, 6, 11] [6, 9, 0, 1, 2, 3, 4, 7, 8, 10, 11, 5] rfl rfl (by decide) (by decide) (by decide) (by decide) rfl rfl rfl rfl hl.1 (Nat.le_of_ble_eq_true rfl) dX5_holds_115 ⟨Nat.le_of_ble_eq_true rfl, Nat.le_of_ble_eq_true rfl⟩ (fun H locs hH => ?_)
        refine lv_if_ne (tgt := 125) hx hb dX5_holds_118 (by decide) (fun b118 => ?_) (fun b118 => ?_)
        · replace h := zif_f b118 h
          refine lv_iconst (v := 0) hx hb dX5_holds_125 (by decide) ?_
          cases h
          exact z_zret S hr hlocks hH rfl dX5_holds_126
        · replace h := zif_t b118 h
          refine lv_iconst (v := 1) hx hb dX5_holds_121 (by decide) ?_
          refine lv_goto (tgt := 126) hx hb dX5_holds_122 (by decide) ?_
          cases h
          exact z_zret S hr hlocks hH rfl dX5_holds_126
      · replace h := zif_f b25_2 h
        by_cases b25_3 : y3 = 20
        · replace h := zif_t b25_3 h
          refine lv_tableIn (tgt := 127) hx hb dX5_holds_25 (by rw [b25_3]; decide) (by rw [b25_3]; decide) (by rw [b25_3]; rfl) (by decide) ?_
          refine lv_aload_n hx hb dX5_holds_127 rfl (lv_at hl 3 rfl) ?_
          refine z_get S hF hH iX5_holds_X3 0 rfl rfl 0 (by decide) (List.mem_of_getElem? (i := 3) rfl) rfl dX5_holds_128 ?_
          refine z_get S hF hH iX5_holds_X1 1 rfl rfl 11 (by decide) (List.mem_of_getElem? (i := 4) rfl) rfl dX5_holds_131 ?_
          refine lv_iload_n hx hb dX5_holds_134 rfl (lv_at hl 4 rfl) ?_
          obtain ⟨h135, h⟩ := zck_e h
          refine z_iald S hF hH 6 rfl h135 dX5_holds_135 ?_
          refine lv_iload_n hx hb dX5_holds_136 rfl (lv_at hl 1 rfl) ?_
          refine lv_icmp_ne (tgt := 144) hx hb dX5_holds_137 (by decide) (fun b137 => ?_) (fun b137 => ?_)
          · replace h := zif_f b137 h
            refine lv_iconst (v := 0) hx hb dX5_holds_144 (by decide) ?_
            cases h
            exact z_zret S hr hlocks hH rfl dX5_holds_145
          · replace h := zif_t b137 h
            refine lv_iconst (v := 1) hx hb dX5_holds_140 (by decide) ?_
            refine lv_goto (tgt := 145) hx hb dX5_holds_141 (by decide) ?_
            cases h
            exact z_zret S hr hlocks hH rfl dX5_holds_145
        · replace h := zif_f b25_3 h
          by_cases b25_4 : y3 = 21
          · replace h := zif_t b25_4 h
            refine lv_tableIn (tgt := 146) hx hb dX5_holds_25 (by rw [b25_4]; decide) (by rw [b25_4]; decide) (by rw [b25_4]; rfl) (by decide) ?_
            refine lv_aload_n hx hb dX5_holds_146 rfl (lv_at hl 3 rfl) ?_
            refine z_get S hF hH iX5_holds_X3 0 rfl rfl 0 (by decide) (List.mem_of_getElem? (i := 3) rfl) rfl dX5_holds_147 ?_
            refine lv_iload_n hx hb dX5_holds_150 rfl (lv_at hl 4 rfl) ?_
            refine lv_iload_n hx hb dX5_holds_151 rfl (lv_at hl 1 rfl) ?_
            obtain ⟨z152, hz152, h⟩ := zcl_e h
            refine z_callV (As := [.int x2, .int y1]) (rest := []) (st1 := [.int z152]) (ws' := (wd_X5_holds cy q_p1 q_p1_burgh q_p1_ahead q_p1_since q_p1_stood q_p1_due q_p1_left q_p1_came q_p1_burgh_clockName q_p1_burgh_clockCorner q_p1_burgh_clockAhead q_p1_burgh_clockGain q_p1_burgh_masterName q_p1_burgh_masterCorner q_p1_burgh_masterLate q_p1_burgh_masterClock q_p1_burgh_masterMeets q_p1_burgh_meetName q_p1_burgh_meetDue p1_minute p1_out p1_stopped p1_burgh_clocks p1_burgh_masters p1_burgh_meets p1_burgh_patience p1_came p1_burgh_masterCorner p1_burgh_masterLate p1_burgh_masterMeets p1_burgh_masterClock p1_stood p1_ahead p1_burgh_clockGain p1_since p1_left)) S hF hH (c_X1_isToCome l G cy E N q_p1_burgh q_p1_burgh_clockName q_p1_burgh_clockCorner q_p1_burgh_clockAhead q_p1_burgh_clockGain q_p1_burgh_masterName q_p1_burgh_masterCorner q_p1_burgh_masterLate q_p1_burgh_masterClock q_p1_burgh_masterMeets q_p1_burgh_meetName q_p1_burgh_meetDue p1_burgh_clocks p1_burgh_masters p1_burgh_meets p1_burgh_patience p1_burgh_masterMeets x2 y1 z152 hz152) (cwV 2 hts gX5_holds_X1_isToCome rfl rfl rfl (by decide +kernel) ⟨Nat.le_of_ble_eq_true rfl, Nat.le_of_ble_eq_true rfl⟩) 2 0 rfl rfl [1, 5] [0, 2, 3, 4, 6, 7, 8, 9, 10, 11] [0, 10, 1, 2, 3, 11, 4, 5, 6, 7, 8, 9] rfl rfl (by decide) (by decide) (by decide) (by decide) rfl rfl rfl rfl hl.1 (Nat.le_of_ble_eq_true rfl) dX5_holds_152 ⟨Nat.le_of_ble_eq_true rfl, Nat.le_of_ble_eq_true rfl⟩ (fun H locs hH => ?_)
            obtain ⟨h155, h⟩ := zck_e h
            cases h
            exact z_zret S hr hlocks hH h155 dX5_holds_155
          · replace h := zif_f b25_4 h
            by_cases b25_5 : y3 = 22
            · replace h := zif_t b25_5 h
              refine lv_tableIn (tgt := 156) hx hb dX5_holds_25 (by rw [b25_5]; decide) (by rw [b25_5]; decide) (by rw [b25_5]; rfl) (by decide) ?_
              refine lv_aload_n hx hb dX5_holds_156 rfl (lv_at hl 3 rfl) ?_
              refine z_get S hF hH iX5_holds_X3 0 rfl rfl 0 (by decide) (List.mem_of_getElem? (i := 3) rfl) rfl dX5_holds_157 ?_
              refine z_get S hF hH iX5_holds_X1 1 rfl rfl 10 (by decide) (List.mem_of_getElem? (i := 5) rfl) rfl dX5_holds_160 ?_
              refine lv_iload_n hx hb dX5_holds_163 rfl (lv_at hl 4 rfl) ?_
              obtain ⟨h164, h⟩ := zck_e h
              refine z_iald S hF hH 4 rfl h164 dX5_holds_164 ?_
              refine lv_iload hx hb dX5_holds_165 (lv_at hl 0 rfl) ?_
              refine lv_iload_n hx hb dX5_holds_167 rfl (lv_at hl 1 rfl) ?_
              obtain ⟨z168, hz168, h⟩ := zcl_e h
              refine z_callS (As := [.int (p1_burgh_masterLate (Int32.toNatClampNeg x2)), .int y2, .int y1]) (rest := []) (st1 := [.int z168]) (ws' := (wd_X5_holds cy q_p1 q_p1_burgh q_p1_ahead q_p1_since q_p1_stood q_p1_due q_p1_left q_p1_came q_p1_burgh_clockName q_p1_burgh_clockCorner q_p1_burgh_clockAhead q_p1_burgh_clockGain q_p1_burgh_masterName q_p1_burgh_masterCorner q_p1_burgh_masterLate q_p1_burgh_masterClock q_p1_burgh_masterMeets q_p1_burgh_meetName q_p1_burgh_meetDue p1_minute p1_out p1_stopped p1_burgh_clocks p1_burgh_masters p1_burgh_meets p1_burgh_patience p1_came p1_burgh_masterCorner p1_burgh_masterLate p1_burgh_masterMeets p1_burgh_masterClock p1_stood p1_ahead p1_burgh_clockGain p1_since p1_left)) S hF hH (c_X5_compares l G cy E N (p1_burgh_masterLate (Int32.toNatClampNeg x2)) y2 y1 z168 hz168) (cwS 3 hts gX5_holds_X5_compares rfl rfl rfl (by decide +kernel) ⟨Nat.le_of_ble_eq_true rfl, Nat.le_of_ble_eq_true rfl⟩) [] [0, 1, 2, 3, 4, 5, 6, 7, 8, 9, 10, 11] [0, 1, 2, 3, 4, 5, 6, 7, 8, 9, 10, 11] rfl rfl (by decide) (by decide) (by decide) (by decide) rfl rfl rfl rfl hl.1 (Nat.le_of_ble_eq_true rfl) dX5_holds_168 ⟨Nat.le_of_ble_eq_true rfl, Nat.le_of_ble_eq_true rfl⟩ (fun H locs hH => ?_)
              obtain ⟨h171, h⟩ := zck_e h
              cases h
              exact z_zret S hr hlocks hH h171 dX5_holds_171
            · replace h := zif_f b25_5 h
              by_cases b25_6 : y3 = 23
              · replace h := zif_t b25_6 h
                refine lv_tableIn (tgt := 172) hx hb dX5_holds_25 (by rw [b25_6]; decide) (by rw [b25_6]; decide) (by rw [b25_6]; rfl) (by decide) ?_
                refine lv_aload_n hx hb dX5_holds_172 rfl (lv_at hl 3 rfl) ?_
                refine z_get S hF hH iX5_holds_X3 0 rfl rfl 0 (by decide) (List.mem_of_getElem? (i := 3) rfl) rfl dX5_holds_173 ?_
                refine z_get S hF hH iX5_holds_X1 1 rfl rfl 9 (by decide) (List.mem_of_getElem? (i := 6) rfl) rfl dX5_holds_176 ?_
                refine lv_iload_n hx hb dX5_holds_179 rfl (lv_at hl 4 rfl) ?_
                obtain ⟨h180, h⟩ := zck_e h
                refine z_iald S hF hH 3 rfl h180 dX5_holds_180 ?_
                refine lv_iload hx hb dX5_holds_181 (lv_at hl 0 rfl) ?_
                refine lv_iload_n hx hb dX5_holds_183 rfl (lv_at hl 1 rfl) ?_
                obtain ⟨z184, hz184, h⟩ := zcl_e h
                refine z_callS (As := [.int (p1_burgh_masterCorner (Int32.toNatClampNeg x2)), .int y2, .int y1]) (rest := []) (st1 := [.int z184]) (ws' := (wd_X5_holds cy q_p1 q_p1_burgh q_p1_ahead q_p1_since q_p1_stood q_p1_due q_p1_left q_p1_came q_p1_burgh_clockName q_p1_burgh_clockCorner q_p1_burgh_clockAhead q_p1_burgh_clockGain q_p1_burgh_masterName q_p1_burgh_masterCorner q_p1_burgh_masterLate q_p1_burgh_masterClock q_p1_burgh_masterMeets q_p1_burgh_meetName q_p1_burgh_meetDue p1_minute p1_out p1_stopped p1_burgh_clocks p1_burgh_masters p1_burgh_meets p1_burgh_patience p1_came p1_burgh_masterCorner p1_burgh_masterLate p1_burgh_masterMeets p1_burgh_masterClock p1_stood p1_ahead p1_burgh_clockGain p1_since p1_left)) S hF hH (c_X5_compares l G cy E N (p1_burgh_masterCorner (Int32.toNatClampNeg x2)) y2 y1 z184 hz184) (cwS 3 hts gX5_holds_X5_compares rfl rfl rfl (by decide +kernel) ⟨Nat.le_of_ble_eq_true rfl, Nat.le_of_ble_eq_true rfl⟩) [] [0, 1, 2, 3, 4, 5, 6, 7, 8, 9, 10, 11] [0, 1, 2, 3, 4, 5, 6, 7, 8, 9, 10, 11] rfl rfl (by decide) (by decide) (by decide) (by decide) rfl rfl rfl rfl hl.1 (Nat.le_of_ble_eq_true rfl) dX5_holds_184 ⟨Nat.le_of_ble_eq_true rfl, Nat.le_of_ble_eq_true rfl⟩ (fun H locs hH => ?_)
                obtain ⟨h187, h⟩ := zck_e h
                cases h
                exact z_zret S hr hlocks hH h187 dX5_holds_187
              · replace h := zif_f b25_6 h
                by_cases b25_7 : y3 = 24
                · replace h := zif_t b25_7 h
                  refine lv_tableIn (tgt := 188) hx hb dX5_holds_25 (by rw [b25_7]; decide) (by rw [b25_7]; decide) (by rw [b25_7]; rfl) (by decide) ?_
                  refine lv_aload_n hx hb dX5_holds_188 rfl (lv_at hl 3 rfl) ?_
                  refine lv_aload_n hx hb dX5_holds_189 rfl (lv_at hl 3 rfl) ?_
                  refine z_get S hF hH iX5_holds_X3 0 rfl rfl 9 (by decide) (List.mem_of_getElem? (i := 2) rfl) rfl dX5_holds_190 ?_
                  refine lv_iload_n hx hb dX5_holds_193 rfl (lv_at hl 4 rfl) ?_
                  obtain ⟨z194, hz194, h⟩ := zcl_e h
                  refine z_callV (As := [.ref q_p1_came, .int x2]) (rest := []) (st1 := [.int z194]) (ws' := (wd_X5_holds cy q_p1 q_p1_burgh q_p1_ahead q_p1_since q_p1_stood q_p1_due q_p1_left q_p1_came q_p1_burgh_clockName q_p1_burgh_clockCorner q_p1_burgh_clockAhead q_p1_burgh_clockGain q_p1_burgh_masterName q_p1_burgh_masterCorner q_p1_burgh_masterLate q_p1_burgh_masterClock q_p1_burgh_masterMeets q_p1_burgh_meetName q_p1_burgh_meetDue p1_minute p1_out p1_stopped p1_burgh_clocks p1_burgh_masters p1_burgh_meets p1_burgh_patience p1_came p1_burgh_masterCorner p1_burgh_masterLate p1_burgh_masterMeets p1_burgh_masterClock p1_stood p1_ahead p1_burgh_clockGain p1_since p1_left)) S hF hH (c_X3_meetsIn l G cy E N q_p1 q_p1_came q_p1_burgh q_p1_ahead q_p1_since q_p1_stood q_p1_due q_p1_left q_p1_came q_p1_burgh_clockName q_p1_burgh_clockCorner q_p1_burgh_clockAhead q_p1_burgh_clockGain q_p1_burgh_masterName q_p1_burgh_masterCorner q_p1_burgh_masterLate q_p1_burgh_masterClock q_p1_burgh_masterMeets q_p1_burgh_meetName q_p1_burgh_meetDue p1_minute p1_out p1_stopped p1_burgh_clocks p1_burgh_masters p1_burgh_meets p1_burgh_patience p1_came x2 z194 hz194) (cwV 2 hts gX5_holds_X3_meetsIn rfl rfl rfl (by decide +kernel) ⟨Nat.le_of_ble_eq_true rfl, Nat.le_of_ble_eq_true rfl⟩) 4 0 rfl rfl [0, 1, 2] [3, 4, 5, 6, 7, 8, 9, 10, 11] [9, 10, 11, 0, 1, 2, 3, 4, 5, 6, 7, 8] rfl rfl (by decide) (by decide) (by decide) (by decide) rfl rfl rfl rfl hl.1 (Nat.le_of_ble_eq_true rfl) dX5_holds_194 ⟨Nat.le_of_ble_eq_true rfl, Nat.le_of_ble_eq_true rfl⟩ (fun H locs hH => ?_)
                  obtain ⟨z197, hz197, h⟩ := zcl_e h
                  refine z_callS (As := [.int z194]) (rest := []) (st1 := [.int z197]) (ws' := (wd_X5_holds cy q_p1 q_p1_burgh q_p1_ahead q_p1_since q_p1_stood q_p1_due q_p1_left q_p1_came q_p1_burgh_clockName q_p1_burgh_clockCorner q_p1_burgh_clockAhead q_p1_burgh_clockGain q_p1_burgh_masterName q_p1_burgh_masterCorner q_p1_burgh_masterLate q_p1_burgh_masterClock q_p1_burgh_masterMeets q_p1_burgh_meetName q_p1_burgh_meetDue p1_minute p1_out p1_stopped p1_burgh_clocks p1_burgh_masters p1_burgh_meets p1_burgh_patience p1_came p1_burgh_masterCorner p1_burgh_masterLate p1_burgh_masterMeets p1_burgh_masterClock p1_stood p1_ahead p1_burgh_clockGain p1_since p1_left)) S hF hH (c_J6_bitCount_0f7a4 l G cy E N z194 z197 hz197) (va_cwS 1 hts gX5_holds_J6_bitCount_0f7a4 rfl rfl rfl (by decide +kernel) ⟨Nat.le_of_ble_eq_true rfl, Nat.le_of_ble_eq_true rfl⟩) [] [0, 1, 2, 3, 4, 5, 6, 7, 8, 9, 10, 11] [0, 1, 2, 3, 4, 5, 6, 7, 8, 9, 10, 11] rfl rfl (by decide) (by decide) (by decide) (by decide) rfl rfl rfl rfl hl.1 (Nat.le_of_ble_eq_true rfl) dX5_holds_197 ⟨Nat.le_of_ble_eq_true rfl, Nat.le_of_ble_eq_true rfl⟩ (fun H locs hH => ?_)
                  refine lv_iload hx hb dX5_holds_200 (lv_at hl 0 rfl) ?_
                  refine lv_iload_n hx hb dX5_holds_202 rfl (lv_at hl 1 rfl) ?_
                  obtain ⟨z203, hz203, h⟩ := zcl_e h
                  refine z_callS (As := [.int z197, .int y2, .int y1]) (rest := []) (st1 := [.int z203]) (ws' := (wd_X5_holds cy q_p1 q_p1_burgh q_p1_ahead q_p1_since q_p1_stood q_p1_due q_p1_left q_p1_came q_p1_burgh_clockName q_p1_burgh_clockCorner q_p1_burgh_clockAhead q_p1_burgh_clockGain q_p1_burgh_masterName q_p1_burgh_masterCorner q_p1_burgh_masterLate q_p1_burgh_masterClock q_p1_burgh_masterMeets q_p1_burgh_meetName q_p1_burgh_meetDue p1_minute p1_out p1_stopped p1_burgh_clocks p1_burgh_masters p1_burgh_meets p1_burgh_patience p1_came p1_burgh_masterCorner p1_burgh_masterLate p1_burgh_masterMeets p1_burgh_masterClock p1_stood p1_ahead p1_burgh_clockGain p1_since p1_left)) S hF hH (c_X5_compares l G cy E N z197 y2 y1 z203 hz203) (cwS 3 hts gX5_holds_X5_compares rfl rfl rfl (by decide +kernel) ⟨Nat.le_of_ble_eq_true rfl, Nat.le_of_ble_eq_true rfl⟩) [] [0, 1, 2, 3, 4, 5, 6, 7, 8, 9, 10, 11] [0, 1, 2, 3, 4, 5, 6, 7, 8, 9, 10, 11] rfl rfl (by decide) (by decide) (by decide) (by decide) rfl rfl rfl rfl hl.1 (Nat.le_of_ble_eq_true rfl) dX5_holds_203 ⟨Nat.le_of_ble_eq_true rfl, Nat.le_of_ble_eq_true rfl⟩ (fun H locs hH => ?_)
                  obtain ⟨h206, h⟩ := zck_e h
                  cases h
                  exact z_zret S hr hlocks hH h206 dX5_holds_206
                · replace h := zif_f b25_7 h
                  refine lv_tableOut (tgt := 207) hx hb dX5_holds_25 (z_sw (fun k h1 h2 => by rcases (show k = 17 ∨ k = 18 ∨ k = 19 ∨ k = 20 ∨ k = 21 ∨ k = 22 ∨ k = 23 ∨ k = 24 by omega) with rfl | rfl | rfl | rfl | rfl | rfl | rfl | rfl <;> assumption)) (by decide) ?_
                  refine lv_iload_n hx hb dX5_holds_207 rfl (lv_at hl 4 rfl) ?_
                  refine lv_iload hx hb dX5_holds_208 (lv_at hl 0 rfl) ?_
                  refine lv_iload_n hx hb dX5_holds_210 rfl (lv_at hl 1 rfl) ?_
                  obtain ⟨z211, hz211, h⟩ := zcl_e h
                  refine z_callS (As := [.int x2, .int y2, .int y1]) (rest := []) (st1 := [.int z211]) (ws' := (wd_X5_holds cy q_p1 q_p1_burgh q_p1_ahead q_p1_since q_p1_stood q_p1_due q_p1_left q_p1_came q_p1_burgh_clockName q_p1_burgh_clockCorner q_p1_burgh_clockAhead q_p1_burgh_clockGain q_p1_burgh_masterName q_p1_burgh_masterCorner q_p1_burgh_masterLate q_p1_burgh_masterClock q_p1_burgh_masterMeets q_p1_burgh_meetName q_p1_burgh_meetDue p1_minute p1_out p1_stopped p1_burgh_clocks p1_burgh_masters p1_burgh_meets p1_burgh_patience p1_came p1_burgh_masterCorner p1_burgh_masterLate p1_burgh_masterMeets p1_burgh_masterClock p1_stood p1_ahead p1_burgh_clockGain p1_since p1_left)) S hF hH (c_X5_compares l G cy E N x2 y2 y1 z211 hz211) (cwS 3 hts gX5_holds_X5_compares rfl rfl rfl (by decide +kernel) ⟨Nat.le_of_ble_eq_true rfl, Nat.le_of_ble_eq_true rfl⟩) [] [0, 1, 2, 3, 4, 5, 6, 7, 8, 9, 10, 11] [0, 1, 2, 3, 4, 5, 6, 7, 8, 9, 10, 11] rfl rfl (by decide) (by decide) (by decide) (by decide) rfl rfl rfl rfl hl.1 (Nat.le_of_ble_eq_true rfl) dX5_holds_211 ⟨Nat.le_of_ble_eq_true rfl, Nat.le_of_ble_eq_true rfl⟩ (fun H locs hH => ?_)
                  obtain ⟨h214, h⟩ := zck_e h
                  cases h
                  exact z_zret S hr hlocks hH h214 dX5_holds_214
abbrev wd_X5_mastersFor (cy : Nat → ClassId) (q_p1 q_p1_burgh q_p1_ahead q_p1_since q_p1_stood q_p1_due q_p1_left q_p1_came q_p1_burgh_clockName q_p1_burgh_clockCorner q_p1_burgh_clockAhead q_p1_burgh_clockGain q_p1_burgh_masterName q_p1_burgh_masterCorner q_p1_burgh_masterLate q_p1_burgh_masterClock q_p1_burgh_masterMeets q_p1_burgh_meetName q_p1_burgh_meetDue : Nat) (p1_minute : Int32) (p1_out : Int32) (p1_stopped : Int32) (p1_burgh_clocks : Int32) (p1_burgh_masters : Int32) (p1_burgh_meets : Int32) (p1_burgh_patience : Int32) (p1_came : Nat → Int32) (p1_burgh_masterCorner : Nat → Int32) (p1_burgh_masterLate : Nat → Int32) (p1_burgh_masterMeets : Nat → Int32) (p1_burgh_masterClock : Nat → Int32) (p1_stood : Nat → Int32) (p1_ahead : Nat → Int32) (p1_burgh_clockGain : Nat → Int32) (p1_since : Nat → Int32) (p1_left : Nat → Int32) : va_W := [(q_p1, .inr (4, [.ref q_p1_burgh, .int p1_minute, .int p1_out, .int p1_stopped, .ref q_p1_ahead, .ref q_p1_since, .ref q_p1_stood, .ref q_p1_due, .ref q_p1_left, .ref q_p1_came])), (q_p1_burgh, .inr (2, [.int p1_burgh_clocks, .int p1_burgh_masters, .int p1_burgh_meets, .int p1_burgh_patience, .ref q_p1_burgh_clockName, .ref q_p1_burgh_clockCorner, .ref q_p1_burgh_clockAhead, .ref q_p1_burgh_clockGain, .ref q_p1_burgh_masterName, .ref q_p1_burgh_masterCorner, .ref q_p1_burgh_masterLate, .ref q_p1_burgh_masterClock, .ref q_p1_burgh_masterMeets, .ref q_p1_burgh_meetName, .ref q_p1_burgh_meetDue])), (q_p1_came, .inl (cy 1, 36, .inl p1_came)), (q_p1_burgh_masterCorner, .inl (cy 1, 6, .inl p1_burgh_masterCorner)), (q_p1_burgh_masterLate, .inl (cy 1, 6, .inl p1_burgh_masterLate)), (q_p1_burgh_masterMeets, .inl (cy 1, 6, .inl p1_burgh_masterMeets)), (q_p1_burgh_masterClock, .inl (cy 1, 6, .inl p1_burgh_masterClock)), (q_p1_stood, .inl (cy 1, 6, .inl p1_stood)), (q_p1_ahead, .inl (cy 1, 6, .inl p1_ahead)), (q_p1_burgh_clockGain, .inl (cy 1, 6, .inl p1_burgh_clockGain)), (q_p1_since, .inl (cy 1, 6, .inl p1_since)), (q_p1_left, .inl (cy 1, 36, .inl p1_left))]
theorem iX5_mastersFor_X1 : ∀ w ∈ wsX10, w ∈ wsX5_mastersFor := fun _ h => List.mem_cons_of_mem _ (List.mem_append_right _ h)
theorem iX5_mastersFor_X3 : ∀ w ∈ wsX30, w ∈ wsX5_mastersFor := fun _ h => List.mem_cons_of_mem _ (List.mem_append_left _ (List.mem_append_right _ h))
abbrev rm_X5_mastersFor : Room := { frames := 4, cells := 0, slots := 0, locals := 88 }
set_option maxRecDepth 100000 in
def f_X5_mastersFor_4 (N : Nat) (p1_minute : Int32) (p1_out : Int32) (p1_stopped : Int32) (p1_burgh_masters : Int32) (p1_burgh_meets : Int32) (p1_came : Nat → Int32) (p1_burgh_masterCorner : Nat → Int32) (p1_burgh_masterLate : Nat → Int32) (p1_burgh_masterMeets : Nat → Int32) (p1_burgh_masterClock : Nat → Int32) (p1_stood : Nat → Int32) (p1_ahead : Nat → Int32) (p1_burgh_clockGain : Nat → Int32) (p1_since : Nat → Int32) (p1_left : Nat → Int32) : Nat → Int32 → Int32 → Int32 → Option (Int32)
  | 0, _, _, _ => none
  | n + 1, x0, x2, x3 => if p1_burgh_masters ≤ x3 then (some x2) else (zcl (f_X5_holds N x0 x3 p1_minute p1_out p1_stopped p1_burgh_meets p1_came p1_burgh_masterCorner p1_burgh_masterLate p1_burgh_masterMeets p1_burgh_masterClock p1_stood p1_ahead p1_burgh_clockGain p1_since p1_left) fun z18 => if z18 = 0 then (zbn (x3 + 1) fun y1 => f_X5_mastersFor_4 N p1_minute p1_out p1_stopped p1_burgh_masters p1_burgh_meets p1_came p1_burgh_masterCorner p1_burgh_masterLate p1_burgh_masterMeets p1_burgh_masterClock p1_stood p1_ahead p1_burgh_clockGain p1_since p1_left n x0 x2 y1) else (zbn ((x2 ||| (1 <<< (x3 &&& 31)))) fun y2 => zbn (x3 + 1) fun y3 => f_X5_mastersFor_4 N p1_minute p1_out p1_stopped p1_burgh_masters p1_burgh_meets p1_came p1_burgh_masterCorner p1_burgh_masterLate p1_burgh_masterMeets p1_burgh_masterClock p1_stood p1_ahead p1_burgh_clockGain p1_since p1_left n x0 y2 y3))
set_option maxRecDepth 100000 in
def f_X5_mastersFor (N : Nat) (x0 : Int32) (p1_minute : Int32) (p1_out : Int32) (p1_stopped : Int32) (p1_burgh_masters : Int32) (p1_burgh_meets : Int32) (p1_came : Nat → Int32) (p1_burgh_masterCorner : Nat → Int32) (p1_burgh_masterLate : Nat → Int32) (p1_burgh_masterMeets : Nat → Int32) (p1_burgh_masterClock : Nat → Int32) (p1_stood : Nat → Int32) (p1_ahead : Nat → Int32) (p1_burgh_clockGain : Nat → Int32) (p1_since : Nat → Int32) (p1_left : Nat → Int32) : Option (Int32) := f_X5_mastersFor_4 N p1_minute p1_out p1_stopped p1_burgh_masters p1_burgh_meets p1_came p1_burgh_masterCorner p1_burgh_masterLate p1_burgh_masterMeets p1_burgh_masterClock p1_stood p1_ahead p1_burgh_clockGain p1_since p1_left N x0 0 0
set_option maxHeartbeats 4000000 in
set_option maxRecDepth 100000 in
theorem w_X5_mastersFor_4 {p : Program} {l : Launch} {e : Env} {s : State} {m : MethodId} {args : Array Value} {below : List Frame} {meth : Method} {c : Code} {G : va_G} {cy : Nat → ClassId} {E : List (Nat × Cell)} {w0 : va_W} {N : Nat} {q_p1 q_p1_burgh q_p1_ahead q_p1_since q_p1_stood q_p1_due q_p1_left q_p1_came q_p1_burgh_clockName q_p1_burgh_clockCorner q_p1_burgh_clockAhead q_p1_burgh_clockGain q_p1_burgh_masterName q_p1_burgh_masterCorner q_p1_burgh_masterLate q_p1_burgh_masterClock q_p1_burgh_masterMeets q_p1_burgh_meetName q_p1_burgh_meetDue : Nat} {p1_minute : Int32} {p1_out : Int32} {p1_stopped : Int32} {p1_burgh_clocks : Int32} {p1_burgh_masters : Int32} {p1_burgh_meets : Int32} {p1_burgh_patience : Int32} {p1_came : Nat → Int32} {p1_burgh_masterCorner : Nat → Int32} {p1_burgh_masterLate : Nat → Int32} {p1_burgh_masterMeets : Nat → Int32} {p1_burgh_masterClock : Nat → Int32} {p1_stood : Nat → Int32} {p1_ahead : Nat → Int32} {p1_burgh_clockGain : Nat → Int32} {p1_since : Nat → Int32} {p1_left : Nat → Int32} {r : Int32} (S : CallFix p m c cX5_mastersFor 4 s args wsX5_mastersFor RX5) (hr : meth.sig.returnType = some .int) (hlocks : meth.locks = false) (hF : zF G cy E (va_A w0 s.heap.size) s) :
    ∀ (n : Nat) (x0 : Int32) (x2 : Int32) (x3 : Int32) (H : Heap) (locs : List Loc) (ls : Array Slot), zH G (va_A w0 s.heap.size) s H locs (wd_X5_mastersFor cy q_p1 q_p1_burgh q_p1_ahead q_p1_since q_p1_stood q_p1_due q_p1_left q_p1_came q_p1_burgh_clockName q_p1_burgh_clockCorner q_p1_burgh_clockAhead q_p1_burgh_clockGain q_p1_burgh_masterName q_p1_burgh_masterCorner q_p1_burgh_masterLate q_p1_burgh_masterClock q_p1_burgh_masterMeets q_p1_burgh_meetName q_p1_burgh_meetDue p1_minute p1_out p1_stopped p1_burgh_clocks p1_burgh_masters p1_burgh_meets p1_burgh_patience p1_came p1_burgh_masterCorner p1_burgh_masterLate p1_burgh_masterMeets p1_burgh_masterClock p1_stood p1_ahead p1_burgh_clockGain p1_since p1_left) → lv_has ls 4 [(0, .int x0), (1, .ref q_p1), (2, .int x2), (3, .int x3)] → f_X5_mastersFor_4 N p1_minute p1_out p1_stopped p1_burgh_masters p1_burgh_meets p1_came p1_burgh_masterCorner p1_burgh_masterLate p1_burgh_masterMeets p1_burgh_masterClock p1_stood p1_ahead p1_burgh_clockGain p1_since p1_left n x0 x2 x3 = some r → W p l e rm_X5_mastersFor s m args below meth c H locs 0 0 (MQ below (zQ G w0 (wd_X5_mastersFor cy q_p1 q_p1_burgh q_p1_ahead q_p1_since q_p1_stood q_p1_due q_p1_left q_p1_came q_p1_burgh_clockName q_p1_burgh_clockCorner q_p1_burgh_clockAhead q_p1_burgh_clockGain q_p1_burgh_masterName q_p1_burgh_masterCorner q_p1_burgh_masterLate q_p1_burgh_masterClock q_p1_burgh_masterMeets q_p1_burgh_meetName q_p1_burgh_meetDue p1_minute p1_out p1_stopped p1_burgh_clocks p1_burgh_masters p1_burgh_meets p1_burgh_patience p1_came p1_burgh_masterCorner p1_burgh_masterLate p1_burgh_masterMeets p1_burgh_masterClock p1_stood p1_ahead p1_burgh_clockGain p1_since p1_left) s.heap.size (some (.int r))) args s 0 0 (va_A w0 s.heap.size)) (F0 m 4 ls []) := by
  obtain ⟨hx, hb, hml, hown, hts⟩ := id S
  intro n
  induction n with
  | zero =>
    intro x0 x2 x3 H locs ls hH hl h
    rw [f_X5_mastersFor_4] at h
    cases h
  | succ n ih =>
    intro x0 x2 x3 H locs ls hH hl h
    rw [f_X5_mastersFor_4] at h
    refine lv_iload_n hx hb dX5_mastersFor_4 rfl (lv_at hl 3 rfl) ?_
    refine lv_aload_n hx hb dX5_mastersFor_5 rfl (lv_at hl 1 rfl) ?_
    refine z_get S hF hH iX5_mastersFor_X3 0 rfl rfl 0 (by decide) (List.mem_of_getElem? (i := 1) rfl) rfl dX5_mastersFor_6 ?_
    refine z_get S hF hH iX5_mastersFor_X1 1 rfl rfl 1 (by decide) (List.mem_of_getElem? (i := 2) rfl) rfl dX5_mastersFor_9 ?_
    refine lv_icmp_ge (tgt := 36) hx hb dX5_mastersFor_12 (by decide) (fun b12 => ?_) (fun b12 => ?_)
    · replace h := zif_t b12 h
      refine lv_iload_n hx hb dX5_mastersFor_36 rfl (lv_at hl 2 rfl) ?_
      cases h
      exact z_iret S hr hlocks hH dX5_mastersFor_37
    · replace h := zif_f b12 h
      refine lv_iload_n hx hb dX5_mastersFor_15 rfl (lv_at hl 0 rfl) ?_
      refine lv_aload_n hx hb dX5_mastersFor_16 rfl (lv_at hl 1 rfl) ?_
      refine lv_iload_n hx hb dX5_mastersFor_17 rfl (lv_at hl 3 rfl) ?_
      obtain ⟨z18, hz18, h⟩ := zcl_e h
      refine z_callS (As := [.int x0, .ref q_p1, .int x3]) (rest := []) (st1 := [.int z18]) (ws' := (wd_X5_mastersFor cy q_p1 q_p1_burgh q_p1_ahead q_p1_since q_p1_stood q_p1_due q_p1_left q_p1_came q_p1_burgh_clockName q_p1_burgh_clockCorner q_p1_burgh_clockAhead q_p1_burgh_clockGain q_p1_burgh_masterName q_p1_burgh_masterCorner q_p1_burgh_masterLate q_p1_burgh_masterClock q_p1_burgh_masterMeets q_p1_burgh_meetName q_p1_burgh_meetDue p1_minute p1_out p1_stopped p1_burgh_clocks p1_burgh_masters p1_burgh_meets p1_burgh_patience p1_came p1_burgh_masterCorner p1_burgh_masterLate p1_burgh_masterMeets p1_burgh_masterClock p1_stood p1_ahead p1_burgh_clockGain p1_since p1_left)) S hF hH (c_X5_holds l G cy E N q_p1 q_p1_burgh q_p1_ahead q_p1_since q_p1_stood q_p1_due q_p1_left q_p1_came q_p1_burgh_clockName q_p1_burgh_clockCorner q_p1_burgh_clockAhead q_p1_burgh_clockGain q_p1_burgh_masterName q_p1_burgh_masterCorner q_p1_burgh_masterLate q_p1_burgh_masterClock q_p1_burgh_masterMeets q_p1_burgh_meetName q_p1_burgh_meetDue p1_minute p1_out p1_stopped p1_burgh_clocks p1_burgh_masters p1_burgh_meets p1_burgh_patience p1_came p1_burgh_masterCorner p1_burgh_masterLate p1_burgh_masterMeets p1_burgh_masterClock p1_stood p1_ahead p1_burgh_clockGain p1_since p1_left x0 x3 z18 hz18) (cwS 3 hts gX5_mastersFor_X5_holds rfl rfl rfl (by decide +kernel) ⟨Nat.le_of_ble_eq_true rfl, Nat.le_of_ble_eq_true rfl⟩) [0, 1, 2, 3, 4, 5, 6, 7, 8, 9, 10, 11] [] [0, 1, 2, 3, 4, 5, 6, 7, 8, 9, 10, 11] rfl rfl (by decide) (by decide) (by decide) (by decide) rfl rfl rfl rfl hl.1 (Nat.le_of_ble_eq_true rfl) dX5_mastersFor_18 ⟨Nat.le_of_ble_eq_true rfl, Nat.le_of_ble_eq_true rfl⟩ (fun H locs hH => ?_)
      refine lv_if_eq (tgt := 30) hx hb dX5_mastersFor_21 (by decide) (fun b21 => ?_) (fun b21 => ?_)
      · replace h := zif_t b21 h
        obtain ⟨y1, ey1, h⟩ := zbn_e h
        refine lv_iinc (v := y1) (lv' := [(3, .int y1), (0, .int x0), (1, .ref q_p1), (2, .int x2)]) hx hb dX5_mastersFor_30 hl (k := 3) rfl (by rw [ey1]; exact congrArg (fun z => x3 + z) (by decide)) (by decide) rfl (fun ls hl => ?_)
        clear ey1
        refine lv_goto (tgt := 4) hx hb dX5_mastersFor_33 (by decide) ?_
        exact ih x0 x2 y1 _ _ _ hH (lv_sub hl [1, 2, 3, 0] rfl) h
      · replace h := zif_f b21 h
        refine lv_iload_n hx hb dX5_mastersFor_24 rfl (lv_at hl 2 rfl) ?_
        refine lv_iconst (v := 1) hx hb dX5_mastersFor_25 (by decide) ?_
        refine lv_iload_n hx hb dX5_mastersFor_26 rfl (lv_at hl 3 rfl) ?_
        refine lv_ishl hx hb dX5_mastersFor_27 ?_
        refine lv_ior hx hb dX5_mastersFor_28 ?_
        obtain ⟨y2, ey2, h⟩ := zbn_e h
        refine z_top ey2 ?_
        clear ey2
        refine lv_istore_n (lv' := [(2, .int y2), (0, .int x0), (1, .ref q_p1), (3, .int x3)]) hx hb dX5_mastersFor_29 rfl hl (by decide) rfl (fun ls hl => ?_)
        obtain ⟨y3, ey3, h⟩ := zbn_e h
        refine lv_iinc (v := y3) (lv' := [(3, .int y3), (2, .int y2), (0, .int x0), (1, .ref q_p1)]) hx hb dX5_mastersFor_30 hl (k := 3) rfl (by rw [ey3]; exact congrArg (fun z => x3 + z) (by decide)) (by decide) rfl (fun ls hl => ?_)
        clear ey3
        refine lv_goto (tgt := 4) hx hb dX5_mastersFor_33 (by decide) ?_
        exact ih x0 y2 y3 _ _ _ hH (lv_sub hl [2, 3, 1, 0] rfl) h
set_option maxHeartbeats 4000000 in
set_option maxRecDepth 100000 in
theorem c_X5_mastersFor (l : Launch) (G : va_G) (cy : Nat → ClassId) (E : List (Nat × Cell)) (N : Nat) (q_p1 q_p1_burgh q_p1_ahead q_p1_since q_p1_stood q_p1_due q_p1_left q_p1_came q_p1_burgh_clockName q_p1_burgh_clockCorner q_p1_burgh_clockAhead q_p1_burgh_clockGain q_p1_burgh_masterName q_p1_burgh_masterCorner q_p1_burgh_masterLate q_p1_burgh_masterClock q_p1_burgh_masterMeets q_p1_burgh_meetName q_p1_burgh_meetDue : Nat) (p1_minute : Int32) (p1_out : Int32) (p1_stopped : Int32) (p1_burgh_clocks : Int32) (p1_burgh_masters : Int32) (p1_burgh_meets : Int32) (p1_burgh_patience : Int32) (p1_came : Nat → Int32) (p1_burgh_masterCorner : Nat → Int32) (p1_burgh_masterLate : Nat → Int32) (p1_burgh_masterMeets : Nat → Int32) (p1_burgh_masterClock : Nat → Int32) (p1_stood : Nat → Int32) (p1_ahead : Nat → Int32) (p1_burgh_clockGain : Nat → Int32) (p1_since : Nat → Int32) (p1_left : Nat → Int32) (x0 : Int32) (r : Int32) (h : f_X5_mastersFor N x0 p1_minute p1_out p1_stopped p1_burgh_masters p1_burgh_meets p1_came p1_burgh_masterCorner p1_burgh_masterLate p1_burgh_masterMeets p1_burgh_masterClock p1_stood p1_ahead p1_burgh_clockGain p1_since p1_left = some r) : zM l G cy E yX5_mastersFor wsX5_mastersFor rm_X5_mastersFor [.int x0, .ref q_p1] (wd_X5_mastersFor cy q_p1 q_p1_burgh q_p1_ahead q_p1_since q_p1_stood q_p1_due q_p1_left q_p1_came q_p1_burgh_clockName q_p1_burgh_clockCorner q_p1_burgh_clockAhead q_p1_burgh_clockGain q_p1_burgh_masterName q_p1_burgh_masterCorner q_p1_burgh_masterLate q_p1_burgh_masterClock q_p1_burgh_masterMeets q_p1_burgh_meetName q_p1_burgh_meetDue p1_minute p1_out p1_stopped p1_burgh_clocks p1_burgh_masters p1_burgh_meets p1_burgh_patience p1_came p1_burgh_masterCorner p1_burgh_masterLate p1_burgh_masterMeets p1_burgh_masterClock p1_stood p1_ahead p1_burgh_clockGain p1_since p1_left) (wd_X5_mastersFor cy q_p1 q_p1_burgh q_p1_ahead q_p1_since q_p1_stood q_p1_due q_p1_left q_p1_came q_p1_burgh_clockName q_p1_burgh_clockCorner q_p1_burgh_clockAhead q_p1_burgh_clockGain q_p1_burgh_masterName q_p1_burgh_masterCorner q_p1_burgh_masterLate q_p1_burgh_masterClock q_p1_burgh_masterMeets q_p1_burgh_meetName q_p1_burgh_meetDue p1_minute p1_out p1_stopped p1_burgh_clocks p1_burgh_masters p1_burgh_meets p1_burgh_patience p1_came p1_burgh_masterCorner p1_burgh_masterLate p1_burgh_masterMeets p1_burgh_masterClock p1_stood p1_ahead p1_burgh_clockGain p1_since p1_left) (some (.int r)) 0 0 := by
  refine z_body (cc := cX5_mastersFor) (maxL := 4) (ret := some .int) (by decide) rfl (Nat.le_of_ble_eq_true rfl) ?_
  intro p e s m below meth c ls S hr hlocks hnm hF hH hl
  have S : CallFix p m c cX5_mastersFor 4 s ([.int x0, .ref q_p1] : List Value).toArray wsX5_mastersFor RX5 := S
  obtain ⟨hx, hb, hml, hown, hts⟩ := id S
  have hl : lv_has ls 4 [(0, .int x0), (1, .ref q_p1)] := hl
  rw [f_X5_mastersFor] at h
  refine lv_iconst (v := 0) hx hb dX5_mastersFor_0 (by decide) ?_
  refine lv_istore_n (lv' := [(2, .int 0), (0, .int x0), (1, .ref q_p1)]) hx hb dX5_mastersFor_1 rfl hl (by decide) rfl (fun ls hl => ?_)
  refine lv_iconst (v := 0) hx hb dX5_mastersFor_2 (by decide) ?_
  refine lv_istore_n (lv' := [(3, .int 0), (2, .int 0), (0, .int x0), (1, .ref q_p1)]) hx hb dX5_mastersFor_3 rfl hl (by decide) rfl (fun ls hl => ?_)
  exact w_X5_mastersFor_4 S hr hlocks hF N x0 0 0 _ _ _ hH (lv_sub hl [2, 3, 1, 0] rfl) h
