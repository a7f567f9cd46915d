abbrev wd_X12_comes (cy : Nat → ClassId) (q_t q_t_tape q_t_s q_t_h q_t_read q_t_names q_t_reserved q_t_undone q_t_before q_t_comeRow q_t_shown q_t_text q_t_toldAt q_t_stack q_t_truths q_t_imaged q_t_namesKept q_t_areKept : Nat) (t_thrown : Int32) (t_length : Int32) (t_size : Int32) (t_p : Int32) (t_limit : Int32) (t_token : Int32) (t_at : Int32) (t_span : Int32) (t_number : Int32) (t_fault : Int32) (t_faultAt : Int32) (t_word : Int64) (t_got : Int32) (t_lines : Int32) (t_hasWait : Int32) (t_undoMany : Int32) (t_firstMinute : Int32) (t_lookClock : Int32) (t_hasTime : Int32) (t_latestMost : Int32) (t_textMany : Int32) (t_seed : Int32) (t_toldMany : Int32) (t_hasTold : Int32) (t_codes : Int32) (t_ones : Int32) (t_top : Int32) (t_deep : Int32) (t_isWhole : Int32) (t_s : Nat → Int32) (t_before : Nat → Int32) (t_comeRow : Nat → Int32) : va_W := [(q_t, .inr (13, [.int t_thrown, .ref q_t_tape, .int t_length, .int t_size, .int t_p, .int t_limit, .ref q_t_s, .ref q_t_h, .ref q_t_read, .ref q_t_names, .ref q_t_reserved, .int t_token, .int t_at, .int t_span, .int t_number, .int t_fault, .int t_faultAt, .long t_word, .int t_got, .int t_lines, .int t_hasWait, .ref q_t_undone, .ref q_t_before, .int t_undoMany, .ref q_t_comeRow, .int t_firstMinute, .int t_lookClock, .int t_hasTime, .ref q_t_shown, .int t_latestMost, .ref q_t_text, .int t_textMany, .int t_seed, .int t_toldMany, .ref q_t_toldAt, .int t_hasTold, .ref q_t_stack, .int t_codes, .int t_ones, .int t_top, .int t_deep, .int t_isWhole, .ref q_t_truths, .ref q_t_imaged, .ref q_t_namesKept, .ref q_t_areKept])), (q_t_s, .inl (cy 1, 334, .inl t_s)), (q_t_before, .inl (cy 1, 101, .inl t_before)), (q_t_comeRow, .inl (cy 1, 6, .inl t_comeRow))]
theorem iX12_comes_X12 : ∀ w ∈ wsX120, w ∈ wsX12_comes := fun _ h => List.mem_cons_of_mem _ (List.mem_append_right _ h)
abbrev rm_X12_comes : Room := { frames := 7, cells := 0, slots := 0, locals := 155 }
set_option maxRecDepth 100000 in
def f_X12_comes (N : Nat) (x0 : Int32) (x1 : Int32) (t_thrown : Int32) (t_s : Nat → Int32) (t_before : Nat → Int32) (t_comeRow : Nat → Int32) : Option (Int32 × Int32 × (Nat → Int32) × (Nat → Int32) × (Nat → Int32)) := zcl (f_X12_isMaster N x0 t_s) fun z7 => if z7 = 0 then (some ((-1), 0, t_s, t_before, t_comeRow)) else (zcl (f_X12_isMeet N x1 t_s) fun z15 => if z15 = 0 then (some ((-1), 0, t_s, t_before, t_comeRow)) else (zcl (f_X12_laysCome N x1 2000 t_s t_before t_comeRow) fun z28 => zck (zin x0 6) <| some ((z28.2.2 (Int32.toNatClampNeg x0)), 0, z28.1, z28.2.1, z28.2.2)))
set_option maxHeartbeats 4000000 in
set_option maxRecDepth 100000 in
theorem c_X12_comes (l : Launch) (G : va_G) (cy : Nat → ClassId) (E : Nat → Nat) (N : Nat) (q_t q_t_tape q_t_s q_t_h q_t_read q_t_names q_t_reserved q_t_undone q_t_before q_t_comeRow q_t_shown q_t_text q_t_toldAt q_t_stack q_t_truths q_t_imaged q_t_namesKept q_t_areKept : Nat) (t_thrown : Int32) (t_length : Int32) (t_size : Int32) (t_p : Int32) (t_limit : Int32) (t_token : Int32) (t_at : Int32) (t_span : Int32) (t_number : Int32) (t_fault : Int32) (t_faultAt : Int32) (t_word : Int64) (t_got : Int32) (t_lines : Int32) (t_hasWait : Int32) (t_undoMany : Int32) (t_firstMinute : Int32) (t_lookClock : Int32) (t_hasTime : Int32) (t_latestMost : Int32) (t_textMany : Int32) (t_seed : Int32) (t_toldMany : Int32) (t_hasTold : Int32) (t_codes : Int32) (t_ones : Int32) (t_top : Int32) (t_deep : Int32) (t_isWhole : Int32) (t_s : Nat → Int32) (t_before : Nat → Int32) (t_comeRow : Nat → Int32) (x0 : Int32) (x1 : Int32) (r : Int32) (r_t_thrown : Int32) (r_t_s : Nat → Int32) (r_t_before : Nat → Int32) (r_t_comeRow : Nat → Int32) (h : f_X12_comes N x0 x1 t_thrown t_s t_before t_comeRow = some (r, r_t_thrown, r_t_s, r_t_before, r_t_comeRow)) : zM l G cy E yX12_comes wsX12_comes rm_X12_comes [.ref q_t, .int x0, .int x1] (wd_X12_comes cy q_t q_t_tape q_t_s q_t_h q_t_read q_t_names q_t_reserved q_t_undone q_t_before q_t_comeRow q_t_shown q_t_text q_t_toldAt q_t_stack q_t_truths q_t_imaged q_t_namesKept q_t_areKept t_thrown t_length t_size t_p t_limit t_token t_at t_span t_number t_fault t_faultAt t_word t_got t_lines t_hasWait t_undoMany t_firstMinute t_lookClock t_hasTime t_latestMost t_textMany t_seed t_toldMany t_hasTold t_codes t_ones t_top t_deep t_isWhole t_s t_before t_comeRow) (wd_X12_comes cy q_t q_t_tape q_t_s q_t_h q_t_read q_t_names q_t_reserved q_t_undone q_t_before q_t_comeRow q_t_shown q_t_text q_t_toldAt q_t_stack q_t_truths q_t_imaged q_t_namesKept q_t_areKept r_t_thrown t_length t_size t_p t_limit t_token t_at t_span t_number t_fault t_faultAt t_word t_got t_lines t_hasWait t_undoMany t_firstMinute t_lookClock t_hasTime t_latestMost t_textMany t_seed t_toldMany t_hasTold t_codes t_ones t_top t_deep t_isWhole r_t_s r_t_before r_t_comeRow) (some (.int r)) 0 0 := by
  refine z_body (cc := cX12_comes) (maxL := 3) (ret := some .int) (by decide) rfl (Nat.le_of_ble_eq_true rfl) ?_
  intro p e s m below meth c ls S hr hlocks hnm hF hH hl
  have S : CallFix p m c cX12_comes 3 s ([.ref q_t, .int x0, .int x1] : List Value).toArray wsX12_comes RX12 := S
  obtain ⟨hx, hb, hml, hown, hts⟩ := id S
  have hl : lv_has ls 3 [(0, .ref q_t), (1, .int x0), (2, .int x1)] := hl
  rw [f_X12_comes] at h
  refine lv_aload_n hx hb dX12_comes_0 rfl (lv_at hl 0 rfl) ?_
  refine lv_iconst (v := 0) hx hb dX12_comes_1 (by decide) ?_
  refine z_put (ws' := (wd_X12_comes cy q_t q_t_tape q_t_s q_t_h q_t_read q_t_names q_t_reserved q_t_undone q_t_before q_t_comeRow q_t_shown q_t_text q_t_toldAt q_t_stack q_t_truths q_t_imaged q_t_namesKept q_t_areKept 0 t_length t_size t_p t_limit t_token t_at t_span t_number t_fault t_faultAt t_word t_got t_lines t_hasWait t_undoMany t_firstMinute t_lookClock t_hasTime t_latestMost t_textMany t_seed t_toldMany t_hasTold t_codes t_ones t_top t_deep t_isWhole t_s t_before t_comeRow)) S hF hH iX12_comes_X12 tyX12 tyX12_ok nmX12 0 rfl rfl 0 (by decide) (List.mem_of_getElem? (i := 1) rfl) rfl rfl rfl (Nat.le_of_ble_eq_true rfl) rfl dX12_comes_2 (fun H locs hH => ?_)
  refine lv_aload_n hx hb dX12_comes_5 rfl (lv_at hl 0 rfl) ?_
  refine lv_iload_n hx hb dX12_comes_6 rfl (lv_at hl 1 rfl) ?_
  obtain ⟨z7, hz7, h⟩ := zcl_e h
  refine z_callV (As := [.int x0]) (rest := []) (st1 := [.int z7]) (ws' := (wd_X12_comes cy q_t q_t_tape q_t_s q_t_h q_t_read q_t_names q_t_reserved q_t_undone q_t_before q_t_comeRow q_t_shown q_t_text q_t_toldAt q_t_stack q_t_truths q_t_imaged q_t_namesKept q_t_areKept 0 t_length t_size t_p t_limit t_token t_at t_span t_number t_fault t_faultAt t_word t_got t_lines t_hasWait t_undoMany t_firstMinute t_lookClock t_hasTime t_latestMost t_textMany t_seed t_toldMany t_hasTold t_codes t_ones t_top t_deep t_isWhole t_s t_before t_comeRow)) S hF hH (c_X12_isMaster l G cy E N q_t q_t_tape q_t_s q_t_h q_t_read q_t_names q_t_reserved q_t_undone q_t_before q_t_comeRow q_t_shown q_t_text q_t_toldAt q_t_stack q_t_truths q_t_imaged q_t_namesKept q_t_areKept 0 t_length t_size t_p t_limit t_token t_at t_span t_number t_fault t_faultAt t_word t_got t_lines t_hasWait t_undoMany t_firstMinute t_lookClock t_hasTime t_latestMost t_textMany t_seed t_toldMany t_hasTold t_codes t_ones t_top t_deep t_isWhole t_s x0 z7 hz7) (cwV 1 hts gX12_comes_X12_isMaster rfl rfl rfl (by decide +kernel) ⟨Nat.le_of_ble_eq_true rfl, Nat.le_of_ble_eq_true rfl⟩) 13 0 rfl rfl [0, 1] rfl (by decide) rfl rfl rfl rfl rfl hl.1 (Nat.le_of_ble_eq_true rfl) dX12_comes_7 ⟨Nat.le_of_ble_eq_true rfl, Nat.le_of_ble_eq_true rfl⟩ (fun H locs hH => ?_)
  refine lv_if_eq (tgt := 21) hx hb dX12_comes_10 (by decide) (fun b10 => ?_) (fun b10 => ?_)
  · replace h := zif_t b10 h
    refine lv_iconst (v := (-1)) hx hb dX12_comes_21 (by decide) ?_
    cases h
    exact z_iret S hr hlocks hH dX12_comes_22
  · replace h := zif_f b10 h
    refine lv_aload_n hx hb dX12_comes_13 rfl (lv_at hl 0 rfl) ?_
    refine lv_iload_n hx hb dX12_comes_14 rfl (lv_at hl 2 rfl) ?_
    obtain ⟨z15, hz15, h⟩ := zcl_e h
    refine z_callV (As := [.int x1]) (rest := []) (st1 := [.int z15]) (ws' := (wd_X12_comes cy q_t q_t_tape q_t_s q_t_h q_t_read q_t_names q_t_reserved q_t_undone q_t_before q_t_comeRow q_t_shown q_t_text q_t_toldAt q_t_stack q_t_truths q_t_imaged q_t_namesKept q_t_areKept 0 t_length t_size t_p t_limit t_token t_at t_span t_number t_fault t_faultAt t_word t_got t_lines t_hasWait t_undoMany t_firstMinute t_lookClock t_hasTime t_latestMost t_textMany t_seed t_toldMany t_hasTold t_codes t_ones t_top t_deep t_isWhole t_s t_before t_comeRow)) S hF hH (c_X12_isMeet l G cy E N q_t q_t_tape q_t_s q_t_h q_t_read q_t_names q_t_reserved q_t_undone q_t_before q_t_comeRow q_t_shown q_t_text q_t_toldAt q_t_stack q_t_truths q_t_imaged q_t_namesKept q_t_areKept 0 t_length t_size t_p t_limit t_token t_at t_span t_number t_fault t_faultAt t_word t_got t_lines t_hasWait t_undoMany t_firstMinute t_lookClock t_hasTime t_latestMost t_textMany t_seed t_toldMany t_hasTold t_codes t_ones t_top t_deep t_isWhole t_s x1 z15 hz15) (cwV 1 hts gX12_comes_X12_isMeet rfl rfl rfl (by decide +kernel) ⟨Nat.le_of_ble_eq_true rfl, Nat.le_of_ble_eq_true rfl⟩) 13 0 rfl rfl [0, 1] rfl (by decide) rfl rfl rfl rfl rfl hl.1 (Nat.le_of_ble_eq_true rfl) dX12_comes_15 ⟨Nat.le_of_ble_eq_true rfl, Nat.le_of_ble_eq_true rfl⟩ (fun H locs hH => ?_)
    refine lv_if_ne (tgt := 23) hx hb dX12_comes_18 (by decide) (fun b18 => ?_) (fun b18 => ?_)
    · replace h := zif_f b18 h
      refine lv_aload_n hx hb dX12_comes_23 rfl (lv_at hl 0 rfl) ?_
      refine lv_iload_n hx hb dX12_comes_24 rfl (lv_at hl 2 rfl) ?_
      refine lv_sipush (v := 2000) hx hb dX12_comes_25 (by decide) ?_
      obtain ⟨z28, hz28, h⟩ := zcl_e h
      refine z_callV (As := [.int x1, .int 2000]) (rest := []) (st1 := []) (ws' := (wd_X12_comes cy q_t q_t_tape q_t_s q_t_h q_t_read q_t_names q_t_reserved q_t_undone q_t_before q_t_comeRow q_t_shown q_t_text q_t_toldAt q_t_stack q_t_truths q_t_imaged q_t_namesKept q_t_areKept 0 t_length t_size t_p t_limit t_token t_at t_span t_number t_fault t_faultAt t_word t_got t_lines t_hasWait t_undoMany t_firstMinute t_lookClock t_hasTime t_latestMost t_textMany t_seed t_toldMany t_hasTold t_codes t_ones t_top t_deep t_isWhole z28.1 z28.2.1 z28.2.2)) S hF hH (c_X12_laysCome l G cy E N q_t q_t_tape q_t_s q_t_h q_t_read q_t_names q_t_reserved q_t_undone q_t_before q_t_comeRow q_t_shown q_t_text q_t_toldAt q_t_stack q_t_truths q_t_imaged q_t_namesKept q_t_areKept 0 t_length t_size t_p t_limit t_token t_at t_span t_number t_fault t_faultAt t_word t_got t_lines t_hasWait t_undoMany t_firstMinute t_lookClock t_hasTime t_latestMost t_textMany t_seed t_toldMany t_hasTold t_codes t_ones t_top t_deep t_isWhole t_s t_before t_comeRow x1 2000 z28.1 z28.2.1 z28.2.2 hz28) (cwV 2 hts gX12_comes_X12_laysCome rfl rfl rfl (by decide +kernel) ⟨Nat.le_of_ble_eq_true rfl, Nat.le_of_ble_eq_true rfl⟩) 13 0 rfl rfl [0, 1, 2, 3] rfl (by decide) rfl rfl rfl rfl rfl hl.1 (Nat.le_of_ble_eq_true rfl) dX12_comes_28 ⟨Nat.le_of_ble_eq_true rfl, Nat.le_of_ble_eq_true rfl⟩ (fun H locs hH => ?_)
      refine lv_aload_n hx hb dX12_comes_31 rfl (lv_at hl 0 rfl) ?_
      refine z_get S hF hH iX12_comes_X12 0 rfl rfl 24 (by decide) (List.mem_of_getElem? (i := 2) rfl) rfl dX12_comes_32 ?_
      refine lv_iload_n hx hb dX12_comes_35 rfl (lv_at hl 1 rfl) ?_
      obtain ⟨h36, h⟩ := zck_e h
      refine z_iald S hF hH 3 rfl h36 rfl dX12_comes_36 ?_
      cases h
      exact z_iret S hr hlocks hH dX12_comes_37
    · replace h := zif_t b18 h
      refine lv_iconst (v := (-1)) hx hb dX12_comes_21 (by decide) ?_
      cases h
      exact z_iret S hr hlocks hH dX12_comes_22
abbrev wd_X12_lastOf (cy : Nat → ClassId) (q_t q_t_tape q_t_s q_t_h q_t_read q_t_names q_t_reserved q_t_undone q_t_before q_t_comeRow q_t_shown q_t_text q_t_toldAt q_t_stack q_t_truths q_t_imaged q_t_namesKept q_t_areKept : Nat) (t_thrown : Int32) (t_length : Int32) (t_size : Int32) (t_p : Int32) (t_limit : Int32) (t_token : Int32) (t_at : Int32) (t_span : Int32) (t_number : Int32) (t_fault : Int32) (t_faultAt : Int32) (t_word : Int64) (t_got : Int32) (t_lines : Int32) (t_hasWait : Int32) (t_undoMany : Int32) (t_firstMinute : Int32) (t_lookClock : Int32) (t_hasTime : Int32) (t_latestMost : Int32) (t_textMany : Int32) (t_seed : Int32) (t_toldMany : Int32) (t_hasTold : Int32) (t_codes : Int32) (t_ones : Int32) (t_top : Int32) (t_deep : Int32) (t_isWhole : Int32) (t_s : Nat → Int32) (t_comeRow : Nat → Int32) : va_W := [(q_t, .inr (13, [.int t_thrown, .ref q_t_tape, .int t_length, .int t_size, .int t_p, .int t_limit, .ref q_t_s, .ref q_t_h, .ref q_t_read, .ref q_t_names, .ref q_t_reserved, .int t_token, .int t_at, .int t_span, .int t_number, .int t_fault, .int t_faultAt, .long t_word, .int t_got, .int t_lines, .int t_hasWait, .ref q_t_undone, .ref q_t_before, .int t_undoMany, .ref q_t_comeRow, .int t_firstMinute, .int t_lookClock, .int t_hasTime, .ref q_t_shown, .int t_latestMost, .ref q_t_text, .int t_textMany, .int t_seed, .int t_toldMany, .ref q_t_toldAt, .int t_hasTold, .ref q_t_stack, .int t_codes, .int t_ones, .int t_top, .int t_deep, .int t_isWhole, .ref q_t_truths, .ref q_t_imaged, .ref q_t_namesKept, .ref q_t_areKept])), (q_t_s, .inl (cy 1, 334, .inl t_s)), (q_t_comeRow, .inl (cy 1, 6, .inl t_comeRow))]
theorem iX12_lastOf_X12 : ∀ w ∈ wsX120, w ∈ wsX12_lastOf := fun _ h => List.mem_cons_of_mem _ (List.mem_append_right _ h)
abbrev rm_X12_lastOf : Room := { frames := 2, cells := 0, slots := 0, locals := 43 }
set_option maxRecDepth 100000 in
def f_X12_lastOf_4 (N : Nat) (t_s : Nat → Int32) (t_comeRow : Nat → Int32) : Nat → Int32 → Int32 → Int32 → Option (Int32)
  | 0, _, _, _ => none
  | n + 1, x1, x2, x3 => if (t_s 1) ≤ x3 then (some x2) else (zcl (f_X12_isDueTo N x3 x1 t_s) fun z17 => if z17 = 0 then (zbn (x3 + 1) fun y2 => f_X12_lastOf_4 N t_s t_comeRow n x1 x2 y2) else (zck (zin x3 6) <| if 0 ≤ (t_comeRow (Int32.toNatClampNeg x3)) then (zcl (f_X12_greater N x2 (t_comeRow (Int32.toNatClampNeg x3))) fun z44 => zbn (x3 + 1) fun y1 => f_X12_lastOf_4 N t_s t_comeRow n x1 z44 y1) else (some (-1))))
set_option maxRecDepth 100000 in
def f_X12_lastOf (N : Nat) (x0 : Int32) (t_s : Nat → Int32) (t_comeRow : Nat → Int32) : Option (Int32) := f_X12_lastOf_4 N t_s t_comeRow N x0 (-1) 0
set_option maxHeartbeats 4000000 in
set_option maxRecDepth 100000 in
theorem w_X12_lastOf_4 {p : Program} {l : Launch} {e : Env} {s : State} {m : MethodId} {args : Array Value} {below : List Frame} {meth : Method} {c : Code} {G : va_G} {cy : Nat → ClassId} {E : Nat → Nat} {w0 : va_W} {N : Nat} {q_t q_t_tape q_t_s q_t_h q_t_read q_t_names q_t_reserved q_t_undone q_t_before q_t_comeRow q_t_shown q_t_text q_t_toldAt q_t_stack q_t_truths q_t_imaged q_t_namesKept q_t_areKept : Nat} {t_thrown : Int32} {t_length : Int32} {t_size : Int32} {t_p : Int32} {t_limit : Int32} {t_token : Int32} {t_at : Int32} {t_span : Int32} {t_number : Int32} {t_fault : Int32} {t_faultAt : Int32} {t_word : Int64} {t_got : Int32} {t_lines : Int32} {t_hasWait : Int32} {t_undoMany : Int32} {t_firstMinute : Int32} {t_lookClock : Int32} {t_hasTime : Int32} {t_latestMost : Int32} {t_textMany : Int32} {t_seed : Int32} {t_toldMany : Int32} {t_hasTold : Int32} {t_codes : Int32} {t_ones : Int32} {t_top : Int32} {t_deep : Int32} {t_isWhole : Int32} {t_s : Nat → Int32} {t_comeRow : Nat → Int32} {r : Int32} (S : CallFix p m c cX12_lastOf 4 s args wsX12_lastOf RX12) (hr : meth.sig.returnType = some .int) (hlocks : meth.locks = false) (hF : zF G cy E (va_A w0 s.heap.size) s) :
    ∀ (n : Nat) (x1 : Int32) (x2 : Int32) (x3 : Int32) (H : Heap) (locs : List Loc) (ls : Array Slot), zH G (va_A w0 s.heap.size) s H locs (wd_X12_lastOf cy q_t q_t_tape q_t_s q_t_h q_t_read q_t_names q_t_reserved q_t_undone q_t_before q_t_comeRow q_t_shown q_t_text q_t_toldAt q_t_stack q_t_truths q_t_imaged q_t_namesKept q_t_areKept t_thrown t_length t_size t_p t_limit t_token t_at t_span t_number t_fault t_faultAt t_word t_got t_lines t_hasWait t_undoMany t_firstMinute t_lookClock t_hasTime t_latestMost t_textMany t_seed t_toldMany t_hasTold t_codes t_ones t_top t_deep t_isWhole t_s t_comeRow) → lv_has ls 4 [(0, .ref q_t), (1, .int x1), (2, .int x2), (3, .int x3)] → f_X12_lastOf_4 N t_s t_comeRow n x1 x2 x3 = some r → W p l e rm_X12_lastOf s m args below meth c H locs 0 0 (MQ below (zQ G w0 (wd_X12_lastOf cy q_t q_t_tape q_t_s q_t_h q_t_read q_t_names q_t_reserved q_t_undone q_t_before q_t_comeRow q_t_shown q_t_text q_t_toldAt q_t_stack q_t_truths q_t_imaged q_t_namesKept q_t_areKept t_thrown t_length t_size t_p t_limit t_token t_at t_span t_number t_fault t_faultAt t_word t_got t_lines t_hasWait t_undoMany t_firstMinute t_lookClock t_hasTime t_latestMost t_textMany t_seed t_toldMany t_hasTold t_codes t_ones t_top t_deep t_isWhole t_s t_comeRow) s.heap.size (some (.int r))) args s 0 0 (va_A w0 s.heap.size)) (F0 m 4 ls []) := by
  obtain ⟨hx, hb, hml, hown, hts⟩ := id S
  intro n
  induction n with
  | zero =>
    intro x1 x2 x3 H locs ls hH hl h
    rw [f_X12_lastOf_4] at h
    cases h
  | succ n ih =>
    intro x1 x2 x3 H locs ls hH hl h
    rw [f_X12_lastOf_4] at h
    refine lv_iload_n hx hb dX12_lastOf_4 rfl (lv_at hl 3 rfl) ?_
    refine lv_aload_n hx hb dX12_lastOf_5 rfl (lv_at hl 0 rfl) ?_
    refine z_get S hF hH iX12_lastOf_X12 0 rfl rfl 6 (by decide) (List.mem_of_getElem? (i := 1) rfl) rfl dX12_lastOf_6 ?_
    refine lv_iconst (v := 1) hx hb dX12_lastOf_9 (by decide) ?_
    refine z_iald (j := 1) S hF hH 1 rfl (by decide) rfl dX12_lastOf_10 ?_
    refine lv_icmp_ge (tgt := 54) hx hb dX12_lastOf_11 (by decide) (fun b11 => ?_) (fun b11 => ?_)
    · replace h := zif_t b11 h
      refine lv_iload_n hx hb dX12_lastOf_54 rfl (lv_at hl 2 rfl) ?_
      cases h
      exact z_iret S hr hlocks hH dX12_lastOf_55
    · replace h := zif_f b11 h
      refine lv_aload_n hx hb dX12_lastOf_14 rfl (lv_at hl 0 rfl) ?_
      refine lv_iload_n hx hb dX12_lastOf_15 rfl (lv_at hl 3 rfl) ?_
      refine lv_iload_n hx hb dX12_lastOf_16 rfl (lv_at hl 1 rfl) ?_
      obtain ⟨z17, hz17, h⟩ := zcl_e h
      refine z_callV (As := [.int x3, .int x1]) (rest := []) (st1 := [.int z17]) (ws' := (wd_X12_lastOf cy q_t q_t_tape q_t_s q_t_h q_t_read q_t_names q_t_reserved q_t_undone q_t_before q_t_comeRow q_t_shown q_t_text q_t_toldAt q_t_stack q_t_truths q_t_imaged q_t_namesKept q_t_areKept t_thrown t_length t_size t_p t_limit t_token t_at t_span t_number t_fault t_faultAt t_word t_got t_lines t_hasWait t_undoMany t_firstMinute t_lookClock t_hasTime t_latestMost t_textMany t_seed t_toldMany t_hasTold t_codes t_ones t_top t_deep t_isWhole t_s t_comeRow)) S hF hH (c_X12_isDueTo l G cy E N q_t q_t_tape q_t_s q_t_h q_t_read q_t_names q_t_reserved q_t_undone q_t_before q_t_comeRow q_t_shown q_t_text q_t_toldAt q_t_stack q_t_truths q_t_imaged q_t_namesKept q_t_areKept t_thrown t_length t_size t_p t_limit t_token t_at t_span t_number t_fault t_faultAt t_word t_got t_lines t_hasWait t_undoMany t_firstMinute t_lookClock t_hasTime t_latestMost t_textMany t_seed t_toldMany t_hasTold t_codes t_ones t_top t_deep t_isWhole t_s x3 x1 z17 hz17) (cwV 2 hts gX12_lastOf_X12_isDueTo rfl rfl rfl (by decide +kernel) ⟨Nat.le_of_ble_eq_true rfl, Nat.le_of_ble_eq_true rfl⟩) 13 0 rfl rfl [0, 1] rfl (by decide) rfl rfl rfl rfl rfl hl.1 (Nat.le_of_ble_eq_true rfl) dX12_lastOf_17 ⟨Nat.le_of_ble_eq_true rfl, Nat.le_of_ble_eq_true rfl⟩ (fun H locs hH => ?_)
      refine lv_if_ne (tgt := 26) hx hb dX12_lastOf_20 (by decide) (fun b20 => ?_) (fun b20 => ?_)
      · replace h := zif_f b20 h
        refine lv_aload_n hx hb dX12_lastOf_26 rfl (lv_at hl 0 rfl) ?_
        refine z_get S hF hH iX12_lastOf_X12 0 rfl rfl 24 (by decide) (List.mem_of_getElem? (i := 2) rfl) rfl dX12_lastOf_27 ?_
        refine lv_iload_n hx hb dX12_lastOf_30 rfl (lv_at hl 3 rfl) ?_
        obtain ⟨h31, h⟩ := zck_e h
        refine z_iald S hF hH 2 rfl h31 rfl dX12_lastOf_31 ?_
        refine lv_if_ge (tgt := 37) hx hb dX12_lastOf_32 (by decide) (fun b32 => ?_) (fun b32 => ?_)
        · replace h := zif_t b32 h
          refine lv_iload_n hx hb dX12_lastOf_37 rfl (lv_at hl 2 rfl) ?_
          refine lv_aload_n hx hb dX12_lastOf_38 rfl (lv_at hl 0 rfl) ?_
          refine z_get S hF hH iX12_lastOf_X12 0 rfl rfl 24 (by decide) (List.mem_of_getElem? (i := 2) rfl) rfl dX12_lastOf_39 ?_
          refine lv_iload_n hx hb dX12_lastOf_42 rfl (lv_at hl 3 rfl) ?_
          refine z_iald S hF hH 2 rfl h31 rfl dX12_lastOf_43 ?_
          obtain ⟨z44, hz44, h⟩ := zcl_e h
          refine z_callS (As := [.int x2, .int (t_comeRow (Int32.toNatClampNeg x3))]) (rest := []) (st1 := [.int z44]) (ws' := (wd_X12_lastOf cy q_t q_t_tape q_t_s q_t_h q_t_read q_t_names q_t_reserved q_t_undone q_t_before q_t_comeRow q_t_shown q_t_text q_t_toldAt q_t_stack q_t_truths q_t_imaged q_t_namesKept q_t_areKept t_thrown t_length t_size t_p t_limit t_token t_at t_span t_number t_fault t_faultAt t_word t_got t_lines t_hasWait t_undoMany t_firstMinute t_lookClock t_hasTime t_latestMost t_textMany t_seed t_toldMany t_hasTold t_codes t_ones t_top t_deep t_isWhole t_s t_comeRow)) S hF hH (c_X12_greater l G cy E N x2 (t_comeRow (Int32.toNatClampNeg x3)) z44 hz44) (cwS 2 hts gX12_lastOf_X12_greater rfl rfl rfl (by decide +kernel) ⟨Nat.le_of_ble_eq_true rfl, Nat.le_of_ble_eq_true rfl⟩) [] rfl (by decide) rfl rfl rfl rfl rfl hl.1 (Nat.le_of_ble_eq_true rfl) dX12_lastOf_44 ⟨Nat.le_of_ble_eq_true rfl, Nat.le_of_ble_eq_true rfl⟩ (fun H locs hH => ?_)
          refine lv_istore_n (lv' := [(2, .int z44), (0, .ref q_t), (1, .int x1), (3, .int x3)]) hx hb dX12_lastOf_47 rfl hl (by decide) rfl (fun ls hl => ?_)
          obtain ⟨y1, ey1, h⟩ := zbn_e h
          refine lv_iinc (v := y1) (lv' := [(3, .int y1), (2, .int z44), (0, .ref q_t), (1, .int x1)]) hx hb dX12_lastOf_48 hl (k := 3) rfl (by rw [ey1]; exact congrArg (fun z => x3 + z) (by decide)) (by decide) rfl (fun ls hl => ?_)
          clear ey1
          refine lv_goto (tgt := 4) hx hb dX12_lastOf_51 (by decide) ?_
          exact ih x1 z44 y1 _ _ _ hH (lv_sub hl [2, 3, 1, 0] rfl) h
        · replace h := zif_f b32 h
          refine lv_iconst (v := (-1)) hx hb dX12_lastOf_35 (by decide) ?_
          cases h
          exact z_iret S hr hlocks hH dX12_lastOf_36
      · replace h := zif_t b20 h
        refine lv_goto (tgt := 48) hx hb dX12_lastOf_23 (by decide) ?_
        obtain ⟨y2, ey2, h⟩ := zbn_e h
        refine lv_iinc (v := y2) (lv' := [(3, .int y2), (0, .ref q_t), (1, .int x1), (2, .int x2)]) hx hb dX12_lastOf_48 hl (k := 3) rfl (by rw [ey2]; exact congrArg (fun z => x3 + z) (by decide)) (by decide) rfl (fun ls hl => ?_)
        clear ey2
        refine lv_goto (tgt := 4) hx hb dX12_lastOf_51 (by decide) ?_
        exact ih x1 x2 y2 _ _ _ hH (lv_sub hl [1, 2, 3, 0] rfl) h
set_option maxHeartbeats 4000000 in
set_option maxRecDepth 100000 in
theorem c_X12_lastOf (l : Launch) (G : va_G) (cy : Nat → ClassId) (E : Nat → Nat) (N : Nat) (q_t q_t_tape q_t_s q_t_h q_t_read q_t_names q_t_reserved q_t_undone q_t_before q_t_comeRow q_t_shown q_t_text q_t_toldAt q_t_stack q_t_truths q_t_imaged q_t_namesKept q_t_areKept : Nat) (t_thrown : Int32) (t_length : Int32) (t_size : Int32) (t_p : Int32) (t_limit : Int32) (t_token : Int32) (t_at : Int32) (t_span : Int32) (t_number : Int32) (t_fault : Int32) (t_faultAt : Int32) (t_word : Int64) (t_got : Int32) (t_lines : Int32) (t_hasWait : Int32) (t_undoMany : Int32) (t_firstMinute : Int32) (t_lookClock : Int32) (t_hasTime : Int32) (t_latestMost : Int32) (t_textMany : Int32) (t_seed : Int32) (t_toldMany : Int32) (t_hasTold : Int32) (t_codes : Int32) (t_ones : Int32) (t_top : Int32) (t_deep : Int32) (t_isWhole : Int32) (t_s : Nat → Int32) (t_comeRow : Nat → Int32) (x0 : Int32) (r : Int32) (h : f_X12_lastOf N x0 t_s t_comeRow = some r) : zM l G cy E yX12_lastOf wsX12_lastOf rm_X12_lastOf [.ref q_t, .int x0] (wd_X12_lastOf cy q_t q_t_tape q_t_s q_t_h q_t_read q_t_names q_t_reserved q_t_undone q_t_before q_t_comeRow q_t_shown q_t_text q_t_toldAt q_t_stack q_t_truths q_t_imaged q_t_namesKept q_t_areKept t_thrown t_length t_size t_p t_limit t_token t_at t_span t_number t_fault t_faultAt t_word t_got t_lines t_hasWait t_undoMany t_firstMinute t_lookClock t_hasTime t_latestMost t_textMany t_seed t_toldMany t_hasTold t_codes t_ones t_top t_deep t_isWhole t_s t_comeRow) (wd_X12_lastOf cy q_t q_t_tape q_t_s q_t_h q_t_read q_t_names q_t_reserved q_t_undone q_t_before q_t_comeRow q_t_shown q_t_text q_t_toldAt q_t_stack q_t_truths q_t_imaged q_t_namesKept q_t_areKept t_thrown t_length t_size t_p t_limit t_token t_at t_span t_number t_fault t_faultAt t_word t_got t_lines t_hasWait t_undoMany t_firstMinute t_lookClock t_hasTime t_latestMost t_textMany t_seed t_toldMany t_hasTold t_codes t_ones t_top t_deep t_isWhole t_s t_comeRow) (some (.int r)) 0 0 := by
  refine z_body (cc := cX12_lastOf) (maxL := 4) (ret := some .int) (by decide) rfl (Nat.le_of_ble_eq_true rfl) ?_
  intro p e s m below meth c ls S hr hlocks hnm hF hH hl
  have S : CallFix p m c cX12_lastOf 4 s ([.ref q_t, .int x0] : List Value).toArray wsX12_lastOf RX12 := S
  obtain ⟨hx, hb, hml, hown, hts⟩ := id S
  have hl : lv_has ls 4 [(0, .ref q_t), (1, .int x0)] := hl
  rw [f_X12_lastOf] at h
  refine lv_iconst (v := (-1)) hx hb dX12_lastOf_0 (by decide) ?_
  refine lv_istore_n (lv' := [(2, .int (-1)), (0, .ref q_t), (1, .int x0)]) hx hb dX12_lastOf_1 rfl hl (by decide) rfl (fun ls hl => ?_)
  refine lv_iconst (v := 0) hx hb dX12_lastOf_2 (by decide) ?_
  refine lv_istore_n (lv' := [(3, .int 0), (2, .int (-1)), (0, .ref q_t), (1, .int x0)]) hx hb dX12_lastOf_3 rfl hl (by decide) rfl (fun ls hl => ?_)
  exact w_X12_lastOf_4 S hr hlocks hF N x0 (-1) 0 _ _ _ hH (lv_sub hl [2, 3, 1, 0] rfl) h
abbrev wd_X12_all (cy : Nat → ClassId) (q_t q_t_tape q_t_s q_t_h q_t_read q_t_names q_t_reserved q_t_undone q_t_before q_t_comeRow q_t_shown q_t_text q_t_toldAt q_t_stack q_t_truths q_t_imaged q_t_namesKept q_t_areKept : Nat) (t_thrown : Int32) (t_length : Int32) (t_size : Int32) (t_p : Int32) (t_limit : Int32) (t_token : Int32) (t_at : Int32) (t_span : Int32) (t_number : Int32) (t_fault : Int32) (t_faultAt : Int32) (t_word : Int64) (t_got : Int32) (t_lines : Int32) (t_hasWait : Int32) (t_undoMany : Int32) (t_firstMinute : Int32) (t_lookClock : Int32) (t_hasTime : Int32) (t_latestMost : Int32) (t_textMany : Int32) (t_seed : Int32) (t_toldMany : Int32) (t_hasTold : Int32) (t_codes : Int32) (t_ones : Int32) (t_top : Int32) (t_deep : Int32) (t_isWhole : Int32) (t_s : Nat → Int32) (t_before : Nat → Int32) (t_comeRow : Nat → Int32) : va_W := [(q_t, .inr (13, [.int t_thrown, .ref q_t_tape, .int t_length, .int t_size, .int t_p, .int t_limit, .ref q_t_s, .ref q_t_h, .ref q_t_read, .ref q_t_names, .ref q_t_reserved, .int t_token, .int t_at, .int t_span, .int t_number, .int t_fault, .int t_faultAt, .long t_word, .int t_got, .int t_lines, .int t_hasWait, .ref q_t_undone, .ref q_t_before, .int t_undoMany, .ref q_t_comeRow, .int t_firstMinute, .int t_lookClock, .int t_hasTime, .ref q_t_shown, .int t_latestMost, .ref q_t_text, .int t_textMany, .int t_seed, .int t_toldMany, .ref q_t_toldAt, .int t_hasTold, .ref q_t_stack, .int t_codes, .int t_ones, .int t_top, .int t_deep, .int t_isWhole, .ref q_t_truths, .ref q_t_imaged, .ref q_t_namesKept, .ref q_t_areKept])), (q_t_s, .inl (cy 1, 334, .inl t_s)), (q_t_before, .inl (cy 1, 101, .inl t_before)), (q_t_comeRow, .inl (cy 1, 6, .inl t_comeRow))]
theorem iX12_all_X12 : ∀ w ∈ wsX120, w ∈ wsX12_all := fun _ h => List.mem_cons_of_mem _ (List.mem_append_right _ h)
abbrev rm_X12_all : Room := { frames := 7, cells := 0, slots := 0, locals := 155 }
set_option maxRecDepth 100000 in
def f_X12_all (N : Nat) (x0 : Int32) (t_thrown : Int32) (t_s : Nat → Int32) (t_before : Nat → Int32) (t_comeRow : Nat → Int32) : Option (Int32 × Int32 × (Nat → Int32) × (Nat → Int32) × (Nat → Int32)) := zcl (f_X12_isMeet N x0 t_s) fun z7 => if z7 = 0 then (some ((-1), 0, t_s, t_before, t_comeRow)) else (zcl (f_X12_laysCome N x0 2000 t_s t_before t_comeRow) fun z20 => zcl (f_X12_lastOf N x0 z20.1 z20.2.2) fun z25 => some (z25, 0, z20.1, z20.2.1, z20.2.2))
set_option maxHeartbeats 4000000 in
set_option maxRecDepth 100000 in
theorem c_X12_all (l : Launch) (G : va_G) (cy : Nat → ClassId) (E : Nat → Nat) (N : Nat) (q_t q_t_tape q_t_s q_t_h q_t_read q_t_names q_t_reserved q_t_undone q_t_before q_t_comeRow q_t_shown q_t_text q_t_toldAt q_t_stack q_t_truths q_t_imaged q_t_namesKept q_t_areKept : Nat) (t_thrown : Int32) (t_length : Int32) (t_size : Int32) (t_p : Int32) (t_limit : Int32) (t_token : Int32) (t_at : Int32) (t_span : Int32) (t_number : Int32) (t_fault : Int32) (t_faultAt : Int32) (t_word : Int64) (t_got : Int32) (t_lines : Int32) (t_hasWait : Int32) (t_undoMany : Int32) (t_firstMinute : Int32) (t_lookClock : Int32) (t_hasTime : Int32) (t_latestMost : Int32) (t_textMany : Int32) (t_seed : Int32) (t_toldMany : Int32) (t_hasTold : Int32) (t_codes : Int32) (t_ones : Int32) (t_top : Int32) (t_deep : Int32) (t_isWhole : Int32) (t_s : Nat → Int32) (t_before : Nat → Int32) (t_comeRow : Nat → Int32) (x0 : Int32) (r : Int32) (r_t_thrown : Int32) (r_t_s : Nat → Int32) (r_t_before : Nat → Int32) (r_t_comeRow : Nat → Int32) (h : f_X12_all N x0 t_thrown t_s t_before t_comeRow = some (r, r_t_thrown, r_t_s, r_t_before, r_t_comeRow)) : zM l G cy E yX12_all wsX12_all rm_X12_all [.ref q_t, .int x0] (wd_X12_all cy q_t q_t_tape q_t_s q_t_h q_t_read q_t_names q_t_reserved q_t_undone q_t_before q_t_comeRow q_t_shown q_t_text q_t_toldAt q_t_stack q_t_truths q_t_imaged q_t_namesKept q_t_areKept t_thrown t_length t_size t_p t_limit t_token t_at t_span t_number t_fault t_faultAt t_word t_got t_lines t_hasWait t_undoMany t_firstMinute t_lookClock t_hasTime t_latestMost t_textMany t_seed t_toldMany t_hasTold t_codes t_ones t_top t_deep t_isWhole t_s t_before t_comeRow) (wd_X12_all cy q_t q_t_tape q_t_s q_t_h q_t_read q_t_names q_t_reserved q_t_undone q_t_before q_t_comeRow q_t_shown q_t_text q_t_toldAt q_t_stack q_t_truths q_t_imaged q_t_namesKept q_t_areKept r_t_thrown t_length t_size t_p t_limit t_token t_at t_span t_number t_fault t_faultAt t_word t_got t_lines t_hasWait t_undoMany t_firstMinute t_lookClock t_hasTime t_latestMost t_textMany t_seed t_toldMany t_hasTold t_codes t_ones t_top t_deep t_isWhole r_t_s r_t_before r_t_comeRow) (some (.int r)) 0 0 := by
  refine z_body (cc := cX12_all) (maxL := 2) (ret := some .int) (by decide) rfl (Nat.le_of_ble_eq_true rfl) ?_
  intro p e s m below meth c ls S hr hlocks hnm hF hH hl
  have S : CallFix p m c cX12_all 2 s ([.ref q_t, .int x0] : List Value).toArray wsX12_all RX12 := S
  obtain ⟨hx, hb, hml, hown, hts⟩ := id S
  have hl : lv_has ls 2 [(0, .ref q_t), (1, .int x0)] := hl
  rw [f_X12_all] at h
  refine lv_aload_n hx hb dX12_all_0 rfl (lv_at hl 0 rfl) ?_
  refine lv_iconst (v := 0) hx hb dX12_all_1 (by decide) ?_
  refine z_put (ws' := (wd_X12_all cy q_t q_t_tape q_t_s q_t_h q_t_read q_t_names q_t_reserved q_t_undone q_t_before q_t_comeRow q_t_shown q_t_text q_t_toldAt q_t_stack q_t_truths q_t_imaged q_t_namesKept q_t_areKept 0 t_length t_size t_p t_limit t_token t_at t_span t_number t_fault t_faultAt t_word t_got t_lines t_hasWait t_undoMany t_firstMinute t_lookClock t_hasTime t_latestMost t_textMany t_seed t_toldMany t_hasTold t_codes t_ones t_top t_deep t_isWhole t_s t_before t_comeRow)) S hF hH iX12_all_X12 tyX12 tyX12_ok nmX12 0 rfl rfl 0 (by decide) (List.mem_of_getElem? (i := 1) rfl) rfl rfl rfl (Nat.le_of_ble_eq_true rfl) rfl dX12_all_2 (fun H locs hH => ?_)
  refine lv_aload_n hx hb dX12_all_5 rfl (lv_at hl 0 rfl) ?_
  refine lv_iload_n hx hb dX12_all_6 rfl (lv_at hl 1 rfl) ?_
  obtain ⟨z7, hz7, h⟩ := zcl_e h
  refine z_callV (As := [.int x0]) (rest := []) (st1 := [.int z7]) (ws' := (wd_X12_all cy q_t q_t_tape q_t_s q_t_h q_t_read q_t_names q_t_reserved q_t_undone q_t_before q_t_comeRow q_t_shown q_t_text q_t_toldAt q_t_stack q_t_truths q_t_imaged q_t_namesKept q_t_areKept 0 t_length t_size t_p t_limit t_token t_at t_span t_number t_fault t_faultAt t_word t_got t_lines t_hasWait t_undoMany t_firstMinute t_lookClock t_hasTime t_latestMost t_textMany t_seed t_toldMany t_hasTold t_codes t_ones t_top t_deep t_isWhole t_s t_before t_comeRow)) S hF hH (c_X12_isMeet l G cy E N q_t q_t_tape q_t_s q_t_h q_t_read q_t_names q_t_reserved q_t_undone q_t_before q_t_comeRow q_t_shown q_t_text q_t_toldAt q_t_stack q_t_truths q_t_imaged q_t_namesKept q_t_areKept 0 t_length t_size t_p t_limit t_token t_at t_span t_number t_fault t_faultAt t_word t_got t_lines t_hasWait t_undoMany t_firstMinute t_lookClock t_hasTime t_latestMost t_textMany t_seed t_toldMany t_hasTold t_codes t_ones t_top t_deep t_isWhole t_s x0 z7 hz7) (cwV 1 hts gX12_all_X12_isMeet rfl rfl rfl (by decide +kernel) ⟨Nat.le_of_ble_eq_true rfl, Nat.le_of_ble_eq_true rfl⟩) 13 0 rfl rfl [0, 1] rfl (by decide) rfl rfl rfl rfl rfl hl.1 (Nat.le_of_ble_eq_true rfl) dX12_all_7 ⟨Nat.le_of_ble_eq_true rfl, Nat.le_of_ble_eq_true rfl⟩ (fun H locs hH => ?_)
  refine lv_if_ne (tgt := 15) hx hb dX12_all_10 (by decide) (fun b10 => ?_) (fun b10 => ?_)
  · replace h := zif_f b10 h
    refine lv_aload_n hx hb dX12_all_15 rfl (lv_at hl 0 rfl) ?_
    refine lv_iload_n hx hb dX12_all_16 rfl (lv_at hl 1 rfl) ?_
    refine lv_sipush (v := 2000) hx hb dX12_all_17 (by decide) ?_
    obtain ⟨z20, hz20, h⟩ := zcl_e h
    refine z_callV (As := [.int x0, .int 2000]) (rest := []) (st1 := []) (ws' := (wd_X12_all cy q_t q_t_tape q_t_s q_t_h q_t_read q_t_names q_t_reserved q_t_undone q_t_before q_t_comeRow q_t_shown q_t_text q_t_toldAt q_t_stack q_t_truths q_t_imaged q_t_namesKept q_t_areKept 0 t_length t_size t_p t_limit t_token t_at t_span t_number t_fault t_faultAt t_word t_got t_lines t_hasWait t_undoMany t_firstMinute t_lookClock t_hasTime t_latestMost t_textMany t_seed t_toldMany t_hasTold t_codes t_ones t_top t_deep t_isWhole z20.1 z20.2.1 z20.2.2)) S hF hH (c_X12_laysCome l G cy E N q_t q_t_tape q_t_s q_t_h q_t_read q_t_names q_t_reserved q_t_undone q_t_before q_t_comeRow q_t_shown q_t_text q_t_toldAt q_t_stack q_t_truths q_t_imaged q_t_namesKept q_t_areKept 0 t_length t_size t_p t_limit t_token t_at t_span t_number t_fault t_faultAt t_word t_got t_lines t_hasWait t_undoMany t_firstMinute t_lookClock t_hasTime t_latestMost t_textMany t_seed t_toldMany t_hasTold t_codes t_ones t_top t_deep t_isWhole t_s t_before t_comeRow x0 2000 z20.1 z20.2.1 z20.2.2 hz20) (cwV 2 hts gX12_all_X12_laysCome rfl rfl rfl (by decide +kernel) ⟨Nat.le_of_ble_eq_true rfl, Nat.le_of_ble_eq_true rfl⟩) 13 0 rfl rfl [0, 1, 2, 3] rfl (by decide) rfl rfl rfl rfl rfl hl.1 (Nat.le_of_ble_eq_true rfl) dX12_all_20 ⟨Nat.le_of_ble_eq_true rfl, Nat.le_of_ble_eq_true rfl⟩ (fun H locs hH => ?_)
    refine lv_aload_n hx hb dX12_all_23 rfl (lv_at hl 0 rfl) ?_
    refine lv_iload_n hx hb dX12_all_24 rfl (lv_at hl 1 rfl) ?_
    obtain ⟨z25, hz25, h⟩ := zcl_e h
    refine z_callV (As := [.int x0]) (rest := []) (st1 := [.int z25]) (ws' := (wd_X12_all cy q_t q_t_tape q_t_s q_t_h q_t_read q_t_names q_t_reserved q_t_undone q_t_before q_t_comeRow q_t_shown q_t_text q_t_toldAt q_t_stack q_t_truths q_t_imaged q_t_namesKept q_t_areKept 0 t_length t_size t_p t_limit t_token t_at t_span t_number t_fault t_faultAt t_word t_got t_lines t_hasWait t_undoMany t_firstMinute t_lookClock t_hasTime t_latestMost t_textMany t_seed t_toldMany t_hasTold t_codes t_ones t_top t_deep t_isWhole z20.1 z20.2.1 z20.2.2)) S hF hH (c_X12_lastOf l G cy E N q_t q_t_tape q_t_s q_t_h q_t_read q_t_names q_t_reserved q_t_undone q_t_before q_t_comeRow q_t_shown q_t_text q_t_toldAt q_t_stack q_t_truths q_t_imaged q_t_namesKept q_t_areKept 0 t_length t_size t_p t_limit t_token t_at t_span t_number t_fault t_faultAt t_word t_got t_lines t_hasWait t_undoMany t_firstMinute t_lookClock t_hasTime t_latestMost t_textMany t_seed t_toldMany t_hasTold t_codes t_ones t_top t_deep t_isWhole z20.1 z20.2.2 x0 z25 hz25) (cwV 1 hts gX12_all_X12_lastOf rfl rfl rfl (by decide +kernel) ⟨Nat.le_of_ble_eq_true rfl, Nat.le_of_ble_eq_true rfl⟩) 13 0 rfl rfl [0, 1, 3] rfl (by decide) rfl rfl rfl rfl rfl hl.1 (Nat.le_of_ble_eq_true rfl) dX12_all_25 ⟨Nat.le_of_ble_eq_true rfl, Nat.le_of_ble_eq_true rfl⟩ (fun H locs hH => ?_)
    cases h
    exact z_iret S hr hlocks hH dX12_all_28
  · replace h := zif_t b10 h
    refine lv_iconst (v := (-1)) hx hb dX12_all_13 (by decide) ?_
    cases h
    exact z_iret S hr hlocks hH dX12_all_14
abbrev wd_X12_missed (cy : Nat → ClassId) (q_t q_t_tape q_t_s q_t_h q_t_read q_t_names q_t_reserved q_t_undone q_t_before q_t_comeRow q_t_shown q_t_text q_t_toldAt q_t_stack q_t_truths q_t_imaged q_t_namesKept q_t_areKept : Nat) (t_thrown : Int32) (t_length : Int32) (t_size : Int32) (t_p : Int32) (t_limit : Int32) (t_token : Int32) (t_at : Int32) (t_span : Int32) (t_number : Int32) (t_fault : Int32) (t_faultAt : Int32) (t_word : Int64) (t_got : Int32) (t_lines : Int32) (t_hasWait : Int32) (t_undoMany : Int32) (t_firstMinute : Int32) (t_lookClock : Int32) (t_hasTime : Int32) (t_latestMost : Int32) (t_textMany : Int32) (t_seed : Int32) (t_toldMany : Int32) (t_hasTold : Int32) (t_codes : Int32) (t_ones : Int32) (t_top : Int32) (t_deep : Int32) (t_isWhole : Int32) (t_s : Nat → Int32) (t_before : Nat → Int32) (t_comeRow : Nat → Int32) : va_W := [(q_t, .inr (13, [.int t_thrown, .ref q_t_tape, .int t_length, .int t_size, .int t_p, .int t_limit, .ref q_t_s, .ref q_t_h, .ref q_t_read, .ref q_t_names, .ref q_t_reserved, .int t_token, .int t_at, .int t_span, .int t_number, .int t_fault, .int t_faultAt, .long t_word, .int t_got, .int t_lines, .int t_hasWait, .ref q_t_undone, .ref q_t_before, .int t_undoMany, .ref q_t_comeRow, .int t_firstMinute, .int t_lookClock, .int t_hasTime, .ref q_t_shown, .int t_latestMost, .ref q_t_text, .int t_textMany, .int t_seed, .int t_toldMany, .ref q_t_toldAt, .int t_hasTold, .ref q_t_stack, .int t_codes, .int t_ones, .int t_top, .int t_deep, .int t_isWhole, .ref q_t_truths, .ref q_t_imaged, .ref q_t_namesKept, .ref q_t_areKept])), (q_t_s, .inl (cy 1, 334, .inl t_s)), (q_t_before, .inl (cy 1, 101, .inl t_before)), (q_t_comeRow, .inl (cy 1, 6, .inl t_comeRow))]
theorem iX12_missed_X12 : ∀ w ∈ wsX120, w ∈ wsX12_missed := fun _ h => List.mem_cons_of_mem _ (List.mem_append_right _ h)
abbrev rm_X12_missed : Room := { frames := 7, cells := 0, slots := 0, locals := 155 }
set_option maxRecDepth 100000 in
def f_X12_missed_81 (N : Nat) (k_88 : Int32 → Int32 → Int32 → Int32 → Int32 → (Nat → Int32) → (Nat → Int32) → (Nat → Int32) → (Option (Int32 × Int32 × (Nat → Int32) × (Nat → Int32) × (Nat → Int32)))) (x1 : Int32) (x3 : Int32) (sk0 : Int32) (c_t_thrown : Int32) (c_t_s : Nat → Int32) (c_t_before : Nat → Int32) (c_t_comeRow : Nat → Int32) : Option (Int32 × Int32 × (Nat → Int32) × (Nat → Int32) × (Nat → Int32)) := k_88 x1 x3 (1 <<< (x3 &&& 31)) sk0 c_t_thrown c_t_s c_t_before c_t_comeRow
set_option maxRecDepth 100000 in
def f_X12_missed_87 (N : Nat) (k_88 : Int32 → Int32 → Int32 → Int32 → Int32 → (Nat → Int32) → (Nat → Int32) → (Nat → Int32) → (Option (Int32 × Int32 × (Nat → Int32) × (Nat → Int32) × (Nat → Int32)))) (x1 : Int32) (x3 : Int32) (sk0 : Int32) (c_t_thrown : Int32) (c_t_s : Nat → Int32) (c_t_before : Nat → Int32) (c_t_comeRow : Nat → Int32) : Option (Int32 × Int32 × (Nat → Int32) × (Nat → Int32) × (Nat → Int32)) := k_88 x1 x3 0 sk0 c_t_thrown c_t_s c_t_before c_t_comeRow
set_option maxRecDepth 100000 in
def f_X12_missed_88 (N : Nat) (k_27 : Int32 → Int32 → Int32 → Int32 → (Nat → Int32) → (Nat → Int32) → (Nat → Int32) → (Option (Int32 × Int32 × (Nat → Int32) × (Nat → Int32) × (Nat → Int32)))) (x1 : Int32) (x3 : Int32) (sk0 : Int32) (sk1 : Int32) (c_t_thrown : Int32) (c_t_s : Nat → Int32) (c_t_before : Nat → Int32) (c_t_comeRow : Nat → Int32) : Option (Int32 × Int32 × (Nat → Int32) × (Nat → Int32) × (Nat → Int32)) := zbn ((sk1 ||| sk0)) fun y1 => zbn (x3 + 1) fun y2 => k_27 x1 y1 y2 c_t_thrown c_t_s c_t_before c_t_comeRow
set_option maxRecDepth 100000 in
def f_X12_missed_27 (N : Nat) : Nat → Int32 → Int32 → Int32 → Int32 → (Nat → Int32) → (Nat → Int32) → (Nat → Int32) → (Option (Int32 × Int32 × (Nat → Int32) × (Nat → Int32) × (Nat → Int32)))
  | 0, _, _, _, _, _, _, _ => none
  | n + 1, x1, x2, x3, c_t_thrown, c_t_s, c_t_before, c_t_comeRow => if (c_t_s 1) ≤ x3 then (some (x2, c_t_thrown, c_t_s, c_t_before, c_t_comeRow)) else (zcl (f_X12_isDueTo N x3 x1 c_t_s) fun z41 => if z41 = 0 then (f_X12_missed_87 N (f_X12_missed_88 N (f_X12_missed_27 N n)) x1 x3 x2 c_t_thrown c_t_s c_t_before c_t_comeRow) else (zck (zin x3 6) <| if (c_t_comeRow (Int32.toNatClampNeg x3)) < 0 then (f_X12_missed_81 N (f_X12_missed_88 N (f_X12_missed_27 N n)) x1 x3 x2 c_t_thrown c_t_s c_t_before c_t_comeRow) else (zck (zin (75 + x1) 334) <| if (c_t_comeRow (Int32.toNatClampNeg x3)) ≤ ((c_t_s (Int32.toNatClampNeg (75 + x1))) + (c_t_s 3)) then (f_X12_missed_87 N (f_X12_missed_88 N (f_X12_missed_27 N n)) x1 x3 x2 c_t_thrown c_t_s c_t_before c_t_comeRow) else (f_X12_missed_81 N (f_X12_missed_88 N (f_X12_missed_27 N n)) x1 x3 x2 c_t_thrown c_t_s c_t_before c_t_comeRow))))
set_option maxRecDepth 100000 in
def f_X12_missed (N : Nat) (x0 : Int32) (t_thrown : Int32) (t_s : Nat → Int32) (t_before : Nat → Int32) (t_comeRow : Nat → Int32) : Option (Int32 × Int32 × (Nat → Int32) × (Nat → Int32) × (Nat → Int32)) := zcl (f_X12_isMeet N x0 t_s) fun z7 => if z7 = 0 then (some ((-1), 0, t_s, t_before, t_comeRow)) else (zcl (f_X12_laysCome N x0 2000 t_s t_before t_comeRow) fun z20 => f_X12_missed_27 N N x0 0 0 0 z20.1 z20.2.1 z20.2.2)
set_option maxHeartbeats 4000000 in
set_option maxRecDepth 100000 in
theorem w_X12_missed_81 {p : Program} {l : Launch} {e : Env} {s : State} {m : MethodId} {args : Array Value} {below : List Frame} {meth : Method} {c : Code} {G : va_G} {cy : Nat → ClassId} {E : Nat → Nat} {w0 : va_W} {N : Nat} {q_t q_t_tape q_t_s q_t_h q_t_read q_t_names q_t_reserved q_t_undone q_t_before q_t_comeRow q_t_shown q_t_text q_t_toldAt q_t_stack q_t_truths q_t_imaged q_t_namesKept q_t_areKept : Nat} {t_length : Int32} {t_size : Int32} {t_p : Int32} {t_limit : Int32} {t_token : Int32} {t_at : Int32} {t_span : Int32} {t_number : Int32} {t_fault : Int32} {t_faultAt : Int32} {t_word : Int64} {t_got : Int32} {t_lines : Int32} {t_hasWait : Int32} {t_undoMany : Int32} {t_firstMinute : Int32} {t_lookClock : Int32} {t_hasTime : Int32} {t_latestMost : Int32} {t_textMany : Int32} {t_seed : Int32} {t_toldMany : Int32} {t_hasTold : Int32} {t_codes : Int32} {t_ones : Int32} {t_top : Int32} {t_deep : Int32} {t_isWhole : Int32} {r : Int32} {r_t_thrown : Int32} {r_t_s : Nat → Int32} {r_t_before : Nat → Int32} {r_t_comeRow : Nat → Int32} {k_88 : Int32 → Int32 → Int32 → Int32 → Int32 → (Nat → Int32) → (Nat → Int32) → (Nat → Int32) → (Option (Int32 × Int32 × (Nat → Int32) × (Nat → Int32) × (Nat → Int32)))} (S : CallFix p m c cX12_missed 4 s args wsX12_missed RX12) (hr : meth.sig.returnType = some .int) (hlocks : meth.locks = false) (hF : zF G cy E (va_A w0 s.heap.size) s) (hk_88 : ∀ (x1 : Int32) (x3 : Int32) (sk0 : Int32) (sk1 : Int32) (c_t_thrown : Int32) (c_t_s : Nat → Int32) (c_t_before : Nat → Int32) (c_t_comeRow : Nat → Int32) (H : Heap) (locs : List Loc) (ls : Array Slot), zH G (va_A w0 s.heap.size) s H locs (wd_X12_missed cy q_t q_t_tape q_t_s q_t_h q_t_read q_t_names q_t_reserved q_t_undone q_t_before q_t_comeRow q_t_shown q_t_text q_t_toldAt q_t_stack q_t_truths q_t_imaged q_t_namesKept q_t_areKept c_t_thrown t_length t_size t_p t_limit t_token t_at t_span t_number t_fault t_faultAt t_word t_got t_lines t_hasWait t_undoMany t_firstMinute t_lookClock t_hasTime t_latestMost t_textMany t_seed t_toldMany t_hasTold t_codes t_ones t_top t_deep t_isWhole c_t_s c_t_before c_t_comeRow) → lv_has ls 4 [(0, .ref q_t), (1, .int x1), (3, .int x3)] → k_88 x1 x3 sk0 sk1 c_t_thrown c_t_s c_t_before c_t_comeRow = some (r, r_t_thrown, r_t_s, r_t_before, r_t_comeRow) → W p l e rm_X12_missed s m args below meth c H locs 0 0 (MQ below (zQ G w0 (wd_X12_missed cy q_t q_t_tape q_t_s q_t_h q_t_read q_t_names q_t_reserved q_t_undone q_t_before q_t_comeRow q_t_shown q_t_text q_t_toldAt q_t_stack q_t_truths q_t_imaged q_t_namesKept q_t_areKept r_t_thrown t_length t_size t_p t_limit t_token t_at t_span t_number t_fault t_faultAt t_word t_got t_lines t_hasWait t_undoMany t_firstMinute t_lookClock t_hasTime t_latestMost t_textMany t_seed t_toldMany t_hasTold t_codes t_ones t_top t_deep t_isWhole r_t_s r_t_before r_t_comeRow) s.heap.size (some (.int r))) args s 0 0 (va_A w0 s.heap.size)) (F0 m 88 ls [.int sk0, .int sk1])) :
    ∀ (x1 : Int32) (x3 : Int32) (sk0 : Int32) (c_t_thrown : Int32) (c_t_s : Nat → Int32) (c_t_before : Nat → Int32) (c_t_comeRow : Nat → Int32) (H : Heap) (locs : List Loc) (ls : Array Slot), zH G (va_A w0 s.heap.size) s H locs (wd_X12_missed cy q_t q_t_tape q_t_s q_t_h q_t_read q_t_names q_t_reserved q_t_undone q_t_before q_t_comeRow q_t_shown q_t_text q_t_toldAt q_t_stack q_t_truths q_t_imaged q_t_namesKept q_t_areKept c_t_thrown t_length t_size t_p t_limit t_token t_at t_span t_number t_fault t_faultAt t_word t_got t_lines t_hasWait t_undoMany t_firstMinute t_lookClock t_hasTime t_latestMost t_textMany t_seed t_toldMany t_hasTold t_codes t_ones t_top t_deep t_isWhole c_t_s c_t_before c_t_comeRow) → lv_has ls 4 [(0, .ref q_t), (1, .int x1), (3, .int x3)] → f_X12_missed_81 N k_88 x1 x3 sk0 c_t_thrown c_t_s c_t_before c_t_comeRow = some (r, r_t_thrown, r_t_s, r_t_before, r_t_comeRow) → W p l e rm_X12_missed s m args below meth c H locs 0 0 (MQ below (zQ G w0 (wd_X12_missed cy q_t q_t_tape q_t_s q_t_h q_t_read q_t_names q_t_reserved q_t_undone q_t_before q_t_comeRow q_t_shown q_t_text q_t_toldAt q_t_stack q_t_truths q_t_imaged q_t_namesKept q_t_areKept r_t_thrown t_length t_size t_p t_limit t_token t_at t_span t_number t_fault t_faultAt t_word t_got t_lines t_hasWait t_undoMany t_firstMinute t_lookClock t_hasTime t_latestMost t_textMany t_seed t_toldMany t_hasTold t_codes t_ones t_top t_deep t_isWhole r_t_s r_t_before r_t_comeRow) s.heap.size (some (.int r))) args s 0 0 (va_A w0 s.heap.size)) (F0 m 81 ls [.int sk0]) := by
  obtain ⟨hx, hb, hml, hown, hts⟩ := id S
  intro x1 x3 sk0 c_t_thrown c_t_s c_t_before c_t_comeRow H locs ls hH hl h
  rw [f_X12_missed_81] at h
  refine lv_iconst (v := 1) hx hb dX12_missed_81 (by decide) ?_
  refine lv_iload_n hx hb dX12_missed_82 rfl (lv_at hl 2 rfl) ?_
  refine lv_ishl hx hb dX12_missed_83 ?_
  refine lv_goto (tgt := 88) hx hb dX12_missed_84 (by decide) ?_
  exact hk_88 x1 x3 (1 <<< (x3 &&& 31)) sk0 c_t_thrown c_t_s c_t_before c_t_comeRow _ _ _ hH (lv_sub hl [0, 1, 2] rfl) h
set_option maxHeartbeats 4000000 in
set_option maxRecDepth 100000 in
theorem w_X12_missed_87 {p : Program} {l : Launch} {e : Env} {s : State} {m : MethodId} {args : Array Value} {below : List Frame} {meth : Method} {c : Code} {G : va_G} {cy : Nat → ClassId} {E : Nat → Nat} {w0 : va_W} {N : Nat} {q_t q_t_tape q_t_s q_t_h q_t_read q_t_names q_t_reserved q_t_undone q_t_before q_t_comeRow q_t_shown q_t_text q_t_toldAt q_t_stack q_t_truths q_t_imaged q_t_namesKept q_t_areKept : Nat} {t_length : Int32} {t_size : Int32} {t_p : Int32} {t_limit : Int32} {t_token : Int32} {t_at : Int32} {t_span : Int32} {t_number : Int32} {t_fault : Int32} {t_faultAt : Int32} {t_word : Int64} {t_got : Int32} {t_lines : Int32} {t_hasWait : Int32} {t_undoMany : Int32} {t_firstMinute : Int32} {t_lookClock : Int32} {t_hasTime : Int32} {t_latestMost : Int32} {t_textMany : Int32} {t_seed : Int32} {t_toldMany : Int32} {t_hasTold : Int32} {t_codes : Int32} {t_ones : Int32} {t_top : Int32} {t_deep : Int32} {t_isWhole : Int32} {r : Int32} {r_t_thrown : Int32} {r_t_s : Nat → Int32} {r_t_before : Nat → Int32} {r_t_comeRow : Nat → Int32} {k_88 : Int32 → Int32 → Int32 → Int32 → Int32 → (Nat → Int32) → (Nat → Int32) → (Nat → Int32) → (Option (Int32 × Int32 × (Nat → Int32) × (Nat → Int32) × (Nat → Int32)))} (S : CallFix p m c cX12_missed 4 s args wsX12_missed RX12) (hr : meth.sig.returnType = some .int) (hlocks : meth.locks = false) (hF : zF G cy E (va_A w0 s.heap.size) s) (hk_88 : ∀ (x1 : Int32) (x3 : Int32) (sk0 : Int32) (sk1 : Int32) (c_t_thrown : Int32) (c_t_s : Nat → Int32) (c_t_before : Nat → Int32) (c_t_comeRow : Nat → Int32) (H : Heap) (locs : List Loc) (ls : Array Slot), zH G (va_A w0 s.heap.size) s H locs (wd_X12_missed cy q_t q_t_tape q_t_s q_t_h q_t_read q_t_names q_t_reserved q_t_undone q_t_before q_t_comeRow q_t_shown q_t_text q_t_toldAt q_t_stack q_t_truths q_t_imaged q_t_namesKept q_t_areKept c_t_thrown t_length t_size t_p t_limit t_token t_at t_span t_number t_fault t_faultAt t_word t_got t_lines t_hasWait t_undoMany t_firstMinute t_lookClock t_hasTime t_latestMost t_textMany t_seed t_toldMany t_hasTold t_codes t_ones t_top t_deep t_isWhole c_t_s c_t_before c_t_comeRow) → lv_has ls 4 [(0, .ref q_t), (1, .int x1), (3, .int x3)] → k_88 x1 x3 sk0 sk1 c_t_thrown c_t_s c_t_before c_t_comeRow = some (r, r_t_thrown, r_t_s, r_t_before, r_t_comeRow) → W p l e rm_X12_missed s m args below meth c H locs 0 0 (MQ below (zQ G w0 (wd_X12_missed cy q_t q_t_tape q_t_s q_t_h q_t_read q_t_names q_t_reserved q_t_undone q_t_before q_t_comeRow q_t_shown q_t_text q_t_toldAt q_t_stack q_t_truths q_t_imaged q_t_namesKept q_t_areKept r_t_thrown t_length t_size t_p t_limit t_token t_at t_span t_number t_fault t_faultAt t_word t_got t_lines t_hasWait t_undoMany t_firstMinute t_lookClock t_hasTime t_latestMost t_textMany t_seed t_toldMany t_hasTold t_codes t_ones t_top t_deep t_isWhole r_t_s r_t_before r_t_comeRow) s.heap.size (some (.int r))) args s 0 0 (va_A w0 s.heap.size)) (F0 m 88 ls [.int sk0, .int sk1])) :
    ∀ (x1 : Int32) (x3 : Int32) (sk0 : Int32) (c_t_thrown : Int32) (c_t_s : Nat → Int32) (c_t_before : Nat → Int32) (c_t_comeRow : Nat → Int32) (H : Heap) (locs : List Loc) (ls : Array Slot), zH G (va_A w0 s.heap.size) s H locs (wd_X12_missed cy q_t q_t_tape q_t_s q_t_h q_t_read q_t_names q_t_reserved q_t_undone q_t_before q_t_comeRow q_t_shown q_t_text q_t_toldAt q_t_stack q_t_truths q_t_imaged q_t_namesKept q_t_areKept c_t_thrown t_length t_size t_p t_limit t_token t_at t_span t_number t_fault t_faultAt t_word t_got t_lines t_hasWait t_undoMany t_firstMinute t_lookClock t_hasTime t_latestMost t_textMany t_seed t_toldMany t_hasTold t_codes t_ones t_top t_deep t_isWhole c_t_s c_t_before c_t_comeRow) → lv_has ls 4 [(0, .ref q_t), (1, .int x1), (3, .int x3)] → f_X12_missed_87 N k_88 x1 x3 sk0 c_t_thrown c_t_s c_t_before c_t_comeRow = some (r, r_t_thrown, r_t_s, r_t_before, r_t_comeRow) → W p l e rm_X12_missed s m args below meth c H locs 0 0 (MQ below (zQ G w0 (wd_X12_missed cy q_t q_t_tape q_t_s q_t_h q_t_read q_t_names q_t_reserved q_t_undone q_t_before q_t_comeRow q_t_shown q_t_text q_t_toldAt q_t_stack q_t_truths q_t_imaged q_t_namesKept q_t_areKept r_t_thrown t_length t_size t_p t_limit t_token t_at t_span t_number t_fault t_faultAt t_word t_got t_lines t_hasWait t_undoMany t_firstMinute t_lookClock t_hasTime t_latestMost t_textMany t_seed t_toldMany t_hasTold t_codes t_ones t_top t_deep t_isWhole r_t_s r_t_before r_t_comeRow) s.heap.size (some (.int r))) args s 0 0 (va_A w0 s.heap.size)) (F0 m 87 ls [.int sk0]) := by
  obtain ⟨hx, hb, hml, hown, hts⟩ := id S
  intro x1 x3 sk0 c_t_thrown c_t_s c_t_before c_t_comeRow H locs ls hH hl h
  rw [f_X12_missed_87] at h
  refine lv_iconst (v := 0) hx hb dX12_missed_87 (by decide) ?_
  exact hk_88 x1 x3 0 sk0 c_t_thrown c_t_s c_t_before c_t_comeRow _ _ _ hH (lv_sub hl [0, 1, 2] rfl) h
set_option maxHeartbeats 4000000 in
set_option maxRecDepth 100000 in
theorem w_X12_missed_88 {p : Program} {l : Launch} {e : Env} {s : State} {m : MethodId} {args : Array Value} {below : List Frame} {meth : Method} {c : Code} {G : va_G} {cy : Nat → ClassId} {E : Nat → Nat} {w0 : va_W} {N : Nat} {q_t q_t_tape q_t_s q_t_h q_t_read q_t_names q_t_reserved q_t_undone q_t_before q_t_comeRow q_t_shown q_t_text q_t_toldAt q_t_stack q_t_truths q_t_imaged q_t_namesKept q_t_areKept : Nat} {t_length : Int32} {t_size : Int32} {t_p : Int32} {t_limit : Int32} {t_token : Int32} {t_at : Int32} {t_span : Int32} {t_number : Int32} {t_fault : Int32} {t_faultAt : Int32} {t_word : Int64} {t_got : Int32} {t_lines : Int32} {t_hasWait : Int32} {t_undoMany : Int32} {t_firstMinute : Int32} {t_lookClock : Int32} {t_hasTime : Int32} {t_latestMost : Int32} {t_textMany : Int32} {t_seed : Int32} {t_toldMany : Int32} {t_hasTold : Int32} {t_codes : Int32} {t_ones : Int32} {t_top : Int32} {t_deep : Int32} {t_isWhole : Int32} {r : Int32} {r_t_thrown : Int32} {r_t_s : Nat → Int32} {r_t_before : Nat → Int32} {r_t_comeRow : Nat → Int32} {k_27 : Int32 → Int32 → Int32 → Int32 → (Nat → Int32) → (Nat → Int32) → (Nat → Int32) → (Option (Int32 × Int32 × (Nat → Int32) × (Nat → Int32) × (Nat → Int32)))} (S : CallFix p m c cX12_missed 4 s args wsX12_missed RX12) (hr : meth.sig.returnType = some .int) (hlocks : meth.locks = false) (hF : zF G cy E (va_A w0 s.heap.size) s) (hk_27 : ∀ (x1 : Int32) (x2 : Int32) (x3 : Int32) (c_t_thrown : Int32) (c_t_s : Nat → Int32) (c_t_before : Nat → Int32) (c_t_comeRow : Nat → Int32) (H : Heap) (locs : List Loc) (ls : Array Slot), zH G (va_A w0 s.heap.size) s H locs (wd_X12_missed cy q_t q_t_tape q_t_s q_t_h q_t_read q_t_names q_t_reserved q_t_undone q_t_before q_t_comeRow q_t_shown q_t_text q_t_toldAt q_t_stack q_t_truths q_t_imaged q_t_namesKept q_t_areKept c_t_thrown t_length t_size t_p t_limit t_token t_at t_span t_number t_fault t_faultAt t_word t_got t_lines t_hasWait t_undoMany t_firstMinute t_lookClock t_hasTime t_latestMost t_textMany t_seed t_toldMany t_hasTold t_codes t_ones t_top t_deep t_isWhole c_t_s c_t_before c_t_comeRow) → lv_has ls 4 [(0, .ref q_t), (1, .int x1), (2, .int x2), (3, .int x3)] → k_27 x1 x2 x3 c_t_thrown c_t_s c_t_before c_t_comeRow = some (r, r_t_thrown, r_t_s, r_t_before, r_t_comeRow) → W p l e rm_X12_missed s m args below meth c H locs 0 0 (MQ below (zQ G w0 (wd_X12_missed cy q_t q_t_tape q_t_s q_t_h q_t_read q_t_names q_t_reserved q_t_undone q_t_before q_t_comeRow q_t_shown q_t_text q_t_toldAt q_t_stack q_t_truths q_t_imaged q_t_namesKept q_t_areKept r_t_thrown t_length t_size t_p t_limit t_token t_at t_span t_number t_fault t_faultAt t_word t_got t_lines t_hasWait t_undoMany t_firstMinute t_lookClock t_hasTime t_latestMost t_textMany t_seed t_toldMany t_hasTold t_codes t_ones t_top t_deep t_isWhole r_t_s r_t_before r_t_comeRow) s.heap.size (some (.int r))) args s 0 0 (va_A w0 s.heap.size)) (F0 m 27 ls [])) :
    ∀ (x1 : Int32) (x3 : Int32) (sk0 : Int32) (sk1 : Int32) (c_t_thrown : Int32) (c_t_s : Nat → Int32) (c_t_before : Nat → Int32) (c_t_comeRow : Nat → Int32) (H : Heap) (locs : List Loc) (ls : Array Slot), zH G (va_A w0 s.heap.size) s H locs (wd_X12_missed cy q_t q_t_tape q_t_s q_t_h q_t_read q_t_names q_t_reserved q_t_undone q_t_before q_t_comeRow q_t_shown q_t_text q_t_toldAt q_t_stack q_t_truths q_t_imaged q_t_namesKept q_t_areKept c_t_thrown t_length t_size t_p t_limit t_token t_at t_span t_number t_fault t_faultAt t_word t_got t_lines t_hasWait t_undoMany t_firstMinute t_lookClock t_hasTime t_latestMost t_textMany t_seed t_toldMany t_hasTold t_codes t_ones t_top t_deep t_isWhole c_t_s c_t_before c_t_comeRow) → lv_has ls 4 [(0, .ref q_t), (1, .int x1), (3, .int x3)] → f_X12_missed_88 N k_27 x1 x3 sk0 sk1 c_t_thrown c_t_s c_t_before c_t_comeRow = some (r, r_t_thrown, r_t_s, r_t_before, r_t_comeRow) → W p l e rm_X12_missed s m args below meth c H locs 0 0 (MQ below (zQ G w0 (wd_X12_missed cy q_t q_t_tape q_t_s q_t_h q_t_read q_t_names q_t_reserved q_t_undone q_t_before q_t_comeRow q_t_shown q_t_text q_t_toldAt q_t_stack q_t_truths q_t_imaged q_t_namesKept q_t_areKept r_t_thrown t_length t_size t_p t_limit t_token t_at t_span t_number t_fault t_faultAt t_word t_got t_lines t_hasWait t_undoMany t_firstMinute t_lookClock t_hasTime t_latestMost t_textMany t_seed t_toldMany t_hasTold t_codes t_ones t_top t_deep t_isWhole r_t_s r_t_before r_t_comeRow) s.heap.size (some (.int r))) args s 0 0 (va_A w0 s.heap.size)) (F0 m 88 ls [.int sk0, .int sk1]) := by
  obtain ⟨hx, hb, hml, hown, hts⟩ := id S
  intro x1 x3 sk0 sk1 c_t_thrown c_t_s c_t_before c_t_comeRow H locs ls hH hl h
  rw [f_X12_missed_88] at h
  refine lv_ior hx hb dX12_missed_88 ?_
  obtain ⟨y1, ey1, h⟩ := zbn_e h
  refine z_top ey1 ?_
  clear ey1
  refine lv_istore_n (lv' := [(2, .int y1), (0, .ref q_t), (1, .int x1), (3, .int x3)]) hx hb dX12_missed_89 rfl hl (by decide) rfl (fun ls hl => ?_)
  obtain ⟨y2, ey2, h⟩ := zbn_e h
  refine lv_iinc (v := y2) (lv' := [(3, .int y2), (2, .int y1), (0, .ref q_t), (1, .int x1)]) hx hb dX12_missed_90 hl (k := 3) rfl (by rw [ey2]; exact congrArg (fun z => x3 + z) (by decide)) (by decide) rfl (fun ls hl => ?_)
  clear ey2
  refine lv_goto (tgt := 27) hx hb dX12_missed_93 (by decide) ?_
  exact hk_27 x1 y1 y2 c_t_thrown c_t_s c_t_before c_t_comeRow _ _ _ hH (lv_sub hl [2, 3, 1, 0] rfl) h
set_option maxHeartbeats 4000000 in
set_option maxRecDepth 100000 in
theorem w_X12_missed_27 {p : Program} {l : Launch} {e : Env} {s : State} {m : MethodId} {args : Array Value} {below : List Frame} {meth : Method} {c : Code} {G : va_G} {cy : Nat → ClassId} {E : Nat → Nat} {w0 : va_W} {N : Nat} {q_t q_t_tape q_t_s q_t_h q_t_read q_t_names q_t_reserved q_t_undone q_t_before q_t_comeRow q_t_shown q_t_text q_t_toldAt q_t_stack q_t_truths q_t_imaged q_t_namesKept q_t_areKept : Nat} {t_length : Int32} {t_size : Int32} {t_p : Int32} {t_limit : Int32} {t_token : Int32} {t_at : Int32} {t_span : Int32} {t_number : Int32} {t_fault : Int32} {t_faultAt : Int32} {t_word : Int64} {t_got : Int32} {t_lines : Int32} {t_hasWait : Int32} {t_undoMany : Int32} {t_firstMinute : Int32} {t_lookClock : Int32} {t_hasTime : Int32} {t_latestMost : Int32} {t_textMany : Int32} {t_seed : Int32} {t_toldMany : Int32} {t_hasTold : Int32} {t_codes : Int32} {t_ones : Int32} {t_top : Int32} {t_deep : Int32} {t_isWhole : Int32} {r : Int32} {r_t_thrown : Int32} {r_t_s : Nat → Int32} {r_t_before : Nat → Int32} {r_t_comeRow : Nat → Int32} (S : CallFix p m c cX12_missed 4 s args wsX12_missed RX12) (hr : meth.sig.returnType = some .int) (hlocks : meth.locks = false) (hF : zF G cy E (va_A w0 s.heap.size) s) :
    ∀ (n : Nat) (x1 : Int32) (x2 : Int32) (x3 : Int32) (c_t_thrown : Int32) (c_t_s : Nat → Int32) (c_t_before : Nat → Int32) (c_t_comeRow : Nat → Int32) (H : Heap) (locs : List Loc) (ls : Array Slot), zH G (va_A w0 s.heap.size) s H locs (wd_X12_missed cy q_t q_t_tape q_t_s q_t_h q_t_read q_t_names q_t_reserved q_t_undone q_t_before q_t_comeRow q_t_shown q_t_text q_t_toldAt q_t_stack q_t_truths q_t_imaged q_t_namesKept q_t_areKept c_t_thrown t_length t_size t_p t_limit t_token t_at t_span t_number t_fault t_faultAt t_word t_got t_lines t_hasWait t_undoMany t_firstMinute t_lookClock t_hasTime t_latestMost t_textMany t_seed t_toldMany t_hasTold t_codes t_ones t_top t_deep t_isWhole c_t_s c_t_before c_t_comeRow) → lv_has ls 4 [(0, .ref q_t), (1, .int x1), (2, .int x2), (3, .int x3)] → f_X12_missed_27 N n x1 x2 x3 c_t_thrown c_t_s c_t_before c_t_comeRow = some (r, r_t_thrown, r_t_s, r_t_before, r_t_comeRow) → W p l e rm_X12_missed s m args below meth c H locs 0 0 (MQ below (zQ G w0 (wd_X12_missed cy q_t q_t_tape q_t_s q_t_h q_t_read q_t_names q_t_reserved q_t_undone q_t_before q_t_comeRow q_t_shown q_t_text q_t_toldAt q_t_stack q_t_truths q_t_imaged q_t_namesKept q_t_areKept r_t_thrown t_length t_size t_p t_limit t_token t_at t_span t_number t_fault t_faultAt t_word t_got t_lines t_hasWait t_undoMany t_firstMinute t_lookClock t_hasTime t_latestMost t_textMany t_seed t_toldMany t_hasTold t_codes t_ones t_top t_deep t_isWhole r_t_s r_t_before r_t_comeRow) s.heap.size (some (.int r))) args s 0 0 (va_A w0 s.heap.size)) (F0 m 27 ls []) := by
  obtain ⟨hx, hb, hml, hown, hts⟩ := id S
  intro n
  induction n with
  | zero =>
    intro x1 x2 x3 c_t_thrown c_t_s c_t_before c_t_comeRow H locs ls hH hl h
    rw [f_X12_missed_27] at h
    cases h
  | succ n ih =>
    intro x1 x2 x3 c_t_thrown c_t_s c_t_before c_t_comeRow H locs ls hH hl h
    rw [f_X12_missed_27] at h
    refine lv_iload_n hx hb dX12_missed_27 rfl (lv_at hl 3 rfl) ?_
    refine lv_aload_n hx hb dX12_missed_28 rfl (lv_at hl 0 rfl) ?_
    refine z_get S hF hH iX12_missed_X12 0 rfl rfl 6 (by decide) (List.mem_of_getElem? (i := 2) rfl) rfl dX12_missed_29 ?_
    refine lv_iconst (v := 1) hx hb dX12_missed_32 (by decide) ?_
    refine z_iald (j := 1) S hF hH 1 rfl (by decide) rfl dX12_missed_33 ?_
    refine lv_icmp_ge (tgt := 96) hx hb dX12_missed_34 (by decide) (fun b34 => ?_) (fun b34 => ?_)
    · replace h := zif_t b34 h
      refine lv_iload_n hx hb dX12_missed_96 rfl (lv_at hl 2 rfl) ?_
      cases h
      exact z_iret S hr hlocks hH dX12_missed_97
    · replace h := zif_f b34 h
      refine lv_iload_n hx hb dX12_missed_37 rfl (lv_at hl 2 rfl) ?_
      refine lv_aload_n hx hb dX12_missed_38 rfl (lv_at hl 0 rfl) ?_
      refine lv_iload_n hx hb dX12_missed_39 rfl (lv_at hl 3 rfl) ?_
      refine lv_iload_n hx hb dX12_missed_40 rfl (lv_at hl 1 rfl) ?_
      obtain ⟨z41, hz41, h⟩ := zcl_e h
      refine z_callV (As := [.int x3, .int x1]) (rest := [.int x2]) (st1 := [.int z41, .int x2]) (ws' := (wd_X12_missed cy q_t q_t_tape q_t_s q_t_h q_t_read q_t_names q_t_reserved q_t_undone q_t_before q_t_comeRow q_t_shown q_t_text q_t_toldAt q_t_stack q_t_truths q_t_imaged q_t_namesKept q_t_areKept c_t_thrown t_length t_size t_p t_limit t_token t_at t_span t_number t_fault t_faultAt t_word t_got t_lines t_hasWait t_undoMany t_firstMinute t_lookClock t_hasTime t_latestMost t_textMany t_seed t_toldMany t_hasTold t_codes t_ones t_top t_deep t_isWhole c_t_s c_t_before c_t_comeRow)) S hF hH (c_X12_isDueTo l G cy E N q_t q_t_tape q_t_s q_t_h q_t_read q_t_names q_t_reserved q_t_undone q_t_before q_t_comeRow q_t_shown q_t_text q_t_toldAt q_t_stack q_t_truths q_t_imaged q_t_namesKept q_t_areKept c_t_thrown t_length t_size t_p t_limit t_token t_at t_span t_number t_fault t_faultAt t_word t_got t_lines t_hasWait t_undoMany t_firstMinute t_lookClock t_hasTime t_latestMost t_textMany t_seed t_toldMany t_hasTold t_codes t_ones t_top t_deep t_isWhole c_t_s x3 x1 z41 hz41) (cwV 2 hts gX12_missed_X12_isDueTo rfl rfl rfl (by decide +kernel) ⟨Nat.le_of_ble_eq_true rfl, Nat.le_of_ble_eq_true rfl⟩) 13 0 rfl rfl [0, 1] rfl (by decide) rfl rfl rfl rfl rfl hl.1 (Nat.le_of_ble_eq_true rfl) dX12_missed_41 ⟨Nat.le_of_ble_eq_true rfl, Nat.le_of_ble_eq_true rfl⟩ (fun H locs hH => ?_)
      refine lv_if_eq (tgt := 87) hx hb dX12_missed_44 (by decide) (fun b44 => ?_) (fun b44 => ?_)
      · replace h := zif_t b44 h
        exact w_X12_missed_87 S hr hlocks hF (w_X12_missed_88 S hr hlocks hF ih) x1 x3 x2 c_t_thrown c_t_s c_t_before c_t_comeRow _ _ _ hH (lv_sub hl [0, 1, 3] rfl) h
      · replace h := zif_f b44 h
        refine lv_aload_n hx hb dX12_missed_47 rfl (lv_at hl 0 rfl) ?_
        refine z_get S hF hH iX12_missed_X12 0 rfl rfl 24 (by decide) (List.mem_of_getElem? (i := 3) rfl) rfl dX12_missed_48 ?_
        refine lv_iload_n hx hb dX12_missed_51 rfl (lv_at hl 3 rfl) ?_
        obtain ⟨h52, h⟩ := zck_e h
        refine z_iald S hF hH 3 rfl h52 rfl dX12_missed_52 ?_
        refine lv_if_lt (tgt := 81) hx hb dX12_missed_53 (by decide) (fun b53 => ?_) (fun b53 => ?_)
        · replace h := zif_t b53 h
          exact w_X12_missed_81 S hr hlocks hF (w_X12_missed_88 S hr hlocks hF ih) x1 x3 x2 c_t_thrown c_t_s c_t_before c_t_comeRow _ _ _ hH (lv_sub hl [0, 1, 3] rfl) h
        · replace h := zif_f b53 h
          refine lv_aload_n hx hb dX12_missed_56 rfl (lv_at hl 0 rfl) ?_
          refine z_get S hF hH iX12_missed_X12 0 rfl rfl 24 (by decide) (List.mem_of_getElem? (i := 3) rfl) rfl dX12_missed_57 ?_
          refine lv_iload_n hx hb dX12_missed_60 rfl (lv_at hl 3 rfl) ?_
          refine z_iald S hF hH 3 rfl h52 rfl dX12_missed_61 ?_
          refine lv_aload_n hx hb dX12_missed_62 rfl (lv_at hl 0 rfl) ?_
          refine z_get S hF hH iX12_missed_X12 0 rfl rfl 6 (by decide) (List.mem_of_getElem? (i := 2) rfl) rfl dX12_missed_63 ?_
          refine lv_bipush (v := 75) hx hb dX12_missed_66 (by decide) ?_
          refine lv_iload_n hx hb dX12_missed_68 rfl (lv_at hl 1 rfl) ?_
          refine lv_iadd hx hb dX12_missed_69 ?_
          obtain ⟨h70, h⟩ := zck_e h
          refine z_iald S hF hH 1 rfl h70 rfl dX12_missed_70 ?_
          refine lv_aload_n hx hb dX12_missed_71 rfl (lv_at hl 0 rfl) ?_
          refine z_get S hF hH iX12_missed_X12 0 rfl rfl 6 (by decide) (List.mem_of_getElem? (i := 2) rfl) rfl dX12_missed_72 ?_
          refine lv_iconst (v := 3) hx hb dX12_missed_75 (by decide) ?_
          refine z_iald (j := 3) S hF hH 1 rfl (by decide) rfl dX12_missed_76 ?_
          refine lv_iadd hx hb dX12_missed_77 ?_
          refine lv_icmp_le (tgt := 87) hx hb dX12_missed_78 (by decide) (fun b78 => ?_) (fun b78 => ?_)
          · replace h := zif_t b78 h
            exact w_X12_missed_87 S hr hlocks hF (w_X12_missed_88 S hr hlocks hF ih) x1 x3 x2 c_t_thrown c_t_s c_t_before c_t_comeRow _ _ _ hH (lv_sub hl [0, 1, 3] rfl) h
          · replace h := zif_f b78 h
            exact w_X12_missed_81 S hr hlocks hF (w_X12_missed_88 S hr hlocks hF ih) x1 x3 x2 c_t_thrown c_t_s c_t_before c_t_comeRow _ _ _ hH (lv_sub hl [0, 1, 3] rfl) h
set_option maxHeartbeats 4000000 in
set_option maxRecDepth 100000 in
theorem c_X12_missed (l : Launch) (G : va_G) (cy : Nat → ClassId) (E : Nat → Nat) (N : Nat) (q_t q_t_tape q_t_s q_t_h q_t_read q_t_names q_t_reserved q_t_undone q_t_before q_t_comeRow q_t_shown q_t_text q_t_toldAt q_t_stack q_t_truths q_t_imaged q_t_namesKept q_t_areKept : Nat) (t_thrown : Int32) (t_length : Int32) (t_size : Int32) (t_p : Int32) (t_limit : Int32) (t_token : Int32) (t_at : Int32) (t_span : Int32) (t_number : Int32) (t_fault : Int32) (t_faultAt : Int32) (t_word : Int64) (t_got : Int32) (t_lines : Int32) (t_hasWait : Int32) (t_undoMany : Int32) (t_firstMinute : Int32) (t_lookClock : Int32) (t_hasTime : Int32) (t_latestMost : Int32) (t_textMany : Int32) (t_seed : Int32) (t_toldMany : Int32) (t_hasTold : Int32) (t_codes : Int32) (t_ones : Int32) (t_top : Int32) (t_deep : Int32) (t_isWhole : Int32) (t_s : Nat → Int32) (t_before : Nat → Int32) (t_comeRow : Nat → Int32) (x0 : Int32) (r : Int32) (r_t_thrown : Int32) (r_t_s : Nat → Int32) (r_t_before : Nat → Int32) (r_t_comeRow : Nat → Int32) (h : f_X12_missed N x0 t_thrown t_s t_before t_comeRow = some (r, r_t_thrown, r_t_s, r_t_before, r_t_comeRow)) : zM l G cy E yX12_missed wsX12_missed rm_X12_missed [.ref q_t, .int x0] (wd_X12_missed cy q_t q_t_tape q_t_s q_t_h q_t_read q_t_names q_t_reserved q_t_undone q_t_before q_t_comeRow q_t_shown q_t_text q_t_toldAt q_t_stack q_t_truths q_t_imaged q_t_namesKept q_t_areKept t_thrown t_length t_size t_p t_limit t_token t_at t_span t_number t_fault t_faultAt t_word t_got t_lines t_hasWait t_undoMany t_firstMinute t_lookClock t_hasTime t_latestMost t_textMany t_seed t_toldMany t_hasTold t_codes t_ones t_top t_deep t_isWhole t_s t_before t_comeRow) (wd_X12_missed cy q_t q_t_tape q_t_s q_t_h q_t_read q_t_names q_t_reserved q_t_undone q_t_before q_t_comeRow q_t_shown q_t_text q_t_toldAt q_t_stack q_t_truths q_t_imaged q_t_namesKept q_t_areKept r_t_thrown t_length t_size t_p t_limit t_token t_at t_span t_number t_fault t_faultAt t_word t_got t_lines t_hasWait t_undoMany t_firstMinute t_lookClock t_hasTime t_latestMost t_textMany t_seed t_toldMany t_hasTold t_codes t_ones t_top t_deep t_isWhole r_t_s r_t_before r_t_comeRow) (some (.int r)) 0 0 := by
  refine z_body (cc := cX12_missed) (maxL := 4) (ret := some .int) (by decide) rfl (Nat.le_of_ble_eq_true rfl) ?_
  intro p e s m below meth c ls S hr hlocks hnm hF hH hl
  have S : CallFix p m c cX12_missed 4 s ([.ref q_t, .int x0] : List Value).toArray wsX12_missed RX12 := S
  obtain ⟨hx, hb, hml, hown, hts⟩ := id S
  have hl : lv_has ls 4 [(0, .ref q_t), (1, .int x0)] := hl
  rw [f_X12_missed] at h
  refine lv_aload_n hx hb dX12_missed_0 rfl (lv_at hl 0 rfl) ?_
  refine lv_iconst (v := 0) hx hb dX12_missed_1 (by decide) ?_
  refine z_put (ws' := (wd_X12_missed cy q_t q_t_tape q_t_s q_t_h q_t_read q_t_names q_t_reserved q_t_undone q_t_before q_t_comeRow q_t_shown q_t_text q_t_toldAt q_t_stack q_t_truths q_t_imaged q_t_namesKept q_t_areKept 0 t_length t_size t_p t_limit t_token t_at t_span t_number t_fault t_faultAt t_word t_got t_lines t_hasWait t_undoMany t_firstMinute t_lookClock t_hasTime t_latestMost t_textMany t_seed t_toldMany t_hasTold t_codes t_ones t_top t_deep t_isWhole t_s t_before t_comeRow)) S hF hH iX12_missed_X12 tyX12 tyX12_ok nmX12 0 rfl rfl 0 (by decide) (List.mem_of_getElem? (i := 1) rfl) rfl rfl rfl (Nat.le_of_ble_eq_true rfl) rfl dX12_missed_2 (fun H locs hH => ?_)
  refine lv_aload_n hx hb dX12_missed_5 rfl (lv_at hl 0 rfl) ?_
  refine lv_iload_n hx hb dX12_missed_6 rfl (lv_at hl 1 rfl) ?_
  obtain ⟨z7, hz7, h⟩ := zcl_e h
  refine z_callV (As := [.int x0]) (rest := []) (st1 := [.int z7]) (ws' := (wd_X12_missed cy q_t q_t_tape q_t_s q_t_h q_t_read q_t_names q_t_reserved q_t_undone q_t_before q_t_comeRow q_t_shown q_t_text q_t_toldAt q_t_stack q_t_truths q_t_imaged q_t_namesKept q_t_areKept 0 t_length t_size t_p t_limit t_token t_at t_span t_number t_fault t_faultAt t_word t_got t_lines t_hasWait t_undoMany t_firstMinute t_lookClock t_hasTime t_latestMost t_textMany t_seed t_toldMany t_hasTold t_codes t_ones t_top t_deep t_isWhole t_s t_before t_comeRow)) S hF hH (c_X12_isMeet l G cy E N q_t q_t_tape q_t_s q_t_h q_t_read q_t_names q_t_reserved q_t_undone q_t_before q_t_comeRow q_t_shown q_t_text q_t_toldAt q_t_stack q_t_truths q_t_imaged q_t_namesKept q_t_areKept 0 t_length t_size t_p t_limit t_token t_at t_span t_number t_fault t_faultAt t_word t_got t_lines t_hasWait t_undoMany t_firstMinute t_lookClock t_hasTime t_latestMost t_textMany t_seed t_toldMany t_hasTold t_codes t_ones t_top t_deep t_isWhole t_s x0 z7 hz7) (cwV 1 hts gX12_missed_X12_isMeet rfl rfl rfl (by decide +kernel) ⟨Nat.le_of_ble_eq_true rfl, Nat.le_of_ble_eq_true rfl⟩) 13 0 rfl rfl [0, 1] rfl (by decide) rfl rfl rfl rfl rfl hl.1 (Nat.le_of_ble_eq_true rfl) dX12_missed_7 ⟨Nat.le_of_ble_eq_true rfl, Nat.le_of_ble_eq_true rfl⟩ (fun H locs hH => ?_)
  refine lv_if_ne (tgt := 15) hx hb dX12_missed_10 (by decide) (fun b10 => ?_) (fun b10 => ?_)
  · replace h := zif_f b10 h
    refine lv_aload_n hx hb dX12_missed_15 rfl (lv_at hl 0 rfl) ?_
    refine lv_iload_n hx hb dX12_missed_16 rfl (lv_at hl 1 rfl) ?_
    refine lv_sipush (v := 2000) hx hb dX12_missed_17 (by decide) ?_
    obtain ⟨z20, hz20, h⟩ := zcl_e h
    refine z_callV (As := [.int x0, .int 2000]) (rest := []) (st1 := []) (ws' := (wd_X12_missed cy q_t q_t_tape q_t_s q_t_h q_t_read q_t_names q_t_reserved q_t_undone q_t_before q_t_comeRow q_t_shown q_t_text q_t_toldAt q_t_stack q_t_truths q_t_imaged q_t_namesKept q_t_areKept 0 t_length t_size t_p t_limit t_token t_at t_span t_number t_fault t_faultAt t_word t_got t_lines t_hasWait t_undoMany t_firstMinute t_lookClock t_hasTime t_latestMost t_textMany t_seed t_toldMany t_hasTold t_codes t_ones t_top t_deep t_isWhole z20.1 z20.2.1 z20.2.2)) S hF hH (c_X12_laysCome l G cy E N q_t q_t_tape q_t_s q_t_h q_t_read q_t_names q_t_reserved q_t_undone q_t_before q_t_comeRow q_t_shown q_t_text q_t_toldAt q_t_stack q_t_truths q_t_imaged q_t_namesKept q_t_areKept 0 t_length t_size t_p t_limit t_token t_at t_span t_number t_fault t_faultAt t_word t_got t_lines t_hasWait t_undoMany t_firstMinute t_lookClock t_hasTime t_latestMost t_textMany t_seed t_toldMany t_hasTold t_codes t_ones t_top t_deep t_isWhole t_s t_before t_comeRow x0 2000 z20.1 z20.2.1 z20.2.2 hz20) (cwV 2 hts gX12_missed_X12_laysCome rfl rfl rfl (by decide +kernel) ⟨Nat.le_of_ble_eq_true rfl, Nat.le_of_ble_eq_true rfl⟩) 13 0 rfl rfl [0, 1, 2, 3] rfl (by decide) rfl rfl rfl rfl rfl hl.1 (Nat.le_of_ble_eq_true rfl) dX12_missed_20 ⟨Nat.le_of_ble_eq_true rfl, Nat.le_of_ble_eq_true rfl⟩ (fun H locs hH => ?_)
    refine lv_iconst (v := 0) hx hb dX12_missed_23 (by decide) ?_
    refine lv_istore_n (lv' := [(2, .int 0), (0, .ref q_t), (1, .int x0)]) hx hb dX12_missed_24 rfl hl (by decide) rfl (fun ls hl => ?_)
    refine lv_iconst (v := 0) hx hb dX12_missed_25 (by decide) ?_
    refine lv_istore_n (lv' := [(3, .int 0), (2, .int 0), (0, .ref q_t), (1, .int x0)]) hx hb dX12_missed_26 rfl hl (by decide) rfl (fun ls hl => ?_)
    exact w_X12_missed_27 S hr hlocks hF N x0 0 0 0 z20.1 z20.2.1 z20.2.2 _ _ _ hH (lv_sub hl [2, 3, 1, 0] rfl) h
  · replace h := zif_t b10 h
    refine lv_iconst (v := (-1)) hx hb dX12_missed_13 (by decide) ?_
    cases h
    exact z_iret S hr hlocks hH dX12_missed_14
abbrev wd_X12_caught (cy : Nat → ClassId) (q_t q_t_tape q_t_s q_t_h q_t_read q_t_names q_t_reserved q_t_undone q_t_before q_t_comeRow q_t_shown q_t_text q_t_toldAt q_t_stack q_t_truths q_t_imaged q_t_namesKept q_t_areKept : Nat) (t_thrown : Int32) (t_length : Int32) (t_size : Int32) (t_p : Int32) (t_limit : Int32) (t_token : Int32) (t_at : Int32) (t_span : Int32) (t_number : Int32) (t_fault : Int32) (t_faultAt : Int32) (t_word : Int64) (t_got : Int32) (t_lines : Int32) (t_hasWait : Int32) (t_undoMany : Int32) (t_firstMinute : Int32) (t_lookClock : Int32) (t_hasTime : Int32) (t_latestMost : Int32) (t_textMany : Int32) (t_seed : Int32) (t_toldMany : Int32) (t_hasTold : Int32) (t_codes : Int32) (t_ones : Int32) (t_top : Int32) (t_deep : Int32) (t_isWhole : Int32) (t_s : Nat → Int32) (t_before : Nat → Int32) (t_comeRow : Nat → Int32) : va_W := [(q_t, .inr (13, [.int t_thrown, .ref q_t_tape, .int t_length, .int t_size, .int t_p, .int t_limit, .ref q_t_s, .ref q_t_h, .ref q_t_read, .ref q_t_names, .ref q_t_reserved, .int t_token, .int t_at, .int t_span, .int t_number, .int t_fault, .int t_faultAt, .long t_word, .int t_got, .int t_lines, .int t_hasWait, .ref q_t_undone, .ref q_t_before, .int t_undoMany, .ref q_t_comeRow, .int t_firstMinute, .int t_lookClock, .int t_hasTime, .ref q_t_shown, .int t_latestMost, .ref q_t_text, .int t_textMany, .int t_seed, .int t_toldMany, .ref q_t_toldAt, .int t_hasTold, .ref q_t_stack, .int t_codes, .int t_ones, .int t_top, .int t_deep, .int t_isWhole, .ref q_t_truths, .ref q_t_imaged, .ref q_t_namesKept, .ref q_t_areKept])), (q_t_s, .inl (cy 1, 334, .inl t_s)), (q_t_before, .inl (cy 1, 101, .inl t_before)), (q_t_comeRow, .inl (cy 1, 6, .inl t_comeRow))]
theorem iX12_caught_X12 : ∀ w ∈ wsX120, w ∈ wsX12_caught := fun _ h => List.mem_cons_of_mem _ (List.mem_append_right _ h)
abbrev rm_X12_caught : Room := { frames := 7, cells := 0, slots := 0, locals := 155 }
set_option maxRecDepth 100000 in
def f_X12_caught_75 (N : Nat) (k_76 : Int32 → Int32 → Int32 → Int32 → Int32 → (Nat → Int32) → (Nat → Int32) → (Nat → Int32) → (Option (Int32 × Int32 × (Nat → Int32) × (Nat → Int32) × (Nat → Int32)))) (x1 : Int32) (x3 : Int32) (sk0 : Int32) (c_t_thrown : Int32) (c_t_s : Nat → Int32) (c_t_before : Nat → Int32) (c_t_comeRow : Nat → Int32) : Option (Int32 × Int32 × (Nat → Int32) × (Nat → Int32) × (Nat → Int32)) := k_76 x1 x3 0 sk0 c_t_thrown c_t_s c_t_before c_t_comeRow
set_option maxRecDepth 100000 in
def f_X12_caught_76 (N : Nat) (k_27 : Int32 → Int32 → Int32 → Int32 → (Nat → Int32) → (Nat → Int32) → (Nat → Int32) → (Option (Int32 × Int32 × (Nat → Int32) × (Nat → Int32) × (Nat → Int32)))) (x1 : Int32) (x3 : Int32) (sk0 : Int32) (sk1 : Int32) (c_t_thrown : Int32) (c_t_s : Nat → Int32) (c_t_before : Nat → Int32) (c_t_comeRow : Nat → Int32) : Option (Int32 × Int32 × (Nat → Int32) × (Nat → Int32) × (Nat → Int32)) := zbn ((sk1 ||| sk0)) fun y1 => zbn (x3 + 1) fun y2 => k_27 x1 y1 y2 c_t_thrown c_t_s c_t_before c_t_comeRow
set_option maxRecDepth 100000 in
def f_X12_caught_27 (N : Nat) : Nat → Int32 → Int32 → Int32 → Int32 → (Nat → Int32) → (Nat → Int32) → (Nat → Int32) → (Option (Int32 × Int32 × (Nat → Int32) × (Nat → Int32) × (Nat → Int32)))
  | 0, _, _, _, _, _, _, _ => none
  | n + 1, x1, x2, x3, c_t_thrown, c_t_s, c_t_before, c_t_comeRow => if (c_t_s 1) ≤ x3 then (some (x2, c_t_thrown, c_t_s, c_t_before, c_t_comeRow)) else (zcl (f_X12_isDueTo N x3 x1 c_t_s) fun z41 => if z41 = 0 then (f_X12_caught_75 N (f_X12_caught_76 N (f_X12_caught_27 N n)) x1 x3 x2 c_t_thrown c_t_s c_t_before c_t_comeRow) else (zck (zin x3 6) <| zck (zin (75 + x1) 334) <| zcl (f_X12_isIn N (c_t_comeRow (Int32.toNatClampNeg x3)) 0 (c_t_s (Int32.toNatClampNeg (75 + x1)))) fun z63 => if z63 = 0 then (f_X12_caught_75 N (f_X12_caught_76 N (f_X12_caught_27 N n)) x1 x3 x2 c_t_thrown c_t_s c_t_before c_t_comeRow) else (f_X12_caught_76 N (f_X12_caught_27 N n) x1 x3 (1 <<< (x3 &&& 31)) x2 c_t_thrown c_t_s c_t_before c_t_comeRow)))
set_option maxRecDepth 100000 in
def f_X12_caught (N : Nat) (x0 : Int32) (t_thrown : Int32) (t_s : Nat → Int32) (t_before : Nat → Int32) (t_comeRow : Nat → Int32) : Option (Int32 × Int32 × (Nat → Int32) × (Nat → Int32) × (Nat → Int32)) := zcl (f_X12_isMeet N x0 t_s) fun z7 => if z7 = 0 then (some ((-1), 0, t_s, t_before, t_comeRow)) else (zcl (f_X12_laysCome N x0 2000 t_s t_before t_comeRow) fun z20 => f_X12_caught_27 N N x0 0 0 0 z20.1 z20.2.1 z20.2.2)
set_option maxHeartbeats 4000000 in
set_option maxRecDepth 100000 in
theorem w_X12_caught_75 {p : Program} {l : Launch} {e : Env} {s : State} {m : MethodId} {args : Array Value} {below : List Frame} {meth : Method} {c : Code} {G : va_G} {cy : Nat → ClassId} {E : Nat → Nat} {w0 : va_W} {N : Nat} {q_t q_t_tape q_t_s q_t_h q_t_read q_t_names q_t_reserved q_t_undone q_t_before q_t_comeRow q_t_shown q_t_text q_t_toldAt q_t_stack q_t_truths q_t_imaged q_t_namesKept q_t_areKept : Nat} {t_length : Int32} {t_size : Int32} {t_p : Int32} {t_limit : Int32} {t_token : Int32} {t_at : Int32} {t_span : Int32} {t_number : Int32} {t_fault : Int32} {t_faultAt : Int32} {t_word : Int64} {t_got : Int32} {t_lines : Int32} {t_hasWait : Int32} {t_undoMany : Int32} {t_firstMinute : Int32} {t_lookClock : Int32} {t_hasTime : Int32} {t_latestMost : Int32} {t_textMany : Int32} {t_seed : Int32} {t_toldMany : Int32} {t_hasTold : Int32} {t_codes : Int32} {t_ones : Int32} {t_top : Int32} {t_deep : Int32} {t_isWhole : Int32} {r : Int32} {r_t_thrown : Int32} {r_t_s : Nat → Int32} {r_t_before : Nat → Int32} {r_t_comeRow : Nat → Int32} {k_76 : Int32 → Int32 → Int32 → Int32 → Int32 → (Nat → Int32) → (Nat → Int32) → (Nat → Int32) → (Option (Int32 × Int32 × (Nat → Int32) × (Nat → Int32) × (Nat → Int32)))} (S : CallFix p m c cX12_caught 4 s args wsX12_caught RX12) (hr : meth.sig.returnType = some .int) (hlocks : meth.locks = false) (hF : zF G cy E (va_A w0 s.heap.size) s) (hk_76 : ∀ (x1 : Int32) (x3 : Int32) (sk0 : Int32) (sk1 : Int32) (c_t_thrown : Int32) (c_t_s : Nat → Int32) (c_t_before : Nat → Int32) (c_t_comeRow : Nat → Int32) (H : Heap) (locs : List Loc) (ls : Array Slot), zH G (va_A w0 s.heap.size) s H locs (wd_X12_caught cy q_t q_t_tape q_t_s q_t_h q_t_read q_t_names q_t_reserved q_t_undone q_t_before q_t_comeRow q_t_shown q_t_text q_t_toldAt q_t_stack q_t_truths q_t_imaged q_t_namesKept q_t_areKept c_t_thrown t_length t_size t_p t_limit t_token t_at t_span t_number t_fault t_faultAt t_word t_got t_lines t_hasWait t_undoMany t_firstMinute t_lookClock t_hasTime t_latestMost t_textMany t_seed t_toldMany t_hasTold t_codes t_ones t_top t_deep t_isWhole c_t_s c_t_before c_t_comeRow) → lv_has ls 4 [(0, .ref q_t), (1, .int x1), (3, .int x3)] → k_76 x1 x3 sk0 sk1 c_t_thrown c_t_s c_t_before c_t_comeRow = some (r, r_t_thrown, r_t_s, r_t_before, r_t_comeRow) → W p l e rm_X12_caught s m args below meth c H locs 0 0 (MQ below (zQ G w0 (wd_X12_caught cy q_t q_t_tape q_t_s q_t_h q_t_read q_t_names q_t_reserved q_t_undone q_t_before q_t_comeRow q_t_shown q_t_text q_t_toldAt q_t_stack q_t_truths q_t_imaged q_t_namesKept q_t_areKept r_t_thrown t_length t_size t_p t_limit t_token t_at t_span t_number t_fault t_faultAt t_word t_got t_lines t_hasWait t_undoMany t_firstMinute t_lookClock t_hasTime t_latestMost t_textMany t_seed t_toldMany t_hasTold t_codes t_ones t_top t_deep t_isWhole r_t_s r_t_before r_t_comeRow) s.heap.size (some (.int r))) args s 0 0 (va_A w0 s.heap.size)) (F0 m 76 ls [.int sk0, .int sk1])) :
    ∀ (x1 : Int32) (x3 : Int32) (sk0 : Int32) (c_t_thrown : Int32) (c_t_s : Nat → Int32) (c_t_before : Nat → Int32) (c_t_comeRow : Nat → Int32) (H : Heap) (locs : List Loc) (ls : Array Slot), zH G (va_A w0 s.heap.size) s H locs (wd_X12_caught cy q_t q_t_tape q_t_s q_t_h q_t_read q_t_names q_t_reserved q_t_undone q_t_before q_t_comeRow q_t_shown q_t_text q_t_toldAt q_t_stack q_t_truths q_t_imaged q_t_namesKept q_t_areKept c_t_thrown t_length t_size t_p t_limit t_token t_at t_span t_number t_fault t_faultAt t_word t_got t_lines t_hasWait t_undoMany t_firstMinute t_lookClock t_hasTime t_latestMost t_textMany t_seed t_toldMany t_hasTold t_codes t_ones t_top t_deep t_isWhole c_t_s c_t_before c_t_comeRow) → lv_has ls 4 [(0, .ref q_t), (1, .int x1), (3, .int x3)] → f_X12_caught_75 N k_76 x1 x3 sk0 c_t_thrown c_t_s c_t_before c_t_comeRow = some (r, r_t_thrown, r_t_s, r_t_before, r_t_comeRow) → W p l e rm_X12_caught s m args below meth c H locs 0 0 (MQ below (zQ G w0 (wd_X12_caught cy q_t q_t_tape q_t_s q_t_h q_t_read q_t_names q_t_reserved q_t_undone q_t_before q_t_comeRow q_t_shown q_t_text q_t_toldAt q_t_stack q_t_truths q_t_imaged q_t_namesKept q_t_areKept r_t_thrown t_length t_size t_p t_limit t_token t_at t_span t_number t_fault t_faultAt t_word t_got t_lines t_hasWait t_undoMany t_firstMinute t_lookClock t_hasTime t_latestMost t_textMany t_seed t_toldMany t_hasTold t_codes t_ones t_top t_deep t_isWhole r_t_s r_t_before r_t_comeRow) s.heap.size (some (.int r))) args s 0 0 (va_A w0 s.heap.size)) (F0 m 75 ls [.int sk0]) := by
  obtain ⟨hx, hb, hml, hown, hts⟩ := id S
  intro x1 x3 sk0 c_t_thrown c_t_s c_t_before c_t_comeRow H locs ls hH hl h
  rw [f_X12_caught_75] at h
  refine lv_iconst (v := 0) hx hb dX12_caught_75 (by decide) ?_
  exact hk_76 x1 x3 0 sk0 c_t_thrown c_t_s c_t_before c_t_comeRow _ _ _ hH (lv_sub hl [0, 1, 2] rfl) h
set_option maxHeartbeats 4000000 in
set_option maxRecDepth 100000 in
theorem w_X12_caught_76 {p : Program} {l : Launch} {e : Env} {s : State} {m : MethodId} {args : Array Value} {below : List Frame} {meth : Method} {c : Code} {G : va_G} {cy : Nat → ClassId} {E : Nat → Nat} {w0 : va_W} {N : Nat} {q_t q_t_tape q_t_s q_t_h q_t_read q_t_names q_t_reserved q_t_undone q_t_before q_t_comeRow q_t_shown q_t_text q_t_toldAt q_t_stack q_t_truths q_t_imaged q_t_namesKept q_t_areKept : Nat} {t_length : Int32} {t_size : Int32} {t_p : Int32} {t_limit : Int32} {t_token : Int32} {t_at : Int32} {t_span : Int32} {t_number : Int32} {t_fault : Int32} {t_faultAt : Int32} {t_word : Int64} {t_got : Int32} {t_lines : Int32} {t_hasWait : Int32} {t_undoMany : Int32} {t_firstMinute : Int32} {t_lookClock : Int32} {t_hasTime : Int32} {t_latestMost : Int32} {t_textMany : Int32} {t_seed : Int32} {t_toldMany : Int32} {t_hasTold : Int32} {t_codes : Int32} {t_ones : Int32} {t_top : Int32} {t_deep : Int32} {t_isWhole : Int32} {r : Int32} {r_t_thrown : Int32} {r_t_s : Nat → Int32} {r_t_before : Nat → Int32} {r_t_comeRow : Nat → Int32} {k_27 : Int32 → Int32 → Int32 → Int32 → (Nat → Int32) → (Nat → Int32) → (Nat → Int32) → (Option (Int32 × Int32 × (Nat → Int32) × (Nat → Int32) × (Nat → Int32)))} (S : CallFix p m c cX12_caught 4 s args wsX12_caught RX12) (hr : meth.sig.returnType = some .int) (hlocks : meth.locks = false) (hF : zF G cy E (va_A w0 s.heap.size) s) (hk_27 : ∀ (x1 : Int32) (x2 : Int32) (x3 : Int32) (c_t_thrown : Int32) (c_t_s : Nat → Int32) (c_t_before : Nat → Int32) (c_t_comeRow : Nat → Int32) (H : Heap) (locs : List Loc) (ls : Array Slot), zH G (va_A w0 s.heap.size) s H locs (wd_X12_caught cy q_t q_t_tape q_t_s q_t_h q_t_read q_t_names q_t_reserved q_t_undone q_t_before q_t_comeRow q_t_shown q_t_text q_t_toldAt q_t_stack q_t_truths q_t_imaged q_t_namesKept q_t_areKept c_t_thrown t_length t_size t_p t_limit t_token t_at t_span t_number t_fault t_faultAt t_word t_got t_lines t_hasWait t_undoMany t_firstMinute t_lookClock t_hasTime t_latestMost t_textMany t_seed t_toldMany t_hasTold t_codes t_ones t_top t_deep t_isWhole c_t_s c_t_before c_t_comeRow) → lv_has ls 4 [(0, .ref q_t), (1, .int x1), (2, .int x2), (3, .int x3)] → k_27 x1 x2 x3 c_t_thrown c_t_s c_t_before c_t_comeRow = some (r, r_t_thrown, r_t_s, r_t_before, r_t_comeRow) → W p l e rm_X12_caught s m args below meth c H locs 0 0 (MQ below (zQ G w0 (wd_X12_caught cy q_t q_t_tape q_t_s q_t_h q_t_read q_t_names q_t_reserved q_t_undone q_t_before q_t_comeRow q_t_shown q_t_text q_t_toldAt q_t_stack q_t_truths q_t_imaged q_t_namesKept q_t_areKept r_t_thrown t_length t_size t_p t_limit t_token t_at t_span t_number t_fault t_faultAt t_word t_got t_lines t_hasWait t_undoMany t_firstMinute t_lookClock t_hasTime t_latestMost t_textMany t_seed t_toldMany t_hasTold t_codes t_ones t_top t_deep t_isWhole r_t_s r_t_before r_t_comeRow) s.heap.size (some (.int r))) args s 0 0 (va_A w0 s.heap.size)) (F0 m 27 ls [])) :
    ∀ (x1 : Int32) (x3 : Int32) (sk0 : Int32) (sk1 : Int32) (c_t_thrown : Int32) (c_t_s : Nat → Int32) (c_t_before : Nat → Int32) (c_t_comeRow : Nat → Int32) (H : Heap) (locs : List Loc) (ls : Array Slot), zH G (va_A w0 s.heap.size) s H locs (wd_X12_caught cy q_t q_t_tape q_t_s q_t_h q_t_read q_t_names q_t_reserved q_t_undone q_t_before q_t_comeRow q_t_shown q_t_text q_t_toldAt q_t_stack q_t_truths q_t_imaged q_t_namesKept q_t_areKept c_t_thrown t_length t_size t_p t_limit t_token t_at t_span t_number t_fault t_faultAt t_word t_got t_lines t_hasWait t_undoMany t_firstMinute t_lookClock t_hasTime t_latestMost t_textMany t_seed t_toldMany t_hasTold t_codes t_ones t_top t_deep t_isWhole c_t_s c_t_before c_t_comeRow) → lv_has ls 4 [(0, .ref q_t), (1, .int x1), (3, .int x3)] → f_X12_caught_76 N k_27 x1 x3 sk0 sk1 c_t_thrown c_t_s c_t_before c_t_comeRow = some (r, r_t_thrown, r_t_s, r_t_before, r_t_comeRow) → W p l e rm_X12_caught s m args below meth c H locs 0 0 (MQ below (zQ G w0 (wd_X12_caught cy q_t q_t_tape q_t_s q_t_h q_t_read q_t_names q_t_reserved q_t_undone q_t_before q_t_comeRow q_t_shown q_t_text q_t_toldAt q_t_stack q_t_truths q_t_imaged q_t_namesKept q_t_areKept r_t_thrown t_length t_size t_p t_limit t_token t_at t_span t_number t_fault t_faultAt t_word t_got t_lines t_hasWait t_undoMany t_firstMinute t_lookClock t_hasTime t_latestMost t_textMany t_seed t_toldMany t_hasTold t_codes t_ones t_top t_deep t_isWhole r_t_s r_t_before r_t_comeRow) s.heap.size (some (.int r))) args s 0 0 (va_A w0 s.heap.size)) (F0 m 76 ls [.int sk0, .int sk1]) := by
  obtain ⟨hx, hb, hml, hown, hts⟩ := id S
  intro x1 x3 sk0 sk1 c_t_thrown c_t_s c_t_before c_t_comeRow H locs ls hH hl h
  rw [f_X12_caught_76] at h
  refine lv_ior hx hb dX12_caught_76 ?_
  obtain ⟨y1, ey1, h⟩ := zbn_e h
  refine z_top ey1 ?_
  clear ey1
  refine lv_istore_n (lv' := [(2, .int y1), (0, .ref q_t), (1, .int x1), (3, .int x3)]) hx hb dX12_caught_77 rfl hl (by decide) rfl (fun ls hl => ?_)
  obtain ⟨y2, ey2, h⟩ := zbn_e h
  refine lv_iinc (v := y2) (lv' := [(3, .int y2), (2, .int y1), (0, .ref q_t), (1, .int x1)]) hx hb dX12_caught_78 hl (k := 3) rfl (by rw [ey2]; exact congrArg (fun z => x3 + z) (by decide)) (by decide) rfl (fun ls hl => ?_)
  clear ey2
  refine lv_goto (tgt := 27) hx hb dX12_caught_81 (by decide) ?_
  exact hk_27 x1 y1 y2 c_t_thrown c_t_s c_t_before c_t_comeRow _ _ _ hH (lv_sub hl [2, 3, 1, 0] rfl) h
set_option maxHeartbeats 4000000 in
set_option maxRecDepth 100000 in
theorem w_X12_caught_27 {p : Program} {l : Launch} {e : Env} {s : State} {m : MethodId} {args : Array Value} {below : List Frame} {meth : Method} {c : Code} {G : va_G} {cy : Nat → ClassId} {E : Nat → Nat} {w0 : va_W} {N : Nat} {q_t q_t_tape q_t_s q_t_h q_t_read q_t_names q_t_reserved q_t_undone q_t_before q_t_comeRow q_t_shown q_t_text q_t_toldAt q_t_stack q_t_truths q_t_imaged q_t_namesKept q_t_areKept : Nat} {t_length : Int32} {t_size : Int32} {t_p : Int32} {t_limit : Int32} {t_token : Int32} {t_at : Int32} {t_span : Int32} {t_number : Int32} {t_fault : Int32} {t_faultAt : Int32} {t_word : Int64} {t_got : Int32} {t_lines : Int32} {t_hasWait : Int32} {t_undoMany : Int32} {t_firstMinute : Int32} {t_lookClock : Int32} {t_hasTime : Int32} {t_latestMost : Int32} {t_textMany : Int32} {t_seed : Int32} {t_toldMany : Int32} {t_hasTold : Int32} {t_codes : Int32} {t_ones : Int32} {t_top : Int32} {t_deep : Int32} {t_isWhole : Int32} {r : Int32} {r_t_thrown : Int32} {r_t_s : Nat → Int32} {r_t_before : Nat → Int32} {r_t_comeRow : Nat → Int32} (S : CallFix p m c cX12_caught 4 s args wsX12_caught RX12) (hr : meth.sig.returnType = some .int) (hlocks : meth.locks = false) (hF : zF G cy E (va_A w0 s.heap.size) s) :
    ∀ (n : Nat) (x1 : Int32) (x2 : Int32) (x3 : Int32) (c_t_thrown : Int32) (c_t_s : Nat → Int32) (c_t_before : Nat → Int32) (c_t_comeRow : Nat → Int32) (H : Heap) (locs : List Loc) (ls : Array Slot), zH G (va_A w0 s.heap.size) s H locs (wd_X12_caught cy q_t q_t_tape q_t_s q_t_h q_t_read q_t_names q_t_reserved q_t_undone q_t_before q_t_comeRow q_t_shown q_t_text q_t_toldAt q_t_stack q_t_truths q_t_imaged q_t_namesKept q_t_areKept c_t_thrown t_length t_size t_p t_limit t_token t_at t_span t_number t_fault t_faultAt t_word t_got t_lines t_hasWait t_undoMany t_firstMinute t_lookClock t_hasTime t_latestMost t_textMany t_seed t_toldMany t_hasTold t_codes t_ones t_top t_deep t_isWhole c_t_s c_t_before c_t_comeRow) → lv_has ls 4 [(0, .ref q_t), (1, .int x1), (2, .int x2), (3, .int x3)] → f_X12_caught_27 N n x1 x2 x3 c_t_thrown c_t_s c_t_before c_t_comeRow = some (r, r_t_thrown, r_t_s, r_t_before, r_t_comeRow) → W p l e rm_X12_caught s m args below meth c H locs 0 0 (MQ below (zQ G w0 (wd_X12_caught cy q_t q_t_tape q_t_s q_t_h q_t_read q_t_names q_t_reserved q_t_undone q_t_before q_t_comeRow q_t_shown q_t_text q_t_toldAt q_t_stack q_t_truths q_t_imaged q_t_namesKept q_t_areKept r_t_thrown t_length t_size t_p t_limit t_token t_at t_span t_number t_fault t_faultAt t_word t_got t_lines t_hasWait t_undoMany t_firstMinute t_lookClock t_hasTime t_latestMost t_textMany t_seed t_toldMany t_hasTold t_codes t_ones t_top t_deep t_isWhole r_t_s r_t_before r_t_comeRow) s.heap.size (some (.int r))) args s 0 0 (va_A w0 s.heap.size)) (F0 m 27 ls []) := by
  obtain ⟨hx, hb, hml, hown, hts⟩ := id S
  intro n
  induction n with
  | zero =>
    intro x1 x2 x3 c_t_thrown c_t_s c_t_before c_t_comeRow H locs ls hH hl h
    rw [f_X12_caught_27] at h
    cases h
  | succ n ih =>
    intro x1 x2 x3 c_t_thrown c_t_s c_t_before c_t_comeRow H locs ls hH hl h
    rw [f_X12_caught_27] at h
    refine lv_iload_n hx hb dX12_caught_27 rfl (lv_at hl 3 rfl) ?_
    refine lv_aload_n hx hb dX12_caught_28 rfl (lv_at hl 0 rfl) ?_
    refine z_get S hF hH iX12_caught_X12 0 rfl rfl 6 (by decide) (List.mem_of_getElem? (i := 2) rfl) rfl dX12_caught_29 ?_
    refine lv_iconst (v := 1) hx hb dX12_caught_32 (by decide) ?_
    refine z_iald (j := 1) S hF hH 1 rfl (by decide) rfl dX12_caught_33 ?_
    refine lv_icmp_ge (tgt := 84) hx hb dX12_caught_34 (by decide) (fun b34 => ?_) (fun b34 => ?_)
    · replace h := zif_t b34 h
      refine lv_iload_n hx hb dX12_caught_84 rfl (lv_at hl 2 rfl) ?_
      cases h
      exact z_iret S hr hlocks hH dX12_caught_85
    · replace h := zif_f b34 h
      refine lv_iload_n hx hb dX12_caught_37 rfl (lv_at hl 2 rfl) ?_
      refine lv_aload_n hx hb dX12_caught_38 rfl (lv_at hl 0 rfl) ?_
      refine lv_iload_n hx hb dX12_caught_39 rfl (lv_at hl 3 rfl) ?_
      refine lv_iload_n hx hb dX12_caught_40 rfl (lv_at hl 1 rfl) ?_
      obtain ⟨z41, hz41, h⟩ := zcl_e h
      refine z_callV (As := [.int x3, .int x1]) (rest := [.int x2]) (st1 := [.int z41, .int x2]) (ws' := (wd_X12_caught cy q_t q_t_tape q_t_s q_t_h q_t_read q_t_names q_t_reserved q_t_undone q_t_before q_t_comeRow q_t_shown q_t_text q_t_toldAt q_t_stack q_t_truths q_t_imaged q_t_namesKept q_t_areKept c_t_thrown t_length t_size t_p t_limit t_token t_at t_span t_number t_fault t_faultAt t_word t_got t_lines t_hasWait t_undoMany t_firstMinute t_lookClock t_hasTime t_latestMost t_textMany t_seed t_toldMany t_hasTold t_codes t_ones t_top t_deep t_isWhole c_t_s c_t_before c_t_comeRow)) S hF hH (c_X12_isDueTo l G cy E N q_t q_t_tape q_t_s q_t_h q_t_read q_t_names q_t_reserved q_t_undone q_t_before q_t_comeRow q_t_shown q_t_text q_t_toldAt q_t_stack q_t_truths q_t_imaged q_t_namesKept q_t_areKept c_t_thrown t_length t_size t_p t_limit t_token t_at t_span t_number t_fault t_faultAt t_word t_got t_lines t_hasWait t_undoMany t_firstMinute t_lookClock t_hasTime t_latestMost t_textMany t_seed t_toldMany t_hasTold t_codes t_ones t_top t_deep t_isWhole c_t_s x3 x1 z41 hz41) (cwV 2 hts gX12_caught_X12_isDueTo rfl rfl rfl (by decide +kernel) ⟨Nat.le_of_ble_eq_true rfl, Nat.le_of_ble_eq_true rfl⟩) 13 0 rfl rfl [0, 1] rfl (by decide) rfl rfl rfl rfl rfl hl.1 (Nat.le_of_ble_eq_true rfl) dX12_caught_41 ⟨Nat.le_of_ble_eq_true rfl, Nat.le_of_ble_eq_true rfl⟩ (fun H locs hH => ?_)
      refine lv_if_eq (tgt := 75) hx hb dX12_caught_44 (by decide) (fun b44 => ?_) (fun b44 => ?_)
      · replace h := zif_t b44 h
        exact w_X12_caught_75 S hr hlocks hF (w_X12_caught_76 S hr hlocks hF ih) x1 x3 x2 c_t_thrown c_t_s c_t_before c_t_comeRow _ _ _ hH (lv_sub hl [0, 1, 3] rfl) h
      · replace h := zif_f b44 h
        refine lv_aload_n hx hb dX12_caught_47 rfl (lv_at hl 0 rfl) ?_
        refine z_get S hF hH iX12_caught_X12 0 rfl rfl 24 (by decide) (List.mem_of_getElem? (i := 3) rfl) rfl dX12_caught_48 ?_
        refine lv_iload_n hx hb dX12_caught_51 rfl (lv_at hl 3 rfl) ?_
        obtain ⟨h52, h⟩ := zck_e h
        refine z_iald S hF hH 3 rfl h52 rfl dX12_caught_52 ?_
        refine lv_iconst (v := 0) hx hb dX12_caught_53 (by decide) ?_
        refine lv_aload_n hx hb dX12_caught_54 rfl (lv_at hl 0 rfl) ?_
        refine z_get S hF hH iX12_caught_X12 0 rfl rfl 6 (by decide) (List.mem_of_getElem? (i := 2) rfl) rfl dX12_caught_55 ?_
        refine lv_bipush (v := 75) hx hb dX12_caught_58 (by decide) ?_
        refine lv_iload_n hx hb dX12_caught_60 rfl (lv_at hl 1 rfl) ?_
        refine lv_iadd hx hb dX12_caught_61 ?_
        obtain ⟨h62, h⟩ := zck_e h
        refine z_iald S hF hH 1 rfl h62 rfl dX12_caught_62 ?_
        obtain ⟨z63, hz63, h⟩ := zcl_e h
        refine z_callS (As := [.int (c_t_comeRow (Int32.toNatClampNeg x3)), .int 0, .int (c_t_s (Int32.toNatClampNeg (75 + x1)))]) (rest := [.int x2]) (st1 := [.int z63, .int x2]) (ws' := (wd_X12_caught cy q_t q_t_tape q_t_s q_t_h q_t_read q_t_names q_t_reserved q_t_undone q_t_before q_t_comeRow q_t_shown q_t_text q_t_toldAt q_t_stack q_t_truths q_t_imaged q_t_namesKept q_t_areKept c_t_thrown t_length t_size t_p t_limit t_token t_at t_span t_number t_fault t_faultAt t_word t_got t_lines t_hasWait t_undoMany t_firstMinute t_lookClock t_hasTime t_latestMost t_textMany t_seed t_toldMany t_hasTold t_codes t_ones t_top t_deep t_isWhole c_t_s c_t_before c_t_comeRow)) S hF hH (c_X12_isIn l G cy E N (c_t_comeRow (Int32.toNatClampNeg x3)) 0 (c_t_s (Int32.toNatClampNeg (75 + x1))) z63 hz63) (cwS 3 hts gX12_caught_X12_isIn rfl rfl rfl (by decide +kernel) ⟨Nat.le_of_ble_eq_true rfl, Nat.le_of_ble_eq_true rfl⟩) [] rfl (by decide) rfl rfl rfl rfl rfl hl.1 (Nat.le_of_ble_eq_true rfl) dX12_caught_63 ⟨Nat.le_of_ble_eq_true rfl, Nat.le_of_ble_eq_true rfl⟩ (fun H locs hH => ?_)
        refine lv_if_eq (tgt := 75) hx hb dX12_caught_66 (by decide) (fun b66 => ?_) (fun b66 => ?_)
        · replace h := zif_t b66 h
          exact w_X12_caught_75 S hr hlocks hF (w_X12_caught_76 S hr hlocks hF ih) x1 x3 x2 c_t_thrown c_t_s c_t_before c_t_comeRow _ _ _ hH (lv_sub hl [0, 1, 3] rfl) h
        · replace h := zif_f b66 h
          refine lv_iconst (v := 1) hx hb dX12_caught_69 (by decide) ?_
          refine lv_iload_n hx hb dX12_caught_70 rfl (lv_at hl 3 rfl) ?_
          refine lv_ishl hx hb dX12_caught_71 ?_
          refine lv_goto (tgt := 76) hx hb dX12_caught_72 (by decide) ?_
          exact w_X12_caught_76 S hr hlocks hF ih x1 x3 (1 <<< (x3 &&& 31)) x2 c_t_thrown c_t_s c_t_before c_t_comeRow _ _ _ hH (lv_sub hl [0, 1, 3] rfl) h
set_option maxHeartbeats 4000000 in
set_option maxRecDepth 100000 in
theorem c_X12_caught (l : Launch) (G : va_G) (cy : Nat → ClassId) (E : Nat → Nat) (N : Nat) (q_t q_t_tape q_t_s q_t_h q_t_read q_t_names q_t_reserved q_t_undone q_t_before q_t_comeRow q_t_shown q_t_text q_t_toldAt q_t_stack q_t_truths q_t_imaged q_t_namesKept q_t_areKept : Nat) (t_thrown : Int32) (t_length : Int32) (t_size : Int32) (t_p : Int32) (t_limit : Int32) (t_token : Int32) (t_at : Int32) (t_span : Int32) (t_number : Int32) (t_fault : Int32) (t_faultAt : Int32) (t_word : Int64) (t_got : Int32) (t_lines : Int32) (t_hasWait : Int32) (t_undoMany : Int32) (t_firstMinute : Int32) (t_lookClock : Int32) (t_hasTime : Int32) (t_latestMost : Int32) (t_textMany : Int32) (t_seed : Int32) (t_toldMany : Int32) (t_hasTold : Int32) (t_codes : Int32) (t_ones : Int32) (t_top : Int32) (t_deep : Int32) (t_isWhole : Int32) (t_s : Nat → Int32) (t_before : Nat → Int32) (t_comeRow : Nat → Int32) (x0 : Int32) (r : Int32) (r_t_thrown : Int32) (r_t_s : Nat → Int32) (r_t_before : Nat → Int32) (r_t_comeRow : Nat → Int32) (h : f_X12_caught N x0 t_thrown t_s t_before t_comeRow = some (r, r_t_thrown, r_t_s, r_t_before, r_t_comeRow)) : zM l G cy E yX12_caught wsX12_caught rm_X12_caught [.ref q_t, .int x0] (wd_X12_caught cy q_t q_t_tape q_t_s q_t_h q_t_read q_t_names q_t_reserved q_t_undone q_t_before q_t_comeRow q_t_shown q_t_text q_t_toldAt q_t_stack q_t_truths q_t_imaged q_t_namesKept q_t_areKept t_thrown t_length t_size t_p t_limit t_token t_at t_span t_number t_fault t_faultAt t_word t_got t_lines t_hasWait t_undoMany t_firstMinute t_lookClock t_hasTime t_latestMost t_textMany t_seed t_toldMany t_hasTold t_codes t_ones t_top t_deep t_isWhole t_s t_before t_comeRow) (wd_X12_caught cy q_t q_t_tape q_t_s q_t_h q_t_read q_t_names q_t_reserved q_t_undone q_t_before q_t_comeRow q_t_shown q_t_text q_t_toldAt q_t_stack q_t_truths q_t_imaged q_t_namesKept q_t_areKept r_t_thrown t_length t_size t_p t_limit t_token t_at t_span t_number t_fault t_faultAt t_word t_got t_lines t_hasWait t_undoMany t_firstMinute t_lookClock t_hasTime t_latestMost t_textMany t_seed t_toldMany t_hasTold t_codes t_ones t_top t_deep t_isWhole r_t_s r_t_before r_t_comeRow) (some (.int r)) 0 0 := by
  refine z_body (cc := cX12_caught) (maxL := 4) (ret := some .int) (by decide) rfl (Nat.le_of_ble_eq_true rfl) ?_
  intro p e s m below meth c ls S hr hlocks hnm hF hH hl
  have S : CallFix p m c cX12_caught 4 s ([.ref q_t, .int x0] : List Value).toArray wsX12_caught RX12 := S
  obtain ⟨hx, hb, hml, hown, hts⟩ := id S
  have hl : lv_has ls 4 [(0, .ref q_t), (1, .int x0)] := hl
  rw [f_X12_caught] at h
  refine lv_aload_n hx hb dX12_caught_0 rfl (lv_at hl 0 rfl) ?_
  refine lv_iconst (v := 0) hx hb dX12_caught_1 (by decide) ?_
  refine z_put (ws' := (wd_X12_caught cy q_t q_t_tape q_t_s q_t_h q_t_read q_t_names q_t_reserved q_t_undone q_t_before q_t_comeRow q_t_shown q_t_text q_t_toldAt q_t_stack q_t_truths q_t_imaged q_t_namesKept q_t_areKept 0 t_length t_size t_p t_limit t_token t_at t_span t_number t_fault t_faultAt t_word t_got t_lines t_hasWait t_undoMany t_firstMinute t_lookClock t_hasTime t_latestMost t_textMany t_seed t_toldMany t_hasTold t_codes t_ones t_top t_deep t_isWhole t_s t_before t_comeRow)) S hF hH iX12_caught_X12 tyX12 tyX12_ok nmX12 0 rfl rfl 0 (by decide) (List.mem_of_getElem? (i := 1) rfl) rfl rfl rfl (Nat.le_of_ble_eq_true rfl) rfl dX12_caught_2 (fun H locs hH => ?_)
  refine lv_aload_n hx hb dX12_caught_5 rfl (lv_at hl 0 rfl) ?_
  refine lv_iload_n hx hb dX12_caught_6 rfl (lv_at hl 1 rfl) ?_
  obtain ⟨z7, hz7, h⟩ := zcl_e h
  refine z_callV (As := [.int x0]) (rest := []) (st1 := [.int z7]) (ws' := (wd_X12_caught cy q_t q_t_tape q_t_s q_t_h q_t_read q_t_names q_t_reserved q_t_undone q_t_before q_t_comeRow q_t_shown q_t_text q_t_toldAt q_t_stack q_t_truths q_t_imaged q_t_namesKept q_t_areKept 0 t_length t_size t_p t_limit t_token t_at t_span t_number t_fault t_faultAt t_word t_got t_lines t_hasWait t_undoMany t_firstMinute t_lookClock t_hasTime t_latestMost t_textMany t_seed t_toldMany t_hasTold t_codes t_ones t_top t_deep t_isWhole t_s t_before t_comeRow)) S hF hH (c_X12_isMeet l G cy E N q_t q_t_tape q_t_s q_t_h q_t_read q_t_names q_t_reserved q_t_undone q_t_before q_t_comeRow q_t_shown q_t_text q_t_toldAt q_t_stack q_t_truths q_t_imaged q_t_namesKept q_t_areKept 0 t_length t_size t_p t_limit t_token t_at t_span t_number t_fault t_faultAt t_word t_got t_lines t_hasWait t_undoMany t_firstMinute t_lookClock t_hasTime t_latestMost t_textMany t_seed t_toldMany t_hasTold t_codes t_ones t_top t_deep t_isWhole t_s x0 z7 hz7) (cwV 1 hts gX12_caught_X12_isMeet rfl rfl rfl (by decide +kernel) ⟨Nat.le_of_ble_eq_true rfl, Nat.le_of_ble_eq_true rfl⟩) 13 0 rfl rfl [0, 1] rfl (by decide) rfl rfl rfl rfl rfl hl.1 (Nat.le_of_ble_eq_true rfl) dX12_caught_7 ⟨Nat.le_of_ble_eq_true rfl, Nat.le_of_ble_eq_true rfl⟩ (fun H locs hH => ?_)
  refine lv_if_ne (tgt := 15) hx hb dX12_caught_10 (by decide) (fun b10 => ?_) (fun b10 => ?_)
  · replace h := zif_f b10 h
    refine lv_aload_n hx hb dX12_caught_15 rfl (lv_at hl 0 rfl) ?_
    refine lv_iload_n hx hb dX12_caught_16 rfl (lv_at hl 1 rfl) ?_
    refine lv_sipush (v := 2000) hx hb dX12_caught_17 (by decide) ?_
    obtain ⟨z20, hz20, h⟩ := zcl_e h
    refine z_callV (As := [.int x0, .int 2000]) (rest := []) (st1 := []) (ws' := (wd_X12_caught cy q_t q_t_tape q_t_s q_t_h q_t_read q_t_names q_t_reserved q_t_undone q_t_before q_t_comeRow q_t_shown q_t_text q_t_toldAt q_t_stack q_t_truths q_t_imaged q_t_namesKept q_t_areKept 0 t_length t_size t_p t_limit t_token t_at t_span t_number t_fault t_faultAt t_word t_got t_lines t_hasWait t_undoMany t_firstMinute t_lookClock t_hasTime t_latestMost t_textMany t_seed t_toldMany t_hasTold t_codes t_ones t_top t_deep t_isWhole z20.1 z20.2.1 z20.2.2)) S hF hH (c_X12_laysCome l G cy E N q_t q_t_tape q_t_s q_t_h q_t_read q_t_names q_t_reserved q_t_undone q_t_before q_t_comeRow q_t_shown q_t_text q_t_toldAt q_t_stack q_t_truths q_t_imaged q_t_namesKept q_t_areKept 0 t_length t_size t_p t_limit t_token t_at t_span t_number t_fault t_faultAt t_word t_got t_lines t_hasWait t_undoMany t_firstMinute t_lookClock t_hasTime t_latestMost t_textMany t_seed t_toldMany t_hasTold t_codes t_ones t_top t_deep t_isWhole t_s t_before t_comeRow x0 2000 z20.1 z20.2.1 z20.2.2 hz20) (cwV 2 hts gX12_caught_X12_laysCome rfl rfl rfl (by decide +kernel) ⟨Nat.le_of_ble_eq_true rfl, Nat.le_of_ble_eq_true rfl⟩) 13 0 rfl rfl [0, 1, 2, 3] rfl (by decide) rfl rfl rfl rfl rfl hl.1 (Nat.le_of_ble_eq_true rfl) dX12_caught_20 ⟨Nat.le_of_ble_eq_true rfl, Nat.le_of_ble_eq_true rfl⟩ (fun H locs hH => ?_)
    refine lv_iconst (v := 0) hx hb dX12_caught_23 (by decide) ?_
    refine lv_istore_n (lv' := [(2, .int 0), (0, .ref q_t), (1, .int x0)]) hx hb dX12_caught_24 rfl hl (by decide) rfl (fun ls hl => ?_)
    refine lv_iconst (v := 0) hx hb dX12_caught_25 (by decide) ?_
    refine lv_istore_n (lv' := [(3, .int 0), (2, .int 0), (0, .ref q_t), (1, .int x0)]) hx hb dX12_caught_26 rfl hl (by decide) rfl (fun ls hl => ?_)
    exact w_X12_caught_27 S hr hlocks hF N x0 0 0 0 z20.1 z20.2.1 z20.2.2 _ _ _ hH (lv_sub hl [2, 3, 1, 0] rfl) h
  · replace h := zif_t b10 h
    refine lv_iconst (v := (-1)) hx hb dX12_caught_13 (by decide) ?_
    cases h
    exact z_iret S hr hlocks hH dX12_caught_14
abbrev wd_X12_latestDue (cy : Nat → ClassId) (q_t q_t_tape q_t_s q_t_h q_t_read q_t_names q_t_reserved q_t_undone q_t_before q_t_comeRow q_t_shown q_t_text q_t_toldAt q_t_stack q_t_truths q_t_imaged q_t_namesKept q_t_areKept : Nat) (t_thrown : Int32) (t_length : Int32) (t_size : Int32) (t_p : Int32) (t_limit : Int32) (t_token : Int32) (t_at : Int32) (t_span : Int32) (t_number : Int32) (t_fault : Int32) (t_faultAt : Int32) (t_word : Int64) (t_got : Int32) (t_lines : Int32) (t_hasWait : Int32) (t_undoMany : Int32) (t_firstMinute : Int32) (t_lookClock : Int32) (t_hasTime : Int32) (t_latestMost : Int32) (t_textMany : Int32) (t_seed : Int32) (t_toldMany : Int32) (t_hasTold : Int32) (t_codes : Int32) (t_ones : Int32) (t_top : Int32) (t_deep : Int32) (t_isWhole : Int32) (t_s : Nat → Int32) : va_W := [(q_t, .inr (13, [.int t_thrown, .ref q_t_tape, .int t_length, .int t_size, .int t_p, .int t_limit, .ref q_t_s, .ref q_t_h, .ref q_t_read, .ref q_t_names, .ref q_t_reserved, .int t_token, .int t_at, .int t_span, .int t_number, .int t_fault, .int t_faultAt, .long t_word, .int t_got, .int t_lines, .int t_hasWait, .ref q_t_undone, .ref q_t_before, .int t_undoMany, .ref q_t_comeRow, .int t_firstMinute, .int t_lookClock, .int t_hasTime, .ref q_t_shown, .int t_latestMost, .ref q_t_text, .int t_textMany, .int t_seed, .int t_toldMany, .ref q_t_toldAt, .int t_hasTold, .ref q_t_stack, .int t_codes, .int t_ones, .int t_top, .int t_deep, .int t_isWhole, .ref q_t_truths, .ref q_t_imaged, .ref q_t_namesKept, .ref q_t_areKept])), (q_t_s, .inl (cy 1, 334, .inl t_s))]
theorem iX12_latestDue_X12 : ∀ w ∈ wsX120, w ∈ wsX12_latestDue := fun _ h => List.mem_cons_of_mem _ (List.mem_append_right _ h)
abbrev rm_X12_latestDue : Room := { frames := 3, cells := 0, slots := 0, locals := 64 }
set_option maxRecDepth 100000 in
def f_X12_latestDue_39 (N : Nat) (t_s : Nat → Int32) (k_7 : Int32 → Int32 → Int32 → Int32 → Option (Int32)) : Nat → Int32 → Int32 → Int32 → Int32 → Int32 → Int32 → Option (Int32)
  | 0, _, _, _, _, _, _ => none
  | n + 1, x1, x2, x3, x4, x5, x6 => if x2 < x6 then (zck (zin (28 + x4) 334) <| zcl (f_X12_lesser N x3 (x5 - (t_s (Int32.toNatClampNeg (28 + x4))))) fun z96 => zbn (x4 + 1) fun y1 => k_7 x1 x2 z96 y1) else (zck (zin (34 + x4) 334) <| zcl (f_X12_readsAt N (t_s (Int32.toNatClampNeg (34 + x4))) ((t_s 52) + x6) t_s) fun z68 => zcl (f_X12_greater N x5 z68) fun z71 => zbn (x6 + 1) fun y2 => f_X12_latestDue_39 N t_s k_7 n x1 x2 x3 x4 z71 y2)
set_option maxRecDepth 100000 in
def f_X12_latestDue_7 (N : Nat) (t_s : Nat → Int32) : Nat → Int32 → Int32 → Int32 → Int32 → Option (Int32)
  | 0, _, _, _, _ => none
  | n + 1, x1, x2, x3, x4 => if (t_s 1) ≤ x4 then (some x3) else (zcl (f_X12_isDueTo N x4 x1 t_s) fun z22 => if z22 = 0 then (zbn (x4 + 1) fun y1 => f_X12_latestDue_7 N t_s n x1 x2 x3 y1) else (f_X12_latestDue_39 N t_s (f_X12_latestDue_7 N t_s n) N x1 x2 x3 x4 (-1000000) 0))
set_option maxRecDepth 100000 in
def f_X12_latestDue (N : Nat) (x0 : Int32) (x1 : Int32) (t_s : Nat → Int32) : Option (Int32) := f_X12_latestDue_7 N t_s N x0 x1 1999 0
set_option maxHeartbeats 4000000 in
set_option maxRecDepth 100000 in
theorem w_X12_latestDue_39 {p : Program} {l : Launch} {e : Env} {s : State} {m : MethodId} {args : Array Value} {below : List Frame} {meth : Method} {c : Code} {G : va_G} {cy : Nat → ClassId} {E : Nat → Nat} {w0 : va_W} {N : Nat} {q_t q_t_tape q_t_s q_t_h q_t_read q_t_names q_t_reserved q_t_undone q_t_before q_t_comeRow q_t_shown q_t_text q_t_toldAt q_t_stack q_t_truths q_t_imaged q_t_namesKept q_t_areKept : Nat} {t_thrown : Int32} {t_length : Int32} {t_size : Int32} {t_p : Int32} {t_limit : Int32} {t_token : Int32} {t_at : Int32} {t_span : Int32} {t_number : Int32} {t_fault : Int32} {t_faultAt : Int32} {t_word : Int64} {t_got : Int32} {t_lines : Int32} {t_hasWait : Int32} {t_undoMany : Int32} {t_firstMinute : Int32} {t_lookClock : Int32} {t_hasTime : Int32} {t_latestMost : Int32} {t_textMany : Int32} {t_seed : Int32} {t_toldMany : Int32} {t_hasTold : Int32} {t_codes : Int32} {t_ones : Int32} {t_top : Int32} {t_deep : Int32} {t_isWhole : Int32} {t_s : Nat → Int32} {r : Int32} {k_7 : Int32 → Int32 → Int32 → Int32 → Option (Int32)} (S : CallFix p m c cX12_latestDue 7 s args wsX12_latestDue RX12) (hr : meth.sig.returnType = some .int) (hlocks : meth.locks = false) (hF : zF G cy E (va_A w0 s.heap.size) s) (hk_7 : ∀ (x1 : Int32) (x2 : Int32) (x3 : Int32) (x4 : Int32) (H : Heap) (locs : List Loc) (ls : Array Slot), zH G (va_A w0 s.heap.size) s H locs (wd_X12_latestDue cy q_t q_t_tape q_t_s q_t_h q_t_read q_t_names q_t_reserved q_t_undone q_t_before q_t_comeRow q_t_shown q_t_text q_t_toldAt q_t_stack q_t_truths q_t_imaged q_t_namesKept q_t_areKept t_thrown t_length t_size t_p t_limit t_token t_at t_span t_number t_fault t_faultAt t_word t_got t_lines t_hasWait t_undoMany t_firstMinute t_lookClock t_hasTime t_latestMost t_textMany t_seed t_toldMany t_hasTold t_codes t_ones t_top t_deep t_isWhole t_s) → lv_has ls 7 [(0, .ref q_t), (1, .int x1), (2, .int x2), (3, .int x3), (4, .int x4)] → k_7 x1 x2 x3 x4 = some r → W p l e rm_X12_latestDue s m args below meth c H locs 0 0 (MQ below (zQ G w0 (wd_X12_latestDue cy q_t q_t_tape q_t_s q_t_h q_t_read q_t_names q_t_reserved q_t_undone q_t_before q_t_comeRow q_t_shown q_t_text q_t_toldAt q_t_stack q_t_truths q_t_imaged q_t_namesKept q_t_areKept t_thrown t_length t_size t_p t_limit t_token t_at t_span t_number t_fault t_faultAt t_word t_got t_lines t_hasWait t_undoMany t_firstMinute t_lookClock t_hasTime t_latestMost t_textMany t_seed t_toldMany t_hasTold t_codes t_ones t_top t_deep t_isWhole t_s) s.heap.size (some (.int r))) args s 0 0 (va_A w0 s.heap.size)) (F0 m 7 ls [])) :
    ∀ (n : Nat) (x1 : Int32) (x2 : Int32) (x3 : Int32) (x4 : Int32) (x5 : Int32) (x6 : Int32) (H : Heap) (locs : List Loc) (ls : Array Slot), zH G (va_A w0 s.heap.size) s H locs (wd_X12_latestDue cy q_t q_t_tape q_t_s q_t_h q_t_read q_t_names q_t_reserved q_t_undone q_t_before q_t_comeRow q_t_shown q_t_text q_t_toldAt q_t_stack q_t_truths q_t_imaged q_t_namesKept q_t_areKept t_thrown t_length t_size t_p t_limit t_token t_at t_span t_number t_fault t_faultAt t_word t_got t_lines t_hasWait t_undoMany t_firstMinute t_lookClock t_hasTime t_latestMost t_textMany t_seed t_toldMany t_hasTold t_codes t_ones t_top t_deep t_isWhole t_s) → lv_has ls 7 [(0, .ref q_t), (1, .int x1), (2, .int x2), (3, .int x3), (4, .int x4), (5, .int x5), (6, .int x6)] → f_X12_latestDue_39 N t_s k_7 n x1 x2 x3 x4 x5 x6 = some r → W p l e rm_X12_latestDue s m args below meth c H locs 0 0 (MQ below (zQ G w0 (wd_X12_latestDue cy q_t q_t_tape q_t_s q_t_h q_t_read q_t_names q_t_reserved q_t_undone q_t_before q_t_comeRow q_t_shown q_t_text q_t_toldAt q_t_stack q_t_truths q_t_imaged q_t_namesKept q_t_areKept t_thrown t_length t_size t_p t_limit t_token t_at t_span t_number t_fault t_faultAt t_word t_got t_lines t_hasWait t_undoMany t_firstMinute t_lookClock t_hasTime t_latestMost t_textMany t_seed t_toldMany t_hasTold t_codes t_ones t_top t_deep t_isWhole t_s) s.heap.size (some (.int r))) args s 0 0 (va_A w0 s.heap.size)) (F0 m 39 ls []) := by
  obtain ⟨hx, hb, hml, hown, hts⟩ := id S
  intro n
  induction n with
  | zero =>
    intro x1 x2 x3 x4 x5 x6 H locs ls hH hl h
    rw [f_X12_latestDue_39] at h
    cases h
  | succ n ih =>
    intro x1 x2 x3 x4 x5 x6 H locs ls hH hl h
    rw [f_X12_latestDue_39] at h
    refine lv_iload hx hb dX12_latestDue_39 (lv_at hl 6 rfl) ?_
    refine lv_iload_n hx hb dX12_latestDue_41 rfl (lv_at hl 2 rfl) ?_
    refine lv_icmp_gt (tgt := 82) hx hb dX12_latestDue_42 (by decide) (fun b42 => ?_) (fun b42 => ?_)
    · replace h := zif_t b42 h
      refine lv_iload_n hx hb dX12_latestDue_82 rfl (lv_at hl 3 rfl) ?_
      refine lv_iload hx hb dX12_latestDue_83 (lv_at hl 5 rfl) ?_
      refine lv_aload_n hx hb dX12_latestDue_85 rfl (lv_at hl 0 rfl) ?_
      refine z_get S hF hH iX12_latestDue_X12 0 rfl rfl 6 (by decide) (List.mem_of_getElem? (i := 1) rfl) rfl dX12_latestDue_86 ?_
      refine lv_bipush (v := 28) hx hb dX12_latestDue_89 (by decide) ?_
      refine lv_iload hx hb dX12_latestDue_91 (lv_at hl 4 rfl) ?_
      refine lv_iadd hx hb dX12_latestDue_93 ?_
      obtain ⟨h94, h⟩ := zck_e h
      refine z_iald S hF hH 1 rfl h94 rfl dX12_latestDue_94 ?_
      refine lv_isub hx hb dX12_latestDue_95 ?_
      obtain ⟨z96, hz96, h⟩ := zcl_e h
      refine z_callS (As := [.int x3, .int (x5 - (t_s (Int32.toNatClampNeg (28 + x4))))]) (rest := []) (st1 := [.int z96]) (ws' := (wd_X12_latestDue cy q_t q_t_tape q_t_s q_t_h q_t_read q_t_names q_t_reserved q_t_undone q_t_before q_t_comeRow q_t_shown q_t_text q_t_toldAt q_t_stack q_t_truths q_t_imaged q_t_namesKept q_t_areKept t_thrown t_length t_size t_p t_limit t_token t_at t_span t_number t_fault t_faultAt t_word t_got t_lines t_hasWait t_undoMany t_firstMinute t_lookClock t_hasTime t_latestMost t_textMany t_seed t_toldMany t_hasTold t_codes t_ones t_top t_deep t_isWhole t_s)) S hF hH (c_X12_lesser l G cy E N x3 (x5 - (t_s (Int32.toNatClampNeg (28 + x4)))) z96 hz96) (cwS 2 hts gX12_latestDue_X12_lesser rfl rfl rfl (by decide +kernel) ⟨Nat.le_of_ble_eq_true rfl, Nat.le_of_ble_eq_true rfl⟩) [] rfl (by decide) rfl rfl rfl rfl rfl hl.1 (Nat.le_of_ble_eq_true rfl) dX12_latestDue_96 ⟨Nat.le_of_ble_eq_true rfl, Nat.le_of_ble_eq_true rfl⟩ (fun H locs hH => ?_)
      refine lv_istore_n (lv' := [(3, .int z96), (0, .ref q_t), (1, .int x1), (2, .int x2), (4, .int x4), (5, .int x5), (6, .int x6)]) hx hb dX12_latestDue_99 rfl hl (by decide) rfl (fun ls hl => ?_)
      obtain ⟨y1, ey1, h⟩ := zbn_e h
      refine lv_iinc (v := y1) (lv' := [(4, .int y1), (3, .int z96), (0, .ref q_t), (1, .int x1), (2, .int x2), (5, .int x5), (6, .int x6)]) hx hb dX12_latestDue_100 hl (k := 4) rfl (by rw [ey1]; exact congrArg (fun z => x4 + z) (by decide)) (by decide) rfl (fun ls hl => ?_)
      clear ey1
      refine lv_goto (tgt := 7) hx hb dX12_latestDue_103 (by decide) ?_
      exact hk_7 x1 x2 z96 y1 _ _ _ hH (lv_sub hl [2, 3, 4, 1, 0] rfl) h
    · replace h := zif_f b42 h
      refine lv_iload hx hb dX12_latestDue_45 (lv_at hl 5 rfl) ?_
      refine lv_aload_n hx hb dX12_latestDue_47 rfl (lv_at hl 0 rfl) ?_
      refine lv_aload_n hx hb dX12_latestDue_48 rfl (lv_at hl 0 rfl) ?_
      refine z_get S hF hH iX12_latestDue_X12 0 rfl rfl 6 (by decide) (List.mem_of_getElem? (i := 1) rfl) rfl dX12_latestDue_49 ?_
      refine lv_bipush (v := 34) hx hb dX12_latestDue_52 (by decide) ?_
      refine lv_iload hx hb dX12_latestDue_54 (lv_at hl 4 rfl) ?_
      refine lv_iadd hx hb dX12_latestDue_56 ?_
      obtain ⟨h57, h⟩ := zck_e h
      refine z_iald S hF hH 1 rfl h57 rfl dX12_latestDue_57 ?_
      refine lv_aload_n hx hb dX12_latestDue_58 rfl (lv_at hl 0 rfl) ?_
      refine z_get S hF hH iX12_latestDue_X12 0 rfl rfl 6 (by decide) (List.mem_of_getElem? (i := 1) rfl) rfl dX12_latestDue_59 ?_
      refine lv_bipush (v := 52) hx hb dX12_latestDue_62 (by decide) ?_
      refine z_iald (j := 52) S hF hH 1 rfl (by decide) rfl dX12_latestDue_64 ?_
      refine lv_iload hx hb dX12_latestDue_65 (lv_at hl 6 rfl) ?_
      refine lv_iadd hx hb dX12_latestDue_67 ?_
      obtain ⟨z68, hz68, h⟩ := zcl_e h
      refine z_callV (As := [.int (t_s (Int32.toNatClampNeg (34 + x4))), .int ((t_s 52) + x6)]) (rest := [.int x5]) (st1 := [.int z68, .int x5]) (ws' := (wd_X12_latestDue cy q_t q_t_tape q_t_s q_t_h q_t_read q_t_names q_t_reserved q_t_undone q_t_before q_t_comeRow q_t_shown q_t_text q_t_toldAt q_t_stack q_t_truths q_t_imaged q_t_namesKept q_t_areKept t_thrown t_length t_size t_p t_limit t_token t_at t_span t_number t_fault t_faultAt t_word t_got t_lines t_hasWait t_undoMany t_firstMinute t_lookClock t_hasTime t_latestMost t_textMany t_seed t_toldMany t_hasTold t_codes t_ones t_top t_deep t_isWhole t_s)) S hF hH (c_X12_readsAt l G cy E N q_t q_t_tape q_t_s q_t_h q_t_read q_t_names q_t_reserved q_t_undone q_t_before q_t_comeRow q_t_shown q_t_text q_t_toldAt q_t_stack q_t_truths q_t_imaged q_t_namesKept q_t_areKept t_thrown t_length t_size t_p t_limit t_token t_at t_span t_number t_fault t_faultAt t_word t_got t_lines t_hasWait t_undoMany t_firstMinute t_lookClock t_hasTime t_latestMost t_textMany t_seed t_toldMany t_hasTold t_codes t_ones t_top t_deep t_isWhole t_s (t_s (Int32.toNatClampNeg (34 + x4))) ((t_s 52) + x6) z68 hz68) (cwV 2 hts gX12_latestDue_X12_readsAt rfl rfl rfl (by decide +kernel) ⟨Nat.le_of_ble_eq_true rfl, Nat.le_of_ble_eq_true rfl⟩) 13 0 rfl rfl [0, 1] rfl (by decide) rfl rfl rfl rfl rfl hl.1 (Nat.le_of_ble_eq_true rfl) dX12_latestDue_68 ⟨Nat.le_of_ble_eq_true rfl, Nat.le_of_ble_eq_true rfl⟩ (fun H locs hH => ?_)
      obtain ⟨z71, hz71, h⟩ := zcl_e h
      refine z_callS (As := [.int x5, .int z68]) (rest := []) (st1 := [.int z71]) (ws' := (wd_X12_latestDue cy q_t q_t_tape q_t_s q_t_h q_t_read q_t_names q_t_reserved q_t_undone q_t_before q_t_comeRow q_t_shown q_t_text q_t_toldAt q_t_stack q_t_truths q_t_imaged q_t_namesKept q_t_areKept t_thrown t_length t_size t_p t_limit t_token t_at t_span t_number t_fault t_faultAt t_word t_got t_lines t_hasWait t_undoMany t_firstMinute t_lookClock t_hasTime t_latestMost t_textMany t_seed t_toldMany t_hasTold t_codes t_ones t_top t_deep t_isWhole t_s)) S hF hH (c_X12_greater l G cy E N x5 z68 z71 hz71) (cwS 2 hts gX12_latestDue_X12_greater rfl rfl rfl (by decide +kernel) ⟨Nat.le_of_ble_eq_true rfl, Nat.le_of_ble_eq_true rfl⟩) [] rfl (by decide) rfl rfl rfl rfl rfl hl.1 (Nat.le_of_ble_eq_true rfl) dX12_latestDue_71 ⟨Nat.le_of_ble_eq_true rfl, Nat.le_of_ble_eq_true rfl⟩ (fun H locs hH => ?_)
      refine lv_istore (lv' := [(5, .int z71), (0, .ref q_t), (1, .int x1), (2, .int x2), (3, .int x3), (4, .int x4), (6, .int x6)]) hx hb dX12_latestDue_74 hl (by decide) rfl (fun ls hl => ?_)
      obtain ⟨y2, ey2, h⟩ := zbn_e h
      refine lv_iinc (v := y2) (lv' := [(6, .int y2), (5, .int z71), (0, .ref q_t), (1, .int x1), (2, .int x2), (3, .int x3), (4, .int x4)]) hx hb dX12_latestDue_76 hl (k := 6) rfl (by rw [ey2]; exact congrArg (fun z => x6 + z) (by decide)) (by decide) rfl (fun ls hl => ?_)
      clear ey2
      refine lv_goto (tgt := 39) hx hb dX12_latestDue_79 (by decide) ?_
      exact ih x1 x2 x3 x4 z71 y2 _ _ _ hH (lv_sub hl [2, 3, 4, 5, 6, 1, 0] rfl) h
set_option maxHeartbeats 4000000 in
set_option maxRecDepth 100000 in
theorem w_X12_latestDue_7 {p : Program} {l : Launch} {e : Env} {s : State} {m : MethodId} {args : Array Value} {below : List Frame} {meth : Method} {c : Code} {G : va_G} {cy : Nat → ClassId} {E : Nat → Nat} {w0 : va_W} {N : Nat} {q_t q_t_tape q_t_s q_t_h q_t_read q_t_names q_t_reserved q_t_undone q_t_before q_t_comeRow q_t_shown q_t_text q_t_toldAt q_t_stack q_t_truths q_t_imaged q_t_namesKept q_t_areKept : Nat} {t_thrown : Int32} {t_length : Int32} {t_size : Int32} {t_p : Int32} {t_limit : Int32} {t_token : Int32} {t_at : Int32} {t_span : Int32} {t_number : Int32} {t_fault : Int32} {t_faultAt : Int32} {t_word : Int64} {t_got : Int32} {t_lines : Int32} {t_hasWait : Int32} {t_undoMany : Int32} {t_firstMinute : Int32} {t_lookClock : Int32} {t_hasTime : Int32} {t_latestMost : Int32} {t_textMany : Int32} {t_seed : Int32} {t_toldMany : Int32} {t_hasTold : Int32} {t_codes : Int32} {t_ones : Int32} {t_top : Int32} {t_deep : Int32} {t_isWhole : Int32} {t_s : Nat → Int32} {r : Int32} (S : CallFix p m c cX12_latestDue 7 s args wsX12_latestDue RX12) (hr : meth.sig.returnType = some .int) (hlocks : meth.locks = false) (hF : zF G cy E (va_A w0 s.heap.size) s) :
    ∀ (n : Nat) (x1 : Int32) (x2 : Int32) (x3 : Int32) (x4 : Int32) (H : Heap) (locs : List Loc) (ls : Array Slot), zH G (va_A w0 s.heap.size) s H locs (wd_X12_latestDue cy q_t q_t_tape q_t_s q_t_h q_t_read q_t_names q_t_reserved q_t_undone q_t_before q_t_comeRow q_t_shown q_t_text q_t_toldAt q_t_stack q_t_truths q_t_imaged q_t_namesKept q_t_areKept t_thrown t_length t_size t_p t_limit t_token t_at t_span t_number t_fault t_faultAt t_word t_got t_lines t_hasWait t_undoMany t_firstMinute t_lookClock t_hasTime t_latestMost t_textMany t_seed t_toldMany t_hasTold t_codes t_ones t_top t_deep t_isWhole t_s) → lv_has ls 7 [(0, .ref q_t), (1, .int x1), (2, .int x2), (3, .int x3), (4, .int x4)] → f_X12_latestDue_7 N t_s n x1 x2 x3 x4 = some r → W p l e rm_X12_latestDue s m args below meth c H locs 0 0 (MQ below (zQ G w0 (wd_X12_latestDue cy q_t q_t_tape q_t_s q_t_h q_t_read q_t_names q_t_reserved q_t_undone q_t_before q_t_comeRow q_t_shown q_t_text q_t_toldAt q_t_stack q_t_truths q_t_imaged q_t_namesKept q_t_areKept t_thrown t_length t_size t_p t_limit t_token t_at t_span t_number t_fault t_faultAt t_word t_got t_lines t_hasWait t_undoMany t_firstMinute t_lookClock t_hasTime t_latestMost t_textMany t_seed t_toldMany t_hasTold t_codes t_ones t_top t_deep t_isWhole t_s) s.heap.size (some (.int r))) args s 0 0 (va_A w0 s.heap.size)) (F0 m 7 ls []) := by
  obtain ⟨hx, hb, hml, hown, hts⟩ := id S
  intro n
  induction n with
  | zero =>
    intro x1 x2 x3 x4 H locs ls hH hl h
    rw [f_X12_latestDue_7] at h
    cases h
  | succ n ih =>
    intro x1 x2 x3 x4 H locs ls hH hl h
    rw [f_X12_latestDue_7] at h
    refine lv_iload hx hb dX12_latestDue_7 (lv_at hl 4 rfl) ?_
    refine lv_aload_n hx hb dX12_latestDue_9 rfl (lv_at hl 0 rfl) ?_
    refine z_get S hF hH iX12_latestDue_X12 0 rfl rfl 6 (by decide) (List.mem_of_getElem? (i := 1) rfl) rfl dX12_latestDue_10 ?_
    refine lv_iconst (v := 1) hx hb dX12_latestDue_13 (by decide) ?_
    refine z_iald (j := 1) S hF hH 1 rfl (by decide) rfl dX12_latestDue_14 ?_
    refine lv_icmp_ge (tgt := 106) hx hb dX12_latestDue_15 (by decide) (fun b15 => ?_) (fun b15 => ?_)
    · replace h := zif_t b15 h
      refine lv_iload_n hx hb dX12_latestDue_106 rfl (lv_at hl 3 rfl) ?_
      cases h
      exact z_iret S hr hlocks hH dX12_latestDue_107
    · replace h := zif_f b15 h
      refine lv_aload_n hx hb dX12_latestDue_18 rfl (lv_at hl 0 rfl) ?_
      refine lv_iload hx hb dX12_latestDue_19 (lv_at hl 4 rfl) ?_
      refine lv_iload_n hx hb dX12_latestDue_21 rfl (lv_at hl 1 rfl) ?_
      obtain ⟨z22, hz22, h⟩ := zcl_e h
      refine z_callV (As := [.int x4, .int x1]) (rest := []) (st1 := [.int z22]) (ws' := (wd_X12_latestDue cy q_t q_t_tape q_t_s q_t_h q_t_read q_t_names q_t_reserved q_t_undone q_t_before q_t_comeRow q_t_shown q_t_text q_t_toldAt q_t_stack q_t_truths q_t_imaged q_t_namesKept q_t_areKept t_thrown t_length t_size t_p t_limit t_token t_at t_span t_number t_fault t_faultAt t_word t_got t_lines t_hasWait t_undoMany t_firstMinute t_lookClock t_hasTime t_latestMost t_textMany t_seed t_toldMany t_hasTold t_codes t_ones t_top t_deep t_isWhole t_s)) S hF hH (c_X12_isDueTo l G cy E N q_t q_t_tape q_t_s q_t_h q_t_read q_t_names q_t_reserved q_t_undone q_t_before q_t_comeRow q_t_shown q_t_text q_t_toldAt q_t_stack q_t_truths q_t_imaged q_t_namesKept q_t_areKept t_thrown t_length t_size t_p t_limit t_token t_at t_span t_number t_fault t_faultAt t_word t_got t_lines t_hasWait t_undoMany t_firstMinute t_lookClock t_hasTime t_latestMost t_textMany t_seed t_toldMany t_hasTold t_codes t_ones t_top t_deep t_isWhole t_s x4 x1 z22 hz22) (cwV 2 hts gX12_latestDue_X12_isDueTo rfl rfl rfl (by decide +kernel) ⟨Nat.le_of_ble_eq_true rfl, Nat.le_of_ble_eq_true rfl⟩) 13 0 rfl rfl [0, 1] rfl (by decide) rfl rfl rfl rfl rfl hl.1 (Nat.le_of_ble_eq_true rfl) dX12_latestDue_22 ⟨Nat.le_of_ble_eq_true rfl, Nat.le_of_ble_eq_true rfl⟩ (fun H locs hH => ?_)
      refine lv_if_ne (tgt := 31) hx hb dX12_latestDue_25 (by decide) (fun b25 => ?_) (fun b25 => ?_)
      · replace h := zif_f b25 h
        refine lv_ldcw (v := (-1000000)) hx hb hown (hts _ (List.mem_of_getElem? (i := 2) rfl)) dX12_latestDue_31 ?_
        refine lv_istore (lv' := [(5, .int (-1000000)), (0, .ref q_t), (1, .int x1), (2, .int x2), (3, .int x3), (4, .int x4)]) hx hb dX12_latestDue_34 hl (by decide) rfl (fun ls hl => ?_)
        refine lv_iconst (v := 0) hx hb dX12_latestDue_36 (by decide) ?_
        refine lv_istore (lv' := [(6, .int 0), (5, .int (-1000000)), (0, .ref q_t), (1, .int x1), (2, .int x2), (3, .int x3), (4, .int x4)]) hx hb dX12_latestDue_37 hl (by decide) rfl (fun ls hl => ?_)
        exact w_X12_latestDue_39 S hr hlocks hF ih N x1 x2 x3 x4 (-1000000) 0 _ _ _ hH (lv_sub hl [2, 3, 4, 5, 6, 1, 0] rfl) h
      · replace h := zif_t b25 h
        refine lv_goto (tgt := 100) hx hb dX12_latestDue_28 (by decide) ?_
        obtain ⟨y1, ey1, h⟩ := zbn_e h
        refine lv_iinc (v := y1) (lv' := [(4, .int y1), (0, .ref q_t), (1, .int x1), (2, .int x2), (3, .int x3)]) hx hb dX12_latestDue_100 hl (k := 4) rfl (by rw [ey1]; exact congrArg (fun z => x4 + z) (by decide)) (by decide) rfl (fun ls hl => ?_)
        clear ey1
        refine lv_goto (tgt := 7) hx hb dX12_latestDue_103 (by decide) ?_
        exact ih x1 x2 x3 y1 _ _ _ hH (lv_sub hl [1, 2, 3, 4, 0] rfl) h
set_option maxHeartbeats 4000000 in
set_option maxRecDepth 100000 in
theorem c_X12_latestDue (l : Launch) (G : va_G) (cy : Nat → ClassId) (E : Nat → Nat) (N : Nat) (q_t q_t_tape q_t_s q_t_h q_t_read q_t_names q_t_reserved q_t_undone q_t_before q_t_comeRow q_t_shown q_t_text q_t_toldAt q_t_stack q_t_truths q_t_imaged q_t_namesKept q_t_areKept : Nat) (t_thrown : Int32) (t_length : Int32) (t_size : Int32) (t_p : Int32) (t_limit : Int32) (t_token : Int32) (t_at : Int32) (t_span : Int32) (t_number : Int32) (t_fault : Int32) (t_faultAt : Int32) (t_word : Int64) (t_got : Int32) (t_lines : Int32) (t_hasWait : Int32) (t_undoMany : Int32) (t_firstMinute : Int32) (t_lookClock : Int32) (t_hasTime : Int32) (t_latestMost : Int32) (t_textMany : Int32) (t_seed : Int32) (t_toldMany : Int32) (t_hasTold : Int32) (t_codes : Int32) (t_ones : Int32) (t_top : Int32) (t_deep : Int32) (t_isWhole : Int32) (t_s : Nat → Int32) (x0 : Int32) (x1 : Int32) (r : Int32) (h : f_X12_latestDue N x0 x1 t_s = some r) : zM l G cy E yX12_latestDue wsX12_latestDue rm_X12_latestDue [.ref q_t, .int x0, .int x1] (wd_X12_latestDue cy q_t q_t_tape q_t_s q_t_h q_t_read q_t_names q_t_reserved q_t_undone q_t_before q_t_comeRow q_t_shown q_t_text q_t_toldAt q_t_stack q_t_truths q_t_imaged q_t_namesKept q_t_areKept t_thrown t_length t_size t_p t_limit t_token t_at t_span t_number t_fault t_faultAt t_word t_got t_lines t_hasWait t_undoMany t_firstMinute t_lookClock t_hasTime t_latestMost t_textMany t_seed t_toldMany t_hasTold t_codes t_ones t_top t_deep t_isWhole t_s) (wd_X12_latestDue cy q_t q_t_tape q_t_s q_t_h q_t_read q_t_names q_t_reserved q_t_undone q_t_before q_t_comeRow q_t_shown q_t_text q_t_toldAt q_t_stack q_t_truths q_t_imaged q_t_namesKept q_t_areKept t_thrown t_length t_size t_p t_limit t_token t_at t_span t_number t_fault t_faultAt t_word t_got t_lines t_hasWait t_undoMany t_firstMinute t_lookClock t_hasTime t_latestMost t_textMany t_seed t_toldMany t_hasTold t_codes t_ones t_top t_deep t_isWhole t_s) (some (.int r)) 0 0 := by
  refine z_body (cc := cX12_latestDue) (maxL := 7) (ret := some .int) (by decide) rfl (Nat.le_of_ble_eq_true rfl) ?_
  intro p e s m below meth c ls S hr hlocks hnm hF hH hl
  have S : CallFix p m c cX12_latestDue 7 s ([.ref q_t, .int x0, .int x1] : List Value).toArray wsX12_latestDue RX12 := S
  obtain ⟨hx, hb, hml, hown, hts⟩ := id S
  have hl : lv_has ls 7 [(0, .ref q_t), (1, .int x0), (2, .int x1)] := hl
  rw [f_X12_latestDue] at h
  refine lv_sipush (v := 1999) hx hb dX12_latestDue_0 (by decide) ?_
  refine lv_istore_n (lv' := [(3, .int 1999), (0, .ref q_t), (1, .int x0), (2, .int x1)]) hx hb dX12_latestDue_3 rfl hl (by decide) rfl (fun ls hl => ?_)
  refine lv_iconst (v := 0) hx hb dX12_latestDue_4 (by decide) ?_
  refine lv_istore (lv' := [(4, .int 0), (3, .int 1999), (0, .ref q_t), (1, .int x0), (2, .int x1)]) hx hb dX12_latestDue_5 hl (by decide) rfl (fun ls hl => ?_)
  exact w_X12_latestDue_7 S hr hlocks hF N x0 x1 1999 0 _ _ _ hH (lv_sub hl [2, 3, 4, 1, 0] rfl) h
abbrev wd_X12_plan (cy : Nat → ClassId) (q_t q_t_tape q_t_s q_t_h q_t_read q_t_names q_t_reserved q_t_undone q_t_before q_t_comeRow q_t_shown q_t_text q_t_toldAt q_t_stack q_t_truths q_t_imaged q_t_namesKept q_t_areKept : Nat) (t_thrown : Int32) (t_length : Int32) (t_size : Int32) (t_p : Int32) (t_limit : Int32) (t_token : Int32) (t_at : Int32) (t_span : Int32) (t_number : Int32) (t_fault : Int32) (t_faultAt : Int32) (t_word : Int64) (t_got : Int32) (t_lines : Int32) (t_hasWait : Int32) (t_undoMany : Int32) (t_firstMinute : Int32) (t_lookClock : Int32) (t_hasTime : Int32) (t_latestMost : Int32) (t_textMany : Int32) (t_seed : Int32) (t_toldMany : Int32) (t_hasTold : Int32) (t_codes : Int32) (t_ones : Int32) (t_top : Int32) (t_deep : Int32) (t_isWhole : Int32) (t_s : Nat → Int32) (t_before : Nat → Int32) (t_comeRow : Nat → Int32) : va_W := [(q_t, .inr (13, [.int t_thrown, .ref q_t_tape, .int t_length, .int t_size, .int t_p, .int t_limit, .ref q_t_s, .ref q_t_h, .ref q_t_read, .ref q_t_names, .ref q_t_reserved, .int t_token, .int t_at, .int t_span, .int t_number, .int t_fault, .int t_faultAt, .long t_word, .int t_got, .int t_lines, .int t_hasWait, .ref q_t_undone, .ref q_t_before, .int t_undoMany, .ref q_t_comeRow, .int t_firstMinute, .int t_lookClock, .int t_hasTime, .ref q_t_shown, .int t_latestMost, .ref q_t_text, .int t_textMany, .int t_seed, .int t_toldMany, .ref q_t_toldAt, .int t_hasTold, .ref q_t_stack, .int t_codes, .int t_ones, .int t_top, .int t_deep, .int t_isWhole, .ref q_t_truths, .ref q_t_imaged, .ref q_t_namesKept, .ref q_t_areKept])), (q_t_s, .inl (cy 1, 334, .inl t_s)), (q_t_before, .inl (cy 1, 101, .inl t_before)), (q_t_comeRow, .inl (cy 1, 6, .inl t_comeRow))]
theorem iX12_plan_X12 : ∀ w ∈ wsX120, w ∈ wsX12_plan := fun _ h => List.mem_cons_of_mem _ (List.mem_append_right _ h)
abbrev rm_X12_plan : Room := { frames := 7, cells := 0, slots := 0, locals := 155 }
set_option maxRecDepth 100000 in
def f_X12_plan_123 (N : Nat) (x1 : Int32) (x3 : Int32) (x4 : Int32) (c_t_thrown : Int32) (c_t_s : Nat → Int32) (c_t_before : Nat → Int32) (c_t_comeRow : Nat → Int32) : Option (Int32 × Int32 × (Nat → Int32) × (Nat → Int32) × (Nat → Int32)) := zck (zin (75 + x1) 334) <| zbn (upd c_t_s (Int32.toNatClampNeg (75 + x1)) x3) fun f1 => some (x4, c_t_thrown, f1, c_t_before, c_t_comeRow)
set_option maxRecDepth 100000 in
def f_X12_plan_69 (N : Nat) : Nat → Int32 → Int32 → Int32 → Int32 → Int32 → Int32 → (Nat → Int32) → (Nat → Int32) → (Nat → Int32) → (Option (Int32 × Int32 × (Nat → Int32) × (Nat → Int32) × (Nat → Int32)))
  | 0, _, _, _, _, _, _, _, _, _ => none
  | n + 1, x1, x2, x3, x4, x5, c_t_thrown, c_t_s, c_t_before, c_t_comeRow => if x5 ≤ (c_t_s 52) then (f_X12_plan_123 N x1 x3 x4 c_t_thrown c_t_s c_t_before c_t_comeRow) else (if 0 ≤ x4 then (f_X12_plan_123 N x1 x3 x4 c_t_thrown c_t_s c_t_before c_t_comeRow) else (zck (zin (75 + x1) 334) <| zbn (upd c_t_s (Int32.toNatClampNeg (75 + x1)) x5) fun f1 => zcl (f_X12_laysCome N x1 (x2 + 1) f1 c_t_before c_t_comeRow) fun z102 => zcl (f_X12_lastOf N x1 z102.1 z102.2.2) fun z107 => if z107 < 0 then (zbn (x5 + (-1)) fun y2 => f_X12_plan_69 N n x1 x2 x3 x4 y2 c_t_thrown z102.1 z102.2.1 z102.2.2) else (zbn (x5 + (-1)) fun y3 => f_X12_plan_69 N n x1 x2 x3 x5 y3 c_t_thrown z102.1 z102.2.1 z102.2.2)))
set_option maxRecDepth 100000 in
def f_X12_plan (N : Nat) (x0 : Int32) (x1 : Int32) (t_thrown : Int32) (t_s : Nat → Int32) (t_before : Nat → Int32) (t_comeRow : Nat → Int32) : Option (Int32 × Int32 × (Nat → Int32) × (Nat → Int32) × (Nat → Int32)) := zcl (f_X12_isMeet N x0 t_s) fun z7 => if z7 = 0 then (some ((-1), 0, t_s, t_before, t_comeRow)) else (zcl (f_X12_isIn N x1 0 240) fun z18 => if z18 = 0 then (some ((-1), 0, t_s, t_before, t_comeRow)) else (zck (zin (46 + x0) 334) <| if (t_s (Int32.toNatClampNeg (46 + x0))) = 0 then (some ((-1), 0, t_s, t_before, t_comeRow)) else (zcl (f_X12_rowOf N 81 x0 t_s) fun z40 => if z40 = 0 then (zck (zin (75 + x0) 334) <| zbn ((t_s (Int32.toNatClampNeg (75 + x0)))) fun y1 => zcl (f_X12_latestDue N x0 x1 t_s) fun z64 => f_X12_plan_69 N N x0 x1 y1 (-1) z64 0 t_s t_before t_comeRow) else (some ((-1), 0, t_s, t_before, t_comeRow)))))
set_option maxHeartbeats 4000000 in
set_option maxRecDepth 100000 in
theorem w_X12_plan_123 {p : Program} {l : Launch} {e : Env} {s : State} {m : MethodId} {args : Array Value} {below : List Frame} {meth : Method} {c : Code} {G : va_G} {cy : Nat → ClassId} {E : Nat → Nat} {w0 : va_W} {N : Nat} {q_t q_t_tape q_t_s q_t_h q_t_read q_t_names q_t_reserved q_t_undone q_t_before q_t_comeRow q_t_shown q_t_text q_t_toldAt q_t_stack q_t_truths q_t_imaged q_t_namesKept q_t_areKept : Nat} {t_length : Int32} {t_size : Int32} {t_p : Int32} {t_limit : Int32} {t_token : Int32} {t_at : Int32} {t_span : Int32} {t_number : Int32} {t_fault : Int32} {t_faultAt : Int32} {t_word : Int64} {t_got : Int32} {t_lines : Int32} {t_hasWait : Int32} {t_undoMany : Int32} {t_firstMinute : Int32} {t_lookClock : Int32} {t_hasTime : Int32} {t_latestMost : Int32} {t_textMany : Int32} {t_seed : Int32} {t_toldMany : Int32} {t_hasTold : Int32} {t_codes : Int32} {t_ones : Int32} {t_top : Int32} {t_deep : Int32} {t_isWhole : Int32} {r : Int32} {r_t_thrown : Int32} {r_t_s : Nat → Int32} {r_t_before : Nat → Int32} {r_t_comeRow : Nat → Int32} (S : CallFix p m c cX12_plan 6 s args wsX12_plan RX12) (hr : meth.sig.returnType = some .int) (hlocks : meth.locks = false) (hF : zF G cy E (va_A w0 s.heap.size) s) :
    ∀ (x1 : Int32) (x3 : Int32) (x4 : Int32) (c_t_thrown : Int32) (c_t_s : Nat → Int32) (c_t_before : Nat → Int32) (c_t_comeRow : Nat → Int32) (H : Heap) (locs : List Loc) (ls : Array Slot), zH G (va_A w0 s.heap.size) s H locs (wd_X12_plan cy q_t q_t_tape q_t_s q_t_h q_t_read q_t_names q_t_reserved q_t_undone q_t_before q_t_comeRow q_t_shown q_t_text q_t_toldAt q_t_stack q_t_truths q_t_imaged q_t_namesKept q_t_areKept c_t_thrown t_length t_size t_p t_limit t_token t_at t_span t_number t_fault t_faultAt t_word t_got t_lines t_hasWait t_undoMany t_firstMinute t_lookClock t_hasTime t_latestMost t_textMany t_seed t_toldMany t_hasTold t_codes t_ones t_top t_deep t_isWhole c_t_s c_t_before c_t_comeRow) → lv_has ls 6 [(0, .ref q_t), (1, .int x1), (3, .int x3), (4, .int x4)] → f_X12_plan_123 N x1 x3 x4 c_t_thrown c_t_s c_t_before c_t_comeRow = some (r, r_t_thrown, r_t_s, r_t_before, r_t_comeRow) → W p l e rm_X12_plan s m args below meth c H locs 0 0 (MQ below (zQ G w0 (wd_X12_plan cy q_t q_t_tape q_t_s q_t_h q_t_read q_t_names q_t_reserved q_t_undone q_t_before q_t_comeRow q_t_shown q_t_text q_t_toldAt q_t_stack q_t_truths q_t_imaged q_t_namesKept q_t_areKept r_t_thrown t_length t_size t_p t_limit t_token t_at t_span t_number t_fault t_faultAt t_word t_got t_lines t_hasWait t_undoMany t_firstMinute t_lookClock t_hasTime t_latestMost t_textMany t_seed t_toldMany t_hasTold t_codes t_ones t_top t_deep t_isWhole r_t_s r_t_before r_t_comeRow) s.heap.size (some (.int r))) args s 0 0 (va_A w0 s.heap.size)) (F0 m 123 ls []) := by
  obtain ⟨hx, hb, hml, hown, hts⟩ := id S
  intro x1 x3 x4 c_t_thrown c_t_s c_t_before c_t_comeRow H locs ls hH hl h
  rw [f_X12_plan_123] at h
  refine lv_aload_n hx hb dX12_plan_123 rfl (lv_at hl 0 rfl) ?_
  refine z_get S hF hH iX12_plan_X12 0 rfl rfl 6 (by decide) (List.mem_of_getElem? (i := 2) rfl) rfl dX12_plan_124 ?_
  refine lv_bipush (v := 75) hx hb dX12_plan_127 (by decide) ?_
  refine lv_iload_n hx hb dX12_plan_129 rfl (lv_at hl 1 rfl) ?_
  refine lv_iadd hx hb dX12_plan_130 ?_
  refine lv_iload_n hx hb dX12_plan_131 rfl (lv_at hl 2 rfl) ?_
  obtain ⟨h132, h⟩ := zck_e h
  obtain ⟨f1, ef1, h⟩ := zbn_e h
  refine z_iast (ws' := (wd_X12_plan cy q_t q_t_tape q_t_s q_t_h q_t_read q_t_names q_t_reserved q_t_undone q_t_before q_t_comeRow q_t_shown q_t_text q_t_toldAt q_t_stack q_t_truths q_t_imaged q_t_namesKept q_t_areKept c_t_thrown t_length t_size t_p t_limit t_token t_at t_span t_number t_fault t_faultAt t_word t_got t_lines t_hasWait t_undoMany t_firstMinute t_lookClock t_hasTime t_latestMost t_textMany t_seed t_toldMany t_hasTold t_codes t_ones t_top t_deep t_isWhole f1 c_t_before c_t_comeRow)) (j := (Int32.toNatClampNeg (75 + x1))) S hF hH 1 rfl h132 rfl (by rw [ef1]; rfl) dX12_plan_132 (fun H locs hH => ?_)
  clear ef1
  refine lv_iload hx hb dX12_plan_133 (lv_at hl 3 rfl) ?_
  cases h
  exact z_iret S hr hlocks hH dX12_plan_135
set_option maxHeartbeats 4000000 in
set_option maxRecDepth 100000 in
theorem w_X12_plan_69 {p : Program} {l : Launch} {e : Env} {s : State} {m : MethodId} {args : Array Value} {below : List Frame} {meth : Method} {c : Code} {G : va_G} {cy : Nat → ClassId} {E : Nat → Nat} {w0 : va_W} {N : Nat} {q_t q_t_tape q_t_s q_t_h q_t_read q_t_names q_t_reserved q_t_undone q_t_before q_t_comeRow q_t_shown q_t_text q_t_toldAt q_t_stack q_t_truths q_t_imaged q_t_namesKept q_t_areKept : Nat} {t_length : Int32} {t_size : Int32} {t_p : Int32} {t_limit : Int32} {t_token : Int32} {t_at : Int32} {t_span : Int32} {t_number : Int32} {t_fault : Int32} {t_faultAt : Int32} {t_word : Int64} {t_got : Int32} {t_lines : Int32} {t_hasWait : Int32} {t_undoMany : Int32} {t_firstMinute : Int32} {t_lookClock : Int32} {t_hasTime : Int32} {t_latestMost : Int32} {t_textMany : Int32} {t_seed : Int32} {t_toldMany : Int32} {t_hasTold : Int32} {t_codes : Int32} {t_ones : Int32} {t_top : Int32} {t_deep : Int32} {t_isWhole : Int32} {r : Int32} {r_t_thrown : Int32} {r_t_s : Nat → Int32} {r_t_before : Nat → Int32} {r_t_comeRow : Nat → Int32} (S : CallFix p m c cX12_plan 6 s args wsX12_plan RX12) (hr : meth.sig.returnType = some .int) (hlocks : meth.locks = false) (hF : zF G cy E (va_A w0 s.heap.size) s) :
    ∀ (n : Nat) (x1 : Int32) (x2 : Int32) (x3 : Int32) (x4 : Int32) (x5 : Int32) (c_t_thrown : Int32) (c_t_s : Nat → Int32) (c_t_before : Nat → Int32) (c_t_comeRow : Nat → Int32) (H : Heap) (locs : List Loc) (ls : Array Slot), zH G (va_A w0 s.heap.size) s H locs (wd_X12_plan cy q_t q_t_tape q_t_s q_t_h q_t_read q_t_names q_t_reserved q_t_undone q_t_before q_t_comeRow q_t_shown q_t_text q_t_toldAt q_t_stack q_t_truths q_t_imaged q_t_namesKept q_t_areKept c_t_thrown t_length t_size t_p t_limit t_token t_at t_span t_number t_fault t_faultAt t_word t_got t_lines t_hasWait t_undoMany t_firstMinute t_lookClock t_hasTime t_latestMost t_textMany t_seed t_toldMany t_hasTold t_codes t_ones t_top t_deep t_isWhole c_t_s c_t_before c_t_comeRow) → lv_has ls 6 [(0, .ref q_t), (1, .int x1), (2, .int x2), (3, .int x3), (4, .int x4), (5, .int x5)] → f_X12_plan_69 N n x1 x2 x3 x4 x5 c_t_thrown c_t_s c_t_before c_t_comeRow = some (r, r_t_thrown, r_t_s, r_t_before, r_t_comeRow) → W p l e rm_X12_plan s m args below meth c H locs 0 0 (MQ below (zQ G w0 (wd_X12_plan cy q_t q_t_tape q_t_s q_t_h q_t_read q_t_names q_t_reserved q_t_undone q_t_before q_t_comeRow q_t_shown q_t_text q_t_toldAt q_t_stack q_t_truths q_t_imaged q_t_namesKept q_t_areKept r_t_thrown t_length t_size t_p t_limit t_token t_at t_span t_number t_fault t_faultAt t_word t_got t_lines t_hasWait t_undoMany t_firstMinute t_lookClock t_hasTime t_latestMost t_textMany t_seed t_toldMany t_hasTold t_codes t_ones t_top t_deep t_isWhole r_t_s r_t_before r_t_comeRow) s.heap.size (some (.int r))) args s 0 0 (va_A w0 s.heap.size)) (F0 m 69 ls []) := by
  obtain ⟨hx, hb, hml, hown, hts⟩ := id S
  intro n
  induction n with
  | zero =>
    intro x1 x2 x3 x4 x5 c_t_thrown c_t_s c_t_before c_t_comeRow H locs ls hH hl h
    rw [f_X12_plan_69] at h
    cases h
  | succ n ih =>
    intro x1 x2 x3 x4 x5 c_t_thrown c_t_s c_t_before c_t_comeRow H locs ls hH hl h
    rw [f_X12_plan_69] at h
    refine lv_iload hx hb dX12_plan_69 (lv_at hl 5 rfl) ?_
    refine lv_aload_n hx hb dX12_plan_71 rfl (lv_at hl 0 rfl) ?_
    refine z_get S hF hH iX12_plan_X12 0 rfl rfl 6 (by decide) (List.mem_of_getElem? (i := 2) rfl) rfl dX12_plan_72 ?_
    refine lv_bipush (v := 52) hx hb dX12_plan_75 (by decide) ?_
    refine z_iald (j := 52) S hF hH 1 rfl (by decide) rfl dX12_plan_77 ?_
    refine lv_icmp_le (tgt := 123) hx hb dX12_plan_78 (by decide) (fun b78 => ?_) (fun b78 => ?_)
    · replace h := zif_t b78 h
      exact w_X12_plan_123 S hr hlocks hF x1 x3 x4 c_t_thrown c_t_s c_t_before c_t_comeRow _ _ _ hH (lv_sub hl [0, 1, 3, 4] rfl) h
    · replace h := zif_f b78 h
      refine lv_iload hx hb dX12_plan_81 (lv_at hl 4 rfl) ?_
      refine lv_if_ge (tgt := 123) hx hb dX12_plan_83 (by decide) (fun b83 => ?_) (fun b83 => ?_)
      · replace h := zif_t b83 h
        exact w_X12_plan_123 S hr hlocks hF x1 x3 x4 c_t_thrown c_t_s c_t_before c_t_comeRow _ _ _ hH (lv_sub hl [0, 1, 3, 4] rfl) h
      · replace h := zif_f b83 h
        refine lv_aload_n hx hb dX12_plan_86 rfl (lv_at hl 0 rfl) ?_
        refine z_get S hF hH iX12_plan_X12 0 rfl rfl 6 (by decide) (List.mem_of_getElem? (i := 2) rfl) rfl dX12_plan_87 ?_
        refine lv_bipush (v := 75) hx hb dX12_plan_90 (by decide) ?_
        refine lv_iload_n hx hb dX12_plan_92 rfl (lv_at hl 1 rfl) ?_
        refine lv_iadd hx hb dX12_plan_93 ?_
        refine lv_iload hx hb dX12_plan_94 (lv_at hl 5 rfl) ?_
        obtain ⟨h96, h⟩ := zck_e h
        obtain ⟨f1, ef1, h⟩ := zbn_e h
        refine z_iast (ws' := (wd_X12_plan cy q_t q_t_tape q_t_s q_t_h q_t_read q_t_names q_t_reserved q_t_undone q_t_before q_t_comeRow q_t_shown q_t_text q_t_toldAt q_t_stack q_t_truths q_t_imaged q_t_namesKept q_t_areKept c_t_thrown t_length t_size t_p t_limit t_token t_at t_span t_number t_fault t_faultAt t_word t_got t_lines t_hasWait t_undoMany t_firstMinute t_lookClock t_hasTime t_latestMost t_textMany t_seed t_toldMany t_hasTold t_codes t_ones t_top t_deep t_isWhole f1 c_t_before c_t_comeRow)) (j := (Int32.toNatClampNeg (75 + x1))) S hF hH 1 rfl h96 rfl (by rw [ef1]; rfl) dX12_plan_96 (fun H locs hH => ?_)
        clear ef1
        refine lv_aload_n hx hb dX12_plan_97 rfl (lv_at hl 0 rfl) ?_
        refine lv_iload_n hx hb dX12_plan_98 rfl (lv_at hl 1 rfl) ?_
        refine lv_iload_n hx hb dX12_plan_99 rfl (lv_at hl 2 rfl) ?_
        refine lv_iconst (v := 1) hx hb dX12_plan_100 (by decide) ?_
        refine lv_iadd hx hb dX12_plan_101 ?_
        obtain ⟨z102, hz102, h⟩ := zcl_e h
        refine z_callV (As := [.int x1, .int (x2 + 1)]) (rest := []) (st1 := []) (ws' := (wd_X12_plan cy q_t q_t_tape q_t_s q_t_h q_t_read q_t_names q_t_reserved q_t_undone q_t_before q_t_comeRow q_t_shown q_t_text q_t_toldAt q_t_stack q_t_truths q_t_imaged q_t_namesKept q_t_areKept c_t_thrown t_length t_size t_p t_limit t_token t_at t_span t_number t_fault t_faultAt t_word t_got t_lines t_hasWait t_undoMany t_firstMinute t_lookClock t_hasTime t_latestMost t_textMany t_seed t_toldMany t_hasTold t_codes t_ones t_top t_deep t_isWhole z102.1 z102.2.1 z102.2.2)) S hF hH (c_X12_laysCome l G cy E N q_t q_t_tape q_t_s q_t_h q_t_read q_t_names q_t_reserved q_t_undone q_t_before q_t_comeRow q_t_shown q_t_text q_t_toldAt q_t_stack q_t_truths q_t_imaged q_t_namesKept q_t_areKept c_t_thrown t_length t_size t_p t_limit t_token t_at t_span t_number t_fault t_faultAt t_word t_got t_lines t_hasWait t_undoMany t_firstMinute t_lookClock t_hasTime t_latestMost t_textMany t_seed t_toldMany t_hasTold t_codes t_ones t_top t_deep t_isWhole f1 c_t_before c_t_comeRow x1 (x2 + 1) z102.1 z102.2.1 z102.2.2 hz102) (cwV 2 hts gX12_plan_X12_laysCome rfl rfl rfl (by decide +kernel) ⟨Nat.le_of_ble_eq_true rfl, Nat.le_of_ble_eq_true rfl⟩) 13 0 rfl rfl [0, 1, 2, 3] rfl (by decide) rfl rfl rfl rfl rfl hl.1 (Nat.le_of_ble_eq_true rfl) dX12_plan_102 ⟨Nat.le_of_ble_eq_true rfl, Nat.le_of_ble_eq_true rfl⟩ (fun H locs hH => ?_)
        refine lv_aload_n hx hb dX12_plan_105 rfl (lv_at hl 0 rfl) ?_
        refine lv_iload_n hx hb dX12_plan_106 rfl (lv_at hl 1 rfl) ?_
        obtain ⟨z107, hz107, h⟩ := zcl_e h
        refine z_callV (As := [.int x1]) (rest := []) (st1 := [.int z107]) (ws' := (wd_X12_plan cy q_t q_t_tape q_t_s q_t_h q_t_read q_t_names q_t_reserved q_t_undone q_t_before q_t_comeRow q_t_shown q_t_text q_t_toldAt q_t_stack q_t_truths q_t_imaged q_t_namesKept q_t_areKept c_t_thrown t_length t_size t_p t_limit t_token t_at t_span t_number t_fault t_faultAt t_word t_got t_lines t_hasWait t_undoMany t_firstMinute t_lookClock t_hasTime t_latestMost t_textMany t_seed t_toldMany t_hasTold t_codes t_ones t_top t_deep t_isWhole z102.1 z102.2.1 z102.2.2)) S hF hH (c_X12_lastOf l G cy E N q_t q_t_tape q_t_s q_t_h q_t_read q_t_names q_t_reserved q_t_undone q_t_before q_t_comeRow q_t_shown q_t_text q_t_toldAt q_t_stack q_t_truths q_t_imaged q_t_namesKept q_t_areKept c_t_thrown t_length t_size t_p t_limit t_token t_at t_span t_number t_fault t_faultAt t_word t_got t_lines t_hasWait t_undoMany t_firstMinute t_lookClock t_hasTime t_latestMost t_textMany t_seed t_toldMany t_hasTold t_codes t_ones t_top t_deep t_isWhole z102.1 z102.2.2 x1 z107 hz107) (cwV 1 hts gX12_plan_X12_lastOf rfl rfl rfl (by decide +kernel) ⟨Nat.le_of_ble_eq_true rfl, Nat.le_of_ble_eq_true rfl⟩) 13 0 rfl rfl [0, 1, 3] rfl (by decide) rfl rfl rfl rfl rfl hl.1 (Nat.le_of_ble_eq_true rfl) dX12_plan_107 ⟨Nat.le_of_ble_eq_true rfl, Nat.le_of_ble_eq_true rfl⟩ (fun H locs hH => ?_)
        refine lv_if_lt (tgt := 117) hx hb dX12_plan_110 (by decide) (fun b110 => ?_) (fun b110 => ?_)
        · replace h := zif_t b110 h
          obtain ⟨y2, ey2, h⟩ := zbn_e h
          refine lv_iinc (v := y2) (lv' := [(5, .int y2), (0, .ref q_t), (1, .int x1), (2, .int x2), (3, .int x3), (4, .int x4)]) hx hb dX12_plan_117 hl (k := 5) rfl (by rw [ey2]; exact congrArg (fun z => x5 + z) (by decide)) (by decide) rfl (fun ls hl => ?_)
          clear ey2
          refine lv_goto (tgt := 69) hx hb dX12_plan_120 (by decide) ?_
          exact ih x1 x2 x3 x4 y2 c_t_thrown z102.1 z102.2.1 z102.2.2 _ _ _ hH (lv_sub hl [1, 2, 3, 4, 5, 0] rfl) h
        · replace h := zif_f b110 h
          refine lv_iload hx hb dX12_plan_113 (lv_at hl 5 rfl) ?_
          refine lv_istore (lv' := [(4, .int x5), (0, .ref q_t), (1, .int x1), (2, .int x2), (3, .int x3), (5, .int x5)]) hx hb dX12_plan_115 hl (by decide) rfl (fun ls hl => ?_)
          obtain ⟨y3, ey3, h⟩ := zbn_e h
          refine lv_iinc (v := y3) (lv' := [(5, .int y3), (4, .int x5), (0, .ref q_t), (1, .int x1), (2, .int x2), (3, .int x3)]) hx hb dX12_plan_117 hl (k := 5) rfl (by rw [ey3]; exact congrArg (fun z => x5 + z) (by decide)) (by decide) rfl (fun ls hl => ?_)
          clear ey3
          refine lv_goto (tgt := 69) hx hb dX12_plan_120 (by decide) ?_
          exact ih x1 x2 x3 x5 y3 c_t_thrown z102.1 z102.2.1 z102.2.2 _ _ _ hH (lv_sub hl [2, 3, 4, 5, 1, 0] rfl) h
set_option maxHeartbeats 4000000 in
set_option maxRecDepth 100000 in
theorem c_X12_plan (l : Launch) (G : va_G) (cy : Nat → ClassId) (E : Nat → Nat) (N : Nat) (q_t q_t_tape q_t_s q_t_h q_t_read q_t_names q_t_reserved q_t_undone q_t_before q_t_comeRow q_t_shown q_t_text q_t_toldAt q_t_stack q_t_truths q_t_imaged q_t_namesKept q_t_areKept : Nat) (t_thrown : Int32) (t_length : Int32) (t_size : Int32) (t_p : Int32) (t_limit : Int32) (t_token : Int32) (t_at : Int32) (t_span : Int32) (t_number : Int32) (t_fault : Int32) (t_faultAt : Int32) (t_word : Int64) (t_got : Int32) (t_lines : Int32) (t_hasWait : Int32) (t_undoMany : Int32) (t_firstMinute : Int32) (t_lookClock : Int32) (t_hasTime : Int32) (t_latestMost : Int32) (t_textMany : Int32) (t_seed : Int32) (t_toldMany : Int32) (t_hasTold : Int32) (t_codes : Int32) (t_ones : Int32) (t_top : Int32) (t_deep : Int32) (t_isWhole : Int32) (t_s : Nat → Int32) (t_before : Nat → Int32) (t_comeRow : Nat → Int32) (x0 : Int32) (x1 : Int32) (r : Int32) (r_t_thrown : Int32) (r_t_s : Nat → Int32) (r_t_before : Nat → Int32) (r_t_comeRow : Nat → Int32) (h : f_X12_plan N x0 x1 t_thrown t_s t_before t_comeRow = some (r, r_t_thrown, r_t_s, r_t_before, r_t_comeRow)) : zM l G cy E yX12_plan wsX12_plan rm_X12_plan [.ref q_t, .int x0, .int x1] (wd_X12_plan cy q_t q_t_tape q_t_s q_t_h q_t_read q_t_names q_t_reserved q_t_undone q_t_before q_t_comeRow q_t_shown q_t_text q_t_toldAt q_t_stack q_t_truths q_t_imaged q_t_namesKept q_t_areKept t_thrown t_length t_size t_p t_limit t_token t_at t_span t_number t_fault t_faultAt t_word t_got t_lines t_hasWait t_undoMany t_firstMinute t_lookClock t_hasTime t_latestMost t_textMany t_seed t_toldMany t_hasTold t_codes t_ones t_top t_deep t_isWhole t_s t_before t_comeRow) (wd_X12_plan cy q_t q_t_tape q_t_s q_t_h q_t_read q_t_names q_t_reserved q_t_undone q_t_before q_t_comeRow q_t_shown q_t_text q_t_toldAt q_t_stack q_t_truths q_t_imaged q_t_namesKept q_t_areKept r_t_thrown t_length t_size t_p t_limit t_token t_at t_span t_number t_fault t_faultAt t_word t_got t_lines t_hasWait t_undoMany t_firstMinute t_lookClock t_hasTime t_latestMost t_textMany t_seed t_toldMany t_hasTold t_codes t_ones t_top t_deep t_isWhole r_t_s r_t_before r_t_comeRow) (some (.int r)) 0 0 := by
  refine z_body (cc := cX12_plan) (maxL := 6) (ret := some .int) (by decide) rfl (Nat.le_of_ble_eq_true rfl) ?_
  intro p e s m below meth c ls S hr hlocks hnm hF hH hl
  have S : CallFix p m c cX12_plan 6 s ([.ref q_t, .int x0, .int x1] : List Value).toArray wsX12_plan RX12 := S
  obtain ⟨hx, hb, hml, hown, hts⟩ := id S
  have hl : lv_has ls 6 [(0, .ref q_t), (1, .int x0), (2, .int x1)] := hl
  rw [f_X12_plan] at h
  refine lv_aload_n hx hb dX12_plan_0 rfl (lv_at hl 0 rfl) ?_
  refine lv_iconst (v := 0) hx hb dX12_plan_1 (by decide) ?_
  refine z_put (ws' := (wd_X12_plan cy q_t q_t_tape q_t_s q_t_h q_t_read q_t_names q_t_reserved q_t_undone q_t_before q_t_comeRow q_t_shown q_t_text q_t_toldAt q_t_stack q_t_truths q_t_imaged q_t_namesKept q_t_areKept 0 t_length t_size t_p t_limit t_token t_at t_span t_number t_fault t_faultAt t_word t_got t_lines t_hasWait t_undoMany t_firstMinute t_lookClock t_hasTime t_latestMost t_textMany t_seed t_toldMany t_hasTold t_codes t_ones t_top t_deep t_isWhole t_s t_before t_comeRow)) S hF hH iX12_plan_X12 tyX12 tyX12_ok nmX12 0 rfl rfl 0 (by decide) (List.mem_of_getElem? (i := 1) rfl) rfl rfl rfl (Nat.le_of_ble_eq_true rfl) rfl dX12_plan_2 (fun H locs hH => ?_)
  refine lv_aload_n hx hb dX12_plan_5 rfl (lv_at hl 0 rfl) ?_
  refine lv_iload_n hx hb dX12_plan_6 rfl (lv_at hl 1 rfl) ?_
  obtain ⟨z7, hz7, h⟩ := zcl_e h
  refine z_callV (As := [.int x0]) (rest := []) (st1 := [.int z7]) (ws' := (wd_X12_plan cy q_t q_t_tape q_t_s q_t_h q_t_read q_t_names q_t_reserved q_t_undone q_t_before q_t_comeRow q_t_shown q_t_text q_t_toldAt q_t_stack q_t_truths q_t_imaged q_t_namesKept q_t_areKept 0 t_length t_size t_p t_limit t_token t_at t_span t_number t_fault t_faultAt t_word t_got t_lines t_hasWait t_undoMany t_firstMinute t_lookClock t_hasTime t_latestMost t_textMany t_seed t_toldMany t_hasTold t_codes t_ones t_top t_deep t_isWhole t_s t_before t_comeRow)) S hF hH (c_X12_isMeet l G cy E N q_t q_t_tape q_t_s q_t_h q_t_read q_t_names q_t_reserved q_t_undone q_t_before q_t_comeRow q_t_shown q_t_text q_t_toldAt q_t_stack q_t_truths q_t_imaged q_t_namesKept q_t_areKept 0 t_length t_size t_p t_limit t_token t_at t_span t_number t_fault t_faultAt t_word t_got t_lines t_hasWait t_undoMany t_firstMinute t_lookClock t_hasTime t_latestMost t_textMany t_seed t_toldMany t_hasTold t_codes t_ones t_top t_deep t_isWhole t_s x0 z7 hz7) (cwV 1 hts gX12_plan_X12_isMeet rfl rfl rfl (by decide +kernel) ⟨Nat.le_of_ble_eq_true rfl, Nat.le_of_ble_eq_true rfl⟩) 13 0 rfl rfl [0, 1] rfl (by decide) rfl rfl rfl rfl rfl hl.1 (Nat.le_of_ble_eq_true rfl) dX12_plan_7 ⟨Nat.le_of_ble_eq_true rfl, Nat.le_of_ble_eq_true rfl⟩ (fun H locs hH => ?_)
  refine lv_if_eq (tgt := 46) hx hb dX12_plan_10 (by decide) (fun b10 => ?_) (fun b10 => ?_)
  · replace h := zif_t b10 h
    refine lv_iconst (v := (-1)) hx hb dX12_plan_46 (by decide) ?_
    cases h
    exact z_iret S hr hlocks hH dX12_plan_47
  · replace h := zif_f b10 h
    refine lv_iload_n hx hb dX12_plan_13 rfl (lv_at hl 2 rfl) ?_
    refine lv_iconst (v := 0) hx hb dX12_plan_14 (by decide) ?_
    refine lv_sipush (v := 240) hx hb dX12_plan_15 (by decide) ?_
    obtain ⟨z18, hz18, h⟩ := zcl_e h
    refine z_callS (As := [.int x1, .int 0, .int 240]) (rest := []) (st1 := [.int z18]) (ws' := (wd_X12_plan cy q_t q_t_tape q_t_s q_t_h q_t_read q_t_names q_t_reserved q_t_undone q_t_before q_t_comeRow q_t_shown q_t_text q_t_toldAt q_t_stack q_t_truths q_t_imaged q_t_namesKept q_t_areKept 0 t_length t_size t_p t_limit t_token t_at t_span t_number t_fault t_faultAt t_word t_got t_lines t_hasWait t_undoMany t_firstMinute t_lookClock t_hasTime t_latestMost t_textMany t_seed t_toldMany t_hasTold t_codes t_ones t_top t_deep t_isWhole t_s t_before t_comeRow)) S hF hH (c_X12_isIn l G cy E N x1 0 240 z18 hz18) (cwS 3 hts gX12_plan_X12_isIn rfl rfl rfl (by decide +kernel) ⟨Nat.le_of_ble_eq_true rfl, Nat.le_of_ble_eq_true rfl⟩) [] rfl (by decide) rfl rfl rfl rfl rfl hl.1 (Nat.le_of_ble_eq_true rfl) dX12_plan_18 ⟨Nat.le_of_ble_eq_true rfl, Nat.le_of_ble_eq_true rfl⟩ (fun H locs hH => ?_)
    refine lv_if_eq (tgt := 46) hx hb dX12_plan_21 (by decide) (fun b21 => ?_) (fun b21 => ?_)
    · replace h := zif_t b21 h
      refine lv_iconst (v := (-1)) hx hb dX12_plan_46 (by decide) ?_
      cases h
      exact z_iret S hr hlocks hH dX12_plan_47
    · replace h := zif_f b21 h
      refine lv_aload_n hx hb dX12_plan_24 rfl (lv_at hl 0 rfl) ?_
      refine z_get S hF hH iX12_plan_X12 0 rfl rfl 6 (by decide) (List.mem_of_getElem? (i := 2) rfl) rfl dX12_plan_25 ?_
      refine lv_bipush (v := 46) hx hb dX12_plan_28 (by decide) ?_
      refine lv_iload_n hx hb dX12_plan_30 rfl (lv_at hl 1 rfl) ?_
      refine lv_iadd hx hb dX12_plan_31 ?_
      obtain ⟨h32, h⟩ := zck_e h
      refine z_iald S hF hH 1 rfl h32 rfl dX12_plan_32 ?_
      refine lv_if_eq (tgt := 46) hx hb dX12_plan_33 (by decide) (fun b33 => ?_) (fun b33 => ?_)
      · replace h := zif_t b33 h
        refine lv_iconst (v := (-1)) hx hb dX12_plan_46 (by decide) ?_
        cases h
        exact z_iret S hr hlocks hH dX12_plan_47
      · replace h := zif_f b33 h
        refine lv_aload_n hx hb dX12_plan_36 rfl (lv_at hl 0 rfl) ?_
        refine lv_bipush (v := 81) hx hb dX12_plan_37 (by decide) ?_
        refine lv_iload_n hx hb dX12_plan_39 rfl (lv_at hl 1 rfl) ?_
        obtain ⟨z40, hz40, h⟩ := zcl_e h
        refine z_callV (As := [.int 81, .int x0]) (rest := []) (st1 := [.int z40]) (ws' := (wd_X12_plan cy q_t q_t_tape q_t_s q_t_h q_t_read q_t_names q_t_reserved q_t_undone q_t_before q_t_comeRow q_t_shown q_t_text q_t_toldAt q_t_stack q_t_truths q_t_imaged q_t_namesKept q_t_areKept 0 t_length t_size t_p t_limit t_token t_at t_span t_number t_fault t_faultAt t_word t_got t_lines t_hasWait t_undoMany t_firstMinute t_lookClock t_hasTime t_latestMost t_textMany t_seed t_toldMany t_hasTold t_codes t_ones t_top t_deep t_isWhole t_s t_before t_comeRow)) S hF hH (c_X12_rowOf l G cy E N q_t q_t_tape q_t_s q_t_h q_t_read q_t_names q_t_reserved q_t_undone q_t_before q_t_comeRow q_t_shown q_t_text q_t_toldAt q_t_stack q_t_truths q_t_imaged q_t_namesKept q_t_areKept 0 t_length t_size t_p t_limit t_token t_at t_span t_number t_fault t_faultAt t_word t_got t_lines t_hasWait t_undoMany t_firstMinute t_lookClock t_hasTime t_latestMost t_textMany t_seed t_toldMany t_hasTold t_codes t_ones t_top t_deep t_isWhole t_s 81 x0 z40 hz40) (cwV 2 hts gX12_plan_X12_rowOf rfl rfl rfl (by decide +kernel) ⟨Nat.le_of_ble_eq_true rfl, Nat.le_of_ble_eq_true rfl⟩) 13 0 rfl rfl [0, 1] rfl (by decide) rfl rfl rfl rfl rfl hl.1 (Nat.le_of_ble_eq_true rfl) dX12_plan_40 ⟨Nat.le_of_ble_eq_true rfl, Nat.le_of_ble_eq_true rfl⟩ (fun H locs hH => ?_)
        refine lv_if_eq (tgt := 48) hx hb dX12_plan_43 (by decide) (fun b43 => ?_) (fun b43 => ?_)
        · replace h := zif_t b43 h
          refine lv_aload_n hx hb dX12_plan_48 rfl (lv_at hl 0 rfl) ?_
          refine z_get S hF hH iX12_plan_X12 0 rfl rfl 6 (by decide) (List.mem_of_getElem? (i := 2) rfl) rfl dX12_plan_49 ?_
          refine lv_bipush (v := 75) hx hb dX12_plan_52 (by decide) ?_
          refine lv_iload_n hx hb dX12_plan_54 rfl (lv_at hl 1 rfl) ?_
          refine lv_iadd hx hb dX12_plan_55 ?_
          obtain ⟨h56, h⟩ := zck_e h
          refine z_iald S hF hH 1 rfl h56 rfl dX12_plan_56 ?_
          obtain ⟨y1, ey1, h⟩ := zbn_e h
          refine z_top ey1 ?_
          clear ey1
          refine lv_istore_n (lv' := [(3, .int y1), (0, .ref q_t), (1, .int x0), (2, .int x1)]) hx hb dX12_plan_57 rfl hl (by decide) rfl (fun ls hl => ?_)
          refine lv_iconst (v := (-1)) hx hb dX12_plan_58 (by decide) ?_
          refine lv_istore (lv' := [(4, .int (-1)), (3, .int y1), (0, .ref q_t), (1, .int x0), (2, .int x1)]) hx hb dX12_plan_59 hl (by decide) rfl (fun ls hl => ?_)
          refine lv_aload_n hx hb dX12_plan_61 rfl (lv_at hl 2 rfl) ?_
          refine lv_iload_n hx hb dX12_plan_62 rfl (lv_at hl 3 rfl) ?_
          refine lv_iload_n hx hb dX12_plan_63 rfl (lv_at hl 4 rfl) ?_
          obtain ⟨z64, hz64, h⟩ := zcl_e h
          refine z_callV (As := [.int x0, .int x1]) (rest := []) (st1 := [.int z64]) (ws' := (wd_X12_plan cy q_t q_t_tape q_t_s q_t_h q_t_read q_t_names q_t_reserved q_t_undone q_t_before q_t_comeRow q_t_shown q_t_text q_t_toldAt q_t_stack q_t_truths q_t_imaged q_t_namesKept q_t_areKept 0 t_length t_size t_p t_limit t_token t_at t_span t_number t_fault t_faultAt t_word t_got t_lines t_hasWait t_undoMany t_firstMinute t_lookClock t_hasTime t_latestMost t_textMany t_seed t_toldMany t_hasTold t_codes t_ones t_top t_deep t_isWhole t_s t_before t_comeRow)) S hF hH (c_X12_latestDue l G cy E N q_t q_t_tape q_t_s q_t_h q_t_read q_t_names q_t_reserved q_t_undone q_t_before q_t_comeRow q_t_shown q_t_text q_t_toldAt q_t_stack q_t_truths q_t_imaged q_t_namesKept q_t_areKept 0 t_length t_size t_p t_limit t_token t_at t_span t_number t_fault t_faultAt t_word t_got t_lines t_hasWait t_undoMany t_firstMinute t_lookClock t_hasTime t_latestMost t_textMany t_seed t_toldMany t_hasTold t_codes t_ones t_top t_deep t_isWhole t_s x0 x1 z64 hz64) (cwV 2 hts gX12_plan_X12_latestDue rfl rfl rfl (by decide +kernel) ⟨Nat.le_of_ble_eq_true rfl, Nat.le_of_ble_eq_true rfl⟩) 13 0 rfl rfl [0, 1] rfl (by decide) rfl rfl rfl rfl rfl hl.1 (Nat.le_of_ble_eq_true rfl) dX12_plan_64 ⟨Nat.le_of_ble_eq_true rfl, Nat.le_of_ble_eq_true rfl⟩ (fun H locs hH => ?_)
          refine lv_istore (lv' := [(5, .int z64), (4, .int (-1)), (3, .int y1), (0, .ref q_t), (1, .int x0), (2, .int x1)]) hx hb dX12_plan_67 hl (by decide) rfl (fun ls hl => ?_)
          exact w_X12_plan_69 S hr hlocks hF N x0 x1 y1 (-1) z64 0 t_s t_before t_comeRow _ _ _ hH (lv_sub hl [3, 4, 5, 2, 1, 0] rfl) h
        · replace h := zif_f b43 h
          refine lv_iconst (v := (-1)) hx hb dX12_plan_46 (by decide) ?_
          cases h
          exact z_iret S hr hlocks hH dX12_plan_47
abbrev wd_X12_isTime (cy : Nat → ClassId) (q_t q_t_tape q_t_s q_t_h q_t_read q_t_names q_t_reserved q_t_undone q_t_before q_t_comeRow q_t_shown q_t_text q_t_toldAt q_t_stack q_t_truths q_t_imaged q_t_namesKept q_t_areKept : Nat) (t_thrown : Int32) (t_length : Int32) (t_size : Int32) (t_p : Int32) (t_limit : Int32) (t_token : Int32) (t_at : Int32) (t_span : Int32) (t_number : Int32) (t_fault : Int32) (t_faultAt : Int32) (t_word : Int64) (t_got : Int32) (t_lines : Int32) (t_hasWait : Int32) (t_undoMany : Int32) (t_firstMinute : Int32) (t_lookClock : Int32) (t_hasTime : Int32) (t_latestMost : Int32) (t_textMany : Int32) (t_seed : Int32) (t_toldMany : Int32) (t_hasTold : Int32) (t_codes : Int32) (t_ones : Int32) (t_top : Int32) (t_deep : Int32) (t_isWhole : Int32) (t_tape : Nat → Int32) (t_s : Nat → Int32) : va_W := [(q_t, .inr (13, [.int t_thrown, .ref q_t_tape, .int t_length, .int t_size, .int t_p, .int t_limit, .ref q_t_s, .ref q_t_h, .ref q_t_read, .ref q_t_names, .ref q_t_reserved, .int t_token, .int t_at, .int t_span, .int t_number, .int t_fault, .int t_faultAt, .long t_word, .int t_got, .int t_lines, .int t_hasWait, .ref q_t_undone, .ref q_t_before, .int t_undoMany, .ref q_t_comeRow, .int t_firstMinute, .int t_lookClock, .int t_hasTime, .ref q_t_shown, .int t_latestMost, .ref q_t_text, .int t_textMany, .int t_seed, .int t_toldMany, .ref q_t_toldAt, .int t_hasTold, .ref q_t_stack, .int t_codes, .int t_ones, .int t_top, .int t_deep, .int t_isWhole, .ref q_t_truths, .ref q_t_imaged, .ref q_t_namesKept, .ref q_t_areKept])), (q_t_tape, .inl (cy 0, 940, .inl t_tape)), (q_t_s, .inl (cy 1, 334, .inl t_s))]
theorem iX12_isTime_X12 : ∀ w ∈ wsX120, w ∈ wsX12_isTime := fun _ h => List.mem_cons_of_mem _ (List.mem_append_right _ h)
abbrev rm_X12_isTime : Room := { frames := 4, cells := 0, slots := 0, locals := 87 }
set_option maxRecDepth 100000 in
def f_X12_isTime_51 (N : Nat) (t_size : Int32) (t_tape : Nat → Int32) (t_s : Nat → Int32) (k_4 : Int32 → Int32 → Int32 → Option (Int32)) (x1 : Int32) (x3 : Int32) : Option (Int32) := zbn (x3 + 3) fun y1 => k_4 x1 0 y1
set_option maxRecDepth 100000 in
def f_X12_isTime_4 (N : Nat) (t_size : Int32) (t_tape : Nat → Int32) (t_s : Nat → Int32) : Nat → Int32 → Int32 → Int32 → Option (Int32)
  | 0, _, _, _ => none
  | n + 1, x1, x2, x3 => if t_size ≤ x3 then (zck (zbo x2) <| some x2) else (if x2 = 0 then (f_X12_isTime_51 N t_size t_tape t_s (f_X12_isTime_4 N t_size t_tape t_s n) x1 x3) else (zcl (f_X12_octet N x3 t_tape) fun z19 => zcl (f_X12_showsAt N z19 x1 t_s) fun z23 => zcl (f_X12_octet N (x3 + 1) t_tape) fun z32 => zcl (f_X12_octet N (x3 + 2) t_tape) fun z40 => if z23 = ((60 * z32) + z40) then (zbn (x3 + 3) fun y1 => f_X12_isTime_4 N t_size t_tape t_s n x1 1 y1) else (f_X12_isTime_51 N t_size t_tape t_s (f_X12_isTime_4 N t_size t_tape t_s n) x1 x3)))
set_option maxRecDepth 100000 in
def f_X12_isTime (N : Nat) (x0 : Int32) (t_size : Int32) (t_tape : Nat → Int32) (t_s : Nat → Int32) : Option (Int32) := f_X12_isTime_4 N t_size t_tape t_s N x0 1 0
set_option maxHeartbeats 4000000 in
set_option maxRecDepth 100000 in
theorem w_X12_isTime_51 {p : Program} {l : Launch} {e : Env} {s : State} {m : MethodId} {args : Array Value} {below : List Frame} {meth : Method} {c : Code} {G : va_G} {cy : Nat → ClassId} {E : Nat → Nat} {w0 : va_W} {N : Nat} {q_t q_t_tape q_t_s q_t_h q_t_read q_t_names q_t_reserved q_t_undone q_t_before q_t_comeRow q_t_shown q_t_text q_t_toldAt q_t_stack q_t_truths q_t_imaged q_t_namesKept q_t_areKept : Nat} {t_thrown : Int32} {t_length : Int32} {t_size : Int32} {t_p : Int32} {t_limit : Int32} {t_token : Int32} {t_at : Int32} {t_span : Int32} {t_number : Int32} {t_fault : Int32} {t_faultAt : Int32} {t_word : Int64} {t_got : Int32} {t_lines : Int32} {t_hasWait : Int32} {t_undoMany : Int32} {t_firstMinute : Int32} {t_lookClock : Int32} {t_hasTime : Int32} {t_latestMost : Int32} {t_textMany : Int32} {t_seed : Int32} {t_toldMany : Int32} {t_hasTold : Int32} {t_codes : Int32} {t_ones : Int32} {t_top : Int32} {t_deep : Int32} {t_isWhole : Int32} {t_tape : Nat → Int32} {t_s : Nat → Int32} {r : Int32} {k_4 : Int32 → Int32 → Int32 → Option (Int32)} (S : CallFix p m c cX12_isTime 4 s args wsX12_isTime RX12) (hr : meth.sig.returnType = some .boolean) (hlocks : meth.locks = false) (hF : zF G cy E (va_A w0 s.heap.size) s) (hk_4 : ∀ (x1 : Int32) (x2 : Int32) (x3 : Int32) (H : Heap) (locs : List Loc) (ls : Array Slot), zH G (va_A w0 s.heap.size) s H locs (wd_X12_isTime cy q_t q_t_tape q_t_s q_t_h q_t_read q_t_names q_t_reserved q_t_undone q_t_before q_t_comeRow q_t_shown q_t_text q_t_toldAt q_t_stack q_t_truths q_t_imaged q_t_namesKept q_t_areKept t_thrown t_length t_size t_p t_limit t_token t_at t_span t_number t_fault t_faultAt t_word t_got t_lines t_hasWait t_undoMany t_firstMinute t_lookClock t_hasTime t_latestMost t_textMany t_seed t_toldMany t_hasTold t_codes t_ones t_top t_deep t_isWhole t_tape t_s) → lv_has ls 4 [(0, .ref q_t), (1, .int x1), (2, .int x2), (3, .int x3)] → k_4 x1 x2 x3 = some r → W p l e rm_X12_isTime s m args below meth c H locs 0 0 (MQ below (zQ G w0 (wd_X12_isTime cy q_t q_t_tape q_t_s q_t_h q_t_read q_t_names q_t_reserved q_t_undone q_t_before q_t_comeRow q_t_shown q_t_text q_t_toldAt q_t_stack q_t_truths q_t_imaged q_t_namesKept q_t_areKept t_thrown t_length t_size t_p t_limit t_token t_at t_span t_number t_fault t_faultAt t_word t_got t_lines t_hasWait t_undoMany t_firstMinute t_lookClock t_hasTime t_latestMost t_textMany t_seed t_toldMany t_hasTold t_codes t_ones t_top t_deep t_isWhole t_tape t_s) s.heap.size (some (.int r))) args s 0 0 (va_A w0 s.heap.size)) (F0 m 4 ls [])) :
    ∀ (x1 : Int32) (x3 : Int32) (H : Heap) (locs : List Loc) (ls : Array Slot), zH G (va_A w0 s.heap.size) s H locs (wd_X12_isTime cy q_t q_t_tape q_t_s q_t_h q_t_read q_t_names q_t_reserved q_t_undone q_t_before q_t_comeRow q_t_shown q_t_text q_t_toldAt q_t_stack q_t_truths q_t_imaged q_t_namesKept q_t_areKept t_thrown t_length t_size t_p t_limit t_token t_at t_span t_number t_fault t_faultAt t_word t_got t_lines t_hasWait t_undoMany t_firstMinute t_lookClock t_hasTime t_latestMost t_textMany t_seed t_toldMany t_hasTold t_codes t_ones t_top t_deep t_isWhole t_tape t_s) → lv_has ls 4 [(0, .ref q_t), (1, .int x1), (3, .int x3)] → f_X12_isTime_51 N t_size t_tape t_s k_4 x1 x3 = some r → W p l e rm_X12_isTime s m args below meth c H locs 0 0 (MQ below (zQ G w0 (wd_X12_isTime cy q_t q_t_tape q_t_s q_t_h q_t_read q_t_names q_t_reserved q_t_undone q_t_before q_t_comeRow q_t_shown q_t_text q_t_toldAt q_t_stack q_t_truths q_t_imaged q_t_namesKept q_t_areKept t_thrown t_length t_size t_p t_limit t_token t_at t_span t_number t_fault t_faultAt t_word t_got t_lines t_hasWait t_undoMany t_firstMinute t_lookClock t_hasTime t_latestMost t_textMany t_seed t_toldMany t_hasTold t_codes t_ones t_top t_deep t_isWhole t_tape t_s) s.heap.size (some (.int r))) args s 0 0 (va_A w0 s.heap.size)) (F0 m 51 ls []) := by
  obtain ⟨hx, hb, hml, hown, hts⟩ := id S
  intro x1 x3 H locs ls hH hl h
  rw [f_X12_isTime_51] at h
  refine lv_iconst (v := 0) hx hb dX12_isTime_51 (by decide) ?_
  refine lv_istore_n (lv' := [(2, .int 0), (0, .ref q_t), (1, .int x1), (3, .int x3)]) hx hb dX12_isTime_52 rfl hl (by decide) rfl (fun ls hl => ?_)
  obtain ⟨y1, ey1, h⟩ := zbn_e h
  refine lv_iinc (v := y1) (lv' := [(3, .int y1), (2, .int 0), (0, .ref q_t), (1, .int x1)]) hx hb dX12_isTime_53 hl (k := 3) rfl (by rw [ey1]; exact congrArg (fun z => x3 + z) (by decide)) (by decide) rfl (fun ls hl => ?_)
  clear ey1
  refine lv_goto (tgt := 4) hx hb dX12_isTime_56 (by decide) ?_
  exact hk_4 x1 0 y1 _ _ _ hH (lv_sub hl [2, 3, 1, 0] rfl) h
set_option maxHeartbeats 4000000 in
set_option maxRecDepth 100000 in
theorem w_X12_isTime_4 {p : Program} {l : Launch} {e : Env} {s : State} {m : MethodId} {args : Array Value} {below : List Frame} {meth : Method} {c : Code} {G : va_G} {cy : Nat → ClassId} {E : Nat → Nat} {w0 : va_W} {N : Nat} {q_t q_t_tape q_t_s q_t_h q_t_read q_t_names q_t_reserved q_t_undone q_t_before q_t_comeRow q_t_shown q_t_text q_t_toldAt q_t_stack q_t_truths q_t_imaged q_t_namesKept q_t_areKept : Nat} {t_thrown : Int32} {t_length : Int32} {t_size : Int32} {t_p : Int32} {t_limit : Int32} {t_token : Int32} {t_at : Int32} {t_span : Int32} {t_number : Int32} {t_fault : Int32} {t_faultAt : Int32} {t_word : Int64} {t_got : Int32} {t_lines : Int32} {t_hasWait : Int32} {t_undoMany : Int32} {t_firstMinute : Int32} {t_lookClock : Int32} {t_hasTime : Int32} {t_latestMost : Int32} {t_textMany : Int32} {t_seed : Int32} {t_toldMany : Int32} {t_hasTold : Int32} {t_codes : Int32} {t_ones : Int32} {t_top : Int32} {t_deep : Int32} {t_isWhole : Int32} {t_tape : Nat → Int32} {t_s : Nat → Int32} {r : Int32} (S : CallFix p m c cX12_isTime 4 s args wsX12_isTime RX12) (hr : meth.sig.returnType = some .boolean) (hlocks : meth.locks = false) (hF : zF G cy E (va_A w0 s.heap.size) s) :
    ∀ (n : Nat) (x1 : Int32) (x2 : Int32) (x3 : Int32) (H : Heap) (locs : List Loc) (ls : Array Slot), zH G (va_A w0 s.heap.size) s H locs (wd_X12_isTime cy q_t q_t_tape q_t_s q_t_h q_t_read q_t_names q_t_reserved q_t_undone q_t_before q_t_comeRow q_t_shown q_t_text q_t_toldAt q_t_stack q_t_truths q_t_imaged q_t_namesKept q_t_areKept t_thrown t_length t_size t_p t_limit t_token t_at t_span t_number t_fault t_faultAt t_word t_got t_lines t_hasWait t_undoMany t_firstMinute t_lookClock t_hasTime t_latestMost t_textMany t_seed t_toldMany t_hasTold t_codes t_ones t_top t_deep t_isWhole t_tape t_s) → lv_has ls 4 [(0, .ref q_t), (1, .int x1), (2, .int x2), (3, .int x3)] → f_X12_isTime_4 N t_size t_tape t_s n x1 x2 x3 = some r → W p l e rm_X12_isTime s m args below meth c H locs 0 0 (MQ below (zQ G w0 (wd_X12_isTime cy q_t q_t_tape q_t_s q_t_h q_t_read q_t_names q_t_reserved q_t_undone q_t_before q_t_comeRow q_t_shown q_t_text q_t_toldAt q_t_stack q_t_truths q_t_imaged q_t_namesKept q_t_areKept t_thrown t_length t_size t_p t_limit t_token t_at t_span t_number t_fault t_faultAt t_word t_got t_lines t_hasWait t_undoMany t_firstMinute t_lookClock t_hasTime t_latestMost t_textMany t_seed t_toldMany t_hasTold t_codes t_ones t_top t_deep t_isWhole t_tape t_s) s.heap.size (some (.int r))) args s 0 0 (va_A w0 s.heap.size)) (F0 m 4 ls []) := by
  obtain ⟨hx, hb, hml, hown, hts⟩ := id S
  intro n
  induction n with
  | zero =>
    intro x1 x2 x3 H locs ls hH hl h
    rw [f_X12_isTime_4] at h
    cases h
  | succ n ih =>
    intro x1 x2 x3 H locs ls hH hl h
    rw [f_X12_isTime_4] at h
    refine lv_iload_n hx hb dX12_isTime_4 rfl (lv_at hl 3 rfl) ?_
    refine lv_aload_n hx hb dX12_isTime_5 rfl (lv_at hl 0 rfl) ?_
    refine z_get S hF hH iX12_isTime_X12 0 rfl rfl 3 (by decide) (List.mem_of_getElem? (i := 1) rfl) rfl dX12_isTime_6 ?_
    refine lv_icmp_ge (tgt := 59) hx hb dX12_isTime_9 (by decide) (fun b9 => ?_) (fun b9 => ?_)
    · replace h := zif_t b9 h
      refine lv_iload_n hx hb dX12_isTime_59 rfl (lv_at hl 2 rfl) ?_
      obtain ⟨h60, h⟩ := zck_e h
      cases h
      exact z_zret S hr hlocks hH h60 dX12_isTime_60
    · replace h := zif_f b9 h
      refine lv_iload_n hx hb dX12_isTime_12 rfl (lv_at hl 2 rfl) ?_
      refine lv_if_eq (tgt := 51) hx hb dX12_isTime_13 (by decide) (fun b13 => ?_) (fun b13 => ?_)
      · replace h := zif_t b13 h
        exact w_X12_isTime_51 S hr hlocks hF ih x1 x3 _ _ _ hH (lv_sub hl [0, 1, 3] rfl) h
      · replace h := zif_f b13 h
        refine lv_aload_n hx hb dX12_isTime_16 rfl (lv_at hl 0 rfl) ?_
        refine lv_aload_n hx hb dX12_isTime_17 rfl (lv_at hl 0 rfl) ?_
        refine lv_iload_n hx hb dX12_isTime_18 rfl (lv_at hl 3 rfl) ?_
        obtain ⟨z19, hz19, h⟩ := zcl_e h
        refine z_callV (As := [.int x3]) (rest := [.ref q_t]) (st1 := [.int z19, .ref q_t]) (ws' := (wd_X12_isTime cy q_t q_t_tape q_t_s q_t_h q_t_read q_t_names q_t_reserved q_t_undone q_t_before q_t_comeRow q_t_shown q_t_text q_t_toldAt q_t_stack q_t_truths q_t_imaged q_t_namesKept q_t_areKept t_thrown t_length t_size t_p t_limit t_token t_at t_span t_number t_fault t_faultAt t_word t_got t_lines t_hasWait t_undoMany t_firstMinute t_lookClock t_hasTime t_latestMost t_textMany t_seed t_toldMany t_hasTold t_codes t_ones t_top t_deep t_isWhole t_tape t_s)) S hF hH (c_X12_octet l G cy E N q_t q_t_tape q_t_s q_t_h q_t_read q_t_names q_t_reserved q_t_undone q_t_before q_t_comeRow q_t_shown q_t_text q_t_toldAt q_t_stack q_t_truths q_t_imaged q_t_namesKept q_t_areKept t_thrown t_length t_size t_p t_limit t_token t_at t_span t_number t_fault t_faultAt t_word t_got t_lines t_hasWait t_undoMany t_firstMinute t_lookClock t_hasTime t_latestMost t_textMany t_seed t_toldMany t_hasTold t_codes t_ones t_top t_deep t_isWhole t_tape x3 z19 hz19) (cwV 1 hts gX12_isTime_X12_octet rfl rfl rfl (by decide +kernel) ⟨Nat.le_of_ble_eq_true rfl, Nat.le_of_ble_eq_true rfl⟩) 13 0 rfl rfl [0, 1] rfl (by decide) rfl rfl rfl rfl rfl hl.1 (Nat.le_of_ble_eq_true rfl) dX12_isTime_19 ⟨Nat.le_of_ble_eq_true rfl, Nat.le_of_ble_eq_true rfl⟩ (fun H locs hH => ?_)
        refine lv_iload_n hx hb dX12_isTime_22 rfl (lv_at hl 1 rfl) ?_
        obtain ⟨z23, hz23, h⟩ := zcl_e h
        refine z_callV (As := [.int z19, .int x1]) (rest := []) (st1 := [.int z23]) (ws' := (wd_X12_isTime cy q_t q_t_tape q_t_s q_t_h q_t_read q_t_names q_t_reserved q_t_undone q_t_before q_t_comeRow q_t_shown q_t_text q_t_toldAt q_t_stack q_t_truths q_t_imaged q_t_namesKept q_t_areKept t_thrown t_length t_size t_p t_limit t_token t_at t_span t_number t_fault t_faultAt t_word t_got t_lines t_hasWait t_undoMany t_firstMinute t_lookClock t_hasTime t_latestMost t_textMany t_seed t_toldMany t_hasTold t_codes t_ones t_top t_deep t_isWhole t_tape t_s)) S hF hH (c_X12_showsAt l G cy E N q_t q_t_tape q_t_s q_t_h q_t_read q_t_names q_t_reserved q_t_undone q_t_before q_t_comeRow q_t_shown q_t_text q_t_toldAt q_t_stack q_t_truths q_t_imaged q_t_namesKept q_t_areKept t_thrown t_length t_size t_p t_limit t_token t_at t_span t_number t_fault t_faultAt t_word t_got t_lines t_hasWait t_undoMany t_firstMinute t_lookClock t_hasTime t_latestMost t_textMany t_seed t_toldMany t_hasTold t_codes t_ones t_top t_deep t_isWhole t_s z19 x1 z23 hz23) (cwV 2 hts gX12_isTime_X12_showsAt rfl rfl rfl (by decide +kernel) ⟨Nat.le_of_ble_eq_true rfl, Nat.le_of_ble_eq_true rfl⟩) 13 0 rfl rfl [0, 2] rfl (by decide) rfl rfl rfl rfl rfl hl.1 (Nat.le_of_ble_eq_true rfl) dX12_isTime_23 ⟨Nat.le_of_ble_eq_true rfl, Nat.le_of_ble_eq_true rfl⟩ (fun H locs hH => ?_)
        refine lv_bipush (v := 60) hx hb dX12_isTime_26 (by decide) ?_
        refine lv_aload_n hx hb dX12_isTime_28 rfl (lv_at hl 0 rfl) ?_
        refine lv_iload_n hx hb dX12_isTime_29 rfl (lv_at hl 3 rfl) ?_
        refine lv_iconst (v := 1) hx hb dX12_isTime_30 (by decide) ?_
        refine lv_iadd hx hb dX12_isTime_31 ?_
        obtain ⟨z32, hz32, h⟩ := zcl_e h
        refine z_callV (As := [.int (x3 + 1)]) (rest := [.int 60, .int z23]) (st1 := [.int z32, .int 60, .int z23]) (ws' := (wd_X12_isTime cy q_t q_t_tape q_t_s q_t_h q_t_read q_t_names q_t_reserved q_t_undone q_t_before q_t_comeRow q_t_shown q_t_text q_t_toldAt q_t_stack q_t_truths q_t_imaged q_t_namesKept q_t_areKept t_thrown t_length t_size t_p t_limit t_token t_at t_span t_number t_fault t_faultAt t_word t_got t_lines t_hasWait t_undoMany t_firstMinute t_lookClock t_hasTime t_latestMost t_textMany t_seed t_toldMany t_hasTold t_codes t_ones t_top t_deep t_isWhole t_tape t_s)) S hF hH (c_X12_octet l G cy E N q_t q_t_tape q_t_s q_t_h q_t_read q_t_names q_t_reserved q_t_undone q_t_before q_t_comeRow q_t_shown q_t_text q_t_toldAt q_t_stack q_t_truths q_t_imaged q_t_namesKept q_t_areKept t_thrown t_length t_size t_p t_limit t_token t_at t_span t_number t_fault t_faultAt t_word t_got t_lines t_hasWait t_undoMany t_firstMinute t_lookClock t_hasTime t_latestMost t_textMany t_seed t_toldMany t_hasTold t_codes t_ones t_top t_deep t_isWhole t_tape (x3 + 1) z32 hz32) (cwV 1 hts gX12_isTime_X12_octet rfl rfl rfl (by decide +kernel) ⟨Nat.le_of_ble_eq_true rfl, Nat.le_of_ble_eq_true rfl⟩) 13 0 rfl rfl [0, 1] rfl (by decide) rfl rfl rfl rfl rfl hl.1 (Nat.le_of_ble_eq_true rfl) dX12_isTime_32 ⟨Nat.le_of_ble_eq_true rfl, Nat.le_of_ble_eq_true rfl⟩ (fun H locs hH => ?_)
        refine lv_imul hx hb dX12_isTime_35 ?_
        refine lv_aload_n hx hb dX12_isTime_36 rfl (lv_at hl 0 rfl) ?_
        refine lv_iload_n hx hb dX12_isTime_37 rfl (lv_at hl 3 rfl) ?_
        refine lv_iconst (v := 2) hx hb dX12_isTime_38 (by decide) ?_
        refine lv_iadd hx hb dX12_isTime_39 ?_
        obtain ⟨z40, hz40, h⟩ := zcl_e h
        refine z_callV (As := [.int (x3 + 2)]) (rest := [.int (60 * z32), .int z23]) (st1 := [.int z40, .int (60 * z32), .int z23]) (ws' := (wd_X12_isTime cy q_t q_t_tape q_t_s q_t_h q_t_read q_t_names q_t_reserved q_t_undone q_t_before q_t_comeRow q_t_shown q_t_text q_t_toldAt q_t_stack q_t_truths q_t_imaged q_t_namesKept q_t_areKept t_thrown t_length t_size t_p t_limit t_token t_at t_span t_number t_fault t_faultAt t_word t_got t_lines t_hasWait t_undoMany t_firstMinute t_lookClock t_hasTime t_latestMost t_textMany t_seed t_toldMany t_hasTold t_codes t_ones t_top t_deep t_isWhole t_tape t_s)) S hF hH (c_X12_octet l G cy E N q_t q_t_tape q_t_s q_t_h q_t_read q_t_names q_t_reserved q_t_undone q_t_before q_t_comeRow q_t_shown q_t_text q_t_toldAt q_t_stack q_t_truths q_t_imaged q_t_namesKept q_t_areKept t_thrown t_length t_size t_p t_limit t_token t_at t_span t_number t_fault t_faultAt t_word t_got t_lines t_hasWait t_undoMany t_firstMinute t_lookClock t_hasTime t_latestMost t_textMany t_seed t_toldMany t_hasTold t_codes t_ones t_top t_deep t_isWhole t_tape (x3 + 2) z40 hz40) (cwV 1 hts gX12_isTime_X12_octet rfl rfl rfl (by decide +kernel) ⟨Nat.le_of_ble_eq_true rfl, Nat.le_of_ble_eq_true rfl⟩) 13 0 rfl rfl [0, 1] rfl (by decide) rfl rfl rfl rfl rfl hl.1 (Nat.le_of_ble_eq_true rfl) dX12_isTime_40 ⟨Nat.le_of_ble_eq_true rfl, Nat.le_of_ble_eq_true rfl⟩ (fun H locs hH => ?_)
        refine lv_iadd hx hb dX12_isTime_43 ?_
        refine lv_icmp_ne (tgt := 51) hx hb dX12_isTime_44 (by decide) (fun b44 => ?_) (fun b44 => ?_)
        · replace h := zif_f b44 h
          exact w_X12_isTime_51 S hr hlocks hF ih x1 x3 _ _ _ hH (lv_sub hl [0, 1, 3] rfl) h
        · replace h := zif_t b44 h
          refine lv_iconst (v := 1) hx hb dX12_isTime_47 (by decide) ?_
          refine lv_goto (tgt := 52) hx hb dX12_isTime_48 (by decide) ?_
          refine lv_istore_n (lv' := [(2, .int 1), (0, .ref q_t), (1, .int x1), (3, .int x3)]) hx hb dX12_isTime_52 rfl hl (by decide) rfl (fun ls hl => ?_)
          obtain ⟨y1, ey1, h⟩ := zbn_e h
          refine lv_iinc (v := y1) (lv' := [(3, .int y1), (2, .int 1), (0, .ref q_t), (1, .int x1)]) hx hb dX12_isTime_53 hl (k := 3) rfl (by rw [ey1]; exact congrArg (fun z => x3 + z) (by decide)) (by decide) rfl (fun ls hl => ?_)
          clear ey1
          refine lv_goto (tgt := 4) hx hb dX12_isTime_56 (by decide) ?_
          exact ih x1 1 y1 _ _ _ hH (lv_sub hl [2, 3, 1, 0] rfl) h
set_option maxHeartbeats 4000000 in
set_option maxRecDepth 100000 in
theorem c_X12_isTime (l : Launch) (G : va_G) (cy : Nat → ClassId) (E : Nat → Nat) (N : Nat) (q_t q_t_tape q_t_s q_t_h q_t_read q_t_names q_t_reserved q_t_undone q_t_before q_t_comeRow q_t_shown q_t_text q_t_toldAt q_t_stack q_t_truths q_t_imaged q_t_namesKept q_t_areKept : Nat) (t_thrown : Int32) (t_length : Int32) (t_size : Int32) (t_p : Int32) (t_limit : Int32) (t_token : Int32) (t_at : Int32) (t_span : Int32) (t_number : Int32) (t_fault : Int32) (t_faultAt : Int32) (t_word : Int64) (t_got : Int32) (t_lines : Int32) (t_hasWait : Int32) (t_undoMany : Int32) (t_firstMinute : Int32) (t_lookClock : Int32) (t_hasTime : Int32) (t_latestMost : Int32) (t_textMany : Int32) (t_seed : Int32) (t_toldMany : Int32) (t_hasTold : Int32) (t_codes : Int32) (t_ones : Int32) (t_top : Int32) (t_deep : Int32) (t_isWhole : Int32) (t_tape : Nat → Int32) (t_s : Nat → Int32) (x0 : Int32) (r : Int32) (h : f_X12_isTime N x0 t_size t_tape t_s = some r) : zM l G cy E yX12_isTime wsX12_isTime rm_X12_isTime [.ref q_t, .int x0] (wd_X12_isTime cy q_t q_t_tape q_t_s q_t_h q_t_read q_t_names q_t_reserved q_t_undone q_t_before q_t_comeRow q_t_shown q_t_text q_t_toldAt q_t_stack q_t_truths q_t_imaged q_t_namesKept q_t_areKept t_thrown t_length t_size t_p t_limit t_token t_at t_span t_number t_fault t_faultAt t_word t_got t_lines t_hasWait t_undoMany t_firstMinute t_lookClock t_hasTime t_latestMost t_textMany t_seed t_toldMany t_hasTold t_codes t_ones t_top t_deep t_isWhole t_tape t_s) (wd_X12_isTime cy q_t q_t_tape q_t_s q_t_h q_t_read q_t_names q_t_reserved q_t_undone q_t_before q_t_comeRow q_t_shown q_t_text q_t_toldAt q_t_stack q_t_truths q_t_imaged q_t_namesKept q_t_areKept t_thrown t_length t_size t_p t_limit t_token t_at t_span t_number t_fault t_faultAt t_word t_got t_lines t_hasWait t_undoMany t_firstMinute t_lookClock t_hasTime t_latestMost t_textMany t_seed t_toldMany t_hasTold t_codes t_ones t_top t_deep t_isWhole t_tape t_s) (some (.int r)) 0 0 := by
  refine z_body (cc := cX12_isTime) (maxL := 4) (ret := some .boolean) (by decide) rfl (Nat.le_of_ble_eq_true rfl) ?_
  intro p e s m below meth c ls S hr hlocks hnm hF hH hl
  have S : CallFix p m c cX12_isTime 4 s ([.ref q_t, .int x0] : List Value).toArray wsX12_isTime RX12 := S
  obtain ⟨hx, hb, hml, hown, hts⟩ := id S
  have hl : lv_has ls 4 [(0, .ref q_t), (1, .int x0)] := hl
  rw [f_X12_isTime] at h
  refine lv_iconst (v := 1) hx hb dX12_isTime_0 (by decide) ?_
  refine lv_istore_n (lv' := [(2, .int 1), (0, .ref q_t), (1, .int x0)]) hx hb dX12_isTime_1 rfl hl (by decide) rfl (fun ls hl => ?_)
  refine lv_iconst (v := 0) hx hb dX12_isTime_2 (by decide) ?_
  refine lv_istore_n (lv' := [(3, .int 0), (2, .int 1), (0, .ref q_t), (1, .int x0)]) hx hb dX12_isTime_3 rfl hl (by decide) rfl (fun ls hl => ?_)
  exact w_X12_isTime_4 S hr hlocks hF N x0 1 0 _ _ _ hH (lv_sub hl [2, 3, 1, 0] rfl) h
abbrev wd_X12_leftBy (cy : Nat → ClassId) (q_t q_t_tape q_t_s q_t_h q_t_read q_t_names q_t_reserved q_t_undone q_t_before q_t_comeRow q_t_shown q_t_text q_t_toldAt q_t_stack q_t_truths q_t_imaged q_t_namesKept q_t_areKept : Nat) (t_thrown : Int32) (t_length : Int32) (t_size : Int32) (t_p : Int32) (t_limit : Int32) (t_token : Int32) (t_at : Int32) (t_span : Int32) (t_number : Int32) (t_fault : Int32) (t_faultAt : Int32) (t_word : Int64) (t_got : Int32) (t_lines : Int32) (t_hasWait : Int32) (t_undoMany : Int32) (t_firstMinute : Int32) (t_lookClock : Int32) (t_hasTime : Int32) (t_latestMost : Int32) (t_textMany : Int32) (t_seed : Int32) (t_toldMany : Int32) (t_hasTold : Int32) (t_codes : Int32) (t_ones : Int32) (t_top : Int32) (t_deep : Int32) (t_isWhole : Int32) (t_shown : Nat → Int32) (t_s : Nat → Int32) (t_tape : Nat → Int32) : va_W := [(q_t, .inr (13, [.int t_thrown, .ref q_t_tape, .int t_length, .int t_size, .int t_p, .int t_limit, .ref q_t_s, .ref q_t_h, .ref q_t_read, .ref q_t_names, .ref q_t_reserved, .int t_token, .int t_at, .int t_span, .int t_number, .int t_fault, .int t_faultAt, .long t_word, .int t_got, .int t_lines, .int t_hasWait, .ref q_t_undone, .ref q_t_before, .int t_undoMany, .ref q_t_comeRow, .int t_firstMinute, .int t_lookClock, .int t_hasTime, .ref q_t_shown, .int t_latestMost, .ref q_t_text, .int t_textMany, .int t_seed, .int t_toldMany, .ref q_t_toldAt, .int t_hasTold, .ref q_t_stack, .int t_codes, .int t_ones, .int t_top, .int t_deep, .int t_isWhole, .ref q_t_truths, .ref q_t_imaged, .ref q_t_namesKept, .ref q_t_areKept])), (q_t_shown, .inl (cy 1, 720, .inl t_shown)), (q_t_s, .inl (cy 1, 334, .inl t_s)), (q_t_tape, .inl (cy 0, 940, .inl t_tape))]
theorem iX12_leftBy_X12 : ∀ w ∈ wsX120, w ∈ wsX12_leftBy := fun _ h => List.mem_cons_of_mem _ (List.mem_append_right _ h)
abbrev rm_X12_leftBy : Room := { frames := 5, cells := 0, slots := 0, locals := 110 }
set_option maxRecDepth 100000 in
def f_X12_leftBy_26 (N : Nat) (t_size : Int32) (t_s : Nat → Int32) (t_tape : Nat → Int32) : Nat → Int32 → Int32 → Int32 → (Nat → Int32) → (Option (Int32 × (Nat → Int32)))
  | 0, _, _, _, _ => none
  | n + 1, x1, x2, x3, c_t_shown => if 1440 ≤ x3 then (some (x2, c_t_shown)) else (zcl (f_X12_isTime N ((t_s 52) + x3) t_size t_tape t_s) fun z43 => if z43 = 0 then (zbn (x3 + 1) fun y4 => f_X12_leftBy_26 N t_size t_s t_tape n x1 x2 y4 c_t_shown) else (zcl (f_X12_showsAt N x1 ((t_s 52) + x3) t_s) fun z63 => zck (zin z63 720) <| zbn (((c_t_shown (Int32.toNatClampNeg z63)) + 1)) fun y1 => zbn (upd c_t_shown (Int32.toNatClampNeg z63) y1) fun f2 => zcl (f_X12_greater N x2 (f2 (Int32.toNatClampNeg z63))) fun z87 => zbn (x3 + 1) fun y3 => f_X12_leftBy_26 N t_size t_s t_tape n x1 z87 y3 f2))
set_option maxRecDepth 100000 in
def f_X12_leftBy_2 (N : Nat) (t_size : Int32) (t_s : Nat → Int32) (t_tape : Nat → Int32) : Nat → Int32 → Int32 → (Nat → Int32) → (Option (Int32 × (Nat → Int32)))
  | 0, _, _, _ => none
  | n + 1, x1, x2, c_t_shown => if 720 ≤ x2 then (f_X12_leftBy_26 N t_size t_s t_tape N x1 0 0 c_t_shown) else (zck (zin x2 720) <| zbn (upd c_t_shown (Int32.toNatClampNeg x2) 0) fun f1 => zbn (x2 + 1) fun y2 => f_X12_leftBy_2 N t_size t_s t_tape n x1 y2 f1)
set_option maxRecDepth 100000 in
def f_X12_leftBy (N : Nat) (x0 : Int32) (t_size : Int32) (t_shown : Nat → Int32) (t_s : Nat → Int32) (t_tape : Nat → Int32) : Option (Int32 × (Nat → Int32)) := f_X12_leftBy_2 N t_size t_s t_tape N x0 0 t_shown
set_option maxHeartbeats 4000000 in
set_option maxRecDepth 100000 in
theorem w_X12_leftBy_26 {p : Program} {l : Launch} {e : Env} {s : State} {m : MethodId} {args : Array Value} {below : List Frame} {meth : Method} {c : Code} {G : va_G} {cy : Nat → ClassId} {E : Nat → Nat} {w0 : va_W} {N : Nat} {q_t q_t_tape q_t_s q_t_h q_t_read q_t_names q_t_reserved q_t_undone q_t_before q_t_comeRow q_t_shown q_t_text q_t_toldAt q_t_stack q_t_truths q_t_imaged q_t_namesKept q_t_areKept : Nat} {t_thrown : Int32} {t_length : Int32} {t_size : Int32} {t_p : Int32} {t_limit : Int32} {t_token : Int32} {t_at : Int32} {t_span : Int32} {t_number : Int32} {t_fault : Int32} {t_faultAt : Int32} {t_word : Int64} {t_got : Int32} {t_lines : Int32} {t_hasWait : Int32} {t_undoMany : Int32} {t_firstMinute : Int32} {t_lookClock : Int32} {t_hasTime : Int32} {t_latestMost : Int32} {t_textMany : Int32} {t_seed : Int32} {t_toldMany : Int32} {t_hasTold : Int32} {t_codes : Int32} {t_ones : Int32} {t_top : Int32} {t_deep : Int32} {t_isWhole : Int32} {t_s : Nat → Int32} {t_tape : Nat → Int32} {r : Int32} {r_t_shown : Nat → Int32} (S : CallFix p m c cX12_leftBy 5 s args wsX12_leftBy RX12) (hr : meth.sig.returnType = some .int) (hlocks : meth.locks = false) (hF : zF G cy E (va_A w0 s.heap.size) s) :
    ∀ (n : Nat) (x1 : Int32) (x2 : Int32) (x3 : Int32) (c_t_shown : Nat → Int32) (H : Heap) (locs : List Loc) (ls : Array Slot), zH G (va_A w0 s.heap.size) s H locs (wd_X12_leftBy cy q_t q_t_tape q_t_s q_t_h q_t_read q_t_names q_t_reserved q_t_undone q_t_before q_t_comeRow q_t_shown q_t_text q_t_toldAt q_t_stack q_t_truths q_t_imaged q_t_namesKept q_t_areKept t_thrown t_length t_size t_p t_limit t_token t_at t_span t_number t_fault t_faultAt t_word t_got t_lines t_hasWait t_undoMany t_firstMinute t_lookClock t_hasTime t_latestMost t_textMany t_seed t_toldMany t_hasTold t_codes t_ones t_top t_deep t_isWhole c_t_shown t_s t_tape) → lv_has ls 5 [(0, .ref q_t), (1, .int x1), (2, .int x2), (3, .int x3)] → f_X12_leftBy_26 N t_size t_s t_tape n x1 x2 x3 c_t_shown = some (r, r_t_shown) → W p l e rm_X12_leftBy s m args below meth c H locs 0 0 (MQ below (zQ G w0 (wd_X12_leftBy cy q_t q_t_tape q_t_s q_t_h q_t_read q_t_names q_t_reserved q_t_undone q_t_before q_t_comeRow q_t_shown q_t_text q_t_toldAt q_t_stack q_t_truths q_t_imaged q_t_namesKept q_t_areKept t_thrown t_length t_size t_p t_limit t_token t_at t_span t_number t_fault t_faultAt t_word t_got t_lines t_hasWait t_undoMany t_firstMinute t_lookClock t_hasTime t_latestMost t_textMany t_seed t_toldMany t_hasTold t_codes t_ones t_top t_deep t_isWhole r_t_shown t_s t_tape) s.heap.size (some (.int r))) args s 0 0 (va_A w0 s.heap.size)) (F0 m 26 ls []) := by
  obtain ⟨hx, hb, hml, hown, hts⟩ := id S
  intro n
  induction n with
  | zero =>
    intro x1 x2 x3 c_t_shown H locs ls hH hl h
    rw [f_X12_leftBy_26] at h
    cases h
  | succ n ih =>
    intro x1 x2 x3 c_t_shown H locs ls hH hl h
    rw [f_X12_leftBy_26] at h
    refine lv_iload_n hx hb dX12_leftBy_26 rfl (lv_at hl 3 rfl) ?_
    refine lv_sipush (v := 1440) hx hb dX12_leftBy_27 (by decide) ?_
    refine lv_icmp_ge (tgt := 97) hx hb dX12_leftBy_30 (by decide) (fun b30 => ?_) (fun b30 => ?_)
    · replace h := zif_t b30 h
      refine lv_iload_n hx hb dX12_leftBy_97 rfl (lv_at hl 2 rfl) ?_
      cases h
      exact z_iret S hr hlocks hH dX12_leftBy_98
    · replace h := zif_f b30 h
      refine lv_aload_n hx hb dX12_leftBy_33 rfl (lv_at hl 0 rfl) ?_
      refine lv_aload_n hx hb dX12_leftBy_34 rfl (lv_at hl 0 rfl) ?_
      refine z_get S hF hH iX12_leftBy_X12 0 rfl rfl 6 (by decide) (List.mem_of_getElem? (i := 2) rfl) rfl dX12_leftBy_35 ?_
      refine lv_bipush (v := 52) hx hb dX12_leftBy_38 (by decide) ?_
      refine z_iald (j := 52) S hF hH 2 rfl (by decide) rfl dX12_leftBy_40 ?_
      refine lv_iload_n hx hb dX12_leftBy_41 rfl (lv_at hl 3 rfl) ?_
      refine lv_iadd hx hb dX12_leftBy_42 ?_
      obtain ⟨z43, hz43, h⟩ := zcl_e h
      refine z_callV (As := [.int ((t_s 52) + x3)]) (rest := []) (st1 := [.int z43]) (ws' := (wd_X12_leftBy cy q_t q_t_tape q_t_s q_t_h q_t_read q_t_names q_t_reserved q_t_undone q_t_before q_t_comeRow q_t_shown q_t_text q_t_toldAt q_t_stack q_t_truths q_t_imaged q_t_namesKept q_t_areKept t_thrown t_length t_size t_p t_limit t_token t_at t_span t_number t_fault t_faultAt t_word t_got t_lines t_hasWait t_undoMany t_firstMinute t_lookClock t_hasTime t_latestMost t_textMany t_seed t_toldMany t_hasTold t_codes t_ones t_top t_deep t_isWhole c_t_shown t_s t_tape)) S hF hH (c_X12_isTime l G cy E N q_t q_t_tape q_t_s q_t_h q_t_read q_t_names q_t_reserved q_t_undone q_t_before q_t_comeRow q_t_shown q_t_text q_t_toldAt q_t_stack q_t_truths q_t_imaged q_t_namesKept q_t_areKept t_thrown t_length t_size t_p t_limit t_token t_at t_span t_number t_fault t_faultAt t_word t_got t_lines t_hasWait t_undoMany t_firstMinute t_lookClock t_hasTime t_latestMost t_textMany t_seed t_toldMany t_hasTold t_codes t_ones t_top t_deep t_isWhole t_tape t_s ((t_s 52) + x3) z43 hz43) (cwV 1 hts gX12_leftBy_X12_isTime rfl rfl rfl (by decide +kernel) ⟨Nat.le_of_ble_eq_true rfl, Nat.le_of_ble_eq_true rfl⟩) 13 0 rfl rfl [0, 3, 2] rfl (by decide) rfl rfl rfl rfl rfl hl.1 (Nat.le_of_ble_eq_true rfl) dX12_leftBy_43 ⟨Nat.le_of_ble_eq_true rfl, Nat.le_of_ble_eq_true rfl⟩ (fun H locs hH => ?_)
      refine lv_if_ne (tgt := 52) hx hb dX12_leftBy_46 (by decide) (fun b46 => ?_) (fun b46 => ?_)
      · replace h := zif_f b46 h
        refine lv_aload_n hx hb dX12_leftBy_52 rfl (lv_at hl 0 rfl) ?_
        refine lv_iload_n hx hb dX12_leftBy_53 rfl (lv_at hl 1 rfl) ?_
        refine lv_aload_n hx hb dX12_leftBy_54 rfl (lv_at hl 0 rfl) ?_
        refine z_get S hF hH iX12_leftBy_X12 0 rfl rfl 6 (by decide) (List.mem_of_getElem? (i := 2) rfl) rfl dX12_leftBy_55 ?_
        refine lv_bipush (v := 52) hx hb dX12_leftBy_58 (by decide) ?_
        refine z_iald (j := 52) S hF hH 2 rfl (by decide) rfl dX12_leftBy_60 ?_
        refine lv_iload_n hx hb dX12_leftBy_61 rfl (lv_at hl 3 rfl) ?_
        refine lv_iadd hx hb dX12_leftBy_62 ?_
        obtain ⟨z63, hz63, h⟩ := zcl_e h
        refine z_callV (As := [.int x1, .int ((t_s 52) + x3)]) (rest := []) (st1 := [.int z63]) (ws' := (wd_X12_leftBy cy q_t q_t_tape q_t_s q_t_h q_t_read q_t_names q_t_reserved q_t_undone q_t_before q_t_comeRow q_t_shown q_t_text q_t_toldAt q_t_stack q_t_truths q_t_imaged q_t_namesKept q_t_areKept t_thrown t_length t_size t_p t_limit t_token t_at t_span t_number t_fault t_faultAt t_word t_got t_lines t_hasWait t_undoMany t_firstMinute t_lookClock t_hasTime t_latestMost t_textMany t_seed t_toldMany t_hasTold t_codes t_ones t_top t_deep t_isWhole c_t_shown t_s t_tape)) S hF hH (c_X12_showsAt l G cy E N q_t q_t_tape q_t_s q_t_h q_t_read q_t_names q_t_reserved q_t_undone q_t_before q_t_comeRow q_t_shown q_t_text q_t_toldAt q_t_stack q_t_truths q_t_imaged q_t_namesKept q_t_areKept t_thrown t_length t_size t_p t_limit t_token t_at t_span t_number t_fault t_faultAt t_word t_got t_lines t_hasWait t_undoMany t_firstMinute t_lookClock t_hasTime t_latestMost t_textMany t_seed t_toldMany t_hasTold t_codes t_ones t_top t_deep t_isWhole t_s x1 ((t_s 52) + x3) z63 hz63) (cwV 2 hts gX12_leftBy_X12_showsAt rfl rfl rfl (by decide +kernel) ⟨Nat.le_of_ble_eq_true rfl, Nat.le_of_ble_eq_true rfl⟩) 13 0 rfl rfl [0, 2] rfl (by decide) rfl rfl rfl rfl rfl hl.1 (Nat.le_of_ble_eq_true rfl) dX12_leftBy_63 ⟨Nat.le_of_ble_eq_true rfl, Nat.le_of_ble_eq_true rfl⟩ (fun H locs hH => ?_)
        refine lv_istore (lv' := [(4, .int z63), (0, .ref q_t), (1, .int x1), (2, .int x2), (3, .int x3)]) hx hb dX12_leftBy_66 hl (by decide) rfl (fun ls hl => ?_)
        refine lv_aload_n hx hb dX12_leftBy_68 rfl (lv_at hl 1 rfl) ?_
        refine z_get S hF hH iX12_leftBy_X12 0 rfl rfl 28 (by decide) (List.mem_of_getElem? (i := 1) rfl) rfl dX12_leftBy_69 ?_
        refine lv_iload hx hb dX12_leftBy_72 (lv_at hl 0 rfl) ?_
        refine lv_dup2_11 hx hb dX12_leftBy_74 rfl rfl ?_
        obtain ⟨h75, h⟩ := zck_e h
        refine z_iald S hF hH 1 rfl h75 rfl dX12_leftBy_75 ?_
        refine lv_iconst (v := 1) hx hb dX12_leftBy_76 (by decide) ?_
        refine lv_iadd hx hb dX12_leftBy_77 ?_
        obtain ⟨y1, ey1, h⟩ := zbn_e h
        refine z_top ey1 ?_
        clear ey1
        obtain ⟨f2, ef2, h⟩ := zbn_e h
        refine z_iast (ws' := (wd_X12_leftBy cy q_t q_t_tape q_t_s q_t_h q_t_read q_t_names q_t_reserved q_t_undone q_t_before q_t_comeRow q_t_shown q_t_text q_t_toldAt q_t_stack q_t_truths q_t_imaged q_t_namesKept q_t_areKept t_thrown t_length t_size t_p t_limit t_token t_at t_span t_number t_fault t_faultAt t_word t_got t_lines t_hasWait t_undoMany t_firstMinute t_lookClock t_hasTime t_latestMost t_textMany t_seed t_toldMany t_hasTold t_codes t_ones t_top t_deep t_isWhole f2 t_s t_tape)) (j := (Int32.toNatClampNeg z63)) S hF hH 1 rfl h75 rfl (by rw [ef2]; rfl) dX12_leftBy_78 (fun H locs hH => ?_)
        clear ef2
        refine lv_iload_n hx hb dX12_leftBy_79 rfl (lv_at hl 3 rfl) ?_
        refine lv_aload_n hx hb dX12_leftBy_80 rfl (lv_at hl 1 rfl) ?_
        refine z_get S hF hH iX12_leftBy_X12 0 rfl rfl 28 (by decide) (List.mem_of_getElem? (i := 1) rfl) rfl dX12_leftBy_81 ?_
        refine lv_iload hx hb dX12_leftBy_84 (lv_at hl 0 rfl) ?_
        refine z_iald S hF hH 1 rfl h75 rfl dX12_leftBy_86 ?_
        obtain ⟨z87, hz87, h⟩ := zcl_e h
        refine z_callS (As := [.int x2, .int (f2 (Int32.toNatClampNeg z63))]) (rest := []) (st1 := [.int z87]) (ws' := (wd_X12_leftBy cy q_t q_t_tape q_t_s q_t_h q_t_read q_t_names q_t_reserved q_t_undone q_t_before q_t_comeRow q_t_shown q_t_text q_t_toldAt q_t_stack q_t_truths q_t_imaged q_t_namesKept q_t_areKept t_thrown t_length t_size t_p t_limit t_token t_at t_span t_number t_fault t_faultAt t_word t_got t_lines t_hasWait t_undoMany t_firstMinute t_lookClock t_hasTime t_latestMost t_textMany t_seed t_toldMany t_hasTold t_codes t_ones t_top t_deep t_isWhole f2 t_s t_tape)) S hF hH (c_X12_greater l G cy E N x2 (f2 (Int32.toNatClampNeg z63)) z87 hz87) (cwS 2 hts gX12_leftBy_X12_greater rfl rfl rfl (by decide +kernel) ⟨Nat.le_of_ble_eq_true rfl, Nat.le_of_ble_eq_true rfl⟩) [] rfl (by decide) rfl rfl rfl rfl rfl hl.1 (Nat.le_of_ble_eq_true rfl) dX12_leftBy_87 ⟨Nat.le_of_ble_eq_true rfl, Nat.le_of_ble_eq_true rfl⟩ (fun H locs hH => ?_)
        refine lv_istore_n (lv' := [(2, .int z87), (4, .int z63), (0, .ref q_t), (1, .int x1), (3, .int x3)]) hx hb dX12_leftBy_90 rfl hl (by decide) rfl (fun ls hl => ?_)
        obtain ⟨y3, ey3, h⟩ := zbn_e h
        refine lv_iinc (v := y3) (lv' := [(3, .int y3), (2, .int z87), (4, .int z63), (0, .ref q_t), (1, .int x1)]) hx hb dX12_leftBy_91 hl (k := 4) rfl (by rw [ey3]; exact congrArg (fun z => x3 + z) (by decide)) (by decide) rfl (fun ls hl => ?_)
        clear ey3
        refine lv_goto (tgt := 26) hx hb dX12_leftBy_94 (by decide) ?_
        exact ih x1 z87 y3 f2 _ _ _ hH (lv_sub hl [3, 4, 1, 0] rfl) h
      · replace h := zif_t b46 h
        refine lv_goto (tgt := 91) hx hb dX12_leftBy_49 (by decide) ?_
        obtain ⟨y4, ey4, h⟩ := zbn_e h
        refine lv_iinc (v := y4) (lv' := [(3, .int y4), (0, .ref q_t), (1, .int x1), (2, .int x2)]) hx hb dX12_leftBy_91 hl (k := 3) rfl (by rw [ey4]; exact congrArg (fun z => x3 + z) (by decide)) (by decide) rfl (fun ls hl => ?_)
        clear ey4
        refine lv_goto (tgt := 26) hx hb dX12_leftBy_94 (by decide) ?_
        exact ih x1 x2 y4 c_t_shown _ _ _ hH (lv_sub hl [1, 2, 3, 0] rfl) h
set_option maxHeartbeats 4000000 in
set_option maxRecDepth 100000 in
theorem w_X12_leftBy_2 {p : Program} {l : Launch} {e : Env} {s : State} {m : MethodId} {args : Array Value} {below : List Frame} {meth : Method} {c : Code} {G : va_G} {cy : Nat → ClassId} {E : Nat → Nat} {w0 : va_W} {N : Nat} {q_t q_t_tape q_t_s q_t_h q_t_read q_t_names q_t_reserved q_t_undone q_t_before q_t_comeRow q_t_shown q_t_text q_t_toldAt q_t_stack q_t_truths q_t_imaged q_t_namesKept q_t_areKept : Nat} {t_thrown : Int32} {t_length : Int32} {t_size : Int32} {t_p : Int32} {t_limit : Int32} {t_token : Int32} {t_at : Int32} {t_span : Int32} {t_number : Int32} {t_fault : Int32} {t_faultAt : Int32} {t_word : Int64} {t_got : Int32} {t_lines : Int32} {t_hasWait : Int32} {t_undoMany : Int32} {t_firstMinute : Int32} {t_lookClock : Int32} {t_hasTime : Int32} {t_latestMost : Int32} {t_textMany : Int32} {t_seed : Int32} {t_toldMany : Int32} {t_hasTold : Int32} {t_codes : Int32} {t_ones : Int32} {t_top : Int32} {t_deep : Int32} {t_isWhole : Int32} {t_s : Nat → Int32} {t_tape : Nat → Int32} {r : Int32} {r_t_shown : Nat → Int32} (S : CallFix p m c cX12_leftBy 5 s args wsX12_leftBy RX12) (hr : meth.sig.returnType = some .int) (hlocks : meth.locks = false) (hF : zF G cy E (va_A w0 s.heap.size) s) :
    ∀ (n : Nat) (x1 : Int32) (x2 : Int32) (c_t_shown : Nat → Int32) (H : Heap) (locs : List Loc) (ls : Array Slot), zH G (va_A w0 s.heap.size) s H locs (wd_X12_leftBy cy q_t q_t_tape q_t_s q_t_h q_t_read q_t_names q_t_reserved q_t_undone q_t_before q_t_comeRow q_t_shown q_t_text q_t_toldAt q_t_stack q_t_truths q_t_imaged q_t_namesKept q_t_areKept t_thrown t_length t_size t_p t_limit t_token t_at t_span t_number t_fault t_faultAt t_word t_got t_lines t_hasWait t_undoMany t_firstMinute t_lookClock t_hasTime t_latestMost t_textMany t_seed t_toldMany t_hasTold t_codes t_ones t_top t_deep t_isWhole c_t_shown t_s t_tape) → lv_has ls 5 [(0, .ref q_t), (1, .int x1), (2, .int x2)] → f_X12_leftBy_2 N t_size t_s t_tape n x1 x2 c_t_shown = some (r, r_t_shown) → W p l e rm_X12_leftBy s m args below meth c H locs 0 0 (MQ below (zQ G w0 (wd_X12_leftBy cy q_t q_t_tape q_t_s q_t_h q_t_read q_t_names q_t_reserved q_t_undone q_t_before q_t_comeRow q_t_shown q_t_text q_t_toldAt q_t_stack q_t_truths q_t_imaged q_t_namesKept q_t_areKept t_thrown t_length t_size t_p t_limit t_token t_at t_span t_number t_fault t_faultAt t_word t_got t_lines t_hasWait t_undoMany t_firstMinute t_lookClock t_hasTime t_latestMost t_textMany t_seed t_toldMany t_hasTold t_codes t_ones t_top t_deep t_isWhole r_t_shown t_s t_tape) s.heap.size (some (.int r))) args s 0 0 (va_A w0 s.heap.size)) (F0 m 2 ls []) := by
  obtain ⟨hx, hb, hml, hown, hts⟩ := id S
  intro n
  induction n with
  | zero =>
    intro x1 x2 c_t_shown H locs ls hH hl h
    rw [f_X12_leftBy_2] at h
    cases h
  | succ n ih =>
    intro x1 x2 c_t_shown H locs ls hH hl h
    rw [f_X12_leftBy_2] at h
    refine lv_iload_n hx hb dX12_leftBy_2 rfl (lv_at hl 2 rfl) ?_
    refine lv_sipush (v := 720) hx hb dX12_leftBy_3 (by decide) ?_
    refine lv_icmp_ge (tgt := 22) hx hb dX12_leftBy_6 (by decide) (fun b6 => ?_) (fun b6 => ?_)
    · replace h := zif_t b6 h
      refine lv_iconst (v := 0) hx hb dX12_leftBy_22 (by decide) ?_
      refine lv_istore_n (lv' := [(2, .int 0), (0, .ref q_t), (1, .int x1)]) hx hb dX12_leftBy_23 rfl hl (by decide) rfl (fun ls hl => ?_)
      refine lv_iconst (v := 0) hx hb dX12_leftBy_24 (by decide) ?_
      refine lv_istore_n (lv' := [(3, .int 0), (2, .int 0), (0, .ref q_t), (1, .int x1)]) hx hb dX12_leftBy_25 rfl hl (by decide) rfl (fun ls hl => ?_)
      exact w_X12_leftBy_26 S hr hlocks hF N x1 0 0 c_t_shown _ _ _ hH (lv_sub hl [2, 3, 1, 0] rfl) h
    · replace h := zif_f b6 h
      refine lv_aload_n hx hb dX12_leftBy_9 rfl (lv_at hl 0 rfl) ?_
      refine z_get S hF hH iX12_leftBy_X12 0 rfl rfl 28 (by decide) (List.mem_of_getElem? (i := 1) rfl) rfl dX12_leftBy_10 ?_
      refine lv_iload_n hx hb dX12_leftBy_13 rfl (lv_at hl 2 rfl) ?_
      refine lv_iconst (v := 0) hx hb dX12_leftBy_14 (by decide) ?_
      obtain ⟨h15, h⟩ := zck_e h
      obtain ⟨f1, ef1, h⟩ := zbn_e h
      refine z_iast (ws' := (wd_X12_leftBy cy q_t q_t_tape q_t_s q_t_h q_t_read q_t_names q_t_reserved q_t_undone q_t_before q_t_comeRow q_t_shown q_t_text q_t_toldAt q_t_stack q_t_truths q_t_imaged q_t_namesKept q_t_areKept t_thrown t_length t_size t_p t_limit t_token t_at t_span t_number t_fault t_faultAt t_word t_got t_lines t_hasWait t_undoMany t_firstMinute t_lookClock t_hasTime t_latestMost t_textMany t_seed t_toldMany t_hasTold t_codes t_ones t_top t_deep t_isWhole f1 t_s t_tape)) (j := (Int32.toNatClampNeg x2)) S hF hH 1 rfl h15 rfl (by rw [ef1]; rfl) dX12_leftBy_15 (fun H locs hH => ?_)
      clear ef1
      obtain ⟨y2, ey2, h⟩ := zbn_e h
      refine lv_iinc (v := y2) (lv' := [(2, .int y2), (0, .ref q_t), (1, .int x1)]) hx hb dX12_leftBy_16 hl (k := 2) rfl (by rw [ey2]; exact congrArg (fun z => x2 + z) (by decide)) (by decide) rfl (fun ls hl => ?_)
      clear ey2
      refine lv_goto (tgt := 2) hx hb dX12_leftBy_19 (by decide) ?_
      exact ih x1 y2 f1 _ _ _ hH (lv_sub hl [1, 2, 0] rfl) h
set_option maxHeartbeats 4000000 in
set_option maxRecDepth 100000 in
theorem c_X12_leftBy (l : Launch) (G : va_G) (cy : Nat → ClassId) (E : Nat → Nat) (N : Nat) (q_t q_t_tape q_t_s q_t_h q_t_read q_t_names q_t_reserved q_t_undone q_t_before q_t_comeRow q_t_shown q_t_text q_t_toldAt q_t_stack q_t_truths q_t_imaged q_t_namesKept q_t_areKept : Nat) (t_thrown : Int32) (t_length : Int32) (t_size : Int32) (t_p : Int32) (t_limit : Int32) (t_token : Int32) (t_at : Int32) (t_span : Int32) (t_number : Int32) (t_fault : Int32) (t_faultAt : Int32) (t_word : Int64) (t_got : Int32) (t_lines : Int32) (t_hasWait : Int32) (t_undoMany : Int32) (t_firstMinute : Int32) (t_lookClock : Int32) (t_hasTime : Int32) (t_latestMost : Int32) (t_textMany : Int32) (t_seed : Int32) (t_toldMany : Int32) (t_hasTold : Int32) (t_codes : Int32) (t_ones : Int32) (t_top : Int32) (t_deep : Int32) (t_isWhole : Int32) (t_shown : Nat → Int32) (t_s : Nat → Int32) (t_tape : Nat → Int32) (x0 : Int32) (r : Int32) (r_t_shown : Nat → Int32) (h : f_X12_leftBy N x0 t_size t_shown t_s t_tape = some (r, r_t_shown)) : zM l G cy E yX12_leftBy wsX12_leftBy rm_X12_leftBy [.ref q_t, .int x0] (wd_X12_leftBy cy q_t q_t_tape q_t_s q_t_h q_t_read q_t_names q_t_reserved q_t_undone q_t_before q_t_comeRow q_t_shown q_t_text q_t_toldAt q_t_stack q_t_truths q_t_imaged q_t_namesKept q_t_areKept t_thrown t_length t_size t_p t_limit t_token t_at t_span t_number t_fault t_faultAt t_word t_got t_lines t_hasWait t_undoMany t_firstMinute t_lookClock t_hasTime t_latestMost t_textMany t_seed t_toldMany t_hasTold t_codes t_ones t_top t_deep t_isWhole t_shown t_s t_tape) (wd_X12_leftBy cy q_t q_t_tape q_t_s q_t_h q_t_read q_t_names q_t_reserved q_t_undone q_t_before q_t_comeRow q_t_shown q_t_text q_t_toldAt q_t_stack q_t_truths q_t_imaged q_t_namesKept q_t_areKept t_thrown t_length t_size t_p t_limit t_token t_at t_span t_number t_fault t_faultAt t_word t_got t_lines t_hasWait t_undoMany t_firstMinute t_lookClock t_hasTime t_latestMost t_textMany t_seed t_toldMany t_hasTold t_codes t_ones t_top t_deep t_isWhole r_t_shown t_s t_tape) (some (.int r)) 0 0 := by
  refine z_body (cc := cX12_leftBy) (maxL := 5) (ret := some .int) (by decide) rfl (Nat.le_of_ble_eq_true rfl) ?_
  intro p e s m below meth c ls S hr hlocks hnm hF hH hl
  have S : CallFix p m c cX12_leftBy 5 s ([.ref q_t, .int x0] : List Value).toArray wsX12_leftBy RX12 := S
  obtain ⟨hx, hb, hml, hown, hts⟩ := id S
  have hl : lv_has ls 5 [(0, .ref q_t), (1, .int x0)] := hl
  rw [f_X12_leftBy] at h
  refine lv_iconst (v := 0) hx hb dX12_leftBy_0 (by decide) ?_
  refine lv_istore_n (lv' := [(2, .int 0), (0, .ref q_t), (1, .int x0)]) hx hb dX12_leftBy_1 rfl hl (by decide) rfl (fun ls hl => ?_)
  exact w_X12_leftBy_2 S hr hlocks hF N x0 0 t_shown _ _ _ hH (lv_sub hl [1, 2, 0] rfl) h
abbrev wd_X12_time (cy : Nat → ClassId) (q_t q_t_tape q_t_s q_t_h q_t_read q_t_names q_t_reserved q_t_undone q_t_before q_t_comeRow q_t_shown q_t_text q_t_toldAt q_t_stack q_t_truths q_t_imaged q_t_namesKept q_t_areKept : Nat) (t_thrown : Int32) (t_length : Int32) (t_size : Int32) (t_p : Int32) (t_limit : Int32) (t_token : Int32) (t_at : Int32) (t_span : Int32) (t_number : Int32) (t_fault : Int32) (t_faultAt : Int32) (t_word : Int64) (t_got : Int32) (t_lines : Int32) (t_hasWait : Int32) (t_undoMany : Int32) (t_firstMinute : Int32) (t_lookClock : Int32) (t_hasTime : Int32) (t_latestMost : Int32) (t_textMany : Int32) (t_seed : Int32) (t_toldMany : Int32) (t_hasTold : Int32) (t_codes : Int32) (t_ones : Int32) (t_top : Int32) (t_deep : Int32) (t_isWhole : Int32) (t_tape : Nat → Int32) (t_s : Nat → Int32) (t_shown : Nat → Int32) : va_W := [(q_t, .inr (13, [.int t_thrown, .ref q_t_tape, .int t_length, .int t_size, .int t_p, .int t_limit, .ref q_t_s, .ref q_t_h, .ref q_t_read, .ref q_t_names, .ref q_t_reserved, .int t_token, .int t_at, .int t_span, .int t_number, .int t_fault, .int t_faultAt, .long t_word, .int t_got, .int t_lines, .int t_hasWait, .ref q_t_undone, .ref q_t_before, .int t_undoMany, .ref q_t_comeRow, .int t_firstMinute, .int t_lookClock, .int t_hasTime, .ref q_t_shown, .int t_latestMost, .ref q_t_text, .int t_textMany, .int t_seed, .int t_toldMany, .ref q_t_toldAt, .int t_hasTold, .ref q_t_stack, .int t_codes, .int t_ones, .int t_top, .int t_deep, .int t_isWhole, .ref q_t_truths, .ref q_t_imaged, .ref q_t_namesKept, .ref q_t_areKept])), (q_t_tape, .inl (cy 0, 940, .inl t_tape)), (q_t_s, .inl (cy 1, 334, .inl t_s)), (q_t_shown, .inl (cy 1, 720, .inl t_shown))]
theorem iX12_time_X12 : ∀ w ∈ wsX120, w ∈ wsX12_time := fun _ h => List.mem_cons_of_mem _ (List.mem_append_right _ h)
abbrev rm_X12_time : Room := { frames := 6, cells := 0, slots := 0, locals := 134 }
set_option maxRecDepth 100000 in
def f_X12_time_163 (N : Nat) (t_tape : Nat → Int32) (t_s : Nat → Int32) : Nat → Int32 → Int32 → Int32 → Int32 → Int32 → Int32 → Int32 → Int32 → Int32 → Int32 → Int32 → (Nat → Int32) → (Option (Int32 × Int32 × Int32 × Int32 × Int32 × Int32 × Int32 × Int32 × Int32 × (Nat → Int32)))
  | 0, _, _, _, _, _, _, _, _, _, _, _, _ => none
  | n + 1, x1, x3, x4, c_t_thrown, c_t_length, c_t_size, c_t_p, c_t_limit, c_t_firstMinute, c_t_lookClock, c_t_hasTime, c_t_shown => if (t_s 0) ≤ x4 then (some (x1, c_t_thrown, c_t_length, c_t_size, c_t_p, c_t_limit, c_t_firstMinute, c_t_lookClock, c_t_hasTime, c_t_shown)) else (zcl (f_X12_leftBy N x4 c_t_size c_t_shown t_s t_tape) fun z177 => if z177.1 < x3 then (zbn (x4 + 1) fun y1 => f_X12_time_163 N t_tape t_s n x1 z177.1 y1 c_t_thrown c_t_length c_t_size c_t_p c_t_limit c_t_firstMinute x4 c_t_hasTime z177.2) else (zbn (x4 + 1) fun y2 => f_X12_time_163 N t_tape t_s n x1 x3 y2 c_t_thrown c_t_length c_t_size c_t_p c_t_limit c_t_firstMinute c_t_lookClock c_t_hasTime z177.2))
set_option maxRecDepth 100000 in
def f_X12_time_98 (N : Nat) (t_tape : Nat → Int32) (t_s : Nat → Int32) : Nat → Int32 → Int32 → Int32 → Int32 → Int32 → Int32 → Int32 → Int32 → Int32 → Int32 → Int32 → (Nat → Int32) → (Option (Int32 × Int32 × Int32 × Int32 × Int32 × Int32 × Int32 × Int32 × Int32 × (Nat → Int32)))
  | 0, _, _, _, _, _, _, _, _, _, _, _, _ => none
  | n + 1, x1, x2, x3, c_t_thrown, c_t_length, c_t_size, c_t_p, c_t_limit, c_t_firstMinute, c_t_lookClock, c_t_hasTime, c_t_shown => if x3 < 0 then (if x1 = 0 then (some (0, c_t_thrown, c_t_length, c_t_size, c_t_p, c_t_limit, c_t_firstMinute, c_t_lookClock, c_t_hasTime, c_t_shown)) else (f_X12_time_163 N t_tape t_s N x1 1000000 0 c_t_thrown c_t_length c_t_size c_t_p c_t_limit x2 c_t_lookClock 1 c_t_shown)) else (zcl (f_X12_isTime N ((t_s 52) + x3) c_t_size t_tape t_s) fun z112 => if z112 = 0 then (zbn (x3 + (-1)) fun y4 => f_X12_time_98 N t_tape t_s n x1 x2 y4 c_t_thrown c_t_length c_t_size c_t_p c_t_limit c_t_firstMinute c_t_lookClock c_t_hasTime c_t_shown) else (zbn (x1 + 1) fun y1 => zbn (((t_s 52) + x3)) fun y2 => zbn (x3 + (-1)) fun y3 => f_X12_time_98 N t_tape t_s n y1 y2 y3 c_t_thrown c_t_length c_t_size c_t_p c_t_limit c_t_firstMinute c_t_lookClock c_t_hasTime c_t_shown))
set_option maxRecDepth 100000 in
def f_X12_time_38 (N : Nat) (t_tape : Nat → Int32) (t_s : Nat → Int32) : Nat → Int32 → Int32 → Int32 → Int32 → Int32 → Int32 → Int32 → Int32 → Int32 → (Nat → Int32) → (Option (Int32 × Int32 × Int32 × Int32 × Int32 × Int32 × Int32 × Int32 × Int32 × (Nat → Int32)))
  | 0, _, _, _, _, _, _, _, _, _, _ => none
  | n + 1, x1, c_t_thrown, c_t_length, c_t_size, c_t_p, c_t_limit, c_t_firstMinute, c_t_lookClock, c_t_hasTime, c_t_shown => if c_t_size ≤ x1 then (f_X12_time_98 N t_tape t_s N 0 0 1439 c_t_thrown c_t_length c_t_size c_t_p c_t_limit c_t_firstMinute c_t_lookClock c_t_hasTime c_t_shown) else (zcl (f_X12_octet N x1 t_tape) fun z49 => zcl (f_X12_isClock N z49 t_s) fun z52 => if z52 = 0 then (some ((-1), c_t_thrown, c_t_length, c_t_size, c_t_p, c_t_limit, c_t_firstMinute, c_t_lookClock, c_t_hasTime, c_t_shown)) else (zcl (f_X12_octet N (x1 + 1) t_tape) fun z62 => if 11 < z62 then (some ((-1), c_t_thrown, c_t_length, c_t_size, c_t_p, c_t_limit, c_t_firstMinute, c_t_lookClock, c_t_hasTime, c_t_shown)) else (zcl (f_X12_octet N (x1 + 2) t_tape) fun z74 => if z74 ≤ 59 then (zbn (x1 + 3) fun y1 => f_X12_time_38 N t_tape t_s n y1 c_t_thrown c_t_length c_t_size c_t_p c_t_limit c_t_firstMinute c_t_lookClock c_t_hasTime c_t_shown) else (some ((-1), c_t_thrown, c_t_length, c_t_size, c_t_p, c_t_limit, c_t_firstMinute, c_t_lookClock, c_t_hasTime, c_t_shown)))))
set_option maxRecDepth 100000 in
def f_X12_time (N : Nat) (t_thrown : Int32) (t_length : Int32) (t_size : Int32) (t_p : Int32) (t_limit : Int32) (t_firstMinute : Int32) (t_lookClock : Int32) (t_hasTime : Int32) (t_tape : Nat → Int32) (t_s : Nat → Int32) (t_shown : Nat → Int32) : Option (Int32 × Int32 × Int32 × Int32 × Int32 × Int32 × Int32 × Int32 × Int32 × (Nat → Int32)) := zcl (f_X12_taken N 940 t_length t_size t_p t_limit) fun z9 => zcl (f_X12_isIn N z9.2.1 3 15) fun z19 => if z19 = 0 then (some ((-1), 0, z9.1, z9.2.1, z9.2.2.1, z9.2.2.2, t_firstMinute, t_lookClock, t_hasTime, t_shown)) else (if (zrem z9.2.1 3) = 0 then (f_X12_time_38 N t_tape t_s N 0 0 z9.1 z9.2.1 z9.2.2.1 z9.2.2.2 t_firstMinute t_lookClock t_hasTime t_shown) else (some ((-1), 0, z9.1, z9.2.1, z9.2.2.1, z9.2.2.2, t_firstMinute, t_lookClock, t_hasTime, t_shown)))
set_option maxHeartbeats 4000000 in
set_option maxRecDepth 100000 in
theorem w_X12_time_163 {p : Program} {l : Launch} {e : Env} {s : State} {m : MethodId} {args : Array Value} {below : List Frame} {meth : Method} {c : Code} {G : va_G} {cy : Nat → ClassId} {E : Nat → Nat} {w0 : va_W} {N : Nat} {q_t q_t_tape q_t_s q_t_h q_t_read q_t_names q_t_reserved q_t_undone q_t_before q_t_comeRow q_t_shown q_t_text q_t_toldAt q_t_stack q_t_truths q_t_imaged q_t_namesKept q_t_areKept : Nat} {t_token : Int32} {t_at : Int32} {t_span : Int32} {t_number : Int32} {t_fault : Int32} {t_faultAt : Int32} {t_word : Int64} {t_got : Int32} {t_lines : Int32} {t_hasWait : Int32} {t_undoMany : Int32} {t_latestMost : Int32} {t_textMany : Int32} {t_seed : Int32} {t_toldMany : Int32} {t_hasTold : Int32} {t_codes : Int32} {t_ones : Int32} {t_top : Int32} {t_deep : Int32} {t_isWhole : Int32} {t_tape : Nat → Int32} {t_s : Nat → Int32} {r : Int32} {r_t_thrown : Int32} {r_t_length : Int32} {r_t_size : Int32} {r_t_p : Int32} {r_t_limit : Int32} {r_t_firstMinute : Int32} {r_t_lookClock : Int32} {r_t_hasTime : Int32} {r_t_shown : Nat → Int32} (S : CallFix p m c cX12_time 6 s args wsX12_time RX12) (hr : meth.sig.returnType = some .int) (hlocks : meth.locks = false) (hF : zF G cy E (va_A w0 s.heap.size) s) :
    ∀ (n : Nat) (x1 : Int32) (x3 : Int32) (x4 : Int32) (c_t_thrown : Int32) (c_t_length : Int32) (c_t_size : Int32) (c_t_p : Int32) (c_t_limit : Int32) (c_t_firstMinute : Int32) (c_t_lookClock : Int32) (c_t_hasTime : Int32) (c_t_shown : Nat → Int32) (H : Heap) (locs : List Loc) (ls : Array Slot), zH G (va_A w0 s.heap.size) s H locs (wd_X12_time cy q_t q_t_tape q_t_s q_t_h q_t_read q_t_names q_t_reserved q_t_undone q_t_before q_t_comeRow q_t_shown q_t_text q_t_toldAt q_t_stack q_t_truths q_t_imaged q_t_namesKept q_t_areKept c_t_thrown c_t_length c_t_size c_t_p c_t_limit t_token t_at t_span t_number t_fault t_faultAt t_word t_got t_lines t_hasWait t_undoMany c_t_firstMinute c_t_lookClock c_t_hasTime t_latestMost t_textMany t_seed t_toldMany t_hasTold t_codes t_ones t_top t_deep t_isWhole t_tape t_s c_t_shown) → lv_has ls 6 [(0, .ref q_t), (1, .int x1), (3, .int x3), (4, .int x4)] → f_X12_time_163 N t_tape t_s n x1 x3 x4 c_t_thrown c_t_length c_t_size c_t_p c_t_limit c_t_firstMinute c_t_lookClock c_t_hasTime c_t_shown = some (r, r_t_thrown, r_t_length, r_t_size, r_t_p, r_t_limit, r_t_firstMinute, r_t_lookClock, r_t_hasTime, r_t_shown) → W p l e rm_X12_time s m args below meth c H locs 0 0 (MQ below (zQ G w0 (wd_X12_time cy q_t q_t_tape q_t_s q_t_h q_t_read q_t_names q_t_reserved q_t_undone q_t_before q_t_comeRow q_t_shown q_t_text q_t_toldAt q_t_stack q_t_truths q_t_imaged q_t_namesKept q_t_areKept r_t_thrown r_t_length r_t_size r_t_p r_t_limit t_token t_at t_span t_number t_fault t_faultAt t_word t_got t_lines t_hasWait t_undoMany r_t_firstMinute r_t_lookClock r_t_hasTime t_latestMost t_textMany t_seed t_toldMany t_hasTold t_codes t_ones t_top t_deep t_isWhole t_tape t_s r_t_shown) s.heap.size (some (.int r))) args s 0 0 (va_A w0 s.heap.size)) (F0 m 163 ls []) := by
  obtain ⟨hx, hb, hml, hown, hts⟩ := id S
  intro n
  induction n with
  | zero =>
    intro x1 x3 x4 c_t_thrown c_t_length c_t_size c_t_p c_t_limit c_t_firstMinute c_t_lookClock c_t_hasTime c_t_shown H locs ls hH hl h
    rw [f_X12_time_163] at h
    cases h
  | succ n ih =>
    intro x1 x3 x4 c_t_thrown c_t_length c_t_size c_t_p c_t_limit c_t_firstMinute c_t_lookClock c_t_hasTime c_t_shown H locs ls hH hl h
    rw [f_X12_time_163] at h
    refine lv_iload hx hb dX12_time_163 (lv_at hl 3 rfl) ?_
    refine lv_aload_n hx hb dX12_time_165 rfl (lv_at hl 0 rfl) ?_
    refine z_get S hF hH iX12_time_X12 0 rfl rfl 6 (by decide) (List.mem_of_getElem? (i := 3) rfl) rfl dX12_time_166 ?_
    refine lv_iconst (v := 0) hx hb dX12_time_169 (by decide) ?_
    refine z_iald (j := 0) S hF hH 2 rfl (by decide) rfl dX12_time_170 ?_
    refine lv_icmp_ge (tgt := 206) hx hb dX12_time_171 (by decide) (fun b171 => ?_) (fun b171 => ?_)
    · replace h := zif_t b171 h
      refine lv_iload_n hx hb dX12_time_206 rfl (lv_at hl 1 rfl) ?_
      cases h
      exact z_iret S hr hlocks hH dX12_time_207
    · replace h := zif_f b171 h
      refine lv_aload_n hx hb dX12_time_174 rfl (lv_at hl 0 rfl) ?_
      refine lv_iload hx hb dX12_time_175 (lv_at hl 3 rfl) ?_
      obtain ⟨z177, hz177, h⟩ := zcl_e h
      refine z_callV (As := [.int x4]) (rest := []) (st1 := [.int z177.1]) (ws' := (wd_X12_time cy q_t q_t_tape q_t_s q_t_h q_t_read q_t_names q_t_reserved q_t_undone q_t_before q_t_comeRow q_t_shown q_t_text q_t_toldAt q_t_stack q_t_truths q_t_imaged q_t_namesKept q_t_areKept c_t_thrown c_t_length c_t_size c_t_p c_t_limit t_token t_at t_span t_number t_fault t_faultAt t_word t_got t_lines t_hasWait t_undoMany c_t_firstMinute c_t_lookClock c_t_hasTime t_latestMost t_textMany t_seed t_toldMany t_hasTold t_codes t_ones t_top t_deep t_isWhole t_tape t_s z177.2)) S hF hH (c_X12_leftBy l G cy E N q_t q_t_tape q_t_s q_t_h q_t_read q_t_names q_t_reserved q_t_undone q_t_before q_t_comeRow q_t_shown q_t_text q_t_toldAt q_t_stack q_t_truths q_t_imaged q_t_namesKept q_t_areKept c_t_thrown c_t_length c_t_size c_t_p c_t_limit t_token t_at t_span t_number t_fault t_faultAt t_word t_got t_lines t_hasWait t_undoMany c_t_firstMinute c_t_lookClock c_t_hasTime t_latestMost t_textMany t_seed t_toldMany t_hasTold t_codes t_ones t_top t_deep t_isWhole c_t_shown t_s t_tape x4 z177.1 z177.2 hz177) (cwV 1 hts gX12_time_X12_leftBy rfl rfl rfl (by decide +kernel) ⟨Nat.le_of_ble_eq_true rfl, Nat.le_of_ble_eq_true rfl⟩) 13 0 rfl rfl [0, 3, 2, 1] rfl (by decide) rfl rfl rfl rfl rfl hl.1 (Nat.le_of_ble_eq_true rfl) dX12_time_177 ⟨Nat.le_of_ble_eq_true rfl, Nat.le_of_ble_eq_true rfl⟩ (fun H locs hH => ?_)
      refine lv_istore (lv' := [(5, .int z177.1), (0, .ref q_t), (1, .int x1), (3, .int x3), (4, .int x4)]) hx hb dX12_time_180 hl (by decide) rfl (fun ls hl => ?_)
      refine lv_iload hx hb dX12_time_182 (lv_at hl 0 rfl) ?_
      refine lv_iload_n hx hb dX12_time_184 rfl (lv_at hl 3 rfl) ?_
      refine lv_icmp_lt (tgt := 191) hx hb dX12_time_185 (by decide) (fun b185 => ?_) (fun b185 => ?_)
      · replace h := zif_t b185 h
        refine lv_iload hx hb dX12_time_191 (lv_at hl 0 rfl) ?_
        refine lv_istore_n (lv' := [(3, .int z177.1), (5, .int z177.1), (0, .ref q_t), (1, .int x1), (4, .int x4)]) hx hb dX12_time_193 rfl hl (by decide) rfl (fun ls hl => ?_)
        refine lv_aload_n hx hb dX12_time_194 rfl (lv_at hl 2 rfl) ?_
        refine lv_iload hx hb dX12_time_195 (lv_at hl 4 rfl) ?_
        refine z_put (ws' := (wd_X12_time cy q_t q_t_tape q_t_s q_t_h q_t_read q_t_names q_t_reserved q_t_undone q_t_before q_t_comeRow q_t_shown q_t_text q_t_toldAt q_t_stack q_t_truths q_t_imaged q_t_namesKept q_t_areKept c_t_thrown c_t_length c_t_size c_t_p c_t_limit t_token t_at t_span t_number t_fault t_faultAt t_word t_got t_lines t_hasWait t_undoMany c_t_firstMinute x4 c_t_hasTime t_latestMost t_textMany t_seed t_toldMany t_hasTold t_codes t_ones t_top t_deep t_isWhole t_tape t_s z177.2)) S hF hH iX12_time_X12 tyX12 tyX12_ok nmX12 0 rfl rfl 26 (by decide) (List.mem_of_getElem? (i := 7) rfl) rfl rfl rfl (Nat.le_of_ble_eq_true rfl) rfl dX12_time_197 (fun H locs hH => ?_)
        obtain ⟨y1, ey1, h⟩ := zbn_e h
        refine lv_iinc (v := y1) (lv' := [(4, .int y1), (3, .int z177.1), (5, .int z177.1), (0, .ref q_t), (1, .int x1)]) hx hb dX12_time_200 hl (k := 4) rfl (by rw [ey1]; exact congrArg (fun z => x4 + z) (by decide)) (by decide) rfl (fun ls hl => ?_)
        clear ey1
        refine lv_goto (tgt := 163) hx hb dX12_time_203 (by decide) ?_
        exact ih x1 z177.1 y1 c_t_thrown c_t_length c_t_size c_t_p c_t_limit c_t_firstMinute x4 c_t_hasTime z177.2 _ _ _ hH (lv_sub hl [3, 4, 1, 0] rfl) h
      · replace h := zif_f b185 h
        refine lv_goto (tgt := 200) hx hb dX12_time_188 (by decide) ?_
        obtain ⟨y2, ey2, h⟩ := zbn_e h
        refine lv_iinc (v := y2) (lv' := [(4, .int y2), (5, .int z177.1), (0, .ref q_t), (1, .int x1), (3, .int x3)]) hx hb dX12_time_200 hl (k := 4) rfl (by rw [ey2]; exact congrArg (fun z => x4 + z) (by decide)) (by decide) rfl (fun ls hl => ?_)
        clear ey2
        refine lv_goto (tgt := 163) hx hb dX12_time_203 (by decide) ?_
        exact ih x1 x3 y2 c_t_thrown c_t_length c_t_size c_t_p c_t_limit c_t_firstMinute c_t_lookClock c_t_hasTime z177.2 _ _ _ hH (lv_sub hl [2, 3, 4, 0] rfl) h
set_option maxHeartbeats 4000000 in
set_option maxRecDepth 100000 in
theorem w_X12_time_98 {p : Program} {l : Launch} {e : Env} {s : State} {m : MethodId} {args : Array Value} {below : List Frame} {meth : Method} {c : Code} {G : va_G} {cy : Nat → ClassId} {E : Nat → Nat} {w0 : va_W} {N : Nat} {q_t q_t_tape q_t_s q_t_h q_t_read q_t_names q_t_reserved q_t_undone q_t_before q_t_comeRow q_t_shown q_t_text q_t_toldAt q_t_stack q_t_truths q_t_imaged q_t_namesKept q_t_areKept : Nat} {t_token : Int32} {t_at : Int32} {t_span : Int32} {t_number : Int32} {t_fault : Int32} {t_faultAt : Int32} {t_word : Int64} {t_got : Int32} {t_lines : Int32} {t_hasWait : Int32} {t_undoMany : Int32} {t_latestMost : Int32} {t_textMany : Int32} {t_seed : Int32} {t_toldMany : Int32} {t_hasTold : Int32} {t_codes : Int32} {t_ones : Int32} {t_top : Int32} {t_deep : Int32} {t_isWhole : Int32} {t_tape : Nat → Int32} {t_s : Nat → Int32} {r : Int32} {r_t_thrown : Int32} {r_t_length : Int32} {r_t_size : Int32} {r_t_p : Int32} {r_t_limit : Int32} {r_t_firstMinute : Int32} {r_t_lookClock : Int32} {r_t_hasTime : Int32} {r_t_shown : Nat → Int32} (S : CallFix p m c cX12_time 6 s args wsX12_time RX12) (hr : meth.sig.returnType = some .int) (hlocks : meth.locks = false) (hF : zF G cy E (va_A w0 s.heap.size) s) :
    ∀ (n : Nat) (x1 : Int32) (x2 : Int32) (x3 : Int32) (c_t_thrown : Int32) (c_t_length : Int32) (c_t_size : Int32) (c_t_p : Int32) (c_t_limit : Int32) (c_t_firstMinute : Int32) (c_t_lookClock : Int32) (c_t_hasTime : Int32) (c_t_shown : Nat → Int32) (H : Heap) (locs : List Loc) (ls : Array Slot), zH G (va_A w0 s.heap.size) s H locs (wd_X12_time cy q_t q_t_tape q_t_s q_t_h q_t_read q_t_names q_t_reserved q_t_undone q_t_before q_t_comeRow q_t_shown q_t_text q_t_toldAt q_t_stack q_t_truths q_t_imaged q_t_namesKept q_t_areKept c_t_thrown c_t_length c_t_size c_t_p c_t_limit t_token t_at t_span t_number t_fault t_faultAt t_word t_got t_lines t_hasWait t_undoMany c_t_firstMinute c_t_lookClock c_t_hasTime t_latestMost t_textMany t_seed t_toldMany t_hasTold t_codes t_ones t_top t_deep t_isWhole t_tape t_s c_t_shown) → lv_has ls 6 [(0, .ref q_t), (1, .int x1), (2, .int x2), (3, .int x3)] → f_X12_time_98 N t_tape t_s n x1 x2 x3 c_t_thrown c_t_length c_t_size c_t_p c_t_limit c_t_firstMinute c_t_lookClock c_t_hasTime c_t_shown = some (r, r_t_thrown, r_t_length, r_t_size, r_t_p, r_t_limit, r_t_firstMinute, r_t_lookClock, r_t_hasTime, r_t_shown) → W p l e rm_X12_time s m args below meth c H locs 0 0 (MQ below (zQ G w0 (wd_X12_time cy q_t q_t_tape q_t_s q_t_h q_t_read q_t_names q_t_reserved q_t_undone q_t_before q_t_comeRow q_t_shown q_t_text q_t_toldAt q_t_stack q_t_truths q_t_imaged q_t_namesKept q_t_areKept r_t_thrown r_t_length r_t_size r_t_p r_t_limit t_token t_at t_span t_number t_fault t_faultAt t_word t_got t_lines t_hasWait t_undoMany r_t_firstMinute r_t_lookClock r_t_hasTime t_latestMost t_textMany t_seed t_toldMany t_hasTold t_codes t_ones t_top t_deep t_isWhole t_tape t_s r_t_shown) s.heap.size (some (.int r))) args s 0 0 (va_A w0 s.heap.size)) (F0 m 98 ls []) := by
  obtain ⟨hx, hb, hml, hown, hts⟩ := id S
  intro n
  induction n with
  | zero =>
    intro x1 x2 x3 c_t_thrown c_t_length c_t_size c_t_p c_t_limit c_t_firstMinute c_t_lookClock c_t_hasTime c_t_shown H locs ls hH hl h
    rw [f_X12_time_98] at h
    cases h
  | succ n ih =>
    intro x1 x2 x3 c_t_thrown c_t_length c_t_size c_t_p c_t_limit c_t_firstMinute c_t_lookClock c_t_hasTime c_t_shown H locs ls hH hl h
    rw [f_X12_time_98] at h
    refine lv_iload_n hx hb dX12_time_98 rfl (lv_at hl 3 rfl) ?_
    refine lv_if_lt (tgt := 140) hx hb dX12_time_99 (by decide) (fun b99 => ?_) (fun b99 => ?_)
    · replace h := zif_t b99 h
      refine lv_iload_n hx hb dX12_time_140 rfl (lv_at hl 1 rfl) ?_
      refine lv_if_ne (tgt := 146) hx hb dX12_time_141 (by decide) (fun b141 => ?_) (fun b141 => ?_)
      · replace h := zif_f b141 h
        refine lv_aload_n hx hb dX12_time_146 rfl (lv_at hl 0 rfl) ?_
        refine lv_iconst (v := 1) hx hb dX12_time_147 (by decide) ?_
        refine z_put (ws' := (wd_X12_time cy q_t q_t_tape q_t_s q_t_h q_t_read q_t_names q_t_reserved q_t_undone q_t_before q_t_comeRow q_t_shown q_t_text q_t_toldAt q_t_stack q_t_truths q_t_imaged q_t_namesKept q_t_areKept c_t_thrown c_t_length c_t_size c_t_p c_t_limit t_token t_at t_span t_number t_fault t_faultAt t_word t_got t_lines t_hasWait t_undoMany c_t_firstMinute c_t_lookClock 1 t_latestMost t_textMany t_seed t_toldMany t_hasTold t_codes t_ones t_top t_deep t_isWhole t_tape t_s c_t_shown)) S hF hH iX12_time_X12 tyX12 tyX12_ok nmX12 0 rfl rfl 27 (by decide) (List.mem_of_getElem? (i := 4) rfl) rfl rfl rfl (Nat.le_of_ble_eq_true rfl) rfl dX12_time_148 (fun H locs hH => ?_)
        refine lv_aload_n hx hb dX12_time_151 rfl (lv_at hl 0 rfl) ?_
        refine lv_iload_n hx hb dX12_time_152 rfl (lv_at hl 2 rfl) ?_
        refine z_put (ws' := (wd_X12_time cy q_t q_t_tape q_t_s q_t_h q_t_read q_t_names q_t_reserved q_t_undone q_t_before q_t_comeRow q_t_shown q_t_text q_t_toldAt q_t_stack q_t_truths q_t_imaged q_t_namesKept q_t_areKept c_t_thrown c_t_length c_t_size c_t_p c_t_limit t_token t_at t_span t_number t_fault t_faultAt t_word t_got t_lines t_hasWait t_undoMany x2 c_t_lookClock 1 t_latestMost t_textMany t_seed t_toldMany t_hasTold t_codes t_ones t_top t_deep t_isWhole t_tape t_s c_t_shown)) S hF hH iX12_time_X12 tyX12 tyX12_ok nmX12 0 rfl rfl 25 (by decide) (List.mem_of_getElem? (i := 5) rfl) rfl rfl rfl (Nat.le_of_ble_eq_true rfl) rfl dX12_time_153 (fun H locs hH => ?_)
        refine lv_ldcw (v := 1000000) hx hb hown (hts _ (List.mem_of_getElem? (i := 6) rfl)) dX12_time_156 ?_
        refine lv_istore_n (lv' := [(3, .int 1000000), (0, .ref q_t), (1, .int x1), (2, .int x2)]) hx hb dX12_time_159 rfl hl (by decide) rfl (fun ls hl => ?_)
        refine lv_iconst (v := 0) hx hb dX12_time_160 (by decide) ?_
        refine lv_istore (lv' := [(4, .int 0), (3, .int 1000000), (0, .ref q_t), (1, .int x1), (2, .int x2)]) hx hb dX12_time_161 hl (by decide) rfl (fun ls hl => ?_)
        exact w_X12_time_163 S hr hlocks hF N x1 1000000 0 c_t_thrown c_t_length c_t_size c_t_p c_t_limit x2 c_t_lookClock 1 c_t_shown _ _ _ hH (lv_sub hl [2, 3, 1, 0] rfl) h
      · replace h := zif_t b141 h
        refine lv_iconst (v := 0) hx hb dX12_time_144 (by decide) ?_
        cases h
        exact z_iret S hr hlocks hH dX12_time_145
    · replace h := zif_f b99 h
      refine lv_aload_n hx hb dX12_time_102 rfl (lv_at hl 0 rfl) ?_
      refine lv_aload_n hx hb dX12_time_103 rfl (lv_at hl 0 rfl) ?_
      refine z_get S hF hH iX12_time_X12 0 rfl rfl 6 (by decide) (List.mem_of_getElem? (i := 3) rfl) rfl dX12_time_104 ?_
      refine lv_bipush (v := 52) hx hb dX12_time_107 (by decide) ?_
      refine z_iald (j := 52) S hF hH 2 rfl (by decide) rfl dX12_time_109 ?_
      refine lv_iload_n hx hb dX12_time_110 rfl (lv_at hl 3 rfl) ?_
      refine lv_iadd hx hb dX12_time_111 ?_
      obtain ⟨z112, hz112, h⟩ := zcl_e h
      refine z_callV (As := [.int ((t_s 52) + x3)]) (rest := []) (st1 := [.int z112]) (ws' := (wd_X12_time cy q_t q_t_tape q_t_s q_t_h q_t_read q_t_names q_t_reserved q_t_undone q_t_before q_t_comeRow q_t_shown q_t_text q_t_toldAt q_t_stack q_t_truths q_t_imaged q_t_namesKept q_t_areKept c_t_thrown c_t_length c_t_size c_t_p c_t_limit t_token t_at t_span t_number t_fault t_faultAt t_word t_got t_lines t_hasWait t_undoMany c_t_firstMinute c_t_lookClock c_t_hasTime t_latestMost t_textMany t_seed t_toldMany t_hasTold t_codes t_ones t_top t_deep t_isWhole t_tape t_s c_t_shown)) S hF hH (c_X12_isTime l G cy E N q_t q_t_tape q_t_s q_t_h q_t_read q_t_names q_t_reserved q_t_undone q_t_before q_t_comeRow q_t_shown q_t_text q_t_toldAt q_t_stack q_t_truths q_t_imaged q_t_namesKept q_t_areKept c_t_thrown c_t_length c_t_size c_t_p c_t_limit t_token t_at t_span t_number t_fault t_faultAt t_word t_got t_lines t_hasWait t_undoMany c_t_firstMinute c_t_lookClock c_t_hasTime t_latestMost t_textMany t_seed t_toldMany t_hasTold t_codes t_ones t_top t_deep t_isWhole t_tape t_s ((t_s 52) + x3) z112 hz112) (cwV 1 hts gX12_time_X12_isTime rfl rfl rfl (by decide +kernel) ⟨Nat.le_of_ble_eq_true rfl, Nat.le_of_ble_eq_true rfl⟩) 13 0 rfl rfl [0, 1, 2] rfl (by decide) rfl rfl rfl rfl rfl hl.1 (Nat.le_of_ble_eq_true rfl) dX12_time_112 ⟨Nat.le_of_ble_eq_true rfl, Nat.le_of_ble_eq_true rfl⟩ (fun H locs hH => ?_)
      refine lv_if_ne (tgt := 121) hx hb dX12_time_115 (by decide) (fun b115 => ?_) (fun b115 => ?_)
      · replace h := zif_f b115 h
        obtain ⟨y1, ey1, h⟩ := zbn_e h
        refine lv_iinc (v := y1) (lv' := [(1, .int y1), (0, .ref q_t), (2, .int x2), (3, .int x3)]) hx hb dX12_time_121 hl (k := 1) rfl (by rw [ey1]; exact congrArg (fun z => x1 + z) (by decide)) (by decide) rfl (fun ls hl => ?_)
        clear ey1
        refine lv_aload_n hx hb dX12_time_124 rfl (lv_at hl 1 rfl) ?_
        refine z_get S hF hH iX12_time_X12 0 rfl rfl 6 (by decide) (List.mem_of_getElem? (i := 3) rfl) rfl dX12_time_125 ?_
        refine lv_bipush (v := 52) hx hb dX12_time_128 (by decide) ?_
        refine z_iald (j := 52) S hF hH 2 rfl (by decide) rfl dX12_time_130 ?_
        refine lv_iload_n hx hb dX12_time_131 rfl (lv_at hl 3 rfl) ?_
        refine lv_iadd hx hb dX12_time_132 ?_
        obtain ⟨y2, ey2, h⟩ := zbn_e h
        refine z_top ey2 ?_
        clear ey2
        refine lv_istore_n (lv' := [(2, .int y2), (1, .int y1), (0, .ref q_t), (3, .int x3)]) hx hb dX12_time_133 rfl hl (by decide) rfl (fun ls hl => ?_)
        obtain ⟨y3, ey3, h⟩ := zbn_e h
        refine lv_iinc (v := y3) (lv' := [(3, .int y3), (2, .int y2), (1, .int y1), (0, .ref q_t)]) hx hb dX12_time_134 hl (k := 3) rfl (by rw [ey3]; exact congrArg (fun z => x3 + z) (by decide)) (by decide) rfl (fun ls hl => ?_)
        clear ey3
        refine lv_goto (tgt := 98) hx hb dX12_time_137 (by decide) ?_
        exact ih y1 y2 y3 c_t_thrown c_t_length c_t_size c_t_p c_t_limit c_t_firstMinute c_t_lookClock c_t_hasTime c_t_shown _ _ _ hH (lv_sub hl [3, 2, 1, 0] rfl) h
      · replace h := zif_t b115 h
        refine lv_goto (tgt := 134) hx hb dX12_time_118 (by decide) ?_
        obtain ⟨y4, ey4, h⟩ := zbn_e h
        refine lv_iinc (v := y4) (lv' := [(3, .int y4), (0, .ref q_t), (1, .int x1), (2, .int x2)]) hx hb dX12_time_134 hl (k := 3) rfl (by rw [ey4]; exact congrArg (fun z => x3 + z) (by decide)) (by decide) rfl (fun ls hl => ?_)
        clear ey4
        refine lv_goto (tgt := 98) hx hb dX12_time_137 (by decide) ?_
        exact ih x1 x2 y4 c_t_thrown c_t_length c_t_size c_t_p c_t_limit c_t_firstMinute c_t_lookClock c_t_hasTime c_t_shown _ _ _ hH (lv_sub hl [1, 2, 3, 0] rfl) h
set_option maxHeartbeats 4000000 in
set_option maxRecDepth 100000 in
theorem w_X12_time_38 {p : Program} {l : Launch} {e : Env} {s : State} {m : MethodId} {args : Array Value} {below : List Frame} {meth : Method} {c : Code} {G : va_G} {cy : Nat → ClassId} {E : Nat → Nat} {w0 : va_W} {N : Nat} {q_t q_t_tape q_t_s q_t_h q_t_read q_t_names q_t_reserved q_t_undone q_t_before q_t_comeRow q_t_shown q_t_text q_t_toldAt q_t_stack q_t_truths q_t_imaged q_t_namesKept q_t_areKept : Nat} {t_token : Int32} {t_at : Int32} {t_span : Int32} {t_number : Int32} {t_fault : Int32} {t_faultAt : Int32} {t_word : Int64} {t_got : Int32} {t_lines : Int32} {t_hasWait : Int32} {t_undoMany : Int32} {t_latestMost : Int32} {t_textMany : Int32} {t_seed : Int32} {t_toldMany : Int32} {t_hasTold : Int32} {t_codes : Int32} {t_ones : Int32} {t_top : Int32} {t_deep : Int32} {t_isWhole : Int32} {t_tape : Nat → Int32} {t_s : Nat → Int32} {r : Int32} {r_t_thrown : Int32} {r_t_length : Int32} {r_t_size : Int32} {r_t_p : Int32} {r_t_limit : Int32} {r_t_firstMinute : Int32} {r_t_lookClock : Int32} {r_t_hasTime : Int32} {r_t_shown : Nat → Int32} (S : CallFix p m c cX12_time 6 s args wsX12_time RX12) (hr : meth.sig.returnType = some .int) (hlocks : meth.locks = false) (hF : zF G cy E (va_A w0 s.heap.size) s) :
    ∀ (n : Nat) (x1 : Int32) (c_t_thrown : Int32) (c_t_length : Int32) (c_t_size : Int32) (c_t_p : Int32) (c_t_limit : Int32) (c_t_firstMinute : Int32) (c_t_lookClock : Int32) (c_t_hasTime : Int32) (c_t_shown : Nat → Int32) (H : Heap) (locs : List Loc) (ls : Array Slot), zH G (va_A w0 s.heap.size) s H locs (wd_X12_time cy q_t q_t_tape q_t_s q_t_h q_t_read q_t_names q_t_reserved q_t_undone q_t_before q_t_comeRow q_t_shown q_t_text q_t_toldAt q_t_stack q_t_truths q_t_imaged q_t_namesKept q_t_areKept c_t_thrown c_t_length c_t_size c_t_p c_t_limit t_token t_at t_span t_number t_fault t_faultAt t_word t_got t_lines t_hasWait t_undoMany c_t_firstMinute c_t_lookClock c_t_hasTime t_latestMost t_textMany t_seed t_toldMany t_hasTold t_codes t_ones t_top t_deep t_isWhole t_tape t_s c_t_shown) → lv_has ls 6 [(0, .ref q_t), (1, .int x1)] → f_X12_time_38 N t_tape t_s n x1 c_t_thrown c_t_length c_t_size c_t_p c_t_limit c_t_firstMinute c_t_lookClock c_t_hasTime c_t_shown = some (r, r_t_thrown, r_t_length, r_t_size, r_t_p, r_t_limit, r_t_firstMinute, r_t_lookClock, r_t_hasTime, r_t_shown) → W p l e rm_X12_time s m args below meth c H locs 0 0 (MQ below (zQ G w0 (wd_X12_time cy q_t q_t_tape q_t_s q_t_h q_t_read q_t_names q_t_reserved q_t_undone q_t_before q_t_comeRow q_t_shown q_t_text q_t_toldAt q_t_stack q_t_truths q_t_imaged q_t_namesKept q_t_areKept r_t_thrown r_t_length r_t_size r_t_p r_t_limit t_token t_at t_span t_number t_fault t_faultAt t_word t_got t_lines t_hasWait t_undoMany r_t_firstMinute r_t_lookClock r_t_hasTime t_latestMost t_textMany t_seed t_toldMany t_hasTold t_codes t_ones t_top t_deep t_isWhole t_tape t_s r_t_shown) s.heap.size (some (.int r))) args s 0 0 (va_A w0 s.heap.size)) (F0 m 38 ls []) := by
  obtain ⟨hx, hb, hml, hown, hts⟩ := id S
  intro n
  induction n with
  | zero =>
    intro x1 c_t_thrown c_t_length c_t_size c_t_p c_t_limit c_t_firstMinute c_t_lookClock c_t_hasTime c_t_shown H locs ls hH hl h
    rw [f_X12_time_38] at h
    cases h
  | succ n ih =>
    intro x1 c_t_thrown c_t_length c_t_size c_t_p c_t_limit c_t_firstMinute c_t_lookClock c_t_hasTime c_t_shown H locs ls hH hl h
    rw [f_X12_time_38] at h
    refine lv_iload_n hx hb dX12_time_38 rfl (lv_at hl 1 rfl) ?_
    refine lv_aload_n hx hb dX12_time_39 rfl (lv_at hl 0 rfl) ?_
    refine z_get S hF hH iX12_time_X12 0 rfl rfl 3 (by decide) (List.mem_of_getElem? (i := 2) rfl) rfl dX12_time_40 ?_
    refine lv_icmp_ge (tgt := 90) hx hb dX12_time_43 (by decide) (fun b43 => ?_) (fun b43 => ?_)
    · replace h := zif_t b43 h
      refine lv_iconst (v := 0) hx hb dX12_time_90 (by decide) ?_
      refine lv_istore_n (lv' := [(1, .int 0), (0, .ref q_t)]) hx hb dX12_time_91 rfl hl (by decide) rfl (fun ls hl => ?_)
      refine lv_iconst (v := 0) hx hb dX12_time_92 (by decide) ?_
      refine lv_istore_n (lv' := [(2, .int 0), (1, .int 0), (0, .ref q_t)]) hx hb dX12_time_93 rfl hl (by decide) rfl (fun ls hl => ?_)
      refine lv_sipush (v := 1439) hx hb dX12_time_94 (by decide) ?_
      refine lv_istore_n (lv' := [(3, .int 1439), (2, .int 0), (1, .int 0), (0, .ref q_t)]) hx hb dX12_time_97 rfl hl (by decide) rfl (fun ls hl => ?_)
      exact w_X12_time_98 S hr hlocks hF N 0 0 1439 c_t_thrown c_t_length c_t_size c_t_p c_t_limit c_t_firstMinute c_t_lookClock c_t_hasTime c_t_shown _ _ _ hH (lv_sub hl [3, 2, 1, 0] rfl) h
    · replace h := zif_f b43 h
      refine lv_aload_n hx hb dX12_time_46 rfl (lv_at hl 0 rfl) ?_
      refine lv_aload_n hx hb dX12_time_47 rfl (lv_at hl 0 rfl) ?_
      refine lv_iload_n hx hb dX12_time_48 rfl (lv_at hl 1 rfl) ?_
      obtain ⟨z49, hz49, h⟩ := zcl_e h
      refine z_callV (As := [.int x1]) (rest := [.ref q_t]) (st1 := [.int z49, .ref q_t]) (ws' := (wd_X12_time cy q_t q_t_tape q_t_s q_t_h q_t_read q_t_names q_t_reserved q_t_undone q_t_before q_t_comeRow q_t_shown q_t_text q_t_toldAt q_t_stack q_t_truths q_t_imaged q_t_namesKept q_t_areKept c_t_thrown c_t_length c_t_size c_t_p c_t_limit t_token t_at t_span t_number t_fault t_faultAt t_word t_got t_lines t_hasWait t_undoMany c_t_firstMinute c_t_lookClock c_t_hasTime t_latestMost t_textMany t_seed t_toldMany t_hasTold t_codes t_ones t_top t_deep t_isWhole t_tape t_s c_t_shown)) S hF hH (c_X12_octet l G cy E N q_t q_t_tape q_t_s q_t_h q_t_read q_t_names q_t_reserved q_t_undone q_t_before q_t_comeRow q_t_shown q_t_text q_t_toldAt q_t_stack q_t_truths q_t_imaged q_t_namesKept q_t_areKept c_t_thrown c_t_length c_t_size c_t_p c_t_limit t_token t_at t_span t_number t_fault t_faultAt t_word t_got t_lines t_hasWait t_undoMany c_t_firstMinute c_t_lookClock c_t_hasTime t_latestMost t_textMany t_seed t_toldMany t_hasTold t_codes t_ones t_top t_deep t_isWhole t_tape x1 z49 hz49) (cwV 1 hts gX12_time_X12_octet rfl rfl rfl (by decide +kernel) ⟨Nat.le_of_ble_eq_true rfl, Nat.le_of_ble_eq_true rfl⟩) 13 0 rfl rfl [0, 1] rfl (by decide) rfl rfl rfl rfl rfl hl.1 (Nat.le_of_ble_eq_true rfl) dX12_time_49 ⟨Nat.le_of_ble_eq_true rfl, Nat.le_of_ble_eq_true rfl⟩ (fun H locs hH => ?_)
      obtain ⟨z52, hz52, h⟩ := zcl_e h
      refine z_callV (As := [.int z49]) (rest := []) (st1 := [.int z52]) (ws' := (wd_X12_time cy q_t q_t_tape q_t_s q_t_h q_t_read q_t_names q_t_reserved q_t_undone q_t_before q_t_comeRow q_t_shown q_t_text q_t_toldAt q_t_stack q_t_truths q_t_imaged q_t_namesKept q_t_areKept c_t_thrown c_t_length c_t_size c_t_p c_t_limit t_token t_at t_span t_number t_fault t_faultAt t_word t_got t_lines t_hasWait t_undoMany c_t_firstMinute c_t_lookClock c_t_hasTime t_latestMost t_textMany t_seed t_toldMany t_hasTold t_codes t_ones t_top t_deep t_isWhole t_tape t_s c_t_shown)) S hF hH (c_X12_isClock l G cy E N q_t q_t_tape q_t_s q_t_h q_t_read q_t_names q_t_reserved q_t_undone q_t_before q_t_comeRow q_t_shown q_t_text q_t_toldAt q_t_stack q_t_truths q_t_imaged q_t_namesKept q_t_areKept c_t_thrown c_t_length c_t_size c_t_p c_t_limit t_token t_at t_span t_number t_fault t_faultAt t_word t_got t_lines t_hasWait t_undoMany c_t_firstMinute c_t_lookClock c_t_hasTime t_latestMost t_textMany t_seed t_toldMany t_hasTold t_codes t_ones t_top t_deep t_isWhole t_s z49 z52 hz52) (cwV 1 hts gX12_time_X12_isClock rfl rfl rfl (by decide +kernel) ⟨Nat.le_of_ble_eq_true rfl, Nat.le_of_ble_eq_true rfl⟩) 13 0 rfl rfl [0, 2] rfl (by decide) rfl rfl rfl rfl rfl hl.1 (Nat.le_of_ble_eq_true rfl) dX12_time_52 ⟨Nat.le_of_ble_eq_true rfl, Nat.le_of_ble_eq_true rfl⟩ (fun H locs hH => ?_)
      refine lv_if_eq (tgt := 82) hx hb dX12_time_55 (by decide) (fun b55 => ?_) (fun b55 => ?_)
      · replace h := zif_t b55 h
        refine lv_iconst (v := (-1)) hx hb dX12_time_82 (by decide) ?_
        cases h
        exact z_iret S hr hlocks hH dX12_time_83
      · replace h := zif_f b55 h
        refine lv_aload_n hx hb dX12_time_58 rfl (lv_at hl 0 rfl) ?_
        refine lv_iload_n hx hb dX12_time_59 rfl (lv_at hl 1 rfl) ?_
        refine lv_iconst (v := 1) hx hb dX12_time_60 (by decide) ?_
        refine lv_iadd hx hb dX12_time_61 ?_
        obtain ⟨z62, hz62, h⟩ := zcl_e h
        refine z_callV (As := [.int (x1 + 1)]) (rest := []) (st1 := [.int z62]) (ws' := (wd_X12_time cy q_t q_t_tape q_t_s q_t_h q_t_read q_t_names q_t_reserved q_t_undone q_t_before q_t_comeRow q_t_shown q_t_text q_t_toldAt q_t_stack q_t_truths q_t_imaged q_t_namesKept q_t_areKept c_t_thrown c_t_length c_t_size c_t_p c_t_limit t_token t_at t_span t_number t_fault t_faultAt t_word t_got t_lines t_hasWait t_undoMany c_t_firstMinute c_t_lookClock c_t_hasTime t_latestMost t_textMany t_seed t_toldMany t_hasTold t_codes t_ones t_top t_deep t_isWhole t_tape t_s c_t_shown)) S hF hH (c_X12_octet l G cy E N q_t q_t_tape q_t_s q_t_h q_t_read q_t_names q_t_reserved q_t_undone q_t_before q_t_comeRow q_t_shown q_t_text q_t_toldAt q_t_stack q_t_truths q_t_imaged q_t_namesKept q_t_areKept c_t_thrown c_t_length c_t_size c_t_p c_t_limit t_token t_at t_span t_number t_fault t_faultAt t_word t_got t_lines t_hasWait t_undoMany c_t_firstMinute c_t_lookClock c_t_hasTime t_latestMost t_textMany t_seed t_toldMany t_hasTold t_codes t_ones t_top t_deep t_isWhole t_tape (x1 + 1) z62 hz62) (cwV 1 hts gX12_time_X12_octet rfl rfl rfl (by decide +kernel) ⟨Nat.le_of_ble_eq_true rfl, Nat.le_of_ble_eq_true rfl⟩) 13 0 rfl rfl [0, 1] rfl (by decide) rfl rfl rfl rfl rfl hl.1 (Nat.le_of_ble_eq_true rfl) dX12_time_62 ⟨Nat.le_of_ble_eq_true rfl, Nat.le_of_ble_eq_true rfl⟩ (fun H locs hH => ?_)
        refine lv_bipush (v := 11) hx hb dX12_time_65 (by decide) ?_
        refine lv_icmp_gt (tgt := 82) hx hb dX12_time_67 (by decide) (fun b67 => ?_) (fun b67 => ?_)
        · replace h := zif_t b67 h
          refine lv_iconst (v := (-1)) hx hb dX12_time_82 (by decide) ?_
          cases h
          exact z_iret S hr hlocks hH dX12_time_83
        · replace h := zif_f b67 h
          refine lv_aload_n hx hb dX12_time_70 rfl (lv_at hl 0 rfl) ?_
          refine lv_iload_n hx hb dX12_time_71 rfl (lv_at hl 1 rfl) ?_
          refine lv_iconst (v := 2) hx hb dX12_time_72 (by decide) ?_
          refine lv_iadd hx hb dX12_time_73 ?_
          obtain ⟨z74, hz74, h⟩ := zcl_e h
          refine z_callV (As := [.int (x1 + 2)]) (rest := []) (st1 := [.int z74]) (ws' := (wd_X12_time cy q_t q_t_tape q_t_s q_t_h q_t_read q_t_names q_t_reserved q_t_undone q_t_before q_t_comeRow q_t_shown q_t_text q_t_toldAt q_t_stack q_t_truths q_t_imaged q_t_namesKept q_t_areKept c_t_thrown c_t_length c_t_size c_t_p c_t_limit t_token t_at t_span t_number t_fault t_faultAt t_word t_got t_lines t_hasWait t_undoMany c_t_firstMinute c_t_lookClock c_t_hasTime t_latestMost t_textMany t_seed t_toldMany t_hasTold t_codes t_ones t_top t_deep t_isWhole t_tape t_s c_t_shown)) S hF hH (c_X12_octet l G cy E N q_t q_t_tape q_t_s q_t_h q_t_read q_t_names q_t_reserved q_t_undone q_t_before q_t_comeRow q_t_shown q_t_text q_t_toldAt q_t_stack q_t_truths q_t_imaged q_t_namesKept q_t_areKept c_t_thrown c_t_length c_t_size c_t_p c_t_limit t_token t_at t_span t_number t_fault t_faultAt t_word t_got t_lines t_hasWait t_undoMany c_t_firstMinute c_t_lookClock c_t_hasTime t_latestMost t_textMany t_seed t_toldMany t_hasTold t_codes t_ones t_top t_deep t_isWhole t_tape (x1 + 2) z74 hz74) (cwV 1 hts gX12_time_X12_octet rfl rfl rfl (by decide +kernel) ⟨Nat.le_of_ble_eq_true rfl, Nat.le_of_ble_eq_true rfl⟩) 13 0 rfl rfl [0, 1] rfl (by decide) rfl rfl rfl rfl rfl hl.1 (Nat.le_of_ble_eq_true rfl) dX12_time_74 ⟨Nat.le_of_ble_eq_true rfl, Nat.le_of_ble_eq_true rfl⟩ (fun H locs hH => ?_)
          refine lv_bipush (v := 59) hx hb dX12_time_77 (by decide) ?_
          refine lv_icmp_le (tgt := 84) hx hb dX12_time_79 (by decide) (fun b79 => ?_) (fun b79 => ?_)
          · replace h := zif_t b79 h
            obtain ⟨y1, ey1, h⟩ := zbn_e h
            refine lv_iinc (v := y1) (lv' := [(1, .int y1), (0, .ref q_t)]) hx hb dX12_time_84 hl (k := 1) rfl (by rw [ey1]; exact congrArg (fun z => x1 + z) (by decide)) (by decide) rfl (fun ls hl => ?_)
            clear ey1
            refine lv_goto (tgt := 38) hx hb dX12_time_87 (by decide) ?_
            exact ih y1 c_t_thrown c_t_length c_t_size c_t_p c_t_limit c_t_firstMinute c_t_lookClock c_t_hasTime c_t_shown _ _ _ hH (lv_sub hl [1, 0] rfl) h
          · replace h := zif_f b79 h
            refine lv_iconst (v := (-1)) hx hb dX12_time_82 (by decide) ?_
            cases h
            exact z_iret S hr hlocks hH dX12_time_83
set_option maxHeartbeats 4000000 in
set_option maxRecDepth 100000 in
theorem c_X12_time (l : Launch) (G : va_G) (cy : Nat → ClassId) (E : Nat → Nat) (N : Nat) (q_t q_t_tape q_t_s q_t_h q_t_read q_t_names q_t_reserved q_t_undone q_t_before q_t_comeRow q_t_shown q_t_text q_t_toldAt q_t_stack q_t_truths q_t_imaged q_t_namesKept q_t_areKept : Nat) (t_thrown : Int32) (t_length : Int32) (t_size : Int32) (t_p : Int32) (t_limit : Int32) (t_token : Int32) (t_at : Int32) (t_span : Int32) (t_number : Int32) (t_fault : Int32) (t_faultAt : Int32) (t_word : Int64) (t_got : Int32) (t_lines : Int32) (t_hasWait : Int32) (t_undoMany : Int32) (t_firstMinute : Int32) (t_lookClock : Int32) (t_hasTime : Int32) (t_latestMost : Int32) (t_textMany : Int32) (t_seed : Int32) (t_toldMany : Int32) (t_hasTold : Int32) (t_codes : Int32) (t_ones : Int32) (t_top : Int32) (t_deep : Int32) (t_isWhole : Int32) (t_tape : Nat → Int32) (t_s : Nat → Int32) (t_shown : Nat → Int32) (r : Int32) (r_t_thrown : Int32) (r_t_length : Int32) (r_t_size : Int32) (r_t_p : Int32) (r_t_limit : Int32) (r_t_firstMinute : Int32) (r_t_lookClock : Int32) (r_t_hasTime : Int32) (r_t_shown : Nat → Int32) (h : f_X12_time N t_thrown t_length t_size t_p t_limit t_firstMinute t_lookClock t_hasTime t_tape t_s t_shown = some (r, r_t_thrown, r_t_length, r_t_size, r_t_p, r_t_limit, r_t_firstMinute, r_t_lookClock, r_t_hasTime, r_t_shown)) : zM l G cy E yX12_time wsX12_time rm_X12_time [.ref q_t] (wd_X12_time cy q_t q_t_tape q_t_s q_t_h q_t_read q_t_names q_t_reserved q_t_undone q_t_before q_t_comeRow q_t_shown q_t_text q_t_toldAt q_t_stack q_t_truths q_t_imaged q_t_namesKept q_t_areKept t_thrown t_length t_size t_p t_limit t_token t_at t_span t_number t_fault t_faultAt t_word t_got t_lines t_hasWait t_undoMany t_firstMinute t_lookClock t_hasTime t_latestMost t_textMany t_seed t_toldMany t_hasTold t_codes t_ones t_top t_deep t_isWhole t_tape t_s t_shown) (wd_X12_time cy q_t q_t_tape q_t_s q_t_h q_t_read q_t_names q_t_reserved q_t_undone q_t_before q_t_comeRow q_t_shown q_t_text q_t_toldAt q_t_stack q_t_truths q_t_imaged q_t_namesKept q_t_areKept r_t_thrown r_t_length r_t_size r_t_p r_t_limit t_token t_at t_span t_number t_fault t_faultAt t_word t_got t_lines t_hasWait t_undoMany r_t_firstMinute r_t_lookClock r_t_hasTime t_latestMost t_textMany t_seed t_toldMany t_hasTold t_codes t_ones t_top t_deep t_isWhole t_tape t_s r_t_shown) (some (.int r)) 0 0 := by
  refine z_body (cc := cX12_time) (maxL := 6) (ret := some .int) (by decide) rfl (Nat.le_of_ble_eq_true rfl) ?_
  intro p e s m below meth c ls S hr hlocks hnm hF hH hl
  have S : CallFix p m c cX12_time 6 s ([.ref q_t] : List Value).toArray wsX12_time RX12 := S
  obtain ⟨hx, hb, hml, hown, hts⟩ := id S
  have hl : lv_has ls 6 [(0, .ref q_t)] := hl
  rw [f_X12_time] at h
  refine lv_aload_n hx hb dX12_time_0 rfl (lv_at hl 0 rfl) ?_
  refine lv_iconst (v := 0) hx hb dX12_time_1 (by decide) ?_
  refine z_put (ws' := (wd_X12_time cy q_t q_t_tape q_t_s q_t_h q_t_read q_t_names q_t_reserved q_t_undone q_t_before q_t_comeRow q_t_shown q_t_text q_t_toldAt q_t_stack q_t_truths q_t_imaged q_t_namesKept q_t_areKept 0 t_length t_size t_p t_limit t_token t_at t_span t_number t_fault t_faultAt t_word t_got t_lines t_hasWait t_undoMany t_firstMinute t_lookClock t_hasTime t_latestMost t_textMany t_seed t_toldMany t_hasTold t_codes t_ones t_top t_deep t_isWhole t_tape t_s t_shown)) S hF hH iX12_time_X12 tyX12 tyX12_ok nmX12 0 rfl rfl 0 (by decide) (List.mem_of_getElem? (i := 1) rfl) rfl rfl rfl (Nat.le_of_ble_eq_true rfl) rfl dX12_time_2 (fun H locs hH => ?_)
  refine lv_aload_n hx hb dX12_time_5 rfl (lv_at hl 0 rfl) ?_
  refine lv_sipush (v := 940) hx hb dX12_time_6 (by decide) ?_
  obtain ⟨z9, hz9, h⟩ := zcl_e h
  refine z_callV (As := [.int 940]) (rest := []) (st1 := []) (ws' := (wd_X12_time cy q_t q_t_tape q_t_s q_t_h q_t_read q_t_names q_t_reserved q_t_undone q_t_before q_t_comeRow q_t_shown q_t_text q_t_toldAt q_t_stack q_t_truths q_t_imaged q_t_namesKept q_t_areKept 0 z9.1 z9.2.1 z9.2.2.1 z9.2.2.2 t_token t_at t_span t_number t_fault t_faultAt t_word t_got t_lines t_hasWait t_undoMany t_firstMinute t_lookClock t_hasTime t_latestMost t_textMany t_seed t_toldMany t_hasTold t_codes t_ones t_top t_deep t_isWhole t_tape t_s t_shown)) S hF hH (c_X12_taken l G cy E N q_t q_t_tape q_t_s q_t_h q_t_read q_t_names q_t_reserved q_t_undone q_t_before q_t_comeRow q_t_shown q_t_text q_t_toldAt q_t_stack q_t_truths q_t_imaged q_t_namesKept q_t_areKept 0 t_length t_size t_p t_limit t_token t_at t_span t_number t_fault t_faultAt t_word t_got t_lines t_hasWait t_undoMany t_firstMinute t_lookClock t_hasTime t_latestMost t_textMany t_seed t_toldMany t_hasTold t_codes t_ones t_top t_deep t_isWhole 940 z9.1 z9.2.1 z9.2.2.1 z9.2.2.2 hz9) (cwV 1 hts gX12_time_X12_taken rfl rfl rfl (by decide +kernel) ⟨Nat.le_of_ble_eq_true rfl, Nat.le_of_ble_eq_true rfl⟩) 13 0 rfl rfl [0] rfl (by decide) rfl rfl rfl rfl rfl hl.1 (Nat.le_of_ble_eq_true rfl) dX12_time_9 ⟨Nat.le_of_ble_eq_true rfl, Nat.le_of_ble_eq_true rfl⟩ (fun H locs hH => ?_)
  refine lv_aload_n hx hb dX12_time_12 rfl (lv_at hl 0 rfl) ?_
  refine z_get S hF hH iX12_time_X12 0 rfl rfl 3 (by decide) (List.mem_of_getElem? (i := 2) rfl) rfl dX12_time_13 ?_
  refine lv_iconst (v := 3) hx hb dX12_time_16 (by decide) ?_
  refine lv_bipush (v := 15) hx hb dX12_time_17 (by decide) ?_
  obtain ⟨z19, hz19, h⟩ := zcl_e h
  refine z_callS (As := [.int z9.2.1, .int 3, .int 15]) (rest := []) (st1 := [.int z19]) (ws' := (wd_X12_time cy q_t q_t_tape q_t_s q_t_h q_t_read q_t_names q_t_reserved q_t_undone q_t_before q_t_comeRow q_t_shown q_t_text q_t_toldAt q_t_stack q_t_truths q_t_imaged q_t_namesKept q_t_areKept 0 z9.1 z9.2.1 z9.2.2.1 z9.2.2.2 t_token t_at t_span t_number t_fault t_faultAt t_word t_got t_lines t_hasWait t_undoMany t_firstMinute t_lookClock t_hasTime t_latestMost t_textMany t_seed t_toldMany t_hasTold t_codes t_ones t_top t_deep t_isWhole t_tape t_s t_shown)) S hF hH (c_X12_isIn l G cy E N z9.2.1 3 15 z19 hz19) (cwS 3 hts gX12_time_X12_isIn rfl rfl rfl (by decide +kernel) ⟨Nat.le_of_ble_eq_true rfl, Nat.le_of_ble_eq_true rfl⟩) [] rfl (by decide) rfl rfl rfl rfl rfl hl.1 (Nat.le_of_ble_eq_true rfl) dX12_time_19 ⟨Nat.le_of_ble_eq_true rfl, Nat.le_of_ble_eq_true rfl⟩ (fun H locs hH => ?_)
  refine lv_if_eq (tgt := 34) hx hb dX12_time_22 (by decide) (fun b22 => ?_) (fun b22 => ?_)
  · replace h := zif_t b22 h
    refine lv_iconst (v := (-1)) hx hb dX12_time_34 (by decide) ?_
    cases h
    exact z_iret S hr hlocks hH dX12_time_35
  · replace h := zif_f b22 h
    refine lv_aload_n hx hb dX12_time_25 rfl (lv_at hl 0 rfl) ?_
    refine z_get S hF hH iX12_time_X12 0 rfl rfl 3 (by decide) (List.mem_of_getElem? (i := 2) rfl) rfl dX12_time_26 ?_
    refine lv_iconst (v := 3) hx hb dX12_time_29 (by decide) ?_
    refine z_irem hx hb dX12_time_30 (by decide) ?_
    refine lv_if_eq (tgt := 36) hx hb dX12_time_31 (by decide) (fun b31 => ?_) (fun b31 => ?_)
    · replace h := zif_t b31 h
      refine lv_iconst (v := 0) hx hb dX12_time_36 (by decide) ?_
      refine lv_istore_n (lv' := [(1, .int 0), (0, .ref q_t)]) hx hb dX12_time_37 rfl hl (by decide) rfl (fun ls hl => ?_)
      exact w_X12_time_38 S hr hlocks hF N 0 0 z9.1 z9.2.1 z9.2.2.1 z9.2.2.2 t_firstMinute t_lookClock t_hasTime t_shown _ _ _ hH (lv_sub hl [1, 0] rfl) h
    · replace h := zif_f b31 h
      refine lv_iconst (v := (-1)) hx hb dX12_time_34 (by decide) ?_
      cases h
      exact z_iret S hr hlocks hH dX12_time_35
abbrev wd_X12_timeFirst (cy : Nat → ClassId) (q_t q_t_tape q_t_s q_t_h q_t_read q_t_names q_t_reserved q_t_undone q_t_before q_t_comeRow q_t_shown q_t_text q_t_toldAt q_t_stack q_t_truths q_t_imaged q_t_namesKept q_t_areKept : Nat) (t_thrown : Int32) (t_length : Int32) (t_size : Int32) (t_p : Int32) (t_limit : Int32) (t_token : Int32) (t_at : Int32) (t_span : Int32) (t_number : Int32) (t_fault : Int32) (t_faultAt : Int32) (t_word : Int64) (t_got : Int32) (t_lines : Int32) (t_hasWait : Int32) (t_undoMany : Int32) (t_firstMinute : Int32) (t_lookClock : Int32) (t_hasTime : Int32) (t_latestMost : Int32) (t_textMany : Int32) (t_seed : Int32) (t_toldMany : Int32) (t_hasTold : Int32) (t_codes : Int32) (t_ones : Int32) (t_top : Int32) (t_deep : Int32) (t_isWhole : Int32) : va_W := [(q_t, .inr (13, [.int t_thrown, .ref q_t_tape, .int t_length, .int t_size, .int t_p, .int t_limit, .ref q_t_s, .ref q_t_h, .ref q_t_read, .ref q_t_names, .ref q_t_reserved, .int t_token, .int t_at, .int t_span, .int t_number, .int t_fault, .int t_faultAt, .long t_word, .int t_got, .int t_lines, .int t_hasWait, .ref q_t_undone, .ref q_t_before, .int t_undoMany, .ref q_t_comeRow, .int t_firstMinute, .int t_lookClock, .int t_hasTime, .ref q_t_shown, .int t_latestMost, .ref q_t_text, .int t_textMany, .int t_seed, .int t_toldMany, .ref q_t_toldAt, .int t_hasTold, .ref q_t_stack, .int t_codes, .int t_ones, .int t_top, .int t_deep, .int t_isWhole, .ref q_t_truths, .ref q_t_imaged, .ref q_t_namesKept, .ref q_t_areKept]))]
theorem iX12_timeFirst_X12 : ∀ w ∈ wsX120, w ∈ wsX12_timeFirst := fun _ h => List.mem_cons_of_mem _ (List.mem_append_right _ h)
abbrev rm_X12_timeFirst : Room := { frames := 0, cells := 0, slots := 0, locals := 0 }
set_option maxRecDepth 100000 in
def f_X12_timeFirst (N : Nat) (t_thrown : Int32) (t_firstMinute : Int32) (t_hasTime : Int32) : Option (Int32 × Int32) := if t_hasTime = 0 then (some ((-1), 0)) else (some (t_firstMinute, 0))
set_option maxHeartbeats 4000000 in
set_option maxRecDepth 100000 in
theorem c_X12_timeFirst (l : Launch) (G : va_G) (cy : Nat → ClassId) (E : Nat → Nat) (N : Nat) (q_t q_t_tape q_t_s q_t_h q_t_read q_t_names q_t_reserved q_t_undone q_t_before q_t_comeRow q_t_shown q_t_text q_t_toldAt q_t_stack q_t_truths q_t_imaged q_t_namesKept q_t_areKept : Nat) (t_thrown : Int32) (t_length : Int32) (t_size : Int32) (t_p : Int32) (t_limit : Int32) (t_token : Int32) (t_at : Int32) (t_span : Int32) (t_number : Int32) (t_fault : Int32) (t_faultAt : Int32) (t_word : Int64) (t_got : Int32) (t_lines : Int32) (t_hasWait : Int32) (t_undoMany : Int32) (t_firstMinute : Int32) (t_lookClock : Int32) (t_hasTime : Int32) (t_latestMost : Int32) (t_textMany : Int32) (t_seed : Int32) (t_toldMany : Int32) (t_hasTold : Int32) (t_codes : Int32) (t_ones : Int32) (t_top : Int32) (t_deep : Int32) (t_isWhole : Int32) (r : Int32) (r_t_thrown : Int32) (h : f_X12_timeFirst N t_thrown t_firstMinute t_hasTime = some (r, r_t_thrown)) : zM l G cy E yX12_timeFirst wsX12_timeFirst rm_X12_timeFirst [.ref q_t] (wd_X12_timeFirst cy q_t q_t_tape q_t_s q_t_h q_t_read q_t_names q_t_reserved q_t_undone q_t_before q_t_comeRow q_t_shown q_t_text q_t_toldAt q_t_stack q_t_truths q_t_imaged q_t_namesKept q_t_areKept t_thrown t_length t_size t_p t_limit t_token t_at t_span t_number t_fault t_faultAt t_word t_got t_lines t_hasWait t_undoMany t_firstMinute t_lookClock t_hasTime t_latestMost t_textMany t_seed t_toldMany t_hasTold t_codes t_ones t_top t_deep t_isWhole) (wd_X12_timeFirst cy q_t q_t_tape q_t_s q_t_h q_t_read q_t_names q_t_reserved q_t_undone q_t_before q_t_comeRow q_t_shown q_t_text q_t_toldAt q_t_stack q_t_truths q_t_imaged q_t_namesKept q_t_areKept r_t_thrown t_length t_size t_p t_limit t_token t_at t_span t_number t_fault t_faultAt t_word t_got t_lines t_hasWait t_undoMany t_firstMinute t_lookClock t_hasTime t_latestMost t_textMany t_seed t_toldMany t_hasTold t_codes t_ones t_top t_deep t_isWhole) (some (.int r)) 0 0 := by
  refine z_body (cc := cX12_timeFirst) (maxL := 1) (ret := some .int) (by decide) rfl (Nat.le_of_ble_eq_true rfl) ?_
  intro p e s m below meth c ls S hr hlocks hnm hF hH hl
  have S : CallFix p m c cX12_timeFirst 1 s ([.ref q_t] : List Value).toArray wsX12_timeFirst RX12 := S
  obtain ⟨hx, hb, hml, hown, hts⟩ := id S
  have hl : lv_has ls 1 [(0, .ref q_t)] := hl
  rw [f_X12_timeFirst] at h
  refine lv_aload_n hx hb dX12_timeFirst_0 rfl (lv_at hl 0 rfl) ?_
  refine lv_iconst (v := 0) hx hb dX12_timeFirst_1 (by decide) ?_
  refine z_put (ws' := (wd_X12_timeFirst cy q_t q_t_tape q_t_s q_t_h q_t_read q_t_names q_t_reserved q_t_undone q_t_before q_t_comeRow q_t_shown q_t_text q_t_toldAt q_t_stack q_t_truths q_t_imaged q_t_namesKept q_t_areKept 0 t_length t_size t_p t_limit t_token t_at t_span t_number t_fault t_faultAt t_word t_got t_lines t_hasWait t_undoMany t_firstMinute t_lookClock t_hasTime t_latestMost t_textMany t_seed t_toldMany t_hasTold t_codes t_ones t_top t_deep t_isWhole)) S hF hH iX12_timeFirst_X12 tyX12 tyX12_ok nmX12 0 rfl rfl 0 (by decide) (List.mem_of_getElem? (i := 1) rfl) rfl rfl rfl (Nat.le_of_ble_eq_true rfl) rfl dX12_timeFirst_2 (fun H locs hH => ?_)
  refine lv_aload_n hx hb dX12_timeFirst_5 rfl (lv_at hl 0 rfl) ?_
  refine z_get S hF hH iX12_timeFirst_X12 0 rfl rfl 27 (by decide) (List.mem_of_getElem? (i := 2) rfl) rfl dX12_timeFirst_6 ?_
  refine lv_if_eq (tgt := 19) hx hb dX12_timeFirst_9 (by decide) (fun b9 => ?_) (fun b9 => ?_)
  · replace h := zif_t b9 h
    refine lv_iconst (v := (-1)) hx hb dX12_timeFirst_19 (by decide) ?_
    cases h
    exact z_iret S hr hlocks hH dX12_timeFirst_20
  · replace h := zif_f b9 h
    refine lv_aload_n hx hb dX12_timeFirst_12 rfl (lv_at hl 0 rfl) ?_
    refine z_get S hF hH iX12_timeFirst_X12 0 rfl rfl 25 (by decide) (List.mem_of_getElem? (i := 3) rfl) rfl dX12_timeFirst_13 ?_
    refine lv_goto (tgt := 20) hx hb dX12_timeFirst_16 (by decide) ?_
    cases h
    exact z_iret S hr hlocks hH dX12_timeFirst_20
abbrev wd_X12_look (cy : Nat → ClassId) (q_t q_t_tape q_t_s q_t_h q_t_read q_t_names q_t_reserved q_t_undone q_t_before q_t_comeRow q_t_shown q_t_text q_t_toldAt q_t_stack q_t_truths q_t_imaged q_t_namesKept q_t_areKept : Nat) (t_thrown : Int32) (t_length : Int32) (t_size : Int32) (t_p : Int32) (t_limit : Int32) (t_token : Int32) (t_at : Int32) (t_span : Int32) (t_number : Int32) (t_fault : Int32) (t_faultAt : Int32) (t_word : Int64) (t_got : Int32) (t_lines : Int32) (t_hasWait : Int32) (t_undoMany : Int32) (t_firstMinute : Int32) (t_lookClock : Int32) (t_hasTime : Int32) (t_latestMost : Int32) (t_textMany : Int32) (t_seed : Int32) (t_toldMany : Int32) (t_hasTold : Int32) (t_codes : Int32) (t_ones : Int32) (t_top : Int32) (t_deep : Int32) (t_isWhole : Int32) : va_W := [(q_t, .inr (13, [.int t_thrown, .ref q_t_tape, .int t_length, .int t_size, .int t_p, .int t_limit, .ref q_t_s, .ref q_t_h, .ref q_t_read, .ref q_t_names, .ref q_t_reserved, .int t_token, .int t_at, .int t_span, .int t_number, .int t_fault, .int t_faultAt, .long t_word, .int t_got, .int t_lines, .int t_hasWait, .ref q_t_undone, .ref q_t_before, .int t_undoMany, .ref q_t_comeRow, .int t_firstMinute, .int t_lookClock, .int t_hasTime, .ref q_t_shown, .int t_latestMost, .ref q_t_text, .int t_textMany, .int t_seed, .int t_toldMany, .ref q_t_toldAt, .int t_hasTold, .ref q_t_stack, .int t_codes, .int t_ones, .int t_top, .int t_deep, .int t_isWhole, .ref q_t_truths, .ref q_t_imaged, .ref q_t_namesKept, .ref q_t_areKept]))]
theorem iX12_look_X12 : ∀ w ∈ wsX120, w ∈ wsX12_look := fun _ h => List.mem_cons_of_mem _ (List.mem_append_right _ h)
abbrev rm_X12_look : Room := { frames := 0, cells := 0, slots := 0, locals := 0 }
set_option maxRecDepth 100000 in
def f_X12_look (N : Nat) (t_thrown : Int32) (t_lookClock : Int32) (t_hasTime : Int32) : Option (Int32 × Int32) := if t_hasTime = 0 then (some ((-1), 0)) else (some (t_lookClock, 0))
set_option maxHeartbeats 4000000 in
set_option maxRecDepth 100000 in
theorem c_X12_look (l : Launch) (G : va_G) (cy : Nat → ClassId) (E : Nat → Nat) (N : Nat) (q_t q_t_tape q_t_s q_t_h q_t_read q_t_names q_t_reserved q_t_undone q_t_before q_t_comeRow q_t_shown q_t_text q_t_toldAt q_t_stack q_t_truths q_t_imaged q_t_namesKept q_t_areKept : Nat) (t_thrown : Int32) (t_length : Int32) (t_size : Int32) (t_p : Int32) (t_limit : Int32) (t_token : Int32) (t_at : Int32) (t_span : Int32) (t_number : Int32) (t_fault : Int32) (t_faultAt : Int32) (t_word : Int64) (t_got : Int32) (t_lines : Int32) (t_hasWait : Int32) (t_undoMany : Int32) (t_firstMinute : Int32) (t_lookClock : Int32) (t_hasTime : Int32) (t_latestMost : Int32) (t_textMany : Int32) (t_seed : Int32) (t_toldMany : Int32) (t_hasTold : Int32) (t_codes : Int32) (t_ones : Int32) (t_top : Int32) (t_deep : Int32) (t_isWhole : Int32) (r : Int32) (r_t_thrown : Int32) (h : f_X12_look N t_thrown t_lookClock t_hasTime = some (r, r_t_thrown)) : zM l G cy E yX12_look wsX12_look rm_X12_look [.ref q_t] (wd_X12_look cy q_t q_t_tape q_t_s q_t_h q_t_read q_t_names q_t_reserved q_t_undone q_t_before q_t_comeRow q_t_shown q_t_text q_t_toldAt q_t_stack q_t_truths q_t_imaged q_t_namesKept q_t_areKept t_thrown t_length t_size t_p t_limit t_token t_at t_span t_number t_fault t_faultAt t_word t_got t_lines t_hasWait t_undoMany t_firstMinute t_lookClock t_hasTime t_latestMost t_textMany t_seed t_toldMany t_hasTold t_codes t_ones t_top t_deep t_isWhole) (wd_X12_look cy q_t q_t_tape q_t_s q_t_h q_t_read q_t_names q_t_reserved q_t_undone q_t_before q_t_comeRow q_t_shown q_t_text q_t_toldAt q_t_stack q_t_truths q_t_imaged q_t_namesKept q_t_areKept r_t_thrown t_length t_size t_p t_limit t_token t_at t_span t_number t_fault t_faultAt t_word t_got t_lines t_hasWait t_undoMany t_firstMinute t_lookClock t_hasTime t_latestMost t_textMany t_seed t_toldMany t_hasTold t_codes t_ones t_top t_deep t_isWhole) (some (.int r)) 0 0 := by
  refine z_body (cc := cX12_look) (maxL := 1) (ret := some .int) (by decide) rfl (Nat.le_of_ble_eq_true rfl) ?_
  intro p e s m below meth c ls S hr hlocks hnm hF hH hl
  have S : CallFix p m c cX12_look 1 s ([.ref q_t] : List Value).toArray wsX12_look RX12 := S
  obtain ⟨hx, hb, hml, hown, hts⟩ := id S
  have hl : lv_has ls 1 [(0, .ref q_t)] := hl
  rw [f_X12_look] at h
  refine lv_aload_n hx hb dX12_look_0 rfl (lv_at hl 0 rfl) ?_
  refine lv_iconst (v := 0) hx hb dX12_look_1 (by decide) ?_
  refine z_put (ws' := (wd_X12_look cy q_t q_t_tape q_t_s q_t_h q_t_read q_t_names q_t_reserved q_t_undone q_t_before q_t_comeRow q_t_shown q_t_text q_t_toldAt q_t_stack q_t_truths q_t_imaged q_t_namesKept q_t_areKept 0 t_length t_size t_p t_limit t_token t_at t_span t_number t_fault t_faultAt t_word t_got t_lines t_hasWait t_undoMany t_firstMinute t_lookClock t_hasTime t_latestMost t_textMany t_seed t_toldMany t_hasTold t_codes t_ones t_top t_deep t_isWhole)) S hF hH iX12_look_X12 tyX12 tyX12_ok nmX12 0 rfl rfl 0 (by decide) (List.mem_of_getElem? (i := 1) rfl) rfl rfl rfl (Nat.le_of_ble_eq_true rfl) rfl dX12_look_2 (fun H locs hH => ?_)
  refine lv_aload_n hx hb dX12_look_5 rfl (lv_at hl 0 rfl) ?_
  refine z_get S hF hH iX12_look_X12 0 rfl rfl 27 (by decide) (List.mem_of_getElem? (i := 2) rfl) rfl dX12_look_6 ?_
  refine lv_if_eq (tgt := 19) hx hb dX12_look_9 (by decide) (fun b9 => ?_) (fun b9 => ?_)
  · replace h := zif_t b9 h
    refine lv_iconst (v := (-1)) hx hb dX12_look_19 (by decide) ?_
    cases h
    exact z_iret S hr hlocks hH dX12_look_20
  · replace h := zif_f b9 h
    refine lv_aload_n hx hb dX12_look_12 rfl (lv_at hl 0 rfl) ?_
    refine z_get S hF hH iX12_look_X12 0 rfl rfl 26 (by decide) (List.mem_of_getElem? (i := 3) rfl) rfl dX12_look_13 ?_
    refine lv_goto (tgt := 20) hx hb dX12_look_16 (by decide) ?_
    cases h
    exact z_iret S hr hlocks hH dX12_look_20
abbrev wd_X12_alike (cy : Nat → ClassId) (q_t q_t_tape q_t_s q_t_h q_t_read q_t_names q_t_reserved q_t_undone q_t_before q_t_comeRow q_t_shown q_t_text q_t_toldAt q_t_stack q_t_truths q_t_imaged q_t_namesKept q_t_areKept : Nat) (t_thrown : Int32) (t_length : Int32) (t_size : Int32) (t_p : Int32) (t_limit : Int32) (t_token : Int32) (t_at : Int32) (t_span : Int32) (t_number : Int32) (t_fault : Int32) (t_faultAt : Int32) (t_word : Int64) (t_got : Int32) (t_lines : Int32) (t_hasWait : Int32) (t_undoMany : Int32) (t_firstMinute : Int32) (t_lookClock : Int32) (t_hasTime : Int32) (t_latestMost : Int32) (t_textMany : Int32) (t_seed : Int32) (t_toldMany : Int32) (t_hasTold : Int32) (t_codes : Int32) (t_ones : Int32) (t_top : Int32) (t_deep : Int32) (t_isWhole : Int32) (t_s : Nat → Int32) : va_W := [(q_t, .inr (13, [.int t_thrown, .ref q_t_tape, .int t_length, .int t_size, .int t_p, .int t_limit, .ref q_t_s, .ref q_t_h, .ref q_t_read, .ref q_t_names, .ref q_t_reserved, .int t_token, .int t_at, .int t_span, .int t_number, .int t_fault, .int t_faultAt, .long t_word, .int t_got, .int t_lines, .int t_hasWait, .ref q_t_undone, .ref q_t_before, .int t_undoMany, .ref q_t_comeRow, .int t_firstMinute, .int t_lookClock, .int t_hasTime, .ref q_t_shown, .int t_latestMost, .ref q_t_text, .int t_textMany, .int t_seed, .int t_toldMany, .ref q_t_toldAt, .int t_hasTold, .ref q_t_stack, .int t_codes, .int t_ones, .int t_top, .int t_deep, .int t_isWhole, .ref q_t_truths, .ref q_t_imaged, .ref q_t_namesKept, .ref q_t_areKept])), (q_t_s, .inl (cy 1, 334, .inl t_s))]
theorem iX12_alike_X12 : ∀ w ∈ wsX120, w ∈ wsX12_alike := fun _ h => List.mem_cons_of_mem _ (List.mem_append_right _ h)
abbrev rm_X12_alike : Room := { frames := 4, cells := 0, slots := 0, locals := 87 }
set_option maxRecDepth 100000 in
def f_X12_alike_76 (N : Nat) (t_s : Nat → Int32) (k_27 : Int32 → Int32 → Int32 → Int32 → Option (Int32 × Int32)) (x1 : Int32) (x3 : Int32) (c_t_thrown : Int32) : Option (Int32 × Int32) := zbn (x3 + 1) fun y1 => k_27 x1 0 y1 c_t_thrown
set_option maxRecDepth 100000 in
def f_X12_alike_27 (N : Nat) (t_s : Nat → Int32) (k_7 : Int32 → Int32 → Option (Int32 × Int32)) : Nat → Int32 → Int32 → Int32 → Int32 → Option (Int32 × Int32)
  | 0, _, _, _, _ => none
  | n + 1, x1, x2, x3, c_t_thrown => if (t_s 0) ≤ x3 then (if x2 = 0 then (zbn (x1 + 1) fun y1 => k_7 y1 c_t_thrown) else (some (x1, c_t_thrown))) else (if x2 = 0 then (f_X12_alike_76 N t_s (f_X12_alike_27 N t_s k_7 n) x1 x3 c_t_thrown) else (zcl (f_X12_showsAt N x3 ((t_s 52) + x1) t_s) fun z52 => zcl (f_X12_showsAt N 0 ((t_s 52) + x1) t_s) fun z66 => if z52 = z66 then (zbn (x3 + 1) fun y2 => f_X12_alike_27 N t_s k_7 n x1 1 y2 c_t_thrown) else (f_X12_alike_76 N t_s (f_X12_alike_27 N t_s k_7 n) x1 x3 c_t_thrown)))
set_option maxRecDepth 100000 in
def f_X12_alike_7 (N : Nat) (t_s : Nat → Int32) : Nat → Int32 → Int32 → Option (Int32 × Int32)
  | 0, _, _ => none
  | n + 1, x1, c_t_thrown => if 1440 ≤ x1 then (some ((-1), c_t_thrown)) else (if (t_s 0) ≤ 0 then (some ((-1), c_t_thrown)) else (f_X12_alike_27 N t_s (f_X12_alike_7 N t_s n) N x1 1 1 c_t_thrown))
set_option maxRecDepth 100000 in
def f_X12_alike (N : Nat) (t_thrown : Int32) (t_s : Nat → Int32) : Option (Int32 × Int32) := f_X12_alike_7 N t_s N 0 0
set_option maxHeartbeats 4000000 in
set_option maxRecDepth 100000 in
theorem w_X12_alike_76 {p : Program} {l : Launch} {e : Env} {s : State} {m : MethodId} {args : Array Value} {below : List Frame} {meth : Method} {c : Code} {G : va_G} {cy : Nat → ClassId} {E : Nat → Nat} {w0 : va_W} {N : Nat} {q_t q_t_tape q_t_s q_t_h q_t_read q_t_names q_t_reserved q_t_undone q_t_before q_t_comeRow q_t_shown q_t_text q_t_toldAt q_t_stack q_t_truths q_t_imaged q_t_namesKept q_t_areKept : Nat} {t_length : Int32} {t_size : Int32} {t_p : Int32} {t_limit : Int32} {t_token : Int32} {t_at : Int32} {t_span : Int32} {t_number : Int32} {t_fault : Int32} {t_faultAt : Int32} {t_word : Int64} {t_got : Int32} {t_lines : Int32} {t_hasWait : Int32} {t_undoMany : Int32} {t_firstMinute : Int32} {t_lookClock : Int32} {t_hasTime : Int32} {t_latestMost : Int32} {t_textMany : Int32} {t_seed : Int32} {t_toldMany : Int32} {t_hasTold : Int32} {t_codes : Int32} {t_ones : Int32} {t_top : Int32} {t_deep : Int32} {t_isWhole : Int32} {t_s : Nat → Int32} {r : Int32} {r_t_thrown : Int32} {k_27 : Int32 → Int32 → Int32 → Int32 → Option (Int32 × Int32)} (S : CallFix p m c cX12_alike 4 s args wsX12_alike RX12) (hr : meth.sig.returnType = some .int) (hlocks : meth.locks = false) (hF : zF G cy E (va_A w0 s.heap.size) s) (hk_27 : ∀ (x1 : Int32) (x2 : Int32) (x3 : Int32) (c_t_thrown : Int32) (H : Heap) (locs : List Loc) (ls : Array Slot), zH G (va_A w0 s.heap.size) s H locs (wd_X12_alike cy q_t q_t_tape q_t_s q_t_h q_t_read q_t_names q_t_reserved q_t_undone q_t_before q_t_comeRow q_t_shown q_t_text q_t_toldAt q_t_stack q_t_truths q_t_imaged q_t_namesKept q_t_areKept c_t_thrown t_length t_size t_p t_limit t_token t_at t_span t_number t_fault t_faultAt t_word t_got t_lines t_hasWait t_undoMany t_firstMinute t_lookClock t_hasTime t_latestMost t_textMany t_seed t_toldMany t_hasTold t_codes t_ones t_top t_deep t_isWhole t_s) → lv_has ls 4 [(0, .ref q_t), (1, .int x1), (2, .int x2), (3, .int x3)] → k_27 x1 x2 x3 c_t_thrown = some (r, r_t_thrown) → W p l e rm_X12_alike s m args below meth c H locs 0 0 (MQ below (zQ G w0 (wd_X12_alike cy q_t q_t_tape q_t_s q_t_h q_t_read q_t_names q_t_reserved q_t_undone q_t_before q_t_comeRow q_t_shown q_t_text q_t_toldAt q_t_stack q_t_truths q_t_imaged q_t_namesKept q_t_areKept r_t_thrown t_length t_size t_p t_limit t_token t_at t_span t_number t_fault t_faultAt t_word t_got t_lines t_hasWait t_undoMany t_firstMinute t_lookClock t_hasTime t_latestMost t_textMany t_seed t_toldMany t_hasTold t_codes t_ones t_top t_deep t_isWhole t_s) s.heap.size (some (.int r))) args s 0 0 (va_A w0 s.heap.size)) (F0 m 27 ls [])) :
    ∀ (x1 : Int32) (x3 : Int32) (c_t_thrown : Int32) (H : Heap) (locs : List Loc) (ls : Array Slot), zH G (va_A w0 s.heap.size) s H locs (wd_X12_alike cy q_t q_t_tape q_t_s q_t_h q_t_read q_t_names q_t_reserved q_t_undone q_t_before q_t_comeRow q_t_shown q_t_text q_t_toldAt q_t_stack q_t_truths q_t_imaged q_t_namesKept q_t_areKept c_t_thrown t_length t_size t_p t_limit t_token t_at t_span t_number t_fault t_faultAt t_word t_got t_lines t_hasWait t_undoMany t_firstMinute t_lookClock t_hasTime t_latestMost t_textMany t_seed t_toldMany t_hasTold t_codes t_ones t_top t_deep t_isWhole t_s) → lv_has ls 4 [(0, .ref q_t), (1, .int x1), (3, .int x3)] → f_X12_alike_76 N t_s k_27 x1 x3 c_t_thrown = some (r, r_t_thrown) → W p l e rm_X12_alike s m args below meth c H locs 0 0 (MQ below (zQ G w0 (wd_X12_alike cy q_t q_t_tape q_t_s q_t_h q_t_read q_t_names q_t_reserved q_t_undone q_t_before q_t_comeRow q_t_shown q_t_text q_t_toldAt q_t_stack q_t_truths q_t_imaged q_t_namesKept q_t_areKept r_t_thrown t_length t_size t_p t_limit t_token t_at t_span t_number t_fault t_faultAt t_word t_got t_lines t_hasWait t_undoMany t_firstMinute t_lookClock t_hasTime t_latestMost t_textMany t_seed t_toldMany t_hasTold t_codes t_ones t_top t_deep t_isWhole t_s) s.heap.size (some (.int r))) args s 0 0 (va_A w0 s.heap.size)) (F0 m 76 ls []) := by
  obtain ⟨hx, hb, hml, hown, hts⟩ := id S
  intro x1 x3 c_t_thrown H locs ls hH hl h
  rw [f_X12_alike_76] at h
  refine lv_iconst (v := 0) hx hb dX12_alike_76 (by decide) ?_
  refine lv_istore_n (lv' := [(2, .int 0), (0, .ref q_t), (1, .int x1), (3, .int x3)]) hx hb dX12_alike_77 rfl hl (by decide) rfl (fun ls hl => ?_)
  obtain ⟨y1, ey1, h⟩ := zbn_e h
  refine lv_iinc (v := y1) (lv' := [(3, .int y1), (2, .int 0), (0, .ref q_t), (1, .int x1)]) hx hb dX12_alike_78 hl (k := 3) rfl (by rw [ey1]; exact congrArg (fun z => x3 + z) (by decide)) (by decide) rfl (fun ls hl => ?_)
  clear ey1
  refine lv_goto (tgt := 27) hx hb dX12_alike_81 (by decide) ?_
  exact hk_27 x1 0 y1 c_t_thrown _ _ _ hH (lv_sub hl [2, 3, 1, 0] rfl) h
set_option maxHeartbeats 4000000 in
set_option maxRecDepth 100000 in
theorem w_X12_alike_27 {p : Program} {l : Launch} {e : Env} {s : State} {m : MethodId} {args : Array Value} {below : List Frame} {meth : Method} {c : Code} {G : va_G} {cy : Nat → ClassId} {E : Nat → Nat} {w0 : va_W} {N : Nat} {q_t q_t_tape q_t_s q_t_h q_t_read q_t_names q_t_reserved q_t_undone q_t_before q_t_comeRow q_t_shown q_t_text q_t_toldAt q_t_stack q_t_truths q_t_imaged q_t_namesKept q_t_areKept : Nat} {t_length : Int32} {t_size : Int32} {t_p : Int32} {t_limit : Int32} {t_token : Int32} {t_at : Int32} {t_span : Int32} {t_number : Int32} {t_fault : Int32} {t_faultAt : Int32} {t_word : Int64} {t_got : Int32} {t_lines : Int32} {t_hasWait : Int32} {t_undoMany : Int32} {t_firstMinute : Int32} {t_lookClock : Int32} {t_hasTime : Int32} {t_latestMost : Int32} {t_textMany : Int32} {t_seed : Int32} {t_toldMany : Int32} {t_hasTold : Int32} {t_codes : Int32} {t_ones : Int32} {t_top : Int32} {t_deep : Int32} {t_isWhole : Int32} {t_s : Nat → Int32} {r : Int32} {r_t_thrown : Int32} {k_7 : Int32 → Int32 → Option (Int32 × Int32)} (S : CallFix p m c cX12_alike 4 s args wsX12_alike RX12) (hr : meth.sig.returnType = some .int) (hlocks : meth.locks = false) (hF : zF G cy E (va_A w0 s.heap.size) s) (hk_7 : ∀ (x1 : Int32) (c_t_thrown : Int32) (H : Heap) (locs : List Loc) (ls : Array Slot), zH G (va_A w0 s.heap.size) s H locs (wd_X12_alike cy q_t q_t_tape q_t_s q_t_h q_t_read q_t_names q_t_reserved q_t_undone q_t_before q_t_comeRow q_t_shown q_t_text q_t_toldAt q_t_stack q_t_truths q_t_imaged q_t_namesKept q_t_areKept c_t_thrown t_length t_size t_p t_limit t_token t_at t_span t_number t_fault t_faultAt t_word t_got t_lines t_hasWait t_undoMany t_firstMinute t_lookClock t_hasTime t_latestMost t_textMany t_seed t_toldMany t_hasTold t_codes t_ones t_top t_deep t_isWhole t_s) → lv_has ls 4 [(0, .ref q_t), (1, .int x1)] → k_7 x1 c_t_thrown = some (r, r_t_thrown) → W p l e rm_X12_alike s m args below meth c H locs 0 0 (MQ below (zQ G w0 (wd_X12_alike cy q_t q_t_tape q_t_s q_t_h q_t_read q_t_names q_t_reserved q_t_undone q_t_before q_t_comeRow q_t_shown q_t_text q_t_toldAt q_t_stack q_t_truths q_t_imaged q_t_namesKept q_t_areKept r_t_thrown t_length t_size t_p t_limit t_token t_at t_span t_number t_fault t_faultAt t_word t_got t_lines t_hasWait t_undoMany t_firstMinute t_lookClock t_hasTime t_latestMost t_textMany t_seed t_toldMany t_hasTold t_codes t_ones t_top t_deep t_isWhole t_s) s.heap.size (some (.int r))) args s 0 0 (va_A w0 s.heap.size)) (F0 m 7 ls [])) :
    ∀ (n : Nat) (x1 : Int32) (x2 : Int32) (x3 : Int32) (c_t_thrown : Int32) (H : Heap) (locs : List Loc) (ls : Array Slot), zH G (va_A w0 s.heap.size) s H locs (wd_X12_alike cy q_t q_t_tape q_t_s q_t_h q_t_read q_t_names q_t_reserved q_t_undone q_t_before q_t_comeRow q_t_shown q_t_text q_t_toldAt q_t_stack q_t_truths q_t_imaged q_t_namesKept q_t_areKept c_t_thrown t_length t_size t_p t_limit t_token t_at t_span t_number t_fault t_faultAt t_word t_got t_lines t_hasWait t_undoMany t_firstMinute t_lookClock t_hasTime t_latestMost t_textMany t_seed t_toldMany t_hasTold t_codes t_ones t_top t_deep t_isWhole t_s) → lv_has ls 4 [(0, .ref q_t), (1, .int x1), (2, .int x2), (3, .int x3)] → f_X12_alike_27 N t_s k_7 n x1 x2 x3 c_t_thrown = some (r, r_t_thrown) → W p l e rm_X12_alike s m args below meth c H locs 0 0 (MQ below (zQ G w0 (wd_X12_alike cy q_t q_t_tape q_t_s q_t_h q_t_read q_t_names q_t_reserved q_t_undone q_t_before q_t_comeRow q_t_shown q_t_text q_t_toldAt q_t_stack q_t_truths q_t_imaged q_t_namesKept q_t_areKept r_t_thrown t_length t_size t_p t_limit t_token t_at t_span t_number t_fault t_faultAt t_word t_got t_lines t_hasWait t_undoMany t_firstMinute t_lookClock t_hasTime t_latestMost t_textMany t_seed t_toldMany t_hasTold t_codes t_ones t_top t_deep t_isWhole t_s) s.heap.size (some (.int r))) args s 0 0 (va_A w0 s.heap.size)) (F0 m 27 ls []) := by
  obtain ⟨hx, hb, hml, hown, hts⟩ := id S
  intro n
  induction n with
  | zero =>
    intro x1 x2 x3 c_t_thrown H locs ls hH hl h
    rw [f_X12_alike_27] at h
    cases h
  | succ n ih =>
    intro x1 x2 x3 c_t_thrown H locs ls hH hl h
    rw [f_X12_alike_27] at h
    refine lv_iload_n hx hb dX12_alike_27 rfl (lv_at hl 3 rfl) ?_
    refine lv_aload_n hx hb dX12_alike_28 rfl (lv_at hl 0 rfl) ?_
    refine z_get S hF hH iX12_alike_X12 0 rfl rfl 6 (by decide) (List.mem_of_getElem? (i := 2) rfl) rfl dX12_alike_29 ?_
    refine lv_iconst (v := 0) hx hb dX12_alike_32 (by decide) ?_
    refine z_iald (j := 0) S hF hH 1 rfl (by decide) rfl dX12_alike_33 ?_
    refine lv_icmp_ge (tgt := 84) hx hb dX12_alike_34 (by decide) (fun b34 => ?_) (fun b34 => ?_)
    · replace h := zif_t b34 h
      refine lv_iload_n hx hb dX12_alike_84 rfl (lv_at hl 2 rfl) ?_
      refine lv_if_eq (tgt := 90) hx hb dX12_alike_85 (by decide) (fun b85 => ?_) (fun b85 => ?_)
      · replace h := zif_t b85 h
        obtain ⟨y1, ey1, h⟩ := zbn_e h
        refine lv_iinc (v := y1) (lv' := [(1, .int y1), (0, .ref q_t), (2, .int x2), (3, .int x3)]) hx hb dX12_alike_90 hl (k := 1) rfl (by rw [ey1]; exact congrArg (fun z => x1 + z) (by decide)) (by decide) rfl (fun ls hl => ?_)
        clear ey1
        refine lv_goto (tgt := 7) hx hb dX12_alike_93 (by decide) ?_
        exact hk_7 y1 c_t_thrown _ _ _ hH (lv_sub hl [1, 0] rfl) h
      · replace h := zif_f b85 h
        refine lv_iload_n hx hb dX12_alike_88 rfl (lv_at hl 1 rfl) ?_
        cases h
        exact z_iret S hr hlocks hH dX12_alike_89
    · replace h := zif_f b34 h
      refine lv_iload_n hx hb dX12_alike_37 rfl (lv_at hl 2 rfl) ?_
      refine lv_if_eq (tgt := 76) hx hb dX12_alike_38 (by decide) (fun b38 => ?_) (fun b38 => ?_)
      · replace h := zif_t b38 h
        exact w_X12_alike_76 S hr hlocks hF ih x1 x3 c_t_thrown _ _ _ hH (lv_sub hl [0, 1, 3] rfl) h
      · replace h := zif_f b38 h
        refine lv_aload_n hx hb dX12_alike_41 rfl (lv_at hl 0 rfl) ?_
        refine lv_iload_n hx hb dX12_alike_42 rfl (lv_at hl 3 rfl) ?_
        refine lv_aload_n hx hb dX12_alike_43 rfl (lv_at hl 0 rfl) ?_
        refine z_get S hF hH iX12_alike_X12 0 rfl rfl 6 (by decide) (List.mem_of_getElem? (i := 2) rfl) rfl dX12_alike_44 ?_
        refine lv_bipush (v := 52) hx hb dX12_alike_47 (by decide) ?_
        refine z_iald (j := 52) S hF hH 1 rfl (by decide) rfl dX12_alike_49 ?_
        refine lv_iload_n hx hb dX12_alike_50 rfl (lv_at hl 1 rfl) ?_
        refine lv_iadd hx hb dX12_alike_51 ?_
        obtain ⟨z52, hz52, h⟩ := zcl_e h
        refine z_callV (As := [.int x3, .int ((t_s 52) + x1)]) (rest := []) (st1 := [.int z52]) (ws' := (wd_X12_alike cy q_t q_t_tape q_t_s q_t_h q_t_read q_t_names q_t_reserved q_t_undone q_t_before q_t_comeRow q_t_shown q_t_text q_t_toldAt q_t_stack q_t_truths q_t_imaged q_t_namesKept q_t_areKept c_t_thrown t_length t_size t_p t_limit t_token t_at t_span t_number t_fault t_faultAt t_word t_got t_lines t_hasWait t_undoMany t_firstMinute t_lookClock t_hasTime t_latestMost t_textMany t_seed t_toldMany t_hasTold t_codes t_ones t_top t_deep t_isWhole t_s)) S hF hH (c_X12_showsAt l G cy E N q_t q_t_tape q_t_s q_t_h q_t_read q_t_names q_t_reserved q_t_undone q_t_before q_t_comeRow q_t_shown q_t_text q_t_toldAt q_t_stack q_t_truths q_t_imaged q_t_namesKept q_t_areKept c_t_thrown t_length t_size t_p t_limit t_token t_at t_span t_number t_fault t_faultAt t_word t_got t_lines t_hasWait t_undoMany t_firstMinute t_lookClock t_hasTime t_latestMost t_textMany t_seed t_toldMany t_hasTold t_codes t_ones t_top t_deep t_isWhole t_s x3 ((t_s 52) + x1) z52 hz52) (cwV 2 hts gX12_alike_X12_showsAt rfl rfl rfl (by decide +kernel) ⟨Nat.le_of_ble_eq_true rfl, Nat.le_of_ble_eq_true rfl⟩) 13 0 rfl rfl [0, 1] rfl (by decide) rfl rfl rfl rfl rfl hl.1 (Nat.le_of_ble_eq_true rfl) dX12_alike_52 ⟨Nat.le_of_ble_eq_true rfl, Nat.le_of_ble_eq_true rfl⟩ (fun H locs hH => ?_)
        refine lv_aload_n hx hb dX12_alike_55 rfl (lv_at hl 0 rfl) ?_
        refine lv_iconst (v := 0) hx hb dX12_alike_56 (by decide) ?_
        refine lv_aload_n hx hb dX12_alike_57 rfl (lv_at hl 0 rfl) ?_
        refine z_get S hF hH iX12_alike_X12 0 rfl rfl 6 (by decide) (List.mem_of_getElem? (i := 2) rfl) rfl dX12_alike_58 ?_
        refine lv_bipush (v := 52) hx hb dX12_alike_61 (by decide) ?_
        refine z_iald (j := 52) S hF hH 1 rfl (by decide) rfl dX12_alike_63 ?_
        refine lv_iload_n hx hb dX12_alike_64 rfl (lv_at hl 1 rfl) ?_
        refine lv_iadd hx hb dX12_alike_65 ?_
        obtain ⟨z66, hz66, h⟩ := zcl_e h
        refine z_callV (As := [.int 0, .int ((t_s 52) + x1)]) (rest := [.int z52]) (st1 := [.int z66, .int z52]) (ws' := (wd_X12_alike cy q_t q_t_tape q_t_s q_t_h q_t_read q_t_names q_t_reserved q_t_undone q_t_before q_t_comeRow q_t_shown q_t_text q_t_toldAt q_t_stack q_t_truths q_t_imaged q_t_namesKept q_t_areKept c_t_thrown t_length t_size t_p t_limit t_token t_at t_span t_number t_fault t_faultAt t_word t_got t_lines t_hasWait t_undoMany t_firstMinute t_lookClock t_hasTime t_latestMost t_textMany t_seed t_toldMany t_hasTold t_codes t_ones t_top t_deep t_isWhole t_s)) S hF hH (c_X12_showsAt l G cy E N q_t q_t_tape q_t_s q_t_h q_t_read q_t_names q_t_reserved q_t_undone q_t_before q_t_comeRow q_t_shown q_t_text q_t_toldAt q_t_stack q_t_truths q_t_imaged q_t_namesKept q_t_areKept c_t_thrown t_length t_size t_p t_limit t_token t_at t_span t_number t_fault t_faultAt t_word t_got t_lines t_hasWait t_undoMany t_firstMinute t_lookClock t_hasTime t_latestMost t_textMany t_seed t_toldMany t_hasTold t_codes t_ones t_top t_deep t_isWhole t_s 0 ((t_s 52) + x1) z66 hz66) (cwV 2 hts gX12_alike_X12_showsAt rfl rfl rfl (by decide +kernel) ⟨Nat.le_of_ble_eq_true rfl, Nat.le_of_ble_eq_true rfl⟩) 13 0 rfl rfl [0, 1] rfl (by decide) rfl rfl rfl rfl rfl hl.1 (Nat.le_of_ble_eq_true rfl) dX12_alike_66 ⟨Nat.le_of_ble_eq_true rfl, Nat.le_of_ble_eq_true rfl⟩ (fun H locs hH => ?_)
        refine lv_icmp_ne (tgt := 76) hx hb dX12_alike_69 (by decide) (fun b69 => ?_) (fun b69 => ?_)
        · replace h := zif_f b69 h
          exact w_X12_alike_76 S hr hlocks hF ih x1 x3 c_t_thrown _ _ _ hH (lv_sub hl [0, 1, 3] rfl) h
        · replace h := zif_t b69 h
          refine lv_iconst (v := 1) hx hb dX12_alike_72 (by decide) ?_
          refine lv_goto (tgt := 77) hx hb dX12_alike_73 (by decide) ?_
          refine lv_istore_n (lv' := [(2, .int 1), (0, .ref q_t), (1, .int x1), (3, .int x3)]) hx hb dX12_alike_77 rfl hl (by decide) rfl (fun ls hl => ?_)
          obtain ⟨y2, ey2, h⟩ := zbn_e h
          refine lv_iinc (v := y2) (lv' := [(3, .int y2), (2, .int 1), (0, .ref q_t), (1, .int x1)]) hx hb dX12_alike_78 hl (k := 3) rfl (by rw [ey2]; exact congrArg (fun z => x3 + z) (by decide)) (by decide) rfl (fun ls hl => ?_)
          clear ey2
          refine lv_goto (tgt := 27) hx hb dX12_alike_81 (by decide) ?_
          exact ih x1 1 y2 c_t_thrown _ _ _ hH (lv_sub hl [2, 3, 1, 0] rfl) h
set_option maxHeartbeats 4000000 in
set_option maxRecDepth 100000 in
theorem w_X12_alike_7 {p : Program} {l : Launch} {e : Env} {s : State} {m : MethodId} {args : Array Value} {below : List Frame} {meth : Method} {c : Code} {G : va_G} {cy : Nat → ClassId} {E : Nat → Nat} {w0 : va_W} {N : Nat} {q_t q_t_tape q_t_s q_t_h q_t_read q_t_names q_t_reserved q_t_undone q_t_before q_t_comeRow q_t_shown q_t_text q_t_toldAt q_t_stack q_t_truths q_t_imaged q_t_namesKept q_t_areKept : Nat} {t_length : Int32} {t_size : Int32} {t_p : Int32} {t_limit : Int32} {t_token : Int32} {t_at : Int32} {t_span : Int32} {t_number : Int32} {t_fault : Int32} {t_faultAt : Int32} {t_word : Int64} {t_got : Int32} {t_lines : Int32} {t_hasWait : Int32} {t_undoMany : Int32} {t_firstMinute : Int32} {t_lookClock : Int32} {t_hasTime : Int32} {t_latestMost : Int32} {t_textMany : Int32} {t_seed : Int32} {t_toldMany : Int32} {t_hasTold : Int32} {t_codes : Int32} {t_ones : Int32} {t_top : Int32} {t_deep : Int32} {t_isWhole : Int32} {t_s : Nat → Int32} {r : Int32} {r_t_thrown : Int32} (S : CallFix p m c cX12_alike 4 s args wsX12_alike RX12) (hr : meth.sig.returnType = some .int) (hlocks : meth.locks = false) (hF : zF G cy E (va_A w0 s.heap.size) s) :
    ∀ (n : Nat) (x1 : Int32) (c_t_thrown : Int32) (H : Heap) (locs : List Loc) (ls : Array Slot), zH G (va_A w0 s.heap.size) s H locs (wd_X12_alike cy q_t q_t_tape q_t_s q_t_h q_t_read q_t_names q_t_reserved q_t_undone q_t_before q_t_comeRow q_t_shown q_t_text q_t_toldAt q_t_stack q_t_truths q_t_imaged q_t_namesKept q_t_areKept c_t_thrown t_length t_size t_p t_limit t_token t_at t_span t_number t_fault t_faultAt t_word t_got t_lines t_hasWait t_undoMany t_firstMinute t_lookClock t_hasTime t_latestMost t_textMany t_seed t_toldMany t_hasTold t_codes t_ones t_top t_deep t_isWhole t_s) → lv_has ls 4 [(0, .ref q_t), (1, .int x1)] → f_X12_alike_7 N t_s n x1 c_t_thrown = some (r, r_t_thrown) → W p l e rm_X12_alike s m args below meth c H locs 0 0 (MQ below (zQ G w0 (wd_X12_alike cy q_t q_t_tape q_t_s q_t_h q_t_read q_t_names q_t_reserved q_t_undone q_t_before q_t_comeRow q_t_shown q_t_text q_t_toldAt q_t_stack q_t_truths q_t_imaged q_t_namesKept q_t_areKept r_t_thrown t_length t_size t_p t_limit t_token t_at t_span t_number t_fault t_faultAt t_word t_got t_lines t_hasWait t_undoMany t_firstMinute t_lookClock t_hasTime t_latestMost t_textMany t_seed t_toldMany t_hasTold t_codes t_ones t_top t_deep t_isWhole t_s) s.heap.size (some (.int r))) args s 0 0 (va_A w0 s.heap.size)) (F0 m 7 ls []) := by
  obtain ⟨hx, hb, hml, hown, hts⟩ := id S
  intro n
  induction n with
  | zero =>
    intro x1 c_t_thrown H locs ls hH hl h
    rw [f_X12_alike_7] at h
    cases h
  | succ n ih =>
    intro x1 c_t_thrown H locs ls hH hl h
    rw [f_X12_alike_7] at h
    refine lv_iload_n hx hb dX12_alike_7 rfl (lv_at hl 1 rfl) ?_
    refine lv_sipush (v := 1440) hx hb dX12_alike_8 (by decide) ?_
    refine lv_icmp_ge (tgt := 96) hx hb dX12_alike_11 (by decide) (fun b11 => ?_) (fun b11 => ?_)
    · replace h := zif_t b11 h
      refine lv_iconst (v := (-1)) hx hb dX12_alike_96 (by decide) ?_
      cases h
      exact z_iret S hr hlocks hH dX12_alike_97
    · replace h := zif_f b11 h
      refine lv_aload_n hx hb dX12_alike_14 rfl (lv_at hl 0 rfl) ?_
      refine z_get S hF hH iX12_alike_X12 0 rfl rfl 6 (by decide) (List.mem_of_getElem? (i := 2) rfl) rfl dX12_alike_15 ?_
      refine lv_iconst (v := 0) hx hb dX12_alike_18 (by decide) ?_
      refine z_iald (j := 0) S hF hH 1 rfl (by decide) rfl dX12_alike_19 ?_
      refine lv_if_le (tgt := 96) hx hb dX12_alike_20 (by decide) (fun b20 => ?_) (fun b20 => ?_)
      · replace h := zif_t b20 h
        refine lv_iconst (v := (-1)) hx hb dX12_alike_96 (by decide) ?_
        cases h
        exact z_iret S hr hlocks hH dX12_alike_97
      · replace h := zif_f b20 h
        refine lv_iconst (v := 1) hx hb dX12_alike_23 (by decide) ?_
        refine lv_istore_n (lv' := [(2, .int 1), (0, .ref q_t), (1, .int x1)]) hx hb dX12_alike_24 rfl hl (by decide) rfl (fun ls hl => ?_)
        refine lv_iconst (v := 1) hx hb dX12_alike_25 (by decide) ?_
        refine lv_istore_n (lv' := [(3, .int 1), (2, .int 1), (0, .ref q_t), (1, .int x1)]) hx hb dX12_alike_26 rfl hl (by decide) rfl (fun ls hl => ?_)
        exact w_X12_alike_27 S hr hlocks hF ih N x1 1 1 c_t_thrown _ _ _ hH (lv_sub hl [2, 3, 1, 0] rfl) h
set_option maxHeartbeats 4000000 in
set_option maxRecDepth 100000 in
theorem c_X12_alike (l : Launch) (G : va_G) (cy : Nat → ClassId) (E : Nat → Nat) (N : Nat) (q_t q_t_tape q_t_s q_t_h q_t_read q_t_names q_t_reserved q_t_undone q_t_before q_t_comeRow q_t_shown q_t_text q_t_toldAt q_t_stack q_t_truths q_t_imaged q_t_namesKept q_t_areKept : Nat) (t_thrown : Int32) (t_length : Int32) (t_size : Int32) (t_p : Int32) (t_limit : Int32) (t_token : Int32) (t_at : Int32) (t_span : Int32) (t_number : Int32) (t_fault : Int32) (t_faultAt : Int32) (t_word : Int64) (t_got : Int32) (t_lines : Int32) (t_hasWait : Int32) (t_undoMany : Int32) (t_firstMinute : Int32) (t_lookClock : Int32) (t_hasTime : Int32) (t_latestMost : Int32) (t_textMany : Int32) (t_seed : Int32) (t_toldMany : Int32) (t_hasTold : Int32) (t_codes : Int32) (t_ones : Int32) (t_top : Int32) (t_deep : Int32) (t_isWhole : Int32) (t_s : Nat → Int32) (r : Int32) (r_t_thrown : Int32) (h : f_X12_alike N t_thrown t_s = some (r, r_t_thrown)) : zM l G cy E yX12_alike wsX12_alike rm_X12_alike [.ref q_t] (wd_X12_alike cy q_t q_t_tape q_t_s q_t_h q_t_read q_t_names q_t_reserved q_t_undone q_t_before q_t_comeRow q_t_shown q_t_text q_t_toldAt q_t_stack q_t_truths q_t_imaged q_t_namesKept q_t_areKept t_thrown t_length t_size t_p t_limit t_token t_at t_span t_number t_fault t_faultAt t_word t_got t_lines t_hasWait t_undoMany t_firstMinute t_lookClock t_hasTime t_latestMost t_textMany t_seed t_toldMany t_hasTold t_codes t_ones t_top t_deep t_isWhole t_s) (wd_X12_alike cy q_t q_t_tape q_t_s q_t_h q_t_read q_t_names q_t_reserved q_t_undone q_t_before q_t_comeRow q_t_shown q_t_text q_t_toldAt q_t_stack q_t_truths q_t_imaged q_t_namesKept q_t_areKept r_t_thrown t_length t_size t_p t_limit t_token t_at t_span t_number t_fault t_faultAt t_word t_got t_lines t_hasWait t_undoMany t_firstMinute t_lookClock t_hasTime t_latestMost t_textMany t_seed t_toldMany t_hasTold t_codes t_ones t_top t_deep t_isWhole t_s) (some (.int r)) 0 0 := by
  refine z_body (cc := cX12_alike) (maxL := 4) (ret := some .int) (by decide) rfl (Nat.le_of_ble_eq_true rfl) ?_
  intro p e s m below meth c ls S hr hlocks hnm hF hH hl
  have S : CallFix p m c cX12_alike 4 s ([.ref q_t] : List Value).toArray wsX12_alike RX12 := S
  obtain ⟨hx, hb, hml, hown, hts⟩ := id S
  have hl : lv_has ls 4 [(0, .ref q_t)] := hl
  rw [f_X12_alike] at h
  refine lv_aload_n hx hb dX12_alike_0 rfl (lv_at hl 0 rfl) ?_
  refine lv_iconst (v := 0) hx hb dX12_alike_1 (by decide) ?_
  refine z_put (ws' := (wd_X12_alike cy q_t q_t_tape q_t_s q_t_h q_t_read q_t_names q_t_reserved q_t_undone q_t_before q_t_comeRow q_t_shown q_t_text q_t_toldAt q_t_stack q_t_truths q_t_imaged q_t_namesKept q_t_areKept 0 t_length t_size t_p t_limit t_token t_at t_span t_number t_fault t_faultAt t_word t_got t_lines t_hasWait t_undoMany t_firstMinute t_lookClock t_hasTime t_latestMost t_textMany t_seed t_toldMany t_hasTold t_codes t_ones t_top t_deep t_isWhole t_s)) S hF hH iX12_alike_X12 tyX12 tyX12_ok nmX12 0 rfl rfl 0 (by decide) (List.mem_of_getElem? (i := 1) rfl) rfl rfl rfl (Nat.le_of_ble_eq_true rfl) rfl dX12_alike_2 (fun H locs hH => ?_)
  refine lv_iconst (v := 0) hx hb dX12_alike_5 (by decide) ?_
  refine lv_istore_n (lv' := [(1, .int 0), (0, .ref q_t)]) hx hb dX12_alike_6 rfl hl (by decide) rfl (fun ls hl => ?_)
  exact w_X12_alike_7 S hr hlocks hF N 0 0 _ _ _ hH (lv_sub hl [1, 0] rfl) h
abbrev wd_X12_tend (cy : Nat → ClassId) (q_t q_t_tape q_t_s q_t_h q_t_read q_t_names q_t_reserved q_t_undone q_t_before q_t_comeRow q_t_shown q_t_text q_t_toldAt q_t_stack q_t_truths q_t_imaged q_t_namesKept q_t_areKept : Nat) (t_thrown : Int32) (t_length : Int32) (t_size : Int32) (t_p : Int32) (t_limit : Int32) (t_token : Int32) (t_at : Int32) (t_span : Int32) (t_number : Int32) (t_fault : Int32) (t_faultAt : Int32) (t_word : Int64) (t_got : Int32) (t_lines : Int32) (t_hasWait : Int32) (t_undoMany : Int32) (t_firstMinute : Int32) (t_lookClock : Int32) (t_hasTime : Int32) (t_latestMost : Int32) (t_textMany : Int32) (t_seed : Int32) (t_toldMany : Int32) (t_hasTold : Int32) (t_codes : Int32) (t_ones : Int32) (t_top : Int32) (t_deep : Int32) (t_isWhole : Int32) (t_s : Nat → Int32) : va_W := [(q_t, .inr (13, [.int t_thrown, .ref q_t_tape, .int t_length, .int t_size, .int t_p, .int t_limit, .ref q_t_s, .ref q_t_h, .ref q_t_read, .ref q_t_names, .ref q_t_reserved, .int t_token, .int t_at, .int t_span, .int t_number, .int t_fault, .int t_faultAt, .long t_word, .int t_got, .int t_lines, .int t_hasWait, .ref q_t_undone, .ref q_t_before, .int t_undoMany, .ref q_t_comeRow, .int t_firstMinute, .int t_lookClock, .int t_hasTime, .ref q_t_shown, .int t_latestMost, .ref q_t_text, .int t_textMany, .int t_seed, .int t_toldMany, .ref q_t_toldAt, .int t_hasTold, .ref q_t_stack, .int t_codes, .int t_ones, .int t_top, .int t_deep, .int t_isWhole, .ref q_t_truths, .ref q_t_imaged, .ref q_t_namesKept, .ref q_t_areKept])), (q_t_s, .inl (cy 1, 334, .inl t_s))]
theorem iX12_tend_X12 : ∀ w ∈ wsX120, w ∈ wsX12_tend := fun _ h => List.mem_cons_of_mem _ (List.mem_append_right _ h)
abbrev rm_X12_tend : Room := { frames := 4, cells := 0, slots := 0, locals := 85 }
set_option maxRecDepth 100000 in
def f_X12_tend_37 (N : Nat) (t_s : Nat → Int32) : Nat → Int32 → Int32 → Int32 → Int32 → Int32 → Int32 → Option (Int32 × Int32)
  | 0, _, _, _, _, _, _ => none
  | n + 1, x1, x2, x3, x4, x5, c_t_thrown => if (t_s 0) ≤ x5 then (if x3 ≤ x4 then (zck (zin (22 + x1) 334) <| zcl (f_X12_absolute N ((t_s (Int32.toNatClampNeg (22 + x1))) - x3)) fun z123 => zcl (f_X12_absolute N ((t_s (Int32.toNatClampNeg (22 + x1))) - x4)) fun z138 => zcl (f_X12_lesser N z123 z138) fun z141 => some (((x4 - x3) + z141), c_t_thrown)) else (some (0, c_t_thrown))) else (zcl (f_X12_wrongBy N x5 t_s) fun z51 => zcl (f_X12_absolute N z51) fun z54 => if x2 < z54 then (zck (zin (4 + x5) 334) <| zcl (f_X12_lesser N x3 (t_s (Int32.toNatClampNeg (4 + x5)))) fun z74 => zcl (f_X12_greater N x4 (t_s (Int32.toNatClampNeg (4 + x5)))) fun z89 => zbn (x5 + 1) fun y1 => f_X12_tend_37 N t_s n x1 x2 z74 z89 y1 c_t_thrown) else (zbn (x5 + 1) fun y2 => f_X12_tend_37 N t_s n x1 x2 x3 x4 y2 c_t_thrown))
set_option maxRecDepth 100000 in
def f_X12_tend (N : Nat) (x0 : Int32) (x1 : Int32) (t_thrown : Int32) (t_s : Nat → Int32) : Option (Int32 × Int32) := zcl (f_X12_isMaster N x0 t_s) fun z7 => if z7 = 0 then (some ((-1), 0)) else (zcl (f_X12_isIn N x1 0 99) fun z17 => if z17 = 0 then (some ((-1), 0)) else (f_X12_tend_37 N t_s N x0 x1 1000000 (-1000000) 0 0))
set_option maxHeartbeats 4000000 in
set_option maxRecDepth 100000 in
theorem w_X12_tend_37 {p : Program} {l : Launch} {e : Env} {s : State} {m : MethodId} {args : Array Value} {below : List Frame} {meth : Method} {c : Code} {G : va_G} {cy : Nat → ClassId} {E : Nat → Nat} {w0 : va_W} {N : Nat} {q_t q_t_tape q_t_s q_t_h q_t_read q_t_names q_t_reserved q_t_undone q_t_before q_t_comeRow q_t_shown q_t_text q_t_toldAt q_t_stack q_t_truths q_t_imaged q_t_namesKept q_t_areKept : Nat} {t_length : Int32} {t_size : Int32} {t_p : Int32} {t_limit : Int32} {t_token : Int32} {t_at : Int32} {t_span : Int32} {t_number : Int32} {t_fault : Int32} {t_faultAt : Int32} {t_word : Int64} {t_got : Int32} {t_lines : Int32} {t_hasWait : Int32} {t_undoMany : Int32} {t_firstMinute : Int32} {t_lookClock : Int32} {t_hasTime : Int32} {t_latestMost : Int32} {t_textMany : Int32} {t_seed : Int32} {t_toldMany : Int32} {t_hasTold : Int32} {t_codes : Int32} {t_ones : Int32} {t_top : Int32} {t_deep : Int32} {t_isWhole : Int32} {t_s : Nat → Int32} {r : Int32} {r_t_thrown : Int32} (S : CallFix p m c cX12_tend 6 s args wsX12_tend RX12) (hr : meth.sig.returnType = some .int) (hlocks : meth.locks = false) (hF : zF G cy E (va_A w0 s.heap.size) s) :
    ∀ (n : Nat) (x1 : Int32) (x2 : Int32) (x3 : Int32) (x4 : Int32) (x5 : Int32) (c_t_thrown : Int32) (H : Heap) (locs : List Loc) (ls : Array Slot), zH G (va_A w0 s.heap.size) s H locs (wd_X12_tend cy q_t q_t_tape q_t_s q_t_h q_t_read q_t_names q_t_reserved q_t_undone q_t_before q_t_comeRow q_t_shown q_t_text q_t_toldAt q_t_stack q_t_truths q_t_imaged q_t_namesKept q_t_areKept c_t_thrown t_length t_size t_p t_limit t_token t_at t_span t_number t_fault t_faultAt t_word t_got t_lines t_hasWait t_undoMany t_firstMinute t_lookClock t_hasTime t_latestMost t_textMany t_seed t_toldMany t_hasTold t_codes t_ones t_top t_deep t_isWhole t_s) → lv_has ls 6 [(0, .ref q_t), (1, .int x1), (2, .int x2), (3, .int x3), (4, .int x4), (5, .int x5)] → f_X12_tend_37 N t_s n x1 x2 x3 x4 x5 c_t_thrown = some (r, r_t_thrown) → W p l e rm_X12_tend s m args below meth c H locs 0 0 (MQ below (zQ G w0 (wd_X12_tend cy q_t q_t_tape q_t_s q_t_h q_t_read q_t_names q_t_reserved q_t_undone q_t_before q_t_comeRow q_t_shown q_t_text q_t_toldAt q_t_stack q_t_truths q_t_imaged q_t_namesKept q_t_areKept r_t_thrown t_length t_size t_p t_limit t_token t_at t_span t_number t_fault t_faultAt t_word t_got t_lines t_hasWait t_undoMany t_firstMinute t_lookClock t_hasTime t_latestMost t_textMany t_seed t_toldMany t_hasTold t_codes t_ones t_top t_deep t_isWhole t_s) s.heap.size (some (.int r))) args s 0 0 (va_A w0 s.heap.size)) (F0 m 37 ls []) := by
  obtain ⟨hx, hb, hml, hown, hts⟩ := id S
  intro n
  induction n with
  | zero =>
    intro x1 x2 x3 x4 x5 c_t_thrown H locs ls hH hl h
    rw [f_X12_tend_37] at h
    cases h
  | succ n ih =>
    intro x1 x2 x3 x4 x5 c_t_thrown H locs ls hH hl h
    rw [f_X12_tend_37] at h
    refine lv_iload hx hb dX12_tend_37 (lv_at hl 5 rfl) ?_
    refine lv_aload_n hx hb dX12_tend_39 rfl (lv_at hl 0 rfl) ?_
    refine z_get S hF hH iX12_tend_X12 0 rfl rfl 6 (by decide) (List.mem_of_getElem? (i := 4) rfl) rfl dX12_tend_40 ?_
    refine lv_iconst (v := 0) hx hb dX12_tend_43 (by decide) ?_
    refine z_iald (j := 0) S hF hH 1 rfl (by decide) rfl dX12_tend_44 ?_
    refine lv_icmp_ge (tgt := 100) hx hb dX12_tend_45 (by decide) (fun b45 => ?_) (fun b45 => ?_)
    · replace h := zif_t b45 h
      refine lv_iload_n hx hb dX12_tend_100 rfl (lv_at hl 3 rfl) ?_
      refine lv_iload hx hb dX12_tend_101 (lv_at hl 4 rfl) ?_
      refine lv_icmp_le (tgt := 108) hx hb dX12_tend_103 (by decide) (fun b103 => ?_) (fun b103 => ?_)
      · replace h := zif_t b103 h
        refine lv_iload hx hb dX12_tend_108 (lv_at hl 4 rfl) ?_
        refine lv_iload_n hx hb dX12_tend_110 rfl (lv_at hl 3 rfl) ?_
        refine lv_isub hx hb dX12_tend_111 ?_
        refine lv_aload_n hx hb dX12_tend_112 rfl (lv_at hl 0 rfl) ?_
        refine z_get S hF hH iX12_tend_X12 0 rfl rfl 6 (by decide) (List.mem_of_getElem? (i := 4) rfl) rfl dX12_tend_113 ?_
        refine lv_bipush (v := 22) hx hb dX12_tend_116 (by decide) ?_
        refine lv_iload_n hx hb dX12_tend_118 rfl (lv_at hl 1 rfl) ?_
        refine lv_iadd hx hb dX12_tend_119 ?_
        obtain ⟨h120, h⟩ := zck_e h
        refine z_iald S hF hH 1 rfl h120 rfl dX12_tend_120 ?_
        refine lv_iload_n hx hb dX12_tend_121 rfl (lv_at hl 3 rfl) ?_
        refine lv_isub hx hb dX12_tend_122 ?_
        obtain ⟨z123, hz123, h⟩ := zcl_e h
        refine z_callS (As := [.int ((t_s (Int32.toNatClampNeg (22 + x1))) - x3)]) (rest := [.int (x4 - x3)]) (st1 := [.int z123, .int (x4 - x3)]) (ws' := (wd_X12_tend cy q_t q_t_tape q_t_s q_t_h q_t_read q_t_names q_t_reserved q_t_undone q_t_before q_t_comeRow q_t_shown q_t_text q_t_toldAt q_t_stack q_t_truths q_t_imaged q_t_namesKept q_t_areKept c_t_thrown t_length t_size t_p t_limit t_token t_at t_span t_number t_fault t_faultAt t_word t_got t_lines t_hasWait t_undoMany t_firstMinute t_lookClock t_hasTime t_latestMost t_textMany t_seed t_toldMany t_hasTold t_codes t_ones t_top t_deep t_isWhole t_s)) S hF hH (c_X12_absolute l G cy E N ((t_s (Int32.toNatClampNeg (22 + x1))) - x3) z123 hz123) (cwS 1 hts gX12_tend_X12_absolute rfl rfl rfl (by decide +kernel) ⟨Nat.le_of_ble_eq_true rfl, Nat.le_of_ble_eq_true rfl⟩) [] rfl (by decide) rfl rfl rfl rfl rfl hl.1 (Nat.le_of_ble_eq_true rfl) dX12_tend_123 ⟨Nat.le_of_ble_eq_true rfl, Nat.le_of_ble_eq_true rfl⟩ (fun H locs hH => ?_)
        refine lv_aload_n hx hb dX12_tend_126 rfl (lv_at hl 0 rfl) ?_
        refine z_get S hF hH iX12_tend_X12 0 rfl rfl 6 (by decide) (List.mem_of_getElem? (i := 4) rfl) rfl dX12_tend_127 ?_
        refine lv_bipush (v := 22) hx hb dX12_tend_130 (by decide) ?_
        refine lv_iload_n hx hb dX12_tend_132 rfl (lv_at hl 1 rfl) ?_
        refine lv_iadd hx hb dX12_tend_133 ?_
        refine z_iald S hF hH 1 rfl h120 rfl dX12_tend_134 ?_
        refine lv_iload hx hb dX12_tend_135 (lv_at hl 4 rfl) ?_
        refine lv_isub hx hb dX12_tend_137 ?_
        obtain ⟨z138, hz138, h⟩ := zcl_e h
        refine z_callS (As := [.int ((t_s (Int32.toNatClampNeg (22 + x1))) - x4)]) (rest := [.int z123, .int (x4 - x3)]) (st1 := [.int z138, .int z123, .int (x4 - x3)]) (ws' := (wd_X12_tend cy q_t q_t_tape q_t_s q_t_h q_t_read q_t_names q_t_reserved q_t_undone q_t_before q_t_comeRow q_t_shown q_t_text q_t_toldAt q_t_stack q_t_truths q_t_imaged q_t_namesKept q_t_areKept c_t_thrown t_length t_size t_p t_limit t_token t_at t_span t_number t_fault t_faultAt t_word t_got t_lines t_hasWait t_undoMany t_firstMinute t_lookClock t_hasTime t_latestMost t_textMany t_seed t_toldMany t_hasTold t_codes t_ones t_top t_deep t_isWhole t_s)) S hF hH (c_X12_absolute l G cy E N ((t_s (Int32.toNatClampNeg (22 + x1))) - x4) z138 hz138) (cwS 1 hts gX12_tend_X12_absolute rfl rfl rfl (by decide +kernel) ⟨Nat.le_of_ble_eq_true rfl, Nat.le_of_ble_eq_true rfl⟩) [] rfl (by decide) rfl rfl rfl rfl rfl hl.1 (Nat.le_of_ble_eq_true rfl) dX12_tend_138 ⟨Nat.le_of_ble_eq_true rfl, Nat.le_of_ble_eq_true rfl⟩ (fun H locs hH => ?_)
        obtain ⟨z141, hz141, h⟩ := zcl_e h
        refine z_callS (As := [.int z123, .int z138]) (rest := [.int (x4 - x3)]) (st1 := [.int z141, .int (x4 - x3)]) (ws' := (wd_X12_tend cy q_t q_t_tape q_t_s q_t_h q_t_read q_t_names q_t_reserved q_t_undone q_t_before q_t_comeRow q_t_shown q_t_text q_t_toldAt q_t_stack q_t_truths q_t_imaged q_t_namesKept q_t_areKept c_t_thrown t_length t_size t_p t_limit t_token t_at t_span t_number t_fault t_faultAt t_word t_got t_lines t_hasWait t_undoMany t_firstMinute t_lookClock t_hasTime t_latestMost t_textMany t_seed t_toldMany t_hasTold t_codes t_ones t_top t_deep t_isWhole t_s)) S hF hH (c_X12_lesser l G cy E N z123 z138 z141 hz141) (cwS 2 hts gX12_tend_X12_lesser rfl rfl rfl (by decide +kernel) ⟨Nat.le_of_ble_eq_true rfl, Nat.le_of_ble_eq_true rfl⟩) [] rfl (by decide) rfl rfl rfl rfl rfl hl.1 (Nat.le_of_ble_eq_true rfl) dX12_tend_141 ⟨Nat.le_of_ble_eq_true rfl, Nat.le_of_ble_eq_true rfl⟩ (fun H locs hH => ?_)
        refine lv_iadd hx hb dX12_tend_144 ?_
        cases h
        exact z_iret S hr hlocks hH dX12_tend_145
      · replace h := zif_f b103 h
        refine lv_iconst (v := 0) hx hb dX12_tend_106 (by decide) ?_
        cases h
        exact z_iret S hr hlocks hH dX12_tend_107
    · replace h := zif_f b45 h
      refine lv_aload_n hx hb dX12_tend_48 rfl (lv_at hl 0 rfl) ?_
      refine lv_iload hx hb dX12_tend_49 (lv_at hl 5 rfl) ?_
      obtain ⟨z51, hz51, h⟩ := zcl_e h
      refine z_callV (As := [.int x5]) (rest := []) (st1 := [.int z51]) (ws' := (wd_X12_tend cy q_t q_t_tape q_t_s q_t_h q_t_read q_t_names q_t_reserved q_t_undone q_t_before q_t_comeRow q_t_shown q_t_text q_t_toldAt q_t_stack q_t_truths q_t_imaged q_t_namesKept q_t_areKept c_t_thrown t_length t_size t_p t_limit t_token t_at t_span t_number t_fault t_faultAt t_word t_got t_lines t_hasWait t_undoMany t_firstMinute t_lookClock t_hasTime t_latestMost t_textMany t_seed t_toldMany t_hasTold t_codes t_ones t_top t_deep t_isWhole t_s)) S hF hH (c_X12_wrongBy l G cy E N q_t q_t_tape q_t_s q_t_h q_t_read q_t_names q_t_reserved q_t_undone q_t_before q_t_comeRow q_t_shown q_t_text q_t_toldAt q_t_stack q_t_truths q_t_imaged q_t_namesKept q_t_areKept c_t_thrown t_length t_size t_p t_limit t_token t_at t_span t_number t_fault t_faultAt t_word t_got t_lines t_hasWait t_undoMany t_firstMinute t_lookClock t_hasTime t_latestMost t_textMany t_seed t_toldMany t_hasTold t_codes t_ones t_top t_deep t_isWhole t_s x5 z51 hz51) (cwV 1 hts gX12_tend_X12_wrongBy rfl rfl rfl (by decide +kernel) ⟨Nat.le_of_ble_eq_true rfl, Nat.le_of_ble_eq_true rfl⟩) 13 0 rfl rfl [0, 1] rfl (by decide) rfl rfl rfl rfl rfl hl.1 (Nat.le_of_ble_eq_true rfl) dX12_tend_51 ⟨Nat.le_of_ble_eq_true rfl, Nat.le_of_ble_eq_true rfl⟩ (fun H locs hH => ?_)
      obtain ⟨z54, hz54, h⟩ := zcl_e h
      refine z_callS (As := [.int z51]) (rest := []) (st1 := [.int z54]) (ws' := (wd_X12_tend cy q_t q_t_tape q_t_s q_t_h q_t_read q_t_names q_t_reserved q_t_undone q_t_before q_t_comeRow q_t_shown q_t_text q_t_toldAt q_t_stack q_t_truths q_t_imaged q_t_namesKept q_t_areKept c_t_thrown t_length t_size t_p t_limit t_token t_at t_span t_number t_fault t_faultAt t_word t_got t_lines t_hasWait t_undoMany t_firstMinute t_lookClock t_hasTime t_latestMost t_textMany t_seed t_toldMany t_hasTold t_codes t_ones t_top t_deep t_isWhole t_s)) S hF hH (c_X12_absolute l G cy E N z51 z54 hz54) (cwS 1 hts gX12_tend_X12_absolute rfl rfl rfl (by decide +kernel) ⟨Nat.le_of_ble_eq_true rfl, Nat.le_of_ble_eq_true rfl⟩) [] rfl (by decide) rfl rfl rfl rfl rfl hl.1 (Nat.le_of_ble_eq_true rfl) dX12_tend_54 ⟨Nat.le_of_ble_eq_true rfl, Nat.le_of_ble_eq_true rfl⟩ (fun H locs hH => ?_)
      refine lv_iload_n hx hb dX12_tend_57 rfl (lv_at hl 2 rfl) ?_
      refine lv_icmp_gt (tgt := 64) hx hb dX12_tend_58 (by decide) (fun b58 => ?_) (fun b58 => ?_)
      · replace h := zif_t b58 h
        refine lv_iload_n hx hb dX12_tend_64 rfl (lv_at hl 3 rfl) ?_
        refine lv_aload_n hx hb dX12_tend_65 rfl (lv_at hl 0 rfl) ?_
        refine z_get S hF hH iX12_tend_X12 0 rfl rfl 6 (by decide) (List.mem_of_getElem? (i := 4) rfl) rfl dX12_tend_66 ?_
        refine lv_iconst (v := 4) hx hb dX12_tend_69 (by decide) ?_
        refine lv_iload hx hb dX12_tend_70 (lv_at hl 5 rfl) ?_
        refine lv_iadd hx hb dX12_tend_72 ?_
        obtain ⟨h73, h⟩ := zck_e h
        refine z_iald S hF hH 1 rfl h73 rfl dX12_tend_73 ?_
        obtain ⟨z74, hz74, h⟩ := zcl_e h
        refine z_callS (As := [.int x3, .int (t_s (Int32.toNatClampNeg (4 + x5)))]) (rest := []) (st1 := [.int z74]) (ws' := (wd_X12_tend cy q_t q_t_tape q_t_s q_t_h q_t_read q_t_names q_t_reserved q_t_undone q_t_before q_t_comeRow q_t_shown q_t_text q_t_toldAt q_t_stack q_t_truths q_t_imaged q_t_namesKept q_t_areKept c_t_thrown t_length t_size t_p t_limit t_token t_at t_span t_number t_fault t_faultAt t_word t_got t_lines t_hasWait t_undoMany t_firstMinute t_lookClock t_hasTime t_latestMost t_textMany t_seed t_toldMany t_hasTold t_codes t_ones t_top t_deep t_isWhole t_s)) S hF hH (c_X12_lesser l G cy E N x3 (t_s (Int32.toNatClampNeg (4 + x5))) z74 hz74) (cwS 2 hts gX12_tend_X12_lesser rfl rfl rfl (by decide +kernel) ⟨Nat.le_of_ble_eq_true rfl, Nat.le_of_ble_eq_true rfl⟩) [] rfl (by decide) rfl rfl rfl rfl rfl hl.1 (Nat.le_of_ble_eq_true rfl) dX12_tend_74 ⟨Nat.le_of_ble_eq_true rfl, Nat.le_of_ble_eq_true rfl⟩ (fun H locs hH => ?_)
        refine lv_istore_n (lv' := [(3, .int z74), (0, .ref q_t), (1, .int x1), (2, .int x2), (4, .int x4), (5, .int x5)]) hx hb dX12_tend_77 rfl hl (by decide) rfl (fun ls hl => ?_)
        refine lv_iload hx hb dX12_tend_78 (lv_at hl 4 rfl) ?_
        refine lv_aload_n hx hb dX12_tend_80 rfl (lv_at hl 1 rfl) ?_
        refine z_get S hF hH iX12_tend_X12 0 rfl rfl 6 (by decide) (List.mem_of_getElem? (i := 4) rfl) rfl dX12_tend_81 ?_
        refine lv_iconst (v := 4) hx hb dX12_tend_84 (by decide) ?_
        refine lv_iload hx hb dX12_tend_85 (lv_at hl 5 rfl) ?_
        refine lv_iadd hx hb dX12_tend_87 ?_
        refine z_iald S hF hH 1 rfl h73 rfl dX12_tend_88 ?_
        obtain ⟨z89, hz89, h⟩ := zcl_e h
        refine z_callS (As := [.int x4, .int (t_s (Int32.toNatClampNeg (4 + x5)))]) (rest := []) (st1 := [.int z89]) (ws' := (wd_X12_tend cy q_t q_t_tape q_t_s q_t_h q_t_read q_t_names q_t_reserved q_t_undone q_t_before q_t_comeRow q_t_shown q_t_text q_t_toldAt q_t_stack q_t_truths q_t_imaged q_t_namesKept q_t_areKept c_t_thrown t_length t_size t_p t_limit t_token t_at t_span t_number t_fault t_faultAt t_word t_got t_lines t_hasWait t_undoMany t_firstMinute t_lookClock t_hasTime t_latestMost t_textMany t_seed t_toldMany t_hasTold t_codes t_ones t_top t_deep t_isWhole t_s)) S hF hH (c_X12_greater l G cy E N x4 (t_s (Int32.toNatClampNeg (4 + x5))) z89 hz89) (cwS 2 hts gX12_tend_X12_greater rfl rfl rfl (by decide +kernel) ⟨Nat.le_of_ble_eq_true rfl, Nat.le_of_ble_eq_true rfl⟩) [] rfl (by decide) rfl rfl rfl rfl rfl hl.1 (Nat.le_of_ble_eq_true rfl) dX12_tend_89 ⟨Nat.le_of_ble_eq_true rfl, Nat.le_of_ble_eq_true rfl⟩ (fun H locs hH => ?_)
        refine lv_istore (lv' := [(4, .int z89), (3, .int z74), (0, .ref q_t), (1, .int x1), (2, .int x2), (5, .int x5)]) hx hb dX12_tend_92 hl (by decide) rfl (fun ls hl => ?_)
        obtain ⟨y1, ey1, h⟩ := zbn_e h
        refine lv_iinc (v := y1) (lv' := [(5, .int y1), (4, .int z89), (3, .int z74), (0, .ref q_t), (1, .int x1), (2, .int x2)]) hx hb dX12_tend_94 hl (k := 5) rfl (by rw [ey1]; exact congrArg (fun z => x5 + z) (by decide)) (by decide) rfl (fun ls hl => ?_)
        clear ey1
        refine lv_goto (tgt := 37) hx hb dX12_tend_97 (by decide) ?_
        exact ih x1 x2 z74 z89 y1 c_t_thrown _ _ _ hH (lv_sub hl [3, 4, 5, 2, 1, 0] rfl) h
      · replace h := zif_f b58 h
        refine lv_goto (tgt := 94) hx hb dX12_tend_61 (by decide) ?_
        obtain ⟨y2, ey2, h⟩ := zbn_e h
        refine lv_iinc (v := y2) (lv' := [(5, .int y2), (0, .ref q_t), (1, .int x1), (2, .int x2), (3, .int x3), (4, .int x4)]) hx hb dX12_tend_94 hl (k := 5) rfl (by rw [ey2]; exact congrArg (fun z => x5 + z) (by decide)) (by decide) rfl (fun ls hl => ?_)
        clear ey2
        refine lv_goto (tgt := 37) hx hb dX12_tend_97 (by decide) ?_
        exact ih x1 x2 x3 x4 y2 c_t_thrown _ _ _ hH (lv_sub hl [1, 2, 3, 4, 5, 0] rfl) h
set_option maxHeartbeats 4000000 in
set_option maxRecDepth 100000 in
theorem c_X12_tend (l : Launch) (G : va_G) (cy : Nat → ClassId) (E : Nat → Nat) (N : Nat) (q_t q_t_tape q_t_s q_t_h q_t_read q_t_names q_t_reserved q_t_undone q_t_before q_t_comeRow q_t_shown q_t_text q_t_toldAt q_t_stack q_t_truths q_t_imaged q_t_namesKept q_t_areKept : Nat) (t_thrown : Int32) (t_length : Int32) (t_size : Int32) (t_p : Int32) (t_limit : Int32) (t_token : Int32) (t_at : Int32) (t_span : Int32) (t_number : Int32) (t_fault : Int32) (t_faultAt : Int32) (t_word : Int64) (t_got : Int32) (t_lines : Int32) (t_hasWait : Int32) (t_undoMany : Int32) (t_firstMinute : Int32) (t_lookClock : Int32) (t_hasTime : Int32) (t_latestMost : Int32) (t_textMany : Int32) (t_seed : Int32) (t_toldMany : Int32) (t_hasTold : Int32) (t_codes : Int32) (t_ones : Int32) (t_top : Int32) (t_deep : Int32) (t_isWhole : Int32) (t_s : Nat → Int32) (x0 : Int32) (x1 : Int32) (r : Int32) (r_t_thrown : Int32) (h : f_X12_tend N x0 x1 t_thrown t_s = some (r, r_t_thrown)) : zM l G cy E yX12_tend wsX12_tend rm_X12_tend [.ref q_t, .int x0, .int x1] (wd_X12_tend cy q_t q_t_tape q_t_s q_t_h q_t_read q_t_names q_t_reserved q_t_undone q_t_before q_t_comeRow q_t_shown q_t_text q_t_toldAt q_t_stack q_t_truths q_t_imaged q_t_namesKept q_t_areKept t_thrown t_length t_size t_p t_limit t_token t_at t_span t_number t_fault t_faultAt t_word t_got t_lines t_hasWait t_undoMany t_firstMinute t_lookClock t_hasTime t_latestMost t_textMany t_seed t_toldMany t_hasTold t_codes t_ones t_top t_deep t_isWhole t_s) (wd_X12_tend cy q_t q_t_tape q_t_s q_t_h q_t_read q_t_names q_t_reserved q_t_undone q_t_before q_t_comeRow q_t_shown q_t_text q_t_toldAt q_t_stack q_t_truths q_t_imaged q_t_namesKept q_t_areKept r_t_thrown t_length t_size t_p t_limit t_token t_at t_span t_number t_fault t_faultAt t_word t_got t_lines t_hasWait t_undoMany t_firstMinute t_lookClock t_hasTime t_latestMost t_textMany t_seed t_toldMany t_hasTold t_codes t_ones t_top t_deep t_isWhole t_s) (some (.int r)) 0 0 := by
  refine z_body (cc := cX12_tend) (maxL := 6) (ret := some .int) (by decide) rfl (Nat.le_of_ble_eq_true rfl) ?_
  intro p e s m below meth c ls S hr hlocks hnm hF hH hl
  have S : CallFix p m c cX12_tend 6 s ([.ref q_t, .int x0, .int x1] : List Value).toArray wsX12_tend RX12 := S
  obtain ⟨hx, hb, hml, hown, hts⟩ := id S
  have hl : lv_has ls 6 [(0, .ref q_t), (1, .int x0), (2, .int x1)] := hl
  rw [f_X12_tend] at h
  refine lv_aload_n hx hb dX12_tend_0 rfl (lv_at hl 0 rfl) ?_
  refine lv_iconst (v := 0) hx hb dX12_tend_1 (by decide) ?_
  refine z_put (ws' := (wd_X12_tend cy q_t q_t_tape q_t_s q_t_h q_t_read q_t_names q_t_reserved q_t_undone q_t_before q_t_comeRow q_t_shown q_t_text q_t_toldAt q_t_stack q_t_truths q_t_imaged q_t_namesKept q_t_areKept 0 t_length t_size t_p t_limit t_token t_at t_span t_number t_fault t_faultAt t_word t_got t_lines t_hasWait t_undoMany t_firstMinute t_lookClock t_hasTime t_latestMost t_textMany t_seed t_toldMany t_hasTold t_codes t_ones t_top t_deep t_isWhole t_s)) S hF hH iX12_tend_X12 tyX12 tyX12_ok nmX12 0 rfl rfl 0 (by decide) (List.mem_of_getElem? (i := 1) rfl) rfl rfl rfl (Nat.le_of_ble_eq_true rfl) rfl dX12_tend_2 (fun H locs hH => ?_)
  refine lv_aload_n hx hb dX12_tend_5 rfl (lv_at hl 0 rfl) ?_
  refine lv_iload_n hx hb dX12_tend_6 rfl (lv_at hl 1 rfl) ?_
  obtain ⟨z7, hz7, h⟩ := zcl_e h
  refine z_callV (As := [.int x0]) (rest := []) (st1 := [.int z7]) (ws' := (wd_X12_tend cy q_t q_t_tape q_t_s q_t_h q_t_read q_t_names q_t_reserved q_t_undone q_t_before q_t_comeRow q_t_shown q_t_text q_t_toldAt q_t_stack q_t_truths q_t_imaged q_t_namesKept q_t_areKept 0 t_length t_size t_p t_limit t_token t_at t_span t_number t_fault t_faultAt t_word t_got t_lines t_hasWait t_undoMany t_firstMinute t_lookClock t_hasTime t_latestMost t_textMany t_seed t_toldMany t_hasTold t_codes t_ones t_top t_deep t_isWhole t_s)) S hF hH (c_X12_isMaster l G cy E N q_t q_t_tape q_t_s q_t_h q_t_read q_t_names q_t_reserved q_t_undone q_t_before q_t_comeRow q_t_shown q_t_text q_t_toldAt q_t_stack q_t_truths q_t_imaged q_t_namesKept q_t_areKept 0 t_length t_size t_p t_limit t_token t_at t_span t_number t_fault t_faultAt t_word t_got t_lines t_hasWait t_undoMany t_firstMinute t_lookClock t_hasTime t_latestMost t_textMany t_seed t_toldMany t_hasTold t_codes t_ones t_top t_deep t_isWhole t_s x0 z7 hz7) (cwV 1 hts gX12_tend_X12_isMaster rfl rfl rfl (by decide +kernel) ⟨Nat.le_of_ble_eq_true rfl, Nat.le_of_ble_eq_true rfl⟩) 13 0 rfl rfl [0, 1] rfl (by decide) rfl rfl rfl rfl rfl hl.1 (Nat.le_of_ble_eq_true rfl) dX12_tend_7 ⟨Nat.le_of_ble_eq_true rfl, Nat.le_of_ble_eq_true rfl⟩ (fun H locs hH => ?_)
  refine lv_if_eq (tgt := 23) hx hb dX12_tend_10 (by decide) (fun b10 => ?_) (fun b10 => ?_)
  · replace h := zif_t b10 h
    refine lv_iconst (v := (-1)) hx hb dX12_tend_23 (by decide) ?_
    cases h
    exact z_iret S hr hlocks hH dX12_tend_24
  · replace h := zif_f b10 h
    refine lv_iload_n hx hb dX12_tend_13 rfl (lv_at hl 2 rfl) ?_
    refine lv_iconst (v := 0) hx hb dX12_tend_14 (by decide) ?_
    refine lv_bipush (v := 99) hx hb dX12_tend_15 (by decide) ?_
    obtain ⟨z17, hz17, h⟩ := zcl_e h
    refine z_callS (As := [.int x1, .int 0, .int 99]) (rest := []) (st1 := [.int z17]) (ws' := (wd_X12_tend cy q_t q_t_tape q_t_s q_t_h q_t_read q_t_names q_t_reserved q_t_undone q_t_before q_t_comeRow q_t_shown q_t_text q_t_toldAt q_t_stack q_t_truths q_t_imaged q_t_namesKept q_t_areKept 0 t_length t_size t_p t_limit t_token t_at t_span t_number t_fault t_faultAt t_word t_got t_lines t_hasWait t_undoMany t_firstMinute t_lookClock t_hasTime t_latestMost t_textMany t_seed t_toldMany t_hasTold t_codes t_ones t_top t_deep t_isWhole t_s)) S hF hH (c_X12_isIn l G cy E N x1 0 99 z17 hz17) (cwS 3 hts gX12_tend_X12_isIn rfl rfl rfl (by decide +kernel) ⟨Nat.le_of_ble_eq_true rfl, Nat.le_of_ble_eq_true rfl⟩) [] rfl (by decide) rfl rfl rfl rfl rfl hl.1 (Nat.le_of_ble_eq_true rfl) dX12_tend_17 ⟨Nat.le_of_ble_eq_true rfl, Nat.le_of_ble_eq_true rfl⟩ (fun H locs hH => ?_)
    refine lv_if_ne (tgt := 25) hx hb dX12_tend_20 (by decide) (fun b20 => ?_) (fun b20 => ?_)
    · replace h := zif_f b20 h
      refine lv_ldcw (v := 1000000) hx hb hown (hts _ (List.mem_of_getElem? (i := 2) rfl)) dX12_tend_25 ?_
      refine lv_istore_n (lv' := [(3, .int 1000000), (0, .ref q_t), (1, .int x0), (2, .int x1)]) hx hb dX12_tend_28 rfl hl (by decide) rfl (fun ls hl => ?_)
      refine lv_ldcw (v := (-1000000)) hx hb hown (hts _ (List.mem_of_getElem? (i := 3) rfl)) dX12_tend_29 ?_
      refine lv_istore (lv' := [(4, .int (-1000000)), (3, .int 1000000), (0, .ref q_t), (1, .int x0), (2, .int x1)]) hx hb dX12_tend_32 hl (by decide) rfl (fun ls hl => ?_)
      refine lv_iconst (v := 0) hx hb dX12_tend_34 (by decide) ?_
      refine lv_istore (lv' := [(5, .int 0), (4, .int (-1000000)), (3, .int 1000000), (0, .ref q_t), (1, .int x0), (2, .int x1)]) hx hb dX12_tend_35 hl (by decide) rfl (fun ls hl => ?_)
      exact w_X12_tend_37 S hr hlocks hF N x0 x1 1000000 (-1000000) 0 0 _ _ _ hH (lv_sub hl [3, 4, 5, 2, 1, 0] rfl) h
    · replace h := zif_t b20 h
      refine lv_iconst (v := (-1)) hx hb dX12_tend_23 (by decide) ?_
      cases h
      exact z_iret S hr hlocks hH dX12_tend_24
abbrev wd_X12_worst (cy : Nat → ClassId) (q_t q_t_tape q_t_s q_t_h q_t_read q_t_names q_t_reserved q_t_undone q_t_before q_t_comeRow q_t_shown q_t_text q_t_toldAt q_t_stack q_t_truths q_t_imaged q_t_namesKept q_t_areKept : Nat) (t_thrown : Int32) (t_length : Int32) (t_size : Int32) (t_p : Int32) (t_limit : Int32) (t_token : Int32) (t_at : Int32) (t_span : Int32) (t_number : Int32) (t_fault : Int32) (t_faultAt : Int32) (t_word : Int64) (t_got : Int32) (t_lines : Int32) (t_hasWait : Int32) (t_undoMany : Int32) (t_firstMinute : Int32) (t_lookClock : Int32) (t_hasTime : Int32) (t_latestMost : Int32) (t_textMany : Int32) (t_seed : Int32) (t_toldMany : Int32) (t_hasTold : Int32) (t_codes : Int32) (t_ones : Int32) (t_top : Int32) (t_deep : Int32) (t_isWhole : Int32) (t_s : Nat → Int32) : va_W := [(q_t, .inr (13, [.int t_thrown, .ref q_t_tape, .int t_length, .int t_size, .int t_p, .int t_limit, .ref q_t_s, .ref q_t_h, .ref q_t_read, .ref q_t_names, .ref q_t_reserved, .int t_token, .int t_at, .int t_span, .int t_number, .int t_fault, .int t_faultAt, .long t_word, .int t_got, .int t_lines, .int t_hasWait, .ref q_t_undone, .ref q_t_before, .int t_undoMany, .ref q_t_comeRow, .int t_firstMinute, .int t_lookClock, .int t_hasTime, .ref q_t_shown, .int t_latestMost, .ref q_t_text, .int t_textMany, .int t_seed, .int t_toldMany, .ref q_t_toldAt, .int t_hasTold, .ref q_t_stack, .int t_codes, .int t_ones, .int t_top, .int t_deep, .int t_isWhole, .ref q_t_truths, .ref q_t_imaged, .ref q_t_namesKept, .ref q_t_areKept])), (q_t_s, .inl (cy 1, 334, .inl t_s))]
theorem iX12_worst_X12 : ∀ w ∈ wsX120, w ∈ wsX12_worst := fun _ h => List.mem_cons_of_mem _ (List.mem_append_right _ h)
abbrev rm_X12_worst : Room := { frames := 4, cells := 0, slots := 0, locals := 85 }
set_option maxRecDepth 100000 in
def f_X12_worst_11 (N : Nat) (t_s : Nat → Int32) : Nat → Int32 → Int32 → Int32 → Int32 → Option (Int32 × Int32)
  | 0, _, _, _, _ => none
  | n + 1, x1, x2, x3, c_t_thrown => if (t_s 0) ≤ x3 then (some (x1, c_t_thrown)) else (zcl (f_X12_wrongBy N x3 t_s) fun z23 => zcl (f_X12_absolute N z23) fun z26 => if x2 < z26 then (zcl (f_X12_wrongBy N x3 t_s) fun z38 => zcl (f_X12_absolute N z38) fun z41 => zbn (x3 + 1) fun y1 => f_X12_worst_11 N t_s n x3 z41 y1 c_t_thrown) else (zbn (x3 + 1) fun y2 => f_X12_worst_11 N t_s n x1 x2 y2 c_t_thrown))
set_option maxRecDepth 100000 in
def f_X12_worst (N : Nat) (t_thrown : Int32) (t_s : Nat → Int32) : Option (Int32 × Int32) := f_X12_worst_11 N t_s N (-1) 0 0 0
set_option maxHeartbeats 4000000 in
set_option maxRecDepth 100000 in
theorem w_X12_worst_11 {p : Program} {l : Launch} {e : Env} {s : State} {m : MethodId} {args : Array Value} {below : List Frame} {meth : Method} {c : Code} {G : va_G} {cy : Nat → ClassId} {E : Nat → Nat} {w0 : va_W} {N : Nat} {q_t q_t_tape q_t_s q_t_h q_t_read q_t_names q_t_reserved q_t_undone q_t_before q_t_comeRow q_t_shown q_t_text q_t_toldAt q_t_stack q_t_truths q_t_imaged q_t_namesKept q_t_areKept : Nat} {t_length : Int32} {t_size : Int32} {t_p : Int32} {t_limit : Int32} {t_token : Int32} {t_at : Int32} {t_span : Int32} {t_number : Int32} {t_fault : Int32} {t_faultAt : Int32} {t_word : Int64} {t_got : Int32} {t_lines : Int32} {t_hasWait : Int32} {t_undoMany : Int32} {t_firstMinute : Int32} {t_lookClock : Int32} {t_hasTime : Int32} {t_latestMost : Int32} {t_textMany : Int32} {t_seed : Int32} {t_toldMany : Int32} {t_hasTold : Int32} {t_codes : Int32} {t_ones : Int32} {t_top : Int32} {t_deep : Int32} {t_isWhole : Int32} {t_s : Nat → Int32} {r : Int32} {r_t_thrown : Int32} (S : CallFix p m c cX12_worst 4 s args wsX12_worst RX12) (hr : meth.sig.returnType = some .int) (hlocks : meth.locks = false) (hF : zF G cy E (va_A w0 s.heap.size) s) :
    ∀ (n : Nat) (x1 : Int32) (x2 : Int32) (x3 : Int32) (c_t_thrown : Int32) (H : Heap) (locs : List Loc) (ls : Array Slot), zH G (va_A w0 s.heap.size) s H locs (wd_X12_worst cy q_t q_t_tape q_t_s q_t_h q_t_read q_t_names q_t_reserved q_t_undone q_t_before q_t_comeRow q_t_shown q_t_text q_t_toldAt q_t_stack q_t_truths q_t_imaged q_t_namesKept q_t_areKept c_t_thrown t_length t_size t_p t_limit t_token t_at t_span t_number t_fault t_faultAt t_word t_got t_lines t_hasWait t_undoMany t_firstMinute t_lookClock t_hasTime t_latestMost t_textMany t_seed t_toldMany t_hasTold t_codes t_ones t_top t_deep t_isWhole t_s) → lv_has ls 4 [(0, .ref q_t), (1, .int x1), (2, .int x2), (3, .int x3)] → f_X12_worst_11 N t_s n x1 x2 x3 c_t_thrown = some (r, r_t_thrown) → W p l e rm_X12_worst s m args below meth c H locs 0 0 (MQ below (zQ G w0 (wd_X12_worst cy q_t q_t_tape q_t_s q_t_h q_t_read q_t_names q_t_reserved q_t_undone q_t_before q_t_comeRow q_t_shown q_t_text q_t_toldAt q_t_stack q_t_truths q_t_imaged q_t_namesKept q_t_areKept r_t_thrown t_length t_size t_p t_limit t_token t_at t_span t_number t_fault t_faultAt t_word t_got t_lines t_hasWait t_undoMany t_firstMinute t_lookClock t_hasTime t_latestMost t_textMany t_seed t_toldMany t_hasTold t_codes t_ones t_top t_deep t_isWhole t_s) s.heap.size (some (.int r))) args s 0 0 (va_A w0 s.heap.size)) (F0 m 11 ls []) := by
  obtain ⟨hx, hb, hml, hown, hts⟩ := id S
  intro n
  induction n with
  | zero =>
    intro x1 x2 x3 c_t_thrown H locs ls hH hl h
    rw [f_X12_worst_11] at h
    cases h
  | succ n ih =>
    intro x1 x2 x3 c_t_thrown H locs ls hH hl h
    rw [f_X12_worst_11] at h
    refine lv_iload_n hx hb dX12_worst_11 rfl (lv_at hl 3 rfl) ?_
    refine lv_aload_n hx hb dX12_worst_12 rfl (lv_at hl 0 rfl) ?_
    refine z_get S hF hH iX12_worst_X12 0 rfl rfl 6 (by decide) (List.mem_of_getElem? (i := 2) rfl) rfl dX12_worst_13 ?_
    refine lv_iconst (v := 0) hx hb dX12_worst_16 (by decide) ?_
    refine z_iald (j := 0) S hF hH 1 rfl (by decide) rfl dX12_worst_17 ?_
    refine lv_icmp_ge (tgt := 53) hx hb dX12_worst_18 (by decide) (fun b18 => ?_) (fun b18 => ?_)
    · replace h := zif_t b18 h
      refine lv_iload_n hx hb dX12_worst_53 rfl (lv_at hl 1 rfl) ?_
      cases h
      exact z_iret S hr hlocks hH dX12_worst_54
    · replace h := zif_f b18 h
      refine lv_aload_n hx hb dX12_worst_21 rfl (lv_at hl 0 rfl) ?_
      refine lv_iload_n hx hb dX12_worst_22 rfl (lv_at hl 3 rfl) ?_
      obtain ⟨z23, hz23, h⟩ := zcl_e h
      refine z_callV (As := [.int x3]) (rest := []) (st1 := [.int z23]) (ws' := (wd_X12_worst cy q_t q_t_tape q_t_s q_t_h q_t_read q_t_names q_t_reserved q_t_undone q_t_before q_t_comeRow q_t_shown q_t_text q_t_toldAt q_t_stack q_t_truths q_t_imaged q_t_namesKept q_t_areKept c_t_thrown t_length t_size t_p t_limit t_token t_at t_span t_number t_fault t_faultAt t_word t_got t_lines t_hasWait t_undoMany t_firstMinute t_lookClock t_hasTime t_latestMost t_textMany t_seed t_toldMany t_hasTold t_codes t_ones t_top t_deep t_isWhole t_s)) S hF hH (c_X12_wrongBy l G cy E N q_t q_t_tape q_t_s q_t_h q_t_read q_t_names q_t_reserved q_t_undone q_t_before q_t_comeRow q_t_shown q_t_text q_t_toldAt q_t_stack q_t_truths q_t_imaged q_t_namesKept q_t_areKept c_t_thrown t_length t_size t_p t_limit t_token t_at t_span t_number t_fault t_faultAt t_word t_got t_lines t_hasWait t_undoMany t_firstMinute t_lookClock t_hasTime t_latestMost t_textMany t_seed t_toldMany t_hasTold t_codes t_ones t_top t_deep t_isWhole t_s x3 z23 hz23) (cwV 1 hts gX12_worst_X12_wrongBy rfl rfl rfl (by decide +kernel) ⟨Nat.le_of_ble_eq_true rfl, Nat.le_of_ble_eq_true rfl⟩) 13 0 rfl rfl [0, 1] rfl (by decide) rfl rfl rfl rfl rfl hl.1 (Nat.le_of_ble_eq_true rfl) dX12_worst_23 ⟨Nat.le_of_ble_eq_true rfl, Nat.le_of_ble_eq_true rfl⟩ (fun H locs hH => ?_)
      obtain ⟨z26, hz26, h⟩ := zcl_e h
      refine z_callS (As := [.int z23]) (rest := []) (st1 := [.int z26]) (ws' := (wd_X12_worst cy q_t q_t_tape q_t_s q_t_h q_t_read q_t_names q_t_reserved q_t_undone q_t_before q_t_comeRow q_t_shown q_t_text q_t_toldAt q_t_stack q_t_truths q_t_imaged q_t_namesKept q_t_areKept c_t_thrown t_length t_size t_p t_limit t_token t_at t_span t_number t_fault t_faultAt t_word t_got t_lines t_hasWait t_undoMany t_firstMinute t_lookClock t_hasTime t_latestMost t_textMany t_seed t_toldMany t_hasTold t_codes t_ones t_top t_deep t_isWhole t_s)) S hF hH (c_X12_absolute l G cy E N z23 z26 hz26) (cwS 1 hts gX12_worst_X12_absolute rfl rfl rfl (by decide +kernel) ⟨Nat.le_of_ble_eq_true rfl, Nat.le_of_ble_eq_true rfl⟩) [] rfl (by decide) rfl rfl rfl rfl rfl hl.1 (Nat.le_of_ble_eq_true rfl) dX12_worst_26 ⟨Nat.le_of_ble_eq_true rfl, Nat.le_of_ble_eq_true rfl⟩ (fun H locs hH => ?_)
      refine lv_iload_n hx hb dX12_worst_29 rfl (lv_at hl 2 rfl) ?_
      refine lv_icmp_gt (tgt := 36) hx hb dX12_worst_30 (by decide) (fun b30 => ?_) (fun b30 => ?_)
      · replace h := zif_t b30 h
        refine lv_aload_n hx hb dX12_worst_36 rfl (lv_at hl 0 rfl) ?_
        refine lv_iload_n hx hb dX12_worst_37 rfl (lv_at hl 3 rfl) ?_
        obtain ⟨z38, hz38, h⟩ := zcl_e h
        refine z_callV (As := [.int x3]) (rest := []) (st1 := [.int z38]) (ws' := (wd_X12_worst cy q_t q_t_tape q_t_s q_t_h q_t_read q_t_names q_t_reserved q_t_undone q_t_before q_t_comeRow q_t_shown q_t_text q_t_toldAt q_t_stack q_t_truths q_t_imaged q_t_namesKept q_t_areKept c_t_thrown t_length t_size t_p t_limit t_token t_at t_span t_number t_fault t_faultAt t_word t_got t_lines t_hasWait t_undoMany t_firstMinute t_lookClock t_hasTime t_latestMost t_textMany t_seed t_toldMany t_hasTold t_codes t_ones t_top t_deep t_isWhole t_s)) S hF hH (c_X12_wrongBy l G cy E N q_t q_t_tape q_t_s q_t_h q_t_read q_t_names q_t_reserved q_t_undone q_t_before q_t_comeRow q_t_shown q_t_text q_t_toldAt q_t_stack q_t_truths q_t_imaged q_t_namesKept q_t_areKept c_t_thrown t_length t_size t_p t_limit t_token t_at t_span t_number t_fault t_faultAt t_word t_got t_lines t_hasWait t_undoMany t_firstMinute t_lookClock t_hasTime t_latestMost t_textMany t_seed t_toldMany t_hasTold t_codes t_ones t_top t_deep t_isWhole t_s x3 z38 hz38) (cwV 1 hts gX12_worst_X12_wrongBy rfl rfl rfl (by decide +kernel) ⟨Nat.le_of_ble_eq_true rfl, Nat.le_of_ble_eq_true rfl⟩) 13 0 rfl rfl [0, 1] rfl (by decide) rfl rfl rfl rfl rfl hl.1 (Nat.le_of_ble_eq_true rfl) dX12_worst_38 ⟨Nat.le_of_ble_eq_true rfl, Nat.le_of_ble_eq_true rfl⟩ (fun H locs hH => ?_)
        obtain ⟨z41, hz41, h⟩ := zcl_e h
        refine z_callS (As := [.int z38]) (rest := []) (st1 := [.int z41]) (ws' := (wd_X12_worst cy q_t q_t_tape q_t_s q_t_h q_t_read q_t_names q_t_reserved q_t_undone q_t_before q_t_comeRow q_t_shown q_t_text q_t_toldAt q_t_stack q_t_truths q_t_imaged q_t_namesKept q_t_areKept c_t_thrown t_length t_size t_p t_limit t_token t_at t_span t_number t_fault t_faultAt t_word t_got t_lines t_hasWait t_undoMany t_firstMinute t_lookClock t_hasTime t_latestMost t_textMany t_seed t_toldMany t_hasTold t_codes t_ones t_top t_deep t_isWhole t_s)) S hF hH (c_X12_absolute l G cy E N z38 z41 hz41) (cwS 1 hts gX12_worst_X12_absolute rfl rfl rfl (by decide +kernel) ⟨Nat.le_of_ble_eq_true rfl, Nat.le_of_ble_eq_true rfl⟩) [] rfl (by decide) rfl rfl rfl rfl rfl hl.1 (Nat.le_of_ble_eq_true rfl) dX12_worst_41 ⟨Nat.le_of_ble_eq_true rfl, Nat.le_of_ble_eq_true rfl⟩ (fun H locs hH => ?_)
        refine lv_istore_n (lv' := [(2, .int z41), (0, .ref q_t), (1, .int x1), (3, .int x3)]) hx hb dX12_worst_44 rfl hl (by decide) rfl (fun ls hl => ?_)
        refine lv_iload_n hx hb dX12_worst_45 rfl (lv_at hl 3 rfl) ?_
        refine lv_istore_n (lv' := [(1, .int x3), (2, .int z41), (0, .ref q_t), (3, .int x3)]) hx hb dX12_worst_46 rfl hl (by decide) rfl (fun ls hl => ?_)
        obtain ⟨y1, ey1, h⟩ := zbn_e h
        refine lv_iinc (v := y1) (lv' := [(3, .int y1), (1, .int x3), (2, .int z41), (0, .ref q_t)]) hx hb dX12_worst_47 hl (k := 3) rfl (by rw [ey1]; exact congrArg (fun z => x3 + z) (by decide)) (by decide) rfl (fun ls hl => ?_)
        clear ey1
        refine lv_goto (tgt := 11) hx hb dX12_worst_50 (by decide) ?_
        exact ih x3 z41 y1 c_t_thrown _ _ _ hH (lv_sub hl [3, 1, 2, 0] rfl) h
      · replace h := zif_f b30 h
        refine lv_goto (tgt := 47) hx hb dX12_worst_33 (by decide) ?_
        obtain ⟨y2, ey2, h⟩ := zbn_e h
        refine lv_iinc (v := y2) (lv' := [(3, .int y2), (0, .ref q_t), (1, .int x1), (2, .int x2)]) hx hb dX12_worst_47 hl (k := 3) rfl (by rw [ey2]; exact congrArg (fun z => x3 + z) (by decide)) (by decide) rfl (fun ls hl => ?_)
        clear ey2
        refine lv_goto (tgt := 11) hx hb dX12_worst_50 (by decide) ?_
        exact ih x1 x2 y2 c_t_thrown _ _ _ hH (lv_sub hl [1, 2, 3, 0] rfl) h
set_option maxHeartbeats 4000000 in
set_option maxRecDepth 100000 in
theorem c_X12_worst (l : Launch) (G : va_G) (cy : Nat → ClassId) (E : Nat → Nat) (N : Nat) (q_t q_t_tape q_t_s q_t_h q_t_read q_t_names q_t_reserved q_t_undone q_t_before q_t_comeRow q_t_shown q_t_text q_t_toldAt q_t_stack q_t_truths q_t_imaged q_t_namesKept q_t_areKept : Nat) (t_thrown : Int32) (t_length : Int32) (t_size : Int32) (t_p : Int32) (t_limit : Int32) (t_token : Int32) (t_at : Int32) (t_span : Int32) (t_number : Int32) (t_fault : Int32) (t_faultAt : Int32) (t_word : Int64) (t_got : Int32) (t_lines : Int32) (t_hasWait : Int32) (t_undoMany : Int32) (t_firstMinute : Int32) (t_lookClock : Int32) (t_hasTime : Int32) (t_latestMost : Int32) (t_textMany : Int32) (t_seed : Int32) (t_toldMany : Int32) (t_hasTold : Int32) (t_codes : Int32) (t_ones : Int32) (t_top : Int32) (t_deep : Int32) (t_isWhole : Int32) (t_s : Nat → Int32) (r : Int32) (r_t_thrown : Int32) (h : f_X12_worst N t_thrown t_s = some (r, r_t_thrown)) : zM l G cy E yX12_worst wsX12_worst rm_X12_worst [.ref q_t] (wd_X12_worst cy q_t q_t_tape q_t_s q_t_h q_t_read q_t_names q_t_reserved q_t_undone q_t_before q_t_comeRow q_t_shown q_t_text q_t_toldAt q_t_stack q_t_truths q_t_imaged q_t_namesKept q_t_areKept t_thrown t_length t_size t_p t_limit t_token t_at t_span t_number t_fault t_faultAt t_word t_got t_lines t_hasWait t_undoMany t_firstMinute t_lookClock t_hasTime t_latestMost t_textMany t_seed t_toldMany t_hasTold t_codes t_ones t_top t_deep t_isWhole t_s) (wd_X12_worst cy q_t q_t_tape q_t_s q_t_h q_t_read q_t_names q_t_reserved q_t_undone q_t_before q_t_comeRow q_t_shown q_t_text q_t_toldAt q_t_stack q_t_truths q_t_imaged q_t_namesKept q_t_areKept r_t_thrown t_length t_size t_p t_limit t_token t_at t_span t_number t_fault t_faultAt t_word t_got t_lines t_hasWait t_undoMany t_firstMinute t_lookClock t_hasTime t_latestMost t_textMany t_seed t_toldMany t_hasTold t_codes t_ones t_top t_deep t_isWhole t_s) (some (.int r)) 0 0 := by
  refine z_body (cc := cX12_worst) (maxL := 4) (ret := some .int) (by decide) rfl (Nat.le_of_ble_eq_true rfl) ?_
  intro p e s m below meth c ls S hr hlocks hnm hF hH hl
  have S : CallFix p m c cX12_worst 4 s ([.ref q_t] : List Value).toArray wsX12_worst RX12 := S
  obtain ⟨hx, hb, hml, hown, hts⟩ := id S
  have hl : lv_has ls 4 [(0, .ref q_t)] := hl
  rw [f_X12_worst] at h
  refine lv_aload_n hx hb dX12_worst_0 rfl (lv_at hl 0 rfl) ?_
  refine lv_iconst (v := 0) hx hb dX12_worst_1 (by decide) ?_
  refine z_put (ws' := (wd_X12_worst cy q_t q_t_tape q_t_s q_t_h q_t_read q_t_names q_t_reserved q_t_undone q_t_before q_t_comeRow q_t_shown q_t_text q_t_toldAt q_t_stack q_t_truths q_t_imaged q_t_namesKept q_t_areKept 0 t_length t_size t_p t_limit t_token t_at t_span t_number t_fault t_faultAt t_word t_got t_lines t_hasWait t_undoMany t_firstMinute t_lookClock t_hasTime t_latestMost t_textMany t_seed t_toldMany t_hasTold t_codes t_ones t_top t_deep t_isWhole t_s)) S hF hH iX12_worst_X12 tyX12 tyX12_ok nmX12 0 rfl rfl 0 (by decide) (List.mem_of_getElem? (i := 1) rfl) rfl rfl rfl (Nat.le_of_ble_eq_true rfl) rfl dX12_worst_2 (fun H locs hH => ?_)
  refine lv_iconst (v := (-1)) hx hb dX12_worst_5 (by decide) ?_
  refine lv_istore_n (lv' := [(1, .int (-1)), (0, .ref q_t)]) hx hb dX12_worst_6 rfl hl (by decide) rfl (fun ls hl => ?_)
  refine lv_iconst (v := 0) hx hb dX12_worst_7 (by decide) ?_
  refine lv_istore_n (lv' := [(2, .int 0), (1, .int (-1)), (0, .ref q_t)]) hx hb dX12_worst_8 rfl hl (by decide) rfl (fun ls hl => ?_)
  refine lv_iconst (v := 0) hx hb dX12_worst_9 (by decide) ?_
  refine lv_istore_n (lv' := [(3, .int 0), (2, .int 0), (1, .int (-1)), (0, .ref q_t)]) hx hb dX12_worst_10 rfl hl (by decide) rfl (fun ls hl => ?_)
  exact w_X12_worst_11 S hr hlocks hF N (-1) 0 0 0 _ _ _ hH (lv_sub hl [3, 2, 1, 0] rfl) h
abbrev wd_X12_latest (cy : Nat → ClassId) (q_t q_t_tape q_t_s q_t_h q_t_read q_t_names q_t_reserved q_t_undone q_t_before q_t_comeRow q_t_shown q_t_text q_t_toldAt q_t_stack q_t_truths q_t_imaged q_t_namesKept q_t_areKept : Nat) (t_thrown : Int32) (t_length : Int32) (t_size : Int32) (t_p : Int32) (t_limit : Int32) (t_token : Int32) (t_at : Int32) (t_span : Int32) (t_number : Int32) (t_fault : Int32) (t_faultAt : Int32) (t_word : Int64) (t_got : Int32) (t_lines : Int32) (t_hasWait : Int32) (t_undoMany : Int32) (t_firstMinute : Int32) (t_lookClock : Int32) (t_hasTime : Int32) (t_latestMost : Int32) (t_textMany : Int32) (t_seed : Int32) (t_toldMany : Int32) (t_hasTold : Int32) (t_codes : Int32) (t_ones : Int32) (t_top : Int32) (t_deep : Int32) (t_isWhole : Int32) (t_s : Nat → Int32) : va_W := [(q_t, .inr (13, [.int t_thrown, .ref q_t_tape, .int t_length, .int t_size, .int t_p, .int t_limit, .ref q_t_s, .ref q_t_h, .ref q_t_read, .ref q_t_names, .ref q_t_reserved, .int t_token, .int t_at, .int t_span, .int t_number, .int t_fault, .int t_faultAt, .long t_word, .int t_got, .int t_lines, .int t_hasWait, .ref q_t_undone, .ref q_t_before, .int t_undoMany, .ref q_t_comeRow, .int t_firstMinute, .int t_lookClock, .int t_hasTime, .ref q_t_shown, .int t_latestMost, .ref q_t_text, .int t_textMany, .int t_seed, .int t_toldMany, .ref q_t_toldAt, .int t_hasTold, .ref q_t_stack, .int t_codes, .int t_ones, .int t_top, .int t_deep, .int t_isWhole, .ref q_t_truths, .ref q_t_imaged, .ref q_t_namesKept, .ref q_t_areKept])), (q_t_s, .inl (cy 1, 334, .inl t_s))]
theorem iX12_latest_X12 : ∀ w ∈ wsX120, w ∈ wsX12_latest := fun _ h => List.mem_cons_of_mem _ (List.mem_append_right _ h)
abbrev rm_X12_latest : Room := { frames := 0, cells := 0, slots := 0, locals := 0 }
set_option maxRecDepth 100000 in
def f_X12_latest_85 (N : Nat) (t_s : Nat → Int32) (k_24 : Int32 → Int32 → Int32 → Int32 → Int32 → Int32 → Option (Int32 × Int32 × Int32)) (x1 : Int32) (x2 : Int32) (x3 : Int32) (x4 : Int32) (sk0 : Int32) (c_t_thrown : Int32) (c_t_latestMost : Int32) : Option (Int32 × Int32 × Int32) := if x2 < sk0 then (zbn (x4 + 1) fun y1 => k_24 x3 sk0 x3 y1 c_t_thrown c_t_latestMost) else (zbn (x4 + 1) fun y2 => k_24 x1 x2 x3 y2 c_t_thrown c_t_latestMost)
set_option maxRecDepth 100000 in
def f_X12_latest_24 (N : Nat) (t_s : Nat → Int32) (k_11 : Int32 → Int32 → Int32 → Int32 → Int32 → Option (Int32 × Int32 × Int32)) : Nat → Int32 → Int32 → Int32 → Int32 → Int32 → Int32 → Option (Int32 × Int32 × Int32)
  | 0, _, _, _, _, _, _ => none
  | n + 1, x1, x2, x3, x4, c_t_thrown, c_t_latestMost => if (t_s 2) ≤ x4 then (zbn (x3 + 1) fun y1 => k_11 x1 x2 y1 c_t_thrown c_t_latestMost) else (zck (zin ((117 + (6 * x4)) + x3) 334) <| if (t_s (Int32.toNatClampNeg ((117 + (6 * x4)) + x3))) ≤ 0 then (f_X12_latest_85 N t_s (f_X12_latest_24 N t_s k_11 n) x1 x2 x3 x4 0 c_t_thrown c_t_latestMost) else (zck (zin (75 + x4) 334) <| f_X12_latest_85 N t_s (f_X12_latest_24 N t_s k_11 n) x1 x2 x3 x4 (((t_s (Int32.toNatClampNeg ((117 + (6 * x4)) + x3))) - 1) - (t_s (Int32.toNatClampNeg (75 + x4)))) c_t_thrown c_t_latestMost))
set_option maxRecDepth 100000 in
def f_X12_latest_11 (N : Nat) (t_s : Nat → Int32) : Nat → Int32 → Int32 → Int32 → Int32 → Int32 → Option (Int32 × Int32 × Int32)
  | 0, _, _, _, _, _ => none
  | n + 1, x1, x2, x3, c_t_thrown, c_t_latestMost => if (t_s 1) ≤ x3 then (if x1 < 0 then (some (x1, c_t_thrown, c_t_latestMost)) else (some (x1, c_t_thrown, x2))) else (f_X12_latest_24 N t_s (f_X12_latest_11 N t_s n) N x1 x2 x3 0 c_t_thrown c_t_latestMost)
set_option maxRecDepth 100000 in
def f_X12_latest (N : Nat) (t_thrown : Int32) (t_latestMost : Int32) (t_s : Nat → Int32) : Option (Int32 × Int32 × Int32) := f_X12_latest_11 N t_s N (-1) 0 0 0 t_latestMost
set_option maxHeartbeats 4000000 in
set_option maxRecDepth 100000 in
theorem w_X12_latest_85 {p : Program} {l : Launch} {e : Env} {s : State} {m : MethodId} {args : Array Value} {below : List Frame} {meth : Method} {c : Code} {G : va_G} {cy : Nat → ClassId} {E : Nat → Nat} {w0 : va_W} {N : Nat} {q_t q_t_tape q_t_s q_t_h q_t_read q_t_names q_t_reserved q_t_undone q_t_before q_t_comeRow q_t_shown q_t_text q_t_toldAt q_t_stack q_t_truths q_t_imaged q_t_namesKept q_t_areKept : Nat} {t_length : Int32} {t_size : Int32} {t_p : Int32} {t_limit : Int32} {t_token : Int32} {t_at : Int32} {t_span : Int32} {t_number : Int32} {t_fault : Int32} {t_faultAt : Int32} {t_word : Int64} {t_got : Int32} {t_lines : Int32} {t_hasWait : Int32} {t_undoMany : Int32} {t_firstMinute : Int32} {t_lookClock : Int32} {t_hasTime : Int32} {t_textMany : Int32} {t_seed : Int32} {t_toldMany : Int32} {t_hasTold : Int32} {t_codes : Int32} {t_ones : Int32} {t_top : Int32} {t_deep : Int32} {t_isWhole : Int32} {t_s : Nat → Int32} {r : Int32} {r_t_thrown : Int32} {r_t_latestMost : Int32} {k_24 : Int32 → Int32 → Int32 → Int32 → Int32 → Int32 → Option (Int32 × Int32 × Int32)} (S : CallFix p m c cX12_latest 6 s args wsX12_latest RX12) (hr : meth.sig.returnType = some .int) (hlocks : meth.locks = false) (hF : zF G cy E (va_A w0 s.heap.size) s) (hk_24 : ∀ (x1 : Int32) (x2 : Int32) (x3 : Int32) (x4 : Int32) (c_t_thrown : Int32) (c_t_latestMost : Int32) (H : Heap) (locs : List Loc) (ls : Array Slot), zH G (va_A w0 s.heap.size) s H locs (wd_X12_latest cy q_t q_t_tape q_t_s q_t_h q_t_read q_t_names q_t_reserved q_t_undone q_t_before q_t_comeRow q_t_shown q_t_text q_t_toldAt q_t_stack q_t_truths q_t_imaged q_t_namesKept q_t_areKept c_t_thrown t_length t_size t_p t_limit t_token t_at t_span t_number t_fault t_faultAt t_word t_got t_lines t_hasWait t_undoMany t_firstMinute t_lookClock t_hasTime c_t_latestMost t_textMany t_seed t_toldMany t_hasTold t_codes t_ones t_top t_deep t_isWhole t_s) → lv_has ls 6 [(0, .ref q_t), (1, .int x1), (2, .int x2), (3, .int x3), (4, .int x4)] → k_24 x1 x2 x3 x4 c_t_thrown c_t_latestMost = some (r, r_t_thrown, r_t_latestMost) → W p l e rm_X12_latest s m args below meth c H locs 0 0 (MQ below (zQ G w0 (wd_X12_latest cy q_t q_t_tape q_t_s q_t_h q_t_read q_t_names q_t_reserved q_t_undone q_t_before q_t_comeRow q_t_shown q_t_text q_t_toldAt q_t_stack q_t_truths q_t_imaged q_t_namesKept q_t_areKept r_t_thrown t_length t_size t_p t_limit t_token t_at t_span t_number t_fault t_faultAt t_word t_got t_lines t_hasWait t_undoMany t_firstMinute t_lookClock t_hasTime r_t_latestMost t_textMany t_seed t_toldMany t_hasTold t_codes t_ones t_top t_deep t_isWhole t_s) s.heap.size (some (.int r))) args s 0 0 (va_A w0 s.heap.size)) (F0 m 24 ls [])) :
    ∀ (x1 : Int32) (x2 : Int32) (x3 : Int32) (x4 : Int32) (sk0 : Int32) (c_t_thrown : Int32) (c_t_latestMost : Int32) (H : Heap) (locs : List Loc) (ls : Array Slot), zH G (va_A w0 s.heap.size) s H locs (wd_X12_latest cy q_t q_t_tape q_t_s q_t_h q_t_read q_t_names q_t_reserved q_t_undone q_t_before q_t_comeRow q_t_shown q_t_text q_t_toldAt q_t_stack q_t_truths q_t_imaged q_t_namesKept q_t_areKept c_t_thrown t_length t_size t_p t_limit t_token t_at t_span t_number t_fault t_faultAt t_word t_got t_lines t_hasWait t_undoMany t_firstMinute t_lookClock t_hasTime c_t_latestMost t_textMany t_seed t_toldMany t_hasTold t_codes t_ones t_top t_deep t_isWhole t_s) → lv_has ls 6 [(0, .ref q_t), (1, .int x1), (2, .int x2), (3, .int x3), (4, .int x4)] → f_X12_latest_85 N t_s k_24 x1 x2 x3 x4 sk0 c_t_thrown c_t_latestMost = some (r, r_t_thrown, r_t_latestMost) → W p l e rm_X12_latest s m args below meth c H locs 0 0 (MQ below (zQ G w0 (wd_X12_latest cy q_t q_t_tape q_t_s q_t_h q_t_read q_t_names q_t_reserved q_t_undone q_t_before q_t_comeRow q_t_shown q_t_text q_t_toldAt q_t_stack q_t_truths q_t_imaged q_t_namesKept q_t_areKept r_t_thrown t_length t_size t_p t_limit t_token t_at t_span t_number t_fault t_faultAt t_word t_got t_lines t_hasWait t_undoMany t_firstMinute t_lookClock t_hasTime r_t_latestMost t_textMany t_seed t_toldMany t_hasTold t_codes t_ones t_top t_deep t_isWhole t_s) s.heap.size (some (.int r))) args s 0 0 (va_A w0 s.heap.size)) (F0 m 85 ls [.int sk0]) := by
  obtain ⟨hx, hb, hml, hown, hts⟩ := id S
  intro x1 x2 x3 x4 sk0 c_t_thrown c_t_latestMost H locs ls hH hl h
  rw [f_X12_latest_85] at h
  refine lv_istore (lv' := [(5, .int sk0), (0, .ref q_t), (1, .int x1), (2, .int x2), (3, .int x3), (4, .int x4)]) hx hb dX12_latest_85 hl (by decide) rfl (fun ls hl => ?_)
  refine lv_iload hx hb dX12_latest_87 (lv_at hl 0 rfl) ?_
  refine lv_iload_n hx hb dX12_latest_89 rfl (lv_at hl 3 rfl) ?_
  refine lv_icmp_gt (tgt := 96) hx hb dX12_latest_90 (by decide) (fun b90 => ?_) (fun b90 => ?_)
  · replace h := zif_t b90 h
    refine lv_iload hx hb dX12_latest_96 (lv_at hl 0 rfl) ?_
    refine lv_istore_n (lv' := [(2, .int sk0), (5, .int sk0), (0, .ref q_t), (1, .int x1), (3, .int x3), (4, .int x4)]) hx hb dX12_latest_98 rfl hl (by decide) rfl (fun ls hl => ?_)
    refine lv_iload_n hx hb dX12_latest_99 rfl (lv_at hl 4 rfl) ?_
    refine lv_istore_n (lv' := [(1, .int x3), (2, .int sk0), (5, .int sk0), (0, .ref q_t), (3, .int x3), (4, .int x4)]) hx hb dX12_latest_100 rfl hl (by decide) rfl (fun ls hl => ?_)
    obtain ⟨y1, ey1, h⟩ := zbn_e h
    refine lv_iinc (v := y1) (lv' := [(4, .int y1), (1, .int x3), (2, .int sk0), (5, .int sk0), (0, .ref q_t), (3, .int x3)]) hx hb dX12_latest_101 hl (k := 5) rfl (by rw [ey1]; exact congrArg (fun z => x4 + z) (by decide)) (by decide) rfl (fun ls hl => ?_)
    clear ey1
    refine lv_goto (tgt := 24) hx hb dX12_latest_104 (by decide) ?_
    exact hk_24 x3 sk0 x3 y1 c_t_thrown c_t_latestMost _ _ _ hH (lv_sub hl [4, 1, 2, 5, 0] rfl) h
  · replace h := zif_f b90 h
    refine lv_goto (tgt := 101) hx hb dX12_latest_93 (by decide) ?_
    obtain ⟨y2, ey2, h⟩ := zbn_e h
    refine lv_iinc (v := y2) (lv' := [(4, .int y2), (5, .int sk0), (0, .ref q_t), (1, .int x1), (2, .int x2), (3, .int x3)]) hx hb dX12_latest_101 hl (k := 5) rfl (by rw [ey2]; exact congrArg (fun z => x4 + z) (by decide)) (by decide) rfl (fun ls hl => ?_)
    clear ey2
    refine lv_goto (tgt := 24) hx hb dX12_latest_104 (by decide) ?_
    exact hk_24 x1 x2 x3 y2 c_t_thrown c_t_latestMost _ _ _ hH (lv_sub hl [2, 3, 4, 5, 0] rfl) h
set_option maxHeartbeats 4000000 in
set_option maxRecDepth 100000 in
theorem w_X12_latest_24 {p : Program} {l : Launch} {e : Env} {s : State} {m : MethodId} {args : Array Value} {below : List Frame} {meth : Method} {c : Code} {G : va_G} {cy : Nat → ClassId} {E : Nat → Nat} {w0 : va_W} {N : Nat} {q_t q_t_tape q_t_s q_t_h q_t_read q_t_names q_t_reserved q_t_undone q_t_before q_t_comeRow q_t_shown q_t_text q_t_toldAt q_t_stack q_t_truths q_t_imaged q_t_namesKept q_t_areKept : Nat} {t_length : Int32} {t_size : Int32} {t_p : Int32} {t_limit : Int32} {t_token : Int32} {t_at : Int32} {t_span : Int32} {t_number : Int32} {t_fault : Int32} {t_faultAt : Int32} {t_word : Int64} {t_got : Int32} {t_lines : Int32} {t_hasWait : Int32} {t_undoMany : Int32} {t_firstMinute : Int32} {t_lookClock : Int32} {t_hasTime : Int32} {t_textMany : Int32} {t_seed : Int32} {t_toldMany : Int32} {t_hasTold : Int32} {t_codes : Int32} {t_ones : Int32} {t_top : Int32} {t_deep : Int32} {t_isWhole : Int32} {t_s : Nat → Int32} {r : Int32} {r_t_thrown : Int32} {r_t_latestMost : Int32} {k_11 : Int32 → Int32 → Int32 → Int32 → Int32 → Option (Int32 × Int32 × Int32)} (S : CallFix p m c cX12_latest 6 s args wsX12_latest RX12) (hr : meth.sig.returnType = some .int) (hlocks : meth.locks = false) (hF : zF G cy E (va_A w0 s.heap.size) s) (hk_11 : ∀ (x1 : Int32) (x2 : Int32) (x3 : Int32) (c_t_thrown : Int32) (c_t_latestMost : Int32) (H : Heap) (locs : List Loc) (ls : Array Slot), zH G (va_A w0 s.heap.size) s H locs (wd_X12_latest cy q_t q_t_tape q_t_s q_t_h q_t_read q_t_names q_t_reserved q_t_undone q_t_before q_t_comeRow q_t_shown q_t_text q_t_toldAt q_t_stack q_t_truths q_t_imaged q_t_namesKept q_t_areKept c_t_thrown t_length t_size t_p t_limit t_token t_at t_span t_number t_fault t_faultAt t_word t_got t_lines t_hasWait t_undoMany t_firstMinute t_lookClock t_hasTime c_t_latestMost t_textMany t_seed t_toldMany t_hasTold t_codes t_ones t_top t_deep t_isWhole t_s) → lv_has ls 6 [(0, .ref q_t), (1, .int x1), (2, .int x2), (3, .int x3)] → k_11 x1 x2 x3 c_t_thrown c_t_latestMost = some (r, r_t_thrown, r_t_latestMost) → W p l e rm_X12_latest s m args below meth c H locs 0 0 (MQ below (zQ G w0 (wd_X12_latest cy q_t q_t_tape q_t_s q_t_h q_t_read q_t_names q_t_reserved q_t_undone q_t_before q_t_comeRow q_t_shown q_t_text q_t_toldAt q_t_stack q_t_truths q_t_imaged q_t_namesKept q_t_areKept r_t_thrown t_length t_size t_p t_limit t_token t_at t_span t_number t_fault t_faultAt t_word t_got t_lines t_hasWait t_undoMany t_firstMinute t_lookClock t_hasTime r_t_latestMost t_textMany t_seed t_toldMany t_hasTold t_codes t_ones t_top t_deep t_isWhole t_s) s.heap.size (some (.int r))) args s 0 0 (va_A w0 s.heap.size)) (F0 m 11 ls [])) :
    ∀ (n : Nat) (x1 : Int32) (x2 : Int32) (x3 : Int32) (x4 : Int32) (c_t_thrown : Int32) (c_t_latestMost : Int32) (H : Heap) (locs : List Loc) (ls : Array Slot), zH G (va_A w0 s.heap.size) s H locs (wd_X12_latest cy q_t q_t_tape q_t_s q_t_h q_t_read q_t_names q_t_reserved q_t_undone q_t_before q_t_comeRow q_t_shown q_t_text q_t_toldAt q_t_stack q_t_truths q_t_imaged q_t_namesKept q_t_areKept c_t_thrown t_length t_size t_p t_limit t_token t_at t_span t_number t_fault t_faultAt t_word t_got t_lines t_hasWait t_undoMany t_firstMinute t_lookClock t_hasTime c_t_latestMost t_textMany t_seed t_toldMany t_hasTold t_codes t_ones t_top t_deep t_isWhole t_s) → lv_has ls 6 [(0, .ref q_t), (1, .int x1), (2, .int x2), (3, .int x3), (4, .int x4)] → f_X12_latest_24 N t_s k_11 n x1 x2 x3 x4 c_t_thrown c_t_latestMost = some (r, r_t_thrown, r_t_latestMost) → W p l e rm_X12_latest s m args below meth c H locs 0 0 (MQ below (zQ G w0 (wd_X12_latest cy q_t q_t_tape q_t_s q_t_h q_t_read q_t_names q_t_reserved q_t_undone q_t_before q_t_comeRow q_t_shown q_t_text q_t_toldAt q_t_stack q_t_truths q_t_imaged q_t_namesKept q_t_areKept r_t_thrown t_length t_size t_p t_limit t_token t_at t_span t_number t_fault t_faultAt t_word t_got t_lines t_hasWait t_undoMany t_firstMinute t_lookClock t_hasTime r_t_latestMost t_textMany t_seed t_toldMany t_hasTold t_codes t_ones t_top t_deep t_isWhole t_s) s.heap.size (some (.int r))) args s 0 0 (va_A w0 s.heap.size)) (F0 m 24 ls []) := by
  obtain ⟨hx, hb, hml, hown, hts⟩ := id S
  intro n
  induction n with
  | zero =>
    intro x1 x2 x3 x4 c_t_thrown c_t_latestMost H locs ls hH hl h
    rw [f_X12_latest_24] at h
    cases h
  | succ n ih =>
    intro x1 x2 x3 x4 c_t_thrown c_t_latestMost H locs ls hH hl h
    rw [f_X12_latest_24] at h
    refine lv_iload hx hb dX12_latest_24 (lv_at hl 4 rfl) ?_
    refine lv_aload_n hx hb dX12_latest_26 rfl (lv_at hl 0 rfl) ?_
    refine z_get S hF hH iX12_latest_X12 0 rfl rfl 6 (by decide) (List.mem_of_getElem? (i := 2) rfl) rfl dX12_latest_27 ?_
    refine lv_iconst (v := 2) hx hb dX12_latest_30 (by decide) ?_
    refine z_iald (j := 2) S hF hH 1 rfl (by decide) rfl dX12_latest_31 ?_
    refine lv_icmp_ge (tgt := 107) hx hb dX12_latest_32 (by decide) (fun b32 => ?_) (fun b32 => ?_)
    · replace h := zif_t b32 h
      obtain ⟨y1, ey1, h⟩ := zbn_e h
      refine lv_iinc (v := y1) (lv' := [(3, .int y1), (0, .ref q_t), (1, .int x1), (2, .int x2), (4, .int x4)]) hx hb dX12_latest_107 hl (k := 3) rfl (by rw [ey1]; exact congrArg (fun z => x3 + z) (by decide)) (by decide) rfl (fun ls hl => ?_)
      clear ey1
      refine lv_goto (tgt := 11) hx hb dX12_latest_110 (by decide) ?_
      exact hk_11 x1 x2 y1 c_t_thrown c_t_latestMost _ _ _ hH (lv_sub hl [1, 2, 3, 0] rfl) h
    · replace h := zif_f b32 h
      refine lv_aload_n hx hb dX12_latest_35 rfl (lv_at hl 0 rfl) ?_
      refine z_get S hF hH iX12_latest_X12 0 rfl rfl 6 (by decide) (List.mem_of_getElem? (i := 2) rfl) rfl dX12_latest_36 ?_
      refine lv_bipush (v := 117) hx hb dX12_latest_39 (by decide) ?_
      refine lv_bipush (v := 6) hx hb dX12_latest_41 (by decide) ?_
      refine lv_iload hx hb dX12_latest_43 (lv_at hl 4 rfl) ?_
      refine lv_imul hx hb dX12_latest_45 ?_
      refine lv_iadd hx hb dX12_latest_46 ?_
      refine lv_iload_n hx hb dX12_latest_47 rfl (lv_at hl 3 rfl) ?_
      refine lv_iadd hx hb dX12_latest_48 ?_
      obtain ⟨h49, h⟩ := zck_e h
      refine z_iald S hF hH 1 rfl h49 rfl dX12_latest_49 ?_
      refine lv_if_le (tgt := 84) hx hb dX12_latest_50 (by decide) (fun b50 => ?_) (fun b50 => ?_)
      · replace h := zif_t b50 h
        refine lv_iconst (v := 0) hx hb dX12_latest_84 (by decide) ?_
        exact w_X12_latest_85 S hr hlocks hF ih x1 x2 x3 x4 0 c_t_thrown c_t_latestMost _ _ _ hH (lv_sub hl [0, 1, 2, 3, 4] rfl) h
      · replace h := zif_f b50 h
        refine lv_aload_n hx hb dX12_latest_53 rfl (lv_at hl 0 rfl) ?_
        refine z_get S hF hH iX12_latest_X12 0 rfl rfl 6 (by decide) (List.mem_of_getElem? (i := 2) rfl) rfl dX12_latest_54 ?_
        refine lv_bipush (v := 117) hx hb dX12_latest_57 (by decide) ?_
        refine lv_bipush (v := 6) hx hb dX12_latest_59 (by decide) ?_
        refine lv_iload hx hb dX12_latest_61 (lv_at hl 4 rfl) ?_
        refine lv_imul hx hb dX12_latest_63 ?_
        refine lv_iadd hx hb dX12_latest_64 ?_
        refine lv_iload_n hx hb dX12_latest_65 rfl (lv_at hl 3 rfl) ?_
        refine lv_iadd hx hb dX12_latest_66 ?_
        refine z_iald S hF hH 1 rfl h49 rfl dX12_latest_67 ?_
        refine lv_iconst (v := 1) hx hb dX12_latest_68 (by decide) ?_
        refine lv_isub hx hb dX12_latest_69 ?_
        refine lv_aload_n hx hb dX12_latest_70 rfl (lv_at hl 0 rfl) ?_
        refine z_get S hF hH iX12_latest_X12 0 rfl rfl 6 (by decide) (List.mem_of_getElem? (i := 2) rfl) rfl dX12_latest_71 ?_
        refine lv_bipush (v := 75) hx hb dX12_latest_74 (by decide) ?_
        refine lv_iload hx hb dX12_latest_76 (lv_at hl 4 rfl) ?_
        refine lv_iadd hx hb dX12_latest_78 ?_
        obtain ⟨h79, h⟩ := zck_e h
        refine z_iald S hF hH 1 rfl h79 rfl dX12_latest_79 ?_
        refine lv_isub hx hb dX12_latest_80 ?_
        refine lv_goto (tgt := 85) hx hb dX12_latest_81 (by decide) ?_
        exact w_X12_latest_85 S hr hlocks hF ih x1 x2 x3 x4 (((t_s (Int32.toNatClampNeg ((117 + (6 * x4)) + x3))) - 1) - (t_s (Int32.toNatClampNeg (75 + x4)))) c_t_thrown c_t_latestMost _ _ _ hH (lv_sub hl [0, 1, 2, 3, 4] rfl) h
set_option maxHeartbeats 4000000 in
set_option maxRecDepth 100000 in
theorem w_X12_latest_11 {p : Program} {l : Launch} {e : Env} {s : State} {m : MethodId} {args : Array Value} {below : List Frame} {meth : Method} {c : Code} {G : va_G} {cy : Nat → ClassId} {E : Nat → Nat} {w0 : va_W} {N : Nat} {q_t q_t_tape q_t_s q_t_h q_t_read q_t_names q_t_reserved q_t_undone q_t_before q_t_comeRow q_t_shown q_t_text q_t_toldAt q_t_stack q_t_truths q_t_imaged q_t_namesKept q_t_areKept : Nat} {t_length : Int32} {t_size : Int32} {t_p : Int32} {t_limit : Int32} {t_token : Int32} {t_at : Int32} {t_span : Int32} {t_number : Int32} {t_fault : Int32} {t_faultAt : Int32} {t_word : Int64} {t_got : Int32} {t_lines : Int32} {t_hasWait : Int32} {t_undoMany : Int32} {t_firstMinute : Int32} {t_lookClock : Int32} {t_hasTime : Int32} {t_textMany : Int32} {t_seed : Int32} {t_toldMany : Int32} {t_hasTold : Int32} {t_codes : Int32} {t_ones : Int32} {t_top : Int32} {t_deep : Int32} {t_isWhole : Int32} {t_s : Nat → Int32} {r : Int32} {r_t_thrown : Int32} {r_t_latestMost : Int32} (S : CallFix p m c cX12_latest 6 s args wsX12_latest RX12) (hr : meth.sig.returnType = some .int) (hlocks : meth.locks = false) (hF : zF G cy E (va_A w0 s.heap.size) s) :
    ∀ (n : Nat) (x1 : Int32) (x2 : Int32) (x3 : Int32) (c_t_thrown : Int32) (c_t_latestMost : Int32) (H : Heap) (locs : List Loc) (ls : Array Slot), zH G (va_A w0 s.heap.size) s H locs (wd_X12_latest cy q_t q_t_tape q_t_s q_t_h q_t_read q_t_names q_t_reserved q_t_undone q_t_before q_t_comeRow q_t_shown q_t_text q_t_toldAt q_t_stack q_t_truths q_t_imaged q_t_namesKept q_t_areKept c_t_thrown t_length t_size t_p t_limit t_token t_at t_span t_number t_fault t_faultAt t_word t_got t_lines t_hasWait t_undoMany t_firstMinute t_lookClock t_hasTime c_t_latestMost t_textMany t_seed t_toldMany t_hasTold t_codes t_ones t_top t_deep t_isWhole t_s) → lv_has ls 6 [(0, .ref q_t), (1, .int x1), (2, .int x2), (3, .int x3)] → f_X12_latest_11 N t_s n x1 x2 x3 c_t_thrown c_t_latestMost = some (r, r_t_thrown, r_t_latestMost) → W p l e rm_X12_latest s m args below meth c H locs 0 0 (MQ below (zQ G w0 (wd_X12_latest cy q_t q_t_tape q_t_s q_t_h q_t_read q_t_names q_t_reserved q_t_undone q_t_before q_t_comeRow q_t_shown q_t_text q_t_toldAt q_t_stack q_t_truths q_t_imaged q_t_namesKept q_t_areKept r_t_thrown t_length t_size t_p t_limit t_token t_at t_span t_number t_fault t_faultAt t_word t_got t_lines t_hasWait t_undoMany t_firstMinute t_lookClock t_hasTime r_t_latestMost t_textMany t_seed t_toldMany t_hasTold t_codes t_ones t_top t_deep t_isWhole t_s) s.heap.size (some (.int r))) args s 0 0 (va_A w0 s.heap.size)) (F0 m 11 ls []) := by
  obtain ⟨hx, hb, hml, hown, hts⟩ := id S
  intro n
  induction n with
  | zero =>
    intro x1 x2 x3 c_t_thrown c_t_latestMost H locs ls hH hl h
    rw [f_X12_latest_11] at h
    cases h
  | succ n ih =>
    intro x1 x2 x3 c_t_thrown c_t_latestMost H locs ls hH hl h
    rw [f_X12_latest_11] at h
    refine lv_iload_n hx hb dX12_latest_11 rfl (lv_at hl 3 rfl) ?_
    refine lv_aload_n hx hb dX12_latest_12 rfl (lv_at hl 0 rfl) ?_
    refine z_get S hF hH iX12_latest_X12 0 rfl rfl 6 (by decide) (List.mem_of_getElem? (i := 2) rfl) rfl dX12_latest_13 ?_
    refine lv_iconst (v := 1) hx hb dX12_latest_16 (by decide) ?_
    refine z_iald (j := 1) S hF hH 1 rfl (by decide) rfl dX12_latest_17 ?_
    refine lv_icmp_ge (tgt := 113) hx hb dX12_latest_18 (by decide) (fun b18 => ?_) (fun b18 => ?_)
    · replace h := zif_t b18 h
      refine lv_iload_n hx hb dX12_latest_113 rfl (lv_at hl 1 rfl) ?_
      refine lv_if_lt (tgt := 122) hx hb dX12_latest_114 (by decide) (fun b114 => ?_) (fun b114 => ?_)
      · replace h := zif_t b114 h
        refine lv_iload_n hx hb dX12_latest_122 rfl (lv_at hl 1 rfl) ?_
        cases h
        exact z_iret S hr hlocks hH dX12_latest_123
      · replace h := zif_f b114 h
        refine lv_aload_n hx hb dX12_latest_117 rfl (lv_at hl 0 rfl) ?_
        refine lv_iload_n hx hb dX12_latest_118 rfl (lv_at hl 2 rfl) ?_
        refine z_put (ws' := (wd_X12_latest cy q_t q_t_tape q_t_s q_t_h q_t_read q_t_names q_t_reserved q_t_undone q_t_before q_t_comeRow q_t_shown q_t_text q_t_toldAt q_t_stack q_t_truths q_t_imaged q_t_namesKept q_t_areKept c_t_thrown t_length t_size t_p t_limit t_token t_at t_span t_number t_fault t_faultAt t_word t_got t_lines t_hasWait t_undoMany t_firstMinute t_lookClock t_hasTime x2 t_textMany t_seed t_toldMany t_hasTold t_codes t_ones t_top t_deep t_isWhole t_s)) S hF hH iX12_latest_X12 tyX12 tyX12_ok nmX12 0 rfl rfl 29 (by decide) (List.mem_of_getElem? (i := 3) rfl) rfl rfl rfl (Nat.le_of_ble_eq_true rfl) rfl dX12_latest_119 (fun H locs hH => ?_)
        refine lv_iload_n hx hb dX12_latest_122 rfl (lv_at hl 1 rfl) ?_
        cases h
        exact z_iret S hr hlocks hH dX12_latest_123
    · replace h := zif_f b18 h
      refine lv_iconst (v := 0) hx hb dX12_latest_21 (by decide) ?_
      refine lv_istore (lv' := [(4, .int 0), (0, .ref q_t), (1, .int x1), (2, .int x2), (3, .int x3)]) hx hb dX12_latest_22 hl (by decide) rfl (fun ls hl => ?_)
      exact w_X12_latest_24 S hr hlocks hF ih N x1 x2 x3 0 c_t_thrown c_t_latestMost _ _ _ hH (lv_sub hl [1, 2, 3, 4, 0] rfl) h
set_option maxHeartbeats 4000000 in
set_option maxRecDepth 100000 in
theorem c_X12_latest (l : Launch) (G : va_G) (cy : Nat → ClassId) (E : Nat → Nat) (N : Nat) (q_t q_t_tape q_t_s q_t_h q_t_read q_t_names q_t_reserved q_t_undone q_t_before q_t_comeRow q_t_shown q_t_text q_t_toldAt q_t_stack q_t_truths q_t_imaged q_t_namesKept q_t_areKept : Nat) (t_thrown : Int32) (t_length : Int32) (t_size : Int32) (t_p : Int32) (t_limit : Int32) (t_token : Int32) (t_at : Int32) (t_span : Int32) (t_number : Int32) (t_fault : Int32) (t_faultAt : Int32) (t_word : Int64) (t_got : Int32) (t_lines : Int32) (t_hasWait : Int32) (t_undoMany : Int32) (t_firstMinute : Int32) (t_lookClock : Int32) (t_hasTime : Int32) (t_latestMost : Int32) (t_textMany : Int32) (t_seed : Int32) (t_toldMany : Int32) (t_hasTold : Int32) (t_codes : Int32) (t_ones : Int32) (t_top : Int32) (t_deep : Int32) (t_isWhole : Int32) (t_s : Nat → Int32) (r : Int32) (r_t_thrown : Int32) (r_t_latestMost : Int32) (h : f_X12_latest N t_thrown t_latestMost t_s = some (r, r_t_thrown, r_t_latestMost)) : zM l G cy E yX12_latest wsX12_latest rm_X12_latest [.ref q_t] (wd_X12_latest cy q_t q_t_tape q_t_s q_t_h q_t_read q_t_names q_t_reserved q_t_undone q_t_before q_t_comeRow q_t_shown q_t_text q_t_toldAt q_t_stack q_t_truths q_t_imaged q_t_namesKept q_t_areKept t_thrown t_length t_size t_p t_limit t_token t_at t_span t_number t_fault t_faultAt t_word t_got t_lines t_hasWait t_undoMany t_firstMinute t_lookClock t_hasTime t_latestMost t_textMany t_seed t_toldMany t_hasTold t_codes t_ones t_top t_deep t_isWhole t_s) (wd_X12_latest cy q_t q_t_tape q_t_s q_t_h q_t_read q_t_names q_t_reserved q_t_undone q_t_before q_t_comeRow q_t_shown q_t_text q_t_toldAt q_t_stack q_t_truths q_t_imaged q_t_namesKept q_t_areKept r_t_thrown t_length t_size t_p t_limit t_token t_at t_span t_number t_fault t_faultAt t_word t_got t_lines t_hasWait t_undoMany t_firstMinute t_lookClock t_hasTime r_t_latestMost t_textMany t_seed t_toldMany t_hasTold t_codes t_ones t_top t_deep t_isWhole t_s) (some (.int r)) 0 0 := by
  refine z_body (cc := cX12_latest) (maxL := 6) (ret := some .int) (by decide) rfl (Nat.le_of_ble_eq_true rfl) ?_
  intro p e s m below meth c ls S hr hlocks hnm hF hH hl
  have S : CallFix p m c cX12_latest 6 s ([.ref q_t] : List Value).toArray wsX12_latest RX12 := S
  obtain ⟨hx, hb, hml, hown, hts⟩ := id S
  have hl : lv_has ls 6 [(0, .ref q_t)] := hl
  rw [f_X12_latest] at h
  refine lv_aload_n hx hb dX12_latest_0 rfl (lv_at hl 0 rfl) ?_
  refine lv_iconst (v := 0) hx hb dX12_latest_1 (by decide) ?_
  refine z_put (ws' := (wd_X12_latest cy q_t q_t_tape q_t_s q_t_h q_t_read q_t_names q_t_reserved q_t_undone q_t_before q_t_comeRow q_t_shown q_t_text q_t_toldAt q_t_stack q_t_truths q_t_imaged q_t_namesKept q_t_areKept 0 t_length t_size t_p t_limit t_token t_at t_span t_number t_fault t_faultAt t_word t_got t_lines t_hasWait t_undoMany t_firstMinute t_lookClock t_hasTime t_latestMost t_textMany t_seed t_toldMany t_hasTold t_codes t_ones t_top t_deep t_isWhole t_s)) S hF hH iX12_latest_X12 tyX12 tyX12_ok nmX12 0 rfl rfl 0 (by decide) (List.mem_of_getElem? (i := 1) rfl) rfl rfl rfl (Nat.le_of_ble_eq_true rfl) rfl dX12_latest_2 (fun H locs hH => ?_)
  refine lv_iconst (v := (-1)) hx hb dX12_latest_5 (by decide) ?_
  refine lv_istore_n (lv' := [(1, .int (-1)), (0, .ref q_t)]) hx hb dX12_latest_6 rfl hl (by decide) rfl (fun ls hl => ?_)
  refine lv_iconst (v := 0) hx hb dX12_latest_7 (by decide) ?_
  refine lv_istore_n (lv' := [(2, .int 0), (1, .int (-1)), (0, .ref q_t)]) hx hb dX12_latest_8 rfl hl (by decide) rfl (fun ls hl => ?_)
  refine lv_iconst (v := 0) hx hb dX12_latest_9 (by decide) ?_
  refine lv_istore_n (lv' := [(3, .int 0), (2, .int 0), (1, .int (-1)), (0, .ref q_t)]) hx hb dX12_latest_10 rfl hl (by decide) rfl (fun ls hl => ?_)
  exact w_X12_latest_11 S hr hlocks hF N (-1) 0 0 0 t_latestMost _ _ _ hH (lv_sub hl [3, 2, 1, 0] rfl) h
abbrev wd_X12_latestBy (cy : Nat → ClassId) (q_t q_t_tape q_t_s q_t_h q_t_read q_t_names q_t_reserved q_t_undone q_t_before q_t_comeRow q_t_shown q_t_text q_t_toldAt q_t_stack q_t_truths q_t_imaged q_t_namesKept q_t_areKept : Nat) (t_thrown : Int32) (t_length : Int32) (t_size : Int32) (t_p : Int32) (t_limit : Int32) (t_token : Int32) (t_at : Int32) (t_span : Int32) (t_number : Int32) (t_fault : Int32) (t_faultAt : Int32) (t_word : Int64) (t_got : Int32) (t_lines : Int32) (t_hasWait : Int32) (t_undoMany : Int32) (t_firstMinute : Int32) (t_lookClock : Int32) (t_hasTime : Int32) (t_latestMost : Int32) (t_textMany : Int32) (t_seed : Int32) (t_toldMany : Int32) (t_hasTold : Int32) (t_codes : Int32) (t_ones : Int32) (t_top : Int32) (t_deep : Int32) (t_isWhole : Int32) : va_W := [(q_t, .inr (13, [.int t_thrown, .ref q_t_tape, .int t_length, .int t_size, .int t_p, .int t_limit, .ref q_t_s, .ref q_t_h, .ref q_t_read, .ref q_t_names, .ref q_t_reserved, .int t_token, .int t_at, .int t_span, .int t_number, .int t_fault, .int t_faultAt, .long t_word, .int t_got, .int t_lines, .int t_hasWait, .ref q_t_undone, .ref q_t_before, .int t_undoMany, .ref q_t_comeRow, .int t_firstMinute, .int t_lookClock, .int t_hasTime, .ref q_t_shown, .int t_latestMost, .ref q_t_text, .int t_textMany, .int t_seed, .int t_toldMany, .ref q_t_toldAt, .int t_hasTold, .ref q_t_stack, .int t_codes, .int t_ones, .int t_top, .int t_deep, .int t_isWhole, .ref q_t_truths, .ref q_t_imaged, .ref q_t_namesKept, .ref q_t_areKept]))]
theorem iX12_latestBy_X12 : ∀ w ∈ wsX120, w ∈ wsX12_latestBy := fun _ h => List.mem_cons_of_mem _ (List.mem_append_right _ h)
abbrev rm_X12_latestBy : Room := { frames := 0, cells := 0, slots := 0, locals := 0 }
set_option maxRecDepth 100000 in
def f_X12_latestBy (N : Nat) (t_thrown : Int32) (t_latestMost : Int32) : Option (Int32 × Int32) := some (t_latestMost, 0)
set_option maxHeartbeats 4000000 in
set_option maxRecDepth 100000 in
theorem c_X12_latestBy (l : Launch) (G : va_G) (cy : Nat → ClassId) (E : Nat → Nat) (N : Nat) (q_t q_t_tape q_t_s q_t_h q_t_read q_t_names q_t_reserved q_t_undone q_t_before q_t_comeRow q_t_shown q_t_text q_t_toldAt q_t_stack q_t_truths q_t_imaged q_t_namesKept q_t_areKept : Nat) (t_thrown : Int32) (t_length : Int32) (t_size : Int32) (t_p : Int32) (t_limit : Int32) (t_token : Int32) (t_at : Int32) (t_span : Int32) (t_number : Int32) (t_fault : Int32) (t_faultAt : Int32) (t_word : Int64) (t_got : Int32) (t_lines : Int32) (t_hasWait : Int32) (t_undoMany : Int32) (t_firstMinute : Int32) (t_lookClock : Int32) (t_hasTime : Int32) (t_latestMost : Int32) (t_textMany : Int32) (t_seed : Int32) (t_toldMany : Int32) (t_hasTold : Int32) (t_codes : Int32) (t_ones : Int32) (t_top : Int32) (t_deep : Int32) (t_isWhole : Int32) (r : Int32) (r_t_thrown : Int32) (h : f_X12_latestBy N t_thrown t_latestMost = some (r, r_t_thrown)) : zM l G cy E yX12_latestBy wsX12_latestBy rm_X12_latestBy [.ref q_t] (wd_X12_latestBy cy q_t q_t_tape q_t_s q_t_h q_t_read q_t_names q_t_reserved q_t_undone q_t_before q_t_comeRow q_t_shown q_t_text q_t_toldAt q_t_stack q_t_truths q_t_imaged q_t_namesKept q_t_areKept t_thrown t_length t_size t_p t_limit t_token t_at t_span t_number t_fault t_faultAt t_word t_got t_lines t_hasWait t_undoMany t_firstMinute t_lookClock t_hasTime t_latestMost t_textMany t_seed t_toldMany t_hasTold t_codes t_ones t_top t_deep t_isWhole) (wd_X12_latestBy cy q_t q_t_tape q_t_s q_t_h q_t_read q_t_names q_t_reserved q_t_undone q_t_before q_t_comeRow q_t_shown q_t_text q_t_toldAt q_t_stack q_t_truths q_t_imaged q_t_namesKept q_t_areKept r_t_thrown t_length t_size t_p t_limit t_token t_at t_span t_number t_fault t_faultAt t_word t_got t_lines t_hasWait t_undoMany t_firstMinute t_lookClock t_hasTime t_latestMost t_textMany t_seed t_toldMany t_hasTold t_codes t_ones t_top t_deep t_isWhole) (some (.int r)) 0 0 := by
  refine z_body (cc := cX12_latestBy) (maxL := 1) (ret := some .int) (by decide) rfl (Nat.le_of_ble_eq_true rfl) ?_
  intro p e s m below meth c ls S hr hlocks hnm hF hH hl
  have S : CallFix p m c cX12_latestBy 1 s ([.ref q_t] : List Value).toArray wsX12_latestBy RX12 := S
  obtain ⟨hx, hb, hml, hown, hts⟩ := id S
  have hl : lv_has ls 1 [(0, .ref q_t)] := hl
  rw [f_X12_latestBy] at h
  refine lv_aload_n hx hb dX12_latestBy_0 rfl (lv_at hl 0 rfl) ?_
  refine lv_iconst (v := 0) hx hb dX12_latestBy_1 (by decide) ?_
  refine z_put (ws' := (wd_X12_latestBy cy q_t q_t_tape q_t_s q_t_h q_t_read q_t_names q_t_reserved q_t_undone q_t_before q_t_comeRow q_t_shown q_t_text q_t_toldAt q_t_stack q_t_truths q_t_imaged q_t_namesKept q_t_areKept 0 t_length t_size t_p t_limit t_token t_at t_span t_number t_fault t_faultAt t_word t_got t_lines t_hasWait t_undoMany t_firstMinute t_lookClock t_hasTime t_latestMost t_textMany t_seed t_toldMany t_hasTold t_codes t_ones t_top t_deep t_isWhole)) S hF hH iX12_latestBy_X12 tyX12 tyX12_ok nmX12 0 rfl rfl 0 (by decide) (List.mem_of_getElem? (i := 1) rfl) rfl rfl rfl (Nat.le_of_ble_eq_true rfl) rfl dX12_latestBy_2 (fun H locs hH => ?_)
  refine lv_aload_n hx hb dX12_latestBy_5 rfl (lv_at hl 0 rfl) ?_
  refine z_get S hF hH iX12_latestBy_X12 0 rfl rfl 29 (by decide) (List.mem_of_getElem? (i := 2) rfl) rfl dX12_latestBy_6 ?_
  cases h
  exact z_iret S hr hlocks hH dX12_latestBy_9
abbrev wd_X12_mean (cy : Nat → ClassId) (q_t q_t_tape q_t_s q_t_h q_t_read q_t_names q_t_reserved q_t_undone q_t_before q_t_comeRow q_t_shown q_t_text q_t_toldAt q_t_stack q_t_truths q_t_imaged q_t_namesKept q_t_areKept : Nat) (t_thrown : Int32) (t_length : Int32) (t_size : Int32) (t_p : Int32) (t_limit : Int32) (t_token : Int32) (t_at : Int32) (t_span : Int32) (t_number : Int32) (t_fault : Int32) (t_faultAt : Int32) (t_word : Int64) (t_got : Int32) (t_lines : Int32) (t_hasWait : Int32) (t_undoMany : Int32) (t_firstMinute : Int32) (t_lookClock : Int32) (t_hasTime : Int32) (t_latestMost : Int32) (t_textMany : Int32) (t_seed : Int32) (t_toldMany : Int32) (t_hasTold : Int32) (t_codes : Int32) (t_ones : Int32) (t_top : Int32) (t_deep : Int32) (t_isWhole : Int32) (t_s : Nat → Int32) : va_W := [(q_t, .inr (13, [.int t_thrown, .ref q_t_tape, .int t_length, .int t_size, .int t_p, .int t_limit, .ref q_t_s, .ref q_t_h, .ref q_t_read, .ref q_t_names, .ref q_t_reserved, .int t_token, .int t_at, .int t_span, .int t_number, .int t_fault, .int t_faultAt, .long t_word, .int t_got, .int t_lines, .int t_hasWait, .ref q_t_undone, .ref q_t_before, .int t_undoMany, .ref q_t_comeRow, .int t_firstMinute, .int t_lookClock, .int t_hasTime, .ref q_t_shown, .int t_latestMost, .ref q_t_text, .int t_textMany, .int t_seed, .int t_toldMany, .ref q_t_toldAt, .int t_hasTold, .ref q_t_stack, .int t_codes, .int t_ones, .int t_top, .int t_deep, .int t_isWhole, .ref q_t_truths, .ref q_t_imaged, .ref q_t_namesKept, .ref q_t_areKept])), (q_t_s, .inl (cy 1, 334, .inl t_s))]
theorem iX12_mean_X12 : ∀ w ∈ wsX120, w ∈ wsX12_mean := fun _ h => List.mem_cons_of_mem _ (List.mem_append_right _ h)
abbrev rm_X12_mean : Room := { frames := 1, cells := 0, slots := 0, locals := 22 }
set_option maxRecDepth 100000 in
def f_X12_mean_49 (N : Nat) (t_s : Nat → Int32) : Nat → Int32 → Int32 → Int32 → Int32 → Option (Int32 × Int32)
  | 0, _, _, _, _ => none
  | n + 1, x1, x2, x3, c_t_thrown => if x3 = 0 then (if x1 = 0 then (zck (zne0 x2) <| some (((t_s 56) / x2), c_t_thrown)) else (zck (zne0 x2) <| some (((t_s 55) / x2), c_t_thrown))) else (zck (zne0 x3) <| zbn ((zrem x2 x3)) fun y1 => f_X12_mean_49 N t_s n x1 x3 y1 c_t_thrown)
set_option maxRecDepth 100000 in
def f_X12_mean_20 (N : Nat) (t_s : Nat → Int32) (k_25 : Int32 → Int32 → Int32 → Option (Int32 × Int32)) (x1 : Int32) (c_t_thrown : Int32) : Option (Int32 × Int32) := k_25 x1 1 c_t_thrown
set_option maxRecDepth 100000 in
def f_X12_mean_25 (N : Nat) (t_s : Nat → Int32) (x1 : Int32) (sk0 : Int32) (c_t_thrown : Int32) : Option (Int32 × Int32) := zcl (f_X12_throwsIf N sk0 c_t_thrown) fun z25 => if z25.1 = 0 then (zbn ((t_s 55)) fun y1 => zbn ((t_s 56)) fun y2 => f_X12_mean_49 N t_s N x1 y1 y2 z25.2) else (some (0, z25.2))
set_option maxRecDepth 100000 in
def f_X12_mean (N : Nat) (x0 : Int32) (t_thrown : Int32) (t_s : Nat → Int32) : Option (Int32 × Int32) := if (t_s 55) = 0 then (f_X12_mean_20 N t_s (f_X12_mean_25 N t_s) x0 t_thrown) else (zcl (f_X12_isIn N x0 0 1) fun z14 => if z14 = 0 then (f_X12_mean_20 N t_s (f_X12_mean_25 N t_s) x0 t_thrown) else (f_X12_mean_25 N t_s x0 0 t_thrown))
set_option maxHeartbeats 4000000 in
set_option maxRecDepth 100000 in
theorem w_X12_mean_49 {p : Program} {l : Launch} {e : Env} {s : State} {m : MethodId} {args : Array Value} {below : List Frame} {meth : Method} {c : Code} {G : va_G} {cy : Nat → ClassId} {E : Nat → Nat} {w0 : va_W} {N : Nat} {q_t q_t_tape q_t_s q_t_h q_t_read q_t_names q_t_reserved q_t_undone q_t_before q_t_comeRow q_t_shown q_t_text q_t_toldAt q_t_stack q_t_truths q_t_imaged q_t_namesKept q_t_areKept : Nat} {t_length : Int32} {t_size : Int32} {t_p : Int32} {t_limit : Int32} {t_token : Int32} {t_at : Int32} {t_span : Int32} {t_number : Int32} {t_fault : Int32} {t_faultAt : Int32} {t_word : Int64} {t_got : Int32} {t_lines : Int32} {t_hasWait : Int32} {t_undoMany : Int32} {t_firstMinute : Int32} {t_lookClock : Int32} {t_hasTime : Int32} {t_latestMost : Int32} {t_textMany : Int32} {t_seed : Int32} {t_toldMany : Int32} {t_hasTold : Int32} {t_codes : Int32} {t_ones : Int32} {t_top : Int32} {t_deep : Int32} {t_isWhole : Int32} {t_s : Nat → Int32} {r : Int32} {r_t_thrown : Int32} (S : CallFix p m c cX12_mean 5 s args wsX12_mean RX12) (hr : meth.sig.returnType = some .int) (hlocks : meth.locks = false) (hF : zF G cy E (va_A w0 s.heap.size) s) :
    ∀ (n : Nat) (x1 : Int32) (x2 : Int32) (x3 : Int32) (c_t_thrown : Int32) (H : Heap) (locs : List Loc) (ls : Array Slot), zH G (va_A w0 s.heap.size) s H locs (wd_X12_mean cy q_t q_t_tape q_t_s q_t_h q_t_read q_t_names q_t_reserved q_t_undone q_t_before q_t_comeRow q_t_shown q_t_text q_t_toldAt q_t_stack q_t_truths q_t_imaged q_t_namesKept q_t_areKept c_t_thrown t_length t_size t_p t_limit t_token t_at t_span t_number t_fault t_faultAt t_word t_got t_lines t_hasWait t_undoMany t_firstMinute t_lookClock t_hasTime t_latestMost t_textMany t_seed t_toldMany t_hasTold t_codes t_ones t_top t_deep t_isWhole t_s) → lv_has ls 5 [(0, .ref q_t), (1, .int x1), (2, .int x2), (3, .int x3)] → f_X12_mean_49 N t_s n x1 x2 x3 c_t_thrown = some (r, r_t_thrown) → W p l e rm_X12_mean s m args below meth c H locs 0 0 (MQ below (zQ G w0 (wd_X12_mean cy q_t q_t_tape q_t_s q_t_h q_t_read q_t_names q_t_reserved q_t_undone q_t_before q_t_comeRow q_t_shown q_t_text q_t_toldAt q_t_stack q_t_truths q_t_imaged q_t_namesKept q_t_areKept r_t_thrown t_length t_size t_p t_limit t_token t_at t_span t_number t_fault t_faultAt t_word t_got t_lines t_hasWait t_undoMany t_firstMinute t_lookClock t_hasTime t_latestMost t_textMany t_seed t_toldMany t_hasTold t_codes t_ones t_top t_deep t_isWhole t_s) s.heap.size (some (.int r))) args s 0 0 (va_A w0 s.heap.size)) (F0 m 49 ls []) := by
  obtain ⟨hx, hb, hml, hown, hts⟩ := id S
  intro n
  induction n with
  | zero =>
    intro x1 x2 x3 c_t_thrown H locs ls hH hl h
    rw [f_X12_mean_49] at h
    cases h
  | succ n ih =>
    intro x1 x2 x3 c_t_thrown H locs ls hH hl h
    rw [f_X12_mean_49] at h
    refine lv_iload_n hx hb dX12_mean_49 rfl (lv_at hl 3 rfl) ?_
    refine lv_if_eq (tgt := 66) hx hb dX12_mean_50 (by decide) (fun b50 => ?_) (fun b50 => ?_)
    · replace h := zif_t b50 h
      refine lv_iload_n hx hb dX12_mean_66 rfl (lv_at hl 1 rfl) ?_
      refine lv_if_ne (tgt := 80) hx hb dX12_mean_67 (by decide) (fun b67 => ?_) (fun b67 => ?_)
      · replace h := zif_f b67 h
        refine lv_aload_n hx hb dX12_mean_80 rfl (lv_at hl 0 rfl) ?_
        refine z_get S hF hH iX12_mean_X12 0 rfl rfl 6 (by decide) (List.mem_of_getElem? (i := 1) rfl) rfl dX12_mean_81 ?_
        refine lv_bipush (v := 55) hx hb dX12_mean_84 (by decide) ?_
        refine z_iald (j := 55) S hF hH 1 rfl (by decide) rfl dX12_mean_86 ?_
        refine lv_iload_n hx hb dX12_mean_87 rfl (lv_at hl 2 rfl) ?_
        obtain ⟨h88, h⟩ := zck_e h
        refine lv_idiv hx hb dX12_mean_88 (zne0_e h88) ?_
        cases h
        exact z_iret S hr hlocks hH dX12_mean_89
      · replace h := zif_t b67 h
        refine lv_aload_n hx hb dX12_mean_70 rfl (lv_at hl 0 rfl) ?_
        refine z_get S hF hH iX12_mean_X12 0 rfl rfl 6 (by decide) (List.mem_of_getElem? (i := 1) rfl) rfl dX12_mean_71 ?_
        refine lv_bipush (v := 56) hx hb dX12_mean_74 (by decide) ?_
        refine z_iald (j := 56) S hF hH 1 rfl (by decide) rfl dX12_mean_76 ?_
        refine lv_goto (tgt := 87) hx hb dX12_mean_77 (by decide) ?_
        refine lv_iload_n hx hb dX12_mean_87 rfl (lv_at hl 2 rfl) ?_
        obtain ⟨h88, h⟩ := zck_e h
        refine lv_idiv hx hb dX12_mean_88 (zne0_e h88) ?_
        cases h
        exact z_iret S hr hlocks hH dX12_mean_89
    · replace h := zif_f b50 h
      refine lv_iload_n hx hb dX12_mean_53 rfl (lv_at hl 2 rfl) ?_
      refine lv_iload_n hx hb dX12_mean_54 rfl (lv_at hl 3 rfl) ?_
      obtain ⟨h55, h⟩ := zck_e h
      refine z_irem hx hb dX12_mean_55 h55 ?_
      obtain ⟨y1, ey1, h⟩ := zbn_e h
      refine z_top ey1 ?_
      clear ey1
      refine lv_istore (lv' := [(4, .int y1), (0, .ref q_t), (1, .int x1), (2, .int x2), (3, .int x3)]) hx hb dX12_mean_56 hl (by decide) rfl (fun ls hl => ?_)
      refine lv_iload_n hx hb dX12_mean_58 rfl (lv_at hl 4 rfl) ?_
      refine lv_istore_n (lv' := [(2, .int x3), (4, .int y1), (0, .ref q_t), (1, .int x1), (3, .int x3)]) hx hb dX12_mean_59 rfl hl (by decide) rfl (fun ls hl => ?_)
      refine lv_iload hx hb dX12_mean_60 (lv_at hl 1 rfl) ?_
      refine lv_istore_n (lv' := [(3, .int y1), (2, .int x3), (4, .int y1), (0, .ref q_t), (1, .int x1)]) hx hb dX12_mean_62 rfl hl (by decide) rfl (fun ls hl => ?_)
      refine lv_goto (tgt := 49) hx hb dX12_mean_63 (by decide) ?_
      exact ih x1 x3 y1 c_t_thrown _ _ _ hH (lv_sub hl [3, 4, 1, 0] rfl) h
set_option maxHeartbeats 4000000 in
set_option maxRecDepth 100000 in
theorem w_X12_mean_20 {p : Program} {l : Launch} {e : Env} {s : State} {m : MethodId} {args : Array Value} {below : List Frame} {meth : Method} {c : Code} {G : va_G} {cy : Nat → ClassId} {E : Nat → Nat} {w0 : va_W} {N : Nat} {q_t q_t_tape q_t_s q_t_h q_t_read q_t_names q_t_reserved q_t_undone q_t_before q_t_comeRow q_t_shown q_t_text q_t_toldAt q_t_stack q_t_truths q_t_imaged q_t_namesKept q_t_areKept : Nat} {t_length : Int32} {t_size : Int32} {t_p : Int32} {t_limit : Int32} {t_token : Int32} {t_at : Int32} {t_span : Int32} {t_number : Int32} {t_fault : Int32} {t_faultAt : Int32} {t_word : Int64} {t_got : Int32} {t_lines : Int32} {t_hasWait : Int32} {t_undoMany : Int32} {t_firstMinute : Int32} {t_lookClock : Int32} {t_hasTime : Int32} {t_latestMost : Int32} {t_textMany : Int32} {t_seed : Int32} {t_toldMany : Int32} {t_hasTold : Int32} {t_codes : Int32} {t_ones : Int32} {t_top : Int32} {t_deep : Int32} {t_isWhole : Int32} {t_s : Nat → Int32} {r : Int32} {r_t_thrown : Int32} {k_25 : Int32 → Int32 → Int32 → Option (Int32 × Int32)} (S : CallFix p m c cX12_mean 5 s args wsX12_mean RX12) (hr : meth.sig.returnType = some .int) (hlocks : meth.locks = false) (hF : zF G cy E (va_A w0 s.heap.size) s) (hk_25 : ∀ (x1 : Int32) (sk0 : Int32) (c_t_thrown : Int32) (H : Heap) (locs : List Loc) (ls : Array Slot), zH G (va_A w0 s.heap.size) s H locs (wd_X12_mean cy q_t q_t_tape q_t_s q_t_h q_t_read q_t_names q_t_reserved q_t_undone q_t_before q_t_comeRow q_t_shown q_t_text q_t_toldAt q_t_stack q_t_truths q_t_imaged q_t_namesKept q_t_areKept c_t_thrown t_length t_size t_p t_limit t_token t_at t_span t_number t_fault t_faultAt t_word t_got t_lines t_hasWait t_undoMany t_firstMinute t_lookClock t_hasTime t_latestMost t_textMany t_seed t_toldMany t_hasTold t_codes t_ones t_top t_deep t_isWhole t_s) → lv_has ls 5 [(0, .ref q_t), (1, .int x1)] → k_25 x1 sk0 c_t_thrown = some (r, r_t_thrown) → W p l e rm_X12_mean s m args below meth c H locs 0 0 (MQ below (zQ G w0 (wd_X12_mean cy q_t q_t_tape q_t_s q_t_h q_t_read q_t_names q_t_reserved q_t_undone q_t_before q_t_comeRow q_t_shown q_t_text q_t_toldAt q_t_stack q_t_truths q_t_imaged q_t_namesKept q_t_areKept r_t_thrown t_length t_size t_p t_limit t_token t_at t_span t_number t_fault t_faultAt t_word t_got t_lines t_hasWait t_undoMany t_firstMinute t_lookClock t_hasTime t_latestMost t_textMany t_seed t_toldMany t_hasTold t_codes t_ones t_top t_deep t_isWhole t_s) s.heap.size (some (.int r))) args s 0 0 (va_A w0 s.heap.size)) (F0 m 25 ls [.int sk0, .ref q_t])) :
    ∀ (x1 : Int32) (c_t_thrown : Int32) (H : Heap) (locs : List Loc) (ls : Array Slot), zH G (va_A w0 s.heap.size) s H locs (wd_X12_mean cy q_t q_t_tape q_t_s q_t_h q_t_read q_t_names q_t_reserved q_t_undone q_t_before q_t_comeRow q_t_shown q_t_text q_t_toldAt q_t_stack q_t_truths q_t_imaged q_t_namesKept q_t_areKept c_t_thrown t_length t_size t_p t_limit t_token t_at t_span t_number t_fault t_faultAt t_word t_got t_lines t_hasWait t_undoMany t_firstMinute t_lookClock t_hasTime t_latestMost t_textMany t_seed t_toldMany t_hasTold t_codes t_ones t_top t_deep t_isWhole t_s) → lv_has ls 5 [(0, .ref q_t), (1, .int x1)] → f_X12_mean_20 N t_s k_25 x1 c_t_thrown = some (r, r_t_thrown) → W p l e rm_X12_mean s m args below meth c H locs 0 0 (MQ below (zQ G w0 (wd_X12_mean cy q_t q_t_tape q_t_s q_t_h q_t_read q_t_names q_t_reserved q_t_undone q_t_before q_t_comeRow q_t_shown q_t_text q_t_toldAt q_t_stack q_t_truths q_t_imaged q_t_namesKept q_t_areKept r_t_thrown t_length t_size t_p t_limit t_token t_at t_span t_number t_fault t_faultAt t_word t_got t_lines t_hasWait t_undoMany t_firstMinute t_lookClock t_hasTime t_latestMost t_textMany t_seed t_toldMany t_hasTold t_codes t_ones t_top t_deep t_isWhole t_s) s.heap.size (some (.int r))) args s 0 0 (va_A w0 s.heap.size)) (F0 m 20 ls [.ref q_t]) := by
  obtain ⟨hx, hb, hml, hown, hts⟩ := id S
  intro x1 c_t_thrown H locs ls hH hl h
  rw [f_X12_mean_20] at h
  refine lv_iconst (v := 1) hx hb dX12_mean_20 (by decide) ?_
  refine lv_goto (tgt := 25) hx hb dX12_mean_21 (by decide) ?_
  exact hk_25 x1 1 c_t_thrown _ _ _ hH (lv_sub hl [0, 1] rfl) h
set_option maxHeartbeats 4000000 in
set_option maxRecDepth 100000 in
theorem w_X12_mean_25 {p : Program} {l : Launch} {e : Env} {s : State} {m : MethodId} {args : Array Value} {below : List Frame} {meth : Method} {c : Code} {G : va_G} {cy : Nat → ClassId} {E : Nat → Nat} {w0 : va_W} {N : Nat} {q_t q_t_tape q_t_s q_t_h q_t_read q_t_names q_t_reserved q_t_undone q_t_before q_t_comeRow q_t_shown q_t_text q_t_toldAt q_t_stack q_t_truths q_t_imaged q_t_namesKept q_t_areKept : Nat} {t_length : Int32} {t_size : Int32} {t_p : Int32} {t_limit : Int32} {t_token : Int32} {t_at : Int32} {t_span : Int32} {t_number : Int32} {t_fault : Int32} {t_faultAt : Int32} {t_word : Int64} {t_got : Int32} {t_lines : Int32} {t_hasWait : Int32} {t_undoMany : Int32} {t_firstMinute : Int32} {t_lookClock : Int32} {t_hasTime : Int32} {t_latestMost : Int32} {t_textMany : Int32} {t_seed : Int32} {t_toldMany : Int32} {t_hasTold : Int32} {t_codes : Int32} {t_ones : Int32} {t_top : Int32} {t_deep : Int32} {t_isWhole : Int32} {t_s : Nat → Int32} {r : Int32} {r_t_thrown : Int32} (S : CallFix p m c cX12_mean 5 s args wsX12_mean RX12) (hr : meth.sig.returnType = some .int) (hlocks : meth.locks = false) (hF : zF G cy E (va_A w0 s.heap.size) s) :
    ∀ (x1 : Int32) (sk0 : Int32) (c_t_thrown : Int32) (H : Heap) (locs : List Loc) (ls : Array Slot), zH G (va_A w0 s.heap.size) s H locs (wd_X12_mean cy q_t q_t_tape q_t_s q_t_h q_t_read q_t_names q_t_reserved q_t_undone q_t_before q_t_comeRow q_t_shown q_t_text q_t_toldAt q_t_stack q_t_truths q_t_imaged q_t_namesKept q_t_areKept c_t_thrown t_length t_size t_p t_limit t_token t_at t_span t_number t_fault t_faultAt t_word t_got t_lines t_hasWait t_undoMany t_firstMinute t_lookClock t_hasTime t_latestMost t_textMany t_seed t_toldMany t_hasTold t_codes t_ones t_top t_deep t_isWhole t_s) → lv_has ls 5 [(0, .ref q_t), (1, .int x1)] → f_X12_mean_25 N t_s x1 sk0 c_t_thrown = some (r, r_t_thrown) → W p l e rm_X12_mean s m args below meth c H locs 0 0 (MQ below (zQ G w0 (wd_X12_mean cy q_t q_t_tape q_t_s q_t_h q_t_read q_t_names q_t_reserved q_t_undone q_t_before q_t_comeRow q_t_shown q_t_text q_t_toldAt q_t_stack q_t_truths q_t_imaged q_t_namesKept q_t_areKept r_t_thrown t_length t_size t_p t_limit t_token t_at t_span t_number t_fault t_faultAt t_word t_got t_lines t_hasWait t_undoMany t_firstMinute t_lookClock t_hasTime t_latestMost t_textMany t_seed t_toldMany t_hasTold t_codes t_ones t_top t_deep t_isWhole t_s) s.heap.size (some (.int r))) args s 0 0 (va_A w0 s.heap.size)) (F0 m 25 ls [.int sk0, .ref q_t]) := by
  obtain ⟨hx, hb, hml, hown, hts⟩ := id S
  intro x1 sk0 c_t_thrown H locs ls hH hl h
  rw [f_X12_mean_25] at h
  obtain ⟨z25, hz25, h⟩ := zcl_e h
  refine z_callV (As := [.int sk0]) (rest := []) (st1 := [.int z25.1]) (ws' := (wd_X12_mean cy q_t q_t_tape q_t_s q_t_h q_t_read q_t_names q_t_reserved q_t_undone q_t_before q_t_comeRow q_t_shown q_t_text q_t_toldAt q_t_stack q_t_truths q_t_imaged q_t_namesKept q_t_areKept z25.2 t_length t_size t_p t_limit t_token t_at t_span t_number t_fault t_faultAt t_word t_got t_lines t_hasWait t_undoMany t_firstMinute t_lookClock t_hasTime t_latestMost t_textMany t_seed t_toldMany t_hasTold t_codes t_ones t_top t_deep t_isWhole t_s)) S hF hH (c_X12_throwsIf l G cy E N q_t q_t_tape q_t_s q_t_h q_t_read q_t_names q_t_reserved q_t_undone q_t_before q_t_comeRow q_t_shown q_t_text q_t_toldAt q_t_stack q_t_truths q_t_imaged q_t_namesKept q_t_areKept c_t_thrown t_length t_size t_p t_limit t_token t_at t_span t_number t_fault t_faultAt t_word t_got t_lines t_hasWait t_undoMany t_firstMinute t_lookClock t_hasTime t_latestMost t_textMany t_seed t_toldMany t_hasTold t_codes t_ones t_top t_deep t_isWhole sk0 z25.1 z25.2 hz25) (cwV 1 hts gX12_mean_X12_throwsIf rfl rfl rfl (by decide +kernel) ⟨Nat.le_of_ble_eq_true rfl, Nat.le_of_ble_eq_true rfl⟩) 13 0 rfl rfl [0] rfl (by decide) rfl rfl rfl rfl rfl hl.1 (Nat.le_of_ble_eq_true rfl) dX12_mean_25 ⟨Nat.le_of_ble_eq_true rfl, Nat.le_of_ble_eq_true rfl⟩ (fun H locs hH => ?_)
  refine lv_if_eq (tgt := 33) hx hb dX12_mean_28 (by decide) (fun b28 => ?_) (fun b28 => ?_)
  · replace h := zif_t b28 h
    refine lv_aload_n hx hb dX12_mean_33 rfl (lv_at hl 0 rfl) ?_
    refine z_get S hF hH iX12_mean_X12 0 rfl rfl 6 (by decide) (List.mem_of_getElem? (i := 1) rfl) rfl dX12_mean_34 ?_
    refine lv_bipush (v := 55) hx hb dX12_mean_37 (by decide) ?_
    refine z_iald (j := 55) S hF hH 1 rfl (by decide) rfl dX12_mean_39 ?_
    obtain ⟨y1, ey1, h⟩ := zbn_e h
    refine z_top ey1 ?_
    clear ey1
    refine lv_istore_n (lv' := [(2, .int y1), (0, .ref q_t), (1, .int x1)]) hx hb dX12_mean_40 rfl hl (by decide) rfl (fun ls hl => ?_)
    refine lv_aload_n hx hb dX12_mean_41 rfl (lv_at hl 1 rfl) ?_
    refine z_get S hF hH iX12_mean_X12 0 rfl rfl 6 (by decide) (List.mem_of_getElem? (i := 1) rfl) rfl dX12_mean_42 ?_
    refine lv_bipush (v := 56) hx hb dX12_mean_45 (by decide) ?_
    refine z_iald (j := 56) S hF hH 1 rfl (by decide) rfl dX12_mean_47 ?_
    obtain ⟨y2, ey2, h⟩ := zbn_e h
    refine z_top ey2 ?_
    clear ey2
    refine lv_istore_n (lv' := [(3, .int y2), (2, .int y1), (0, .ref q_t), (1, .int x1)]) hx hb dX12_mean_48 rfl hl (by decide) rfl (fun ls hl => ?_)
    exact w_X12_mean_49 S hr hlocks hF N x1 y1 y2 z25.2 _ _ _ hH (lv_sub hl [2, 3, 1, 0] rfl) h
  · replace h := zif_f b28 h
    refine lv_iconst (v := 0) hx hb dX12_mean_31 (by decide) ?_
    cases h
    exact z_iret S hr hlocks hH dX12_mean_32
set_option maxHeartbeats 4000000 in
set_option maxRecDepth 100000 in
theorem c_X12_mean (l : Launch) (G : va_G) (cy : Nat → ClassId) (E : Nat → Nat) (N : Nat) (q_t q_t_tape q_t_s q_t_h q_t_read q_t_names q_t_reserved q_t_undone q_t_before q_t_comeRow q_t_shown q_t_text q_t_toldAt q_t_stack q_t_truths q_t_imaged q_t_namesKept q_t_areKept : Nat) (t_thrown : Int32) (t_length : Int32) (t_size : Int32) (t_p : Int32) (t_limit : Int32) (t_token : Int32) (t_at : Int32) (t_span : Int32) (t_number : Int32) (t_fault : Int32) (t_faultAt : Int32) (t_word : Int64) (t_got : Int32) (t_lines : Int32) (t_hasWait : Int32) (t_undoMany : Int32) (t_firstMinute : Int32) (t_lookClock : Int32) (t_hasTime : Int32) (t_latestMost : Int32) (t_textMany : Int32) (t_seed : Int32) (t_toldMany : Int32) (t_hasTold : Int32) (t_codes : Int32) (t_ones : Int32) (t_top : Int32) (t_deep : Int32) (t_isWhole : Int32) (t_s : Nat → Int32) (x0 : Int32) (r : Int32) (r_t_thrown : Int32) (h : f_X12_mean N x0 t_thrown t_s = some (r, r_t_thrown)) : zM l G cy E yX12_mean wsX12_mean rm_X12_mean [.ref q_t, .int x0] (wd_X12_mean cy q_t q_t_tape q_t_s q_t_h q_t_read q_t_names q_t_reserved q_t_undone q_t_before q_t_comeRow q_t_shown q_t_text q_t_toldAt q_t_stack q_t_truths q_t_imaged q_t_namesKept q_t_areKept t_thrown t_length t_size t_p t_limit t_token t_at t_span t_number t_fault t_faultAt t_word t_got t_lines t_hasWait t_undoMany t_firstMinute t_lookClock t_hasTime t_latestMost t_textMany t_seed t_toldMany t_hasTold t_codes t_ones t_top t_deep t_isWhole t_s) (wd_X12_mean cy q_t q_t_tape q_t_s q_t_h q_t_read q_t_names q_t_reserved q_t_undone q_t_before q_t_comeRow q_t_shown q_t_text q_t_toldAt q_t_stack q_t_truths q_t_imaged q_t_namesKept q_t_areKept r_t_thrown t_length t_size t_p t_limit t_token t_at t_span t_number t_fault t_faultAt t_word t_got t_lines t_hasWait t_undoMany t_firstMinute t_lookClock t_hasTime t_latestMost t_textMany t_seed t_toldMany t_hasTold t_codes t_ones t_top t_deep t_isWhole t_s) (some (.int r)) 0 0 := by
  refine z_body (cc := cX12_mean) (maxL := 5) (ret := some .int) (by decide) rfl (Nat.le_of_ble_eq_true rfl) ?_
  intro p e s m below meth c ls S hr hlocks hnm hF hH hl
  have S : CallFix p m c cX12_mean 5 s ([.ref q_t, .int x0] : List Value).toArray wsX12_mean RX12 := S
  obtain ⟨hx, hb, hml, hown, hts⟩ := id S
  have hl : lv_has ls 5 [(0, .ref q_t), (1, .int x0)] := hl
  rw [f_X12_mean] at h
  refine lv_aload_n hx hb dX12_mean_0 rfl (lv_at hl 0 rfl) ?_
  refine lv_aload_n hx hb dX12_mean_1 rfl (lv_at hl 0 rfl) ?_
  refine z_get S hF hH iX12_mean_X12 0 rfl rfl 6 (by decide) (List.mem_of_getElem? (i := 1) rfl) rfl dX12_mean_2 ?_
  refine lv_bipush (v := 55) hx hb dX12_mean_5 (by decide) ?_
  refine z_iald (j := 55) S hF hH 1 rfl (by decide) rfl dX12_mean_7 ?_
  refine lv_if_eq (tgt := 20) hx hb dX12_mean_8 (by decide) (fun b8 => ?_) (fun b8 => ?_)
  · replace h := zif_t b8 h
    exact w_X12_mean_20 S hr hlocks hF (w_X12_mean_25 S hr hlocks hF) x0 t_thrown _ _ _ hH (lv_sub hl [0, 1] rfl) h
  · replace h := zif_f b8 h
    refine lv_iload_n hx hb dX12_mean_11 rfl (lv_at hl 1 rfl) ?_
    refine lv_iconst (v := 0) hx hb dX12_mean_12 (by decide) ?_
    refine lv_iconst (v := 1) hx hb dX12_mean_13 (by decide) ?_
    obtain ⟨z14, hz14, h⟩ := zcl_e h
    refine z_callS (As := [.int x0, .int 0, .int 1]) (rest := [.ref q_t]) (st1 := [.int z14, .ref q_t]) (ws' := (wd_X12_mean cy q_t q_t_tape q_t_s q_t_h q_t_read q_t_names q_t_reserved q_t_undone q_t_before q_t_comeRow q_t_shown q_t_text q_t_toldAt q_t_stack q_t_truths q_t_imaged q_t_namesKept q_t_areKept t_thrown t_length t_size t_p t_limit t_token t_at t_span t_number t_fault t_faultAt t_word t_got t_lines t_hasWait t_undoMany t_firstMinute t_lookClock t_hasTime t_latestMost t_textMany t_seed t_toldMany t_hasTold t_codes t_ones t_top t_deep t_isWhole t_s)) S hF hH (c_X12_isIn l G cy E N x0 0 1 z14 hz14) (cwS 3 hts gX12_mean_X12_isIn rfl rfl rfl (by decide +kernel) ⟨Nat.le_of_ble_eq_true rfl, Nat.le_of_ble_eq_true rfl⟩) [] rfl (by decide) rfl rfl rfl rfl rfl hl.1 (Nat.le_of_ble_eq_true rfl) dX12_mean_14 ⟨Nat.le_of_ble_eq_true rfl, Nat.le_of_ble_eq_true rfl⟩ (fun H locs hH => ?_)
    refine lv_if_ne (tgt := 24) hx hb dX12_mean_17 (by decide) (fun b17 => ?_) (fun b17 => ?_)
    · replace h := zif_f b17 h
      refine lv_iconst (v := 0) hx hb dX12_mean_24 (by decide) ?_
      exact w_X12_mean_25 S hr hlocks hF x0 0 t_thrown _ _ _ hH (lv_sub hl [0, 1] rfl) h
    · replace h := zif_t b17 h
      exact w_X12_mean_20 S hr hlocks hF (w_X12_mean_25 S hr hlocks hF) x0 t_thrown _ _ _ hH (lv_sub hl [0, 1] rfl) h
abbrev wd_X12_lays (cy : Nat → ClassId) (q_t q_t_tape q_t_s q_t_h q_t_read q_t_names q_t_reserved q_t_undone q_t_before q_t_comeRow q_t_shown q_t_text q_t_toldAt q_t_stack q_t_truths q_t_imaged q_t_namesKept q_t_areKept : Nat) (t_thrown : Int32) (t_length : Int32) (t_size : Int32) (t_p : Int32) (t_limit : Int32) (t_token : Int32) (t_at : Int32) (t_span : Int32) (t_number : Int32) (t_fault : Int32) (t_faultAt : Int32) (t_word : Int64) (t_got : Int32) (t_lines : Int32) (t_hasWait : Int32) (t_undoMany : Int32) (t_firstMinute : Int32) (t_lookClock : Int32) (t_hasTime : Int32) (t_latestMost : Int32) (t_textMany : Int32) (t_seed : Int32) (t_toldMany : Int32) (t_hasTold : Int32) (t_codes : Int32) (t_ones : Int32) (t_top : Int32) (t_deep : Int32) (t_isWhole : Int32) (t_text : Nat → Int32) : va_W := [(q_t, .inr (13, [.int t_thrown, .ref q_t_tape, .int t_length, .int t_size, .int t_p, .int t_limit, .ref q_t_s, .ref q_t_h, .ref q_t_read, .ref q_t_names, .ref q_t_reserved, .int t_token, .int t_at, .int t_span, .int t_number, .int t_fault, .int t_faultAt, .long t_word, .int t_got, .int t_lines, .int t_hasWait, .ref q_t_undone, .ref q_t_before, .int t_undoMany, .ref q_t_comeRow, .int t_firstMinute, .int t_lookClock, .int t_hasTime, .ref q_t_shown, .int t_latestMost, .ref q_t_text, .int t_textMany, .int t_seed, .int t_toldMany, .ref q_t_toldAt, .int t_hasTold, .ref q_t_stack, .int t_codes, .int t_ones, .int t_top, .int t_deep, .int t_isWhole, .ref q_t_truths, .ref q_t_imaged, .ref q_t_namesKept, .ref q_t_areKept])), (q_t_text, .inl (cy 0, 40, .inl t_text))]
theorem iX12_lays_X12 : ∀ w ∈ wsX120, w ∈ wsX12_lays := fun _ h => List.mem_cons_of_mem _ (List.mem_append_right _ h)
abbrev rm_X12_lays : Room := { frames := 0, cells := 0, slots := 0, locals := 0 }
set_option maxRecDepth 100000 in
def f_X12_lays (N : Nat) (x0 : Int32) (t_textMany : Int32) (t_text : Nat → Int32) : Option (Int32 × (Nat → Int32)) := zbn ((Int8.toInt32 (Int32.toInt8 x0))) fun y1 => zck (zin t_textMany 40) <| zbn (upd t_text (Int32.toNatClampNeg t_textMany) (Int8.toInt32 (Int32.toInt8 y1))) fun f2 => zbn ((t_textMany + 1)) fun y3 => some (y3, f2)
set_option maxHeartbeats 4000000 in
set_option maxRecDepth 100000 in
theorem c_X12_lays (l : Launch) (G : va_G) (cy : Nat → ClassId) (E : Nat → Nat) (N : Nat) (q_t q_t_tape q_t_s q_t_h q_t_read q_t_names q_t_reserved q_t_undone q_t_before q_t_comeRow q_t_shown q_t_text q_t_toldAt q_t_stack q_t_truths q_t_imaged q_t_namesKept q_t_areKept : Nat) (t_thrown : Int32) (t_length : Int32) (t_size : Int32) (t_p : Int32) (t_limit : Int32) (t_token : Int32) (t_at : Int32) (t_span : Int32) (t_number : Int32) (t_fault : Int32) (t_faultAt : Int32) (t_word : Int64) (t_got : Int32) (t_lines : Int32) (t_hasWait : Int32) (t_undoMany : Int32) (t_firstMinute : Int32) (t_lookClock : Int32) (t_hasTime : Int32) (t_latestMost : Int32) (t_textMany : Int32) (t_seed : Int32) (t_toldMany : Int32) (t_hasTold : Int32) (t_codes : Int32) (t_ones : Int32) (t_top : Int32) (t_deep : Int32) (t_isWhole : Int32) (t_text : Nat → Int32) (x0 : Int32) (r_t_textMany : Int32) (r_t_text : Nat → Int32) (h : f_X12_lays N x0 t_textMany t_text = some (r_t_textMany, r_t_text)) : zM l G cy E yX12_lays wsX12_lays rm_X12_lays [.ref q_t, .int x0] (wd_X12_lays cy q_t q_t_tape q_t_s q_t_h q_t_read q_t_names q_t_reserved q_t_undone q_t_before q_t_comeRow q_t_shown q_t_text q_t_toldAt q_t_stack q_t_truths q_t_imaged q_t_namesKept q_t_areKept t_thrown t_length t_size t_p t_limit t_token t_at t_span t_number t_fault t_faultAt t_word t_got t_lines t_hasWait t_undoMany t_firstMinute t_lookClock t_hasTime t_latestMost t_textMany t_seed t_toldMany t_hasTold t_codes t_ones t_top t_deep t_isWhole t_text) (wd_X12_lays cy q_t q_t_tape q_t_s q_t_h q_t_read q_t_names q_t_reserved q_t_undone q_t_before q_t_comeRow q_t_shown q_t_text q_t_toldAt q_t_stack q_t_truths q_t_imaged q_t_namesKept q_t_areKept t_thrown t_length t_size t_p t_limit t_token t_at t_span t_number t_fault t_faultAt t_word t_got t_lines t_hasWait t_undoMany t_firstMinute t_lookClock t_hasTime t_latestMost r_t_textMany t_seed t_toldMany t_hasTold t_codes t_ones t_top t_deep t_isWhole r_t_text) none 0 0 := by
  refine z_body (cc := cX12_lays) (maxL := 2) (ret := none) (by decide) rfl (Nat.le_of_ble_eq_true rfl) ?_
  intro p e s m below meth c ls S hr hlocks hnm hF hH hl
  have S : CallFix p m c cX12_lays 2 s ([.ref q_t, .int x0] : List Value).toArray wsX12_lays RX12 := S
  obtain ⟨hx, hb, hml, hown, hts⟩ := id S
  have hl : lv_has ls 2 [(0, .ref q_t), (1, .int x0)] := hl
  rw [f_X12_lays] at h
  refine lv_aload_n hx hb dX12_lays_0 rfl (lv_at hl 0 rfl) ?_
  refine z_get S hF hH iX12_lays_X12 0 rfl rfl 30 (by decide) (List.mem_of_getElem? (i := 1) rfl) rfl dX12_lays_1 ?_
  refine lv_aload_n hx hb dX12_lays_4 rfl (lv_at hl 0 rfl) ?_
  refine z_get S hF hH iX12_lays_X12 0 rfl rfl 31 (by decide) (List.mem_of_getElem? (i := 2) rfl) rfl dX12_lays_5 ?_
  refine lv_iload_n hx hb dX12_lays_8 rfl (lv_at hl 1 rfl) ?_
  refine lv_i2b (v := (Int8.toInt32 (Int32.toInt8 x0))) hx hb dX12_lays_9 rfl ?_
  obtain ⟨y1, ey1, h⟩ := zbn_e h
  refine z_top ey1 ?_
  clear ey1
  obtain ⟨h10, h⟩ := zck_e h
  obtain ⟨f2, ef2, h⟩ := zbn_e h
  refine z_bast (ws' := (wd_X12_lays cy q_t q_t_tape q_t_s q_t_h q_t_read q_t_names q_t_reserved q_t_undone q_t_before q_t_comeRow q_t_shown q_t_text q_t_toldAt q_t_stack q_t_truths q_t_imaged q_t_namesKept q_t_areKept t_thrown t_length t_size t_p t_limit t_token t_at t_span t_number t_fault t_faultAt t_word t_got t_lines t_hasWait t_undoMany t_firstMinute t_lookClock t_hasTime t_latestMost t_textMany t_seed t_toldMany t_hasTold t_codes t_ones t_top t_deep t_isWhole f2)) (j := (Int32.toNatClampNeg t_textMany)) S hF hH 1 rfl h10 rfl (by rw [ef2]; rfl) dX12_lays_10 (fun H locs hH => ?_)
  clear ef2
  refine lv_aload_n hx hb dX12_lays_11 rfl (lv_at hl 0 rfl) ?_
  refine lv_dup hx hb dX12_lays_12 rfl ?_
  refine z_get S hF hH iX12_lays_X12 0 rfl rfl 31 (by decide) (List.mem_of_getElem? (i := 2) rfl) rfl dX12_lays_13 ?_
  refine lv_iconst (v := 1) hx hb dX12_lays_16 (by decide) ?_
  refine lv_iadd hx hb dX12_lays_17 ?_
  obtain ⟨y3, ey3, h⟩ := zbn_e h
  refine z_top ey3 ?_
  clear ey3
  refine z_put (ws' := (wd_X12_lays cy q_t q_t_tape q_t_s q_t_h q_t_read q_t_names q_t_reserved q_t_undone q_t_before q_t_comeRow q_t_shown q_t_text q_t_toldAt q_t_stack q_t_truths q_t_imaged q_t_namesKept q_t_areKept t_thrown t_length t_size t_p t_limit t_token t_at t_span t_number t_fault t_faultAt t_word t_got t_lines t_hasWait t_undoMany t_firstMinute t_lookClock t_hasTime t_latestMost y3 t_seed t_toldMany t_hasTold t_codes t_ones t_top t_deep t_isWhole f2)) S hF hH iX12_lays_X12 tyX12 tyX12_ok nmX12 0 rfl rfl 31 (by decide) (List.mem_of_getElem? (i := 2) rfl) rfl rfl rfl (Nat.le_of_ble_eq_true rfl) rfl dX12_lays_18 (fun H locs hH => ?_)
  cases h
  exact z_vret S hr hlocks hH dX12_lays_21
abbrev wd_X12_spells (cy : Nat → ClassId) (q_t q_t_tape q_t_s q_t_h q_t_read q_t_names q_t_reserved q_t_undone q_t_before q_t_comeRow q_t_shown q_t_text q_t_toldAt q_t_stack q_t_truths q_t_imaged q_t_namesKept q_t_areKept : Nat) (t_thrown : Int32) (t_length : Int32) (t_size : Int32) (t_p : Int32) (t_limit : Int32) (t_token : Int32) (t_at : Int32) (t_span : Int32) (t_number : Int32) (t_fault : Int32) (t_faultAt : Int32) (t_word : Int64) (t_got : Int32) (t_lines : Int32) (t_hasWait : Int32) (t_undoMany : Int32) (t_firstMinute : Int32) (t_lookClock : Int32) (t_hasTime : Int32) (t_latestMost : Int32) (t_textMany : Int32) (t_seed : Int32) (t_toldMany : Int32) (t_hasTold : Int32) (t_codes : Int32) (t_ones : Int32) (t_top : Int32) (t_deep : Int32) (t_isWhole : Int32) (t_text : Nat → Int32) : va_W := [(q_t, .inr (13, [.int t_thrown, .ref q_t_tape, .int t_length, .int t_size, .int t_p, .int t_limit, .ref q_t_s, .ref q_t_h, .ref q_t_read, .ref q_t_names, .ref q_t_reserved, .int t_token, .int t_at, .int t_span, .int t_number, .int t_fault, .int t_faultAt, .long t_word, .int t_got, .int t_lines, .int t_hasWait, .ref q_t_undone, .ref q_t_before, .int t_undoMany, .ref q_t_comeRow, .int t_firstMinute, .int t_lookClock, .int t_hasTime, .ref q_t_shown, .int t_latestMost, .ref q_t_text, .int t_textMany, .int t_seed, .int t_toldMany, .ref q_t_toldAt, .int t_hasTold, .ref q_t_stack, .int t_codes, .int t_ones, .int t_top, .int t_deep, .int t_isWhole, .ref q_t_truths, .ref q_t_imaged, .ref q_t_namesKept, .ref q_t_areKept])), (q_t_text, .inl (cy 0, 40, .inl t_text))]
abbrev rm_X12_spells : Room := { frames := 1, cells := 0, slots := 0, locals := 21 }
set_option maxRecDepth 100000 in
def f_X12_spells_3 (N : Nat) : Nat → Int64 → Int32 → Int32 → (Nat → Int32) → (Option (Int32 × (Nat → Int32)))
  | 0, _, _, _, _ => none
  | n + 1, x1, x3, c_t_textMany, c_t_text => if x3 < 0 then (some (c_t_textMany, c_t_text)) else (if (lg_cmp ((zlshr x1 x3) &&& 255) 0) = 0 then (zbn (x3 + (-8)) fun y1 => f_X12_spells_3 N n x1 y1 c_t_textMany c_t_text) else (zcl (f_X12_lays N (Int64.toInt32 ((zlshr x1 x3) &&& 255)) c_t_textMany c_t_text) fun z28 => zbn (x3 + (-8)) fun y2 => f_X12_spells_3 N n x1 y2 z28.1 z28.2))
set_option maxRecDepth 100000 in
def f_X12_spells (N : Nat) (x0 : Int64) (t_textMany : Int32) (t_text : Nat → Int32) : Option (Int32 × (Nat → Int32)) := f_X12_spells_3 N N x0 56 t_textMany t_text
set_option maxHeartbeats 4000000 in
set_option maxRecDepth 100000 in
theorem w_X12_spells_3 {p : Program} {l : Launch} {e : Env} {s : State} {m : MethodId} {args : Array Value} {below : List Frame} {meth : Method} {c : Code} {G : va_G} {cy : Nat → ClassId} {E : Nat → Nat} {w0 : va_W} {N : Nat} {q_t q_t_tape q_t_s q_t_h q_t_read q_t_names q_t_reserved q_t_undone q_t_before q_t_comeRow q_t_shown q_t_text q_t_toldAt q_t_stack q_t_truths q_t_imaged q_t_namesKept q_t_areKept : Nat} {t_thrown : Int32} {t_length : Int32} {t_size : Int32} {t_p : Int32} {t_limit : Int32} {t_token : Int32} {t_at : Int32} {t_span : Int32} {t_number : Int32} {t_fault : Int32} {t_faultAt : Int32} {t_word : Int64} {t_got : Int32} {t_lines : Int32} {t_hasWait : Int32} {t_undoMany : Int32} {t_firstMinute : Int32} {t_lookClock : Int32} {t_hasTime : Int32} {t_latestMost : Int32} {t_seed : Int32} {t_toldMany : Int32} {t_hasTold : Int32} {t_codes : Int32} {t_ones : Int32} {t_top : Int32} {t_deep : Int32} {t_isWhole : Int32} {r_t_textMany : Int32} {r_t_text : Nat → Int32} (S : CallFix p m c cX12_spells 4 s args wsX12_spells RX12) (hr : meth.sig.returnType = none) (hlocks : meth.locks = false) (hF : zF G cy E (va_A w0 s.heap.size) s) :
    ∀ (n : Nat) (x1 : Int64) (x3 : Int32) (c_t_textMany : Int32) (c_t_text : Nat → Int32) (H : Heap) (locs : List Loc) (ls : Array Slot), zH G (va_A w0 s.heap.size) s H locs (wd_X12_spells cy q_t q_t_tape q_t_s q_t_h q_t_read q_t_names q_t_reserved q_t_undone q_t_before q_t_comeRow q_t_shown q_t_text q_t_toldAt q_t_stack q_t_truths q_t_imaged q_t_namesKept q_t_areKept t_thrown t_length t_size t_p t_limit t_token t_at t_span t_number t_fault t_faultAt t_word t_got t_lines t_hasWait t_undoMany t_firstMinute t_lookClock t_hasTime t_latestMost c_t_textMany t_seed t_toldMany t_hasTold t_codes t_ones t_top t_deep t_isWhole c_t_text) → lv_has ls 4 [(0, .ref q_t), (1, .long x1), (3, .int x3)] → f_X12_spells_3 N n x1 x3 c_t_textMany c_t_text = some (r_t_textMany, r_t_text) → W p l e rm_X12_spells s m args below meth c H locs 0 0 (MQ below (zQ G w0 (wd_X12_spells cy q_t q_t_tape q_t_s q_t_h q_t_read q_t_names q_t_reserved q_t_undone q_t_before q_t_comeRow q_t_shown q_t_text q_t_toldAt q_t_stack q_t_truths q_t_imaged q_t_namesKept q_t_areKept t_thrown t_length t_size t_p t_limit t_token t_at t_span t_number t_fault t_faultAt t_word t_got t_lines t_hasWait t_undoMany t_firstMinute t_lookClock t_hasTime t_latestMost r_t_textMany t_seed t_toldMany t_hasTold t_codes t_ones t_top t_deep t_isWhole r_t_text) s.heap.size none) args s 0 0 (va_A w0 s.heap.size)) (F0 m 3 ls []) := by
  obtain ⟨hx, hb, hml, hown, hts⟩ := id S
  intro n
  induction n with
  | zero =>
    intro x1 x3 c_t_textMany c_t_text H locs ls hH hl h
    rw [f_X12_spells_3] at h
    cases h
  | succ n ih =>
    intro x1 x3 c_t_textMany c_t_text H locs ls hH hl h
    rw [f_X12_spells_3] at h
    refine lv_iload_n hx hb dX12_spells_3 rfl (lv_at hl 2 rfl) ?_
    refine lv_if_lt (tgt := 37) hx hb dX12_spells_4 (by decide) (fun b4 => ?_) (fun b4 => ?_)
    · replace h := zif_t b4 h
      cases h
      exact z_vret S hr hlocks hH dX12_spells_37
    · replace h := zif_f b4 h
      refine lv_lload_n hx hb dX12_spells_7 rfl (lv_at hl 1 rfl) ?_
      refine lv_iload_n hx hb dX12_spells_8 rfl (lv_at hl 2 rfl) ?_
      refine lv_lshr (v := zlshr x1 x3) hx hb dX12_spells_9 rfl ?_
      refine lv_ldc2 (v := 255) hx hb hown (hts _ (List.mem_of_getElem? (i := 1) rfl)) dX12_spells_10 ?_
      refine lv_land hx hb dX12_spells_13 ?_
      refine lv_lconst (v := 0) hx hb dX12_spells_14 (by decide) ?_
      refine W.lcmp hx hb dX12_spells_15 ?_
      refine lv_if_eq (tgt := 31) hx hb dX12_spells_16 (by decide) (fun b16 => ?_) (fun b16 => ?_)
      · replace h := zif_t b16 h
        obtain ⟨y1, ey1, h⟩ := zbn_e h
        refine lv_iinc (v := y1) (lv' := [(3, .int y1), (0, .ref q_t), (1, .long x1)]) hx hb dX12_spells_31 hl (k := 2) rfl (by rw [ey1]; exact congrArg (fun z => x3 + z) (by decide)) (by decide) rfl (fun ls hl => ?_)
        clear ey1
        refine lv_goto (tgt := 3) hx hb dX12_spells_34 (by decide) ?_
        exact ih x1 y1 c_t_textMany c_t_text _ _ _ hH (lv_sub hl [1, 2, 0] rfl) h
      · replace h := zif_f b16 h
        refine lv_aload_n hx hb dX12_spells_19 rfl (lv_at hl 0 rfl) ?_
        refine lv_lload_n hx hb dX12_spells_20 rfl (lv_at hl 1 rfl) ?_
        refine lv_iload_n hx hb dX12_spells_21 rfl (lv_at hl 2 rfl) ?_
        refine lv_lshr (v := zlshr x1 x3) hx hb dX12_spells_22 rfl ?_
        refine lv_ldc2 (v := 255) hx hb hown (hts _ (List.mem_of_getElem? (i := 1) rfl)) dX12_spells_23 ?_
        refine lv_land hx hb dX12_spells_26 ?_
        refine lv_l2i (v := (Int64.toInt32 ((zlshr x1 x3) &&& 255))) hx hb dX12_spells_27 rfl ?_
        obtain ⟨z28, hz28, h⟩ := zcl_e h
        refine z_callV (As := [.int (Int64.toInt32 ((zlshr x1 x3) &&& 255))]) (rest := []) (st1 := []) (ws' := (wd_X12_spells cy q_t q_t_tape q_t_s q_t_h q_t_read q_t_names q_t_reserved q_t_undone q_t_before q_t_comeRow q_t_shown q_t_text q_t_toldAt q_t_stack q_t_truths q_t_imaged q_t_namesKept q_t_areKept t_thrown t_length t_size t_p t_limit t_token t_at t_span t_number t_fault t_faultAt t_word t_got t_lines t_hasWait t_undoMany t_firstMinute t_lookClock t_hasTime t_latestMost z28.1 t_seed t_toldMany t_hasTold t_codes t_ones t_top t_deep t_isWhole z28.2)) S hF hH (c_X12_lays l G cy E N q_t q_t_tape q_t_s q_t_h q_t_read q_t_names q_t_reserved q_t_undone q_t_before q_t_comeRow q_t_shown q_t_text q_t_toldAt q_t_stack q_t_truths q_t_imaged q_t_namesKept q_t_areKept t_thrown t_length t_size t_p t_limit t_token t_at t_span t_number t_fault t_faultAt t_word t_got t_lines t_hasWait t_undoMany t_firstMinute t_lookClock t_hasTime t_latestMost c_t_textMany t_seed t_toldMany t_hasTold t_codes t_ones t_top t_deep t_isWhole c_t_text (Int64.toInt32 ((zlshr x1 x3) &&& 255)) z28.1 z28.2 hz28) (cwV 1 hts gX12_spells_X12_lays rfl rfl rfl (by decide +kernel) ⟨Nat.le_of_ble_eq_true rfl, Nat.le_of_ble_eq_true rfl⟩) 13 0 rfl rfl [0, 1] rfl (by decide) rfl rfl rfl rfl rfl hl.1 (Nat.le_of_ble_eq_true rfl) dX12_spells_28 ⟨Nat.le_of_ble_eq_true rfl, Nat.le_of_ble_eq_true rfl⟩ (fun H locs hH => ?_)
        obtain ⟨y2, ey2, h⟩ := zbn_e h
        refine lv_iinc (v := y2) (lv' := [(3, .int y2), (0, .ref q_t), (1, .long x1)]) hx hb dX12_spells_31 hl (k := 2) rfl (by rw [ey2]; exact congrArg (fun z => x3 + z) (by decide)) (by decide) rfl (fun ls hl => ?_)
        clear ey2
        refine lv_goto (tgt := 3) hx hb dX12_spells_34 (by decide) ?_
        exact ih x1 y2 z28.1 z28.2 _ _ _ hH (lv_sub hl [1, 2, 0] rfl) h
set_option maxHeartbeats 4000000 in
set_option maxRecDepth 100000 in
theorem c_X12_spells (l : Launch) (G : va_G) (cy : Nat → ClassId) (E : Nat → Nat) (N : Nat) (q_t q_t_tape q_t_s q_t_h q_t_read q_t_names q_t_reserved q_t_undone q_t_before q_t_comeRow q_t_shown q_t_text q_t_toldAt q_t_stack q_t_truths q_t_imaged q_t_namesKept q_t_areKept : Nat) (t_thrown : Int32) (t_length : Int32) (t_size : Int32) (t_p : Int32) (t_limit : Int32) (t_token : Int32) (t_at : Int32) (t_span : Int32) (t_number : Int32) (t_fault : Int32) (t_faultAt : Int32) (t_word : Int64) (t_got : Int32) (t_lines : Int32) (t_hasWait : Int32) (t_undoMany : Int32) (t_firstMinute : Int32) (t_lookClock : Int32) (t_hasTime : Int32) (t_latestMost : Int32) (t_textMany : Int32) (t_seed : Int32) (t_toldMany : Int32) (t_hasTold : Int32) (t_codes : Int32) (t_ones : Int32) (t_top : Int32) (t_deep : Int32) (t_isWhole : Int32) (t_text : Nat → Int32) (x0 : Int64) (r_t_textMany : Int32) (r_t_text : Nat → Int32) (h : f_X12_spells N x0 t_textMany t_text = some (r_t_textMany, r_t_text)) : zM l G cy E yX12_spells wsX12_spells rm_X12_spells [.ref q_t, .long x0] (wd_X12_spells cy q_t q_t_tape q_t_s q_t_h q_t_read q_t_names q_t_reserved q_t_undone q_t_before q_t_comeRow q_t_shown q_t_text q_t_toldAt q_t_stack q_t_truths q_t_imaged q_t_namesKept q_t_areKept t_thrown t_length t_size t_p t_limit t_token t_at t_span t_number t_fault t_faultAt t_word t_got t_lines t_hasWait t_undoMany t_firstMinute t_lookClock t_hasTime t_latestMost t_textMany t_seed t_toldMany t_hasTold t_codes t_ones t_top t_deep t_isWhole t_text) (wd_X12_spells cy q_t q_t_tape q_t_s q_t_h q_t_read q_t_names q_t_reserved q_t_undone q_t_before q_t_comeRow q_t_shown q_t_text q_t_toldAt q_t_stack q_t_truths q_t_imaged q_t_namesKept q_t_areKept t_thrown t_length t_size t_p t_limit t_token t_at t_span t_number t_fault t_faultAt t_word t_got t_lines t_hasWait t_undoMany t_firstMinute t_lookClock t_hasTime t_latestMost r_t_textMany t_seed t_toldMany t_hasTold t_codes t_ones t_top t_deep t_isWhole r_t_text) none 0 0 := by
  refine z_body (cc := cX12_spells) (maxL := 4) (ret := none) (by decide) rfl (Nat.le_of_ble_eq_true rfl) ?_
  intro p e s m below meth c ls S hr hlocks hnm hF hH hl
  have S : CallFix p m c cX12_spells 4 s ([.ref q_t, .long x0] : List Value).toArray wsX12_spells RX12 := S
  obtain ⟨hx, hb, hml, hown, hts⟩ := id S
  have hl : lv_has ls 4 [(0, .ref q_t), (1, .long x0)] := hl
  rw [f_X12_spells] at h
  refine lv_bipush (v := 56) hx hb dX12_spells_0 (by decide) ?_
  refine lv_istore_n (lv' := [(3, .int 56), (0, .ref q_t), (1, .long x0)]) hx hb dX12_spells_2 rfl hl (by decide) rfl (fun ls hl => ?_)
  exact w_X12_spells_3 S hr hlocks hF N x0 56 t_textMany t_text _ _ _ hH (lv_sub hl [1, 2, 0] rfl) h
abbrev wd_X12_says (cy : Nat → ClassId) (q_t q_t_tape q_t_s q_t_h q_t_read q_t_names q_t_reserved q_t_undone q_t_before q_t_comeRow q_t_shown q_t_text q_t_toldAt q_t_stack q_t_truths q_t_imaged q_t_namesKept q_t_areKept : Nat) (t_thrown : Int32) (t_length : Int32) (t_size : Int32) (t_p : Int32) (t_limit : Int32) (t_token : Int32) (t_at : Int32) (t_span : Int32) (t_number : Int32) (t_fault : Int32) (t_faultAt : Int32) (t_word : Int64) (t_got : Int32) (t_lines : Int32) (t_hasWait : Int32) (t_undoMany : Int32) (t_firstMinute : Int32) (t_lookClock : Int32) (t_hasTime : Int32) (t_latestMost : Int32) (t_textMany : Int32) (t_seed : Int32) (t_toldMany : Int32) (t_hasTold : Int32) (t_codes : Int32) (t_ones : Int32) (t_top : Int32) (t_deep : Int32) (t_isWhole : Int32) (t_text : Nat → Int32) : va_W := [(q_t, .inr (13, [.int t_thrown, .ref q_t_tape, .int t_length, .int t_size, .int t_p, .int t_limit, .ref q_t_s, .ref q_t_h, .ref q_t_read, .ref q_t_names, .ref q_t_reserved, .int t_token, .int t_at, .int t_span, .int t_number, .int t_fault, .int t_faultAt, .long t_word, .int t_got, .int t_lines, .int t_hasWait, .ref q_t_undone, .ref q_t_before, .int t_undoMany, .ref q_t_comeRow, .int t_firstMinute, .int t_lookClock, .int t_hasTime, .ref q_t_shown, .int t_latestMost, .ref q_t_text, .int t_textMany, .int t_seed, .int t_toldMany, .ref q_t_toldAt, .int t_hasTold, .ref q_t_stack, .int t_codes, .int t_ones, .int t_top, .int t_deep, .int t_isWhole, .ref q_t_truths, .ref q_t_imaged, .ref q_t_namesKept, .ref q_t_areKept])), (q_t_text, .inl (cy 0, 40, .inl t_text))]
abbrev rm_X12_says : Room := { frames := 2, cells := 0, slots := 0, locals := 44 }
set_option maxRecDepth 100000 in
def f_X12_says (N : Nat) (x0 : Int64) (t_textMany : Int32) (t_text : Nat → Int32) : Option (Int32 × (Nat → Int32)) := zcl (f_X12_lays N 32 t_textMany t_text) fun z3 => zcl (f_X12_spells N x0 z3.1 z3.2) fun z8 => some (z8.1, z8.2)
set_option maxHeartbeats 4000000 in
set_option maxRecDepth 100000 in
theorem c_X12_says (l : Launch) (G : va_G) (cy : Nat → ClassId) (E : Nat → Nat) (N : Nat) (q_t q_t_tape q_t_s q_t_h q_t_read q_t_names q_t_reserved q_t_undone q_t_before q_t_comeRow q_t_shown q_t_text q_t_toldAt q_t_stack q_t_truths q_t_imaged q_t_namesKept q_t_areKept : Nat) (t_thrown : Int32) (t_length : Int32) (t_size : Int32) (t_p : Int32) (t_limit : Int32) (t_token : Int32) (t_at : Int32) (t_span : Int32) (t_number : Int32) (t_fault : Int32) (t_faultAt : Int32) (t_word : Int64) (t_got : Int32) (t_lines : Int32) (t_hasWait : Int32) (t_undoMany : Int32) (t_firstMinute : Int32) (t_lookClock : Int32) (t_hasTime : Int32) (t_latestMost : Int32) (t_textMany : Int32) (t_seed : Int32) (t_toldMany : Int32) (t_hasTold : Int32) (t_codes : Int32) (t_ones : Int32) (t_top : Int32) (t_deep : Int32) (t_isWhole : Int32) (t_text : Nat → Int32) (x0 : Int64) (r_t_textMany : Int32) (r_t_text : Nat → Int32) (h : f_X12_says N x0 t_textMany t_text = some (r_t_textMany, r_t_text)) : zM l G cy E yX12_says wsX12_says rm_X12_says [.ref q_t, .long x0] (wd_X12_says cy q_t q_t_tape q_t_s q_t_h q_t_read q_t_names q_t_reserved q_t_undone q_t_before q_t_comeRow q_t_shown q_t_text q_t_toldAt q_t_stack q_t_truths q_t_imaged q_t_namesKept q_t_areKept t_thrown t_length t_size t_p t_limit t_token t_at t_span t_number t_fault t_faultAt t_word t_got t_lines t_hasWait t_undoMany t_firstMinute t_lookClock t_hasTime t_latestMost t_textMany t_seed t_toldMany t_hasTold t_codes t_ones t_top t_deep t_isWhole t_text) (wd_X12_says cy q_t q_t_tape q_t_s q_t_h q_t_read q_t_names q_t_reserved q_t_undone q_t_before q_t_comeRow q_t_shown q_t_text q_t_toldAt q_t_stack q_t_truths q_t_imaged q_t_namesKept q_t_areKept t_thrown t_length t_size t_p t_limit t_token t_at t_span t_number t_fault t_faultAt t_word t_got t_lines t_hasWait t_undoMany t_firstMinute t_lookClock t_hasTime t_latestMost r_t_textMany t_seed t_toldMany t_hasTold t_codes t_ones t_top t_deep t_isWhole r_t_text) none 0 0 := by
  refine z_body (cc := cX12_says) (maxL := 3) (ret := none) (by decide) rfl (Nat.le_of_ble_eq_true rfl) ?_
  intro p e s m below meth c ls S hr hlocks hnm hF hH hl
  have S : CallFix p m c cX12_says 3 s ([.ref q_t, .long x0] : List Value).toArray wsX12_says RX12 := S
  obtain ⟨hx, hb, hml, hown, hts⟩ := id S
  have hl : lv_has ls 3 [(0, .ref q_t), (1, .long x0)] := hl
  rw [f_X12_says] at h
  refine lv_aload_n hx hb dX12_says_0 rfl (lv_at hl 0 rfl) ?_
  refine lv_bipush (v := 32) hx hb dX12_says_1 (by decide) ?_
  obtain ⟨z3, hz3, h⟩ := zcl_e h
  refine z_callV (As := [.int 32]) (rest := []) (st1 := []) (ws' := (wd_X12_says cy q_t q_t_tape q_t_s q_t_h q_t_read q_t_names q_t_reserved q_t_undone q_t_before q_t_comeRow q_t_shown q_t_text q_t_toldAt q_t_stack q_t_truths q_t_imaged q_t_namesKept q_t_areKept t_thrown t_length t_size t_p t_limit t_token t_at t_span t_number t_fault t_faultAt t_word t_got t_lines t_hasWait t_undoMany t_firstMinute t_lookClock t_hasTime t_latestMost z3.1 t_seed t_toldMany t_hasTold t_codes t_ones t_top t_deep t_isWhole z3.2)) S hF hH (c_X12_lays l G cy E N q_t q_t_tape q_t_s q_t_h q_t_read q_t_names q_t_reserved q_t_undone q_t_before q_t_comeRow q_t_shown q_t_text q_t_toldAt q_t_stack q_t_truths q_t_imaged q_t_namesKept q_t_areKept t_thrown t_length t_size t_p t_limit t_token t_at t_span t_number t_fault t_faultAt t_word t_got t_lines t_hasWait t_undoMany t_firstMinute t_lookClock t_hasTime t_latestMost t_textMany t_seed t_toldMany t_hasTold t_codes t_ones t_top t_deep t_isWhole t_text 32 z3.1 z3.2 hz3) (cwV 1 hts gX12_says_X12_lays rfl rfl rfl (by decide +kernel) ⟨Nat.le_of_ble_eq_true rfl, Nat.le_of_ble_eq_true rfl⟩) 13 0 rfl rfl [0, 1] rfl (by decide) rfl rfl rfl rfl rfl hl.1 (Nat.le_of_ble_eq_true rfl) dX12_says_3 ⟨Nat.le_of_ble_eq_true rfl, Nat.le_of_ble_eq_true rfl⟩ (fun H locs hH => ?_)
  refine lv_aload_n hx hb dX12_says_6 rfl (lv_at hl 0 rfl) ?_
  refine lv_lload_n hx hb dX12_says_7 rfl (lv_at hl 1 rfl) ?_
  obtain ⟨z8, hz8, h⟩ := zcl_e h
  refine z_callV (As := [.long x0]) (rest := []) (st1 := []) (ws' := (wd_X12_says cy q_t q_t_tape q_t_s q_t_h q_t_read q_t_names q_t_reserved q_t_undone q_t_before q_t_comeRow q_t_shown q_t_text q_t_toldAt q_t_stack q_t_truths q_t_imaged q_t_namesKept q_t_areKept t_thrown t_length t_size t_p t_limit t_token t_at t_span t_number t_fault t_faultAt t_word t_got t_lines t_hasWait t_undoMany t_firstMinute t_lookClock t_hasTime t_latestMost z8.1 t_seed t_toldMany t_hasTold t_codes t_ones t_top t_deep t_isWhole z8.2)) S hF hH (c_X12_spells l G cy E N q_t q_t_tape q_t_s q_t_h q_t_read q_t_names q_t_reserved q_t_undone q_t_before q_t_comeRow q_t_shown q_t_text q_t_toldAt q_t_stack q_t_truths q_t_imaged q_t_namesKept q_t_areKept t_thrown t_length t_size t_p t_limit t_token t_at t_span t_number t_fault t_faultAt t_word t_got t_lines t_hasWait t_undoMany t_firstMinute t_lookClock t_hasTime t_latestMost z3.1 t_seed t_toldMany t_hasTold t_codes t_ones t_top t_deep t_isWhole z3.2 x0 z8.1 z8.2 hz8) (cwV 1 hts gX12_says_X12_spells rfl rfl rfl (by decide +kernel) ⟨Nat.le_of_ble_eq_true rfl, Nat.le_of_ble_eq_true rfl⟩) 13 0 rfl rfl [0, 1] rfl (by decide) rfl rfl rfl rfl rfl hl.1 (Nat.le_of_ble_eq_true rfl) dX12_says_8 ⟨Nat.le_of_ble_eq_true rfl, Nat.le_of_ble_eq_true rfl⟩ (fun H locs hH => ?_)
  cases h
  exact z_vret S hr hlocks hH dX12_says_11
abbrev wd_X12_face (cy : Nat → ClassId) (q_t q_t_tape q_t_s q_t_h q_t_read q_t_names q_t_reserved q_t_undone q_t_before q_t_comeRow q_t_shown q_t_text q_t_toldAt q_t_stack q_t_truths q_t_imaged q_t_namesKept q_t_areKept : Nat) (t_thrown : Int32) (t_length : Int32) (t_size : Int32) (t_p : Int32) (t_limit : Int32) (t_token : Int32) (t_at : Int32) (t_span : Int32) (t_number : Int32) (t_fault : Int32) (t_faultAt : Int32) (t_word : Int64) (t_got : Int32) (t_lines : Int32) (t_hasWait : Int32) (t_undoMany : Int32) (t_firstMinute : Int32) (t_lookClock : Int32) (t_hasTime : Int32) (t_latestMost : Int32) (t_textMany : Int32) (t_seed : Int32) (t_toldMany : Int32) (t_hasTold : Int32) (t_codes : Int32) (t_ones : Int32) (t_top : Int32) (t_deep : Int32) (t_isWhole : Int32) (t_s : Nat → Int32) (t_names : Nat → Int64) (t_text : Nat → Int32) : va_W := [(q_t, .inr (13, [.int t_thrown, .ref q_t_tape, .int t_length, .int t_size, .int t_p, .int t_limit, .ref q_t_s, .ref q_t_h, .ref q_t_read, .ref q_t_names, .ref q_t_reserved, .int t_token, .int t_at, .int t_span, .int t_number, .int t_fault, .int t_faultAt, .long t_word, .int t_got, .int t_lines, .int t_hasWait, .ref q_t_undone, .ref q_t_before, .int t_undoMany, .ref q_t_comeRow, .int t_firstMinute, .int t_lookClock, .int t_hasTime, .ref q_t_shown, .int t_latestMost, .ref q_t_text, .int t_textMany, .int t_seed, .int t_toldMany, .ref q_t_toldAt, .int t_hasTold, .ref q_t_stack, .int t_codes, .int t_ones, .int t_top, .int t_deep, .int t_isWhole, .ref q_t_truths, .ref q_t_imaged, .ref q_t_namesKept, .ref q_t_areKept])), (q_t_s, .inl (cy 1, 334, .inl t_s)), (q_t_names, .inl (cy 2, 36, .inr (.inl t_names))), (q_t_text, .inl (cy 0, 40, .inl t_text))]
theorem iX12_face_X12 : ∀ w ∈ wsX120, w ∈ wsX12_face := fun _ h => List.mem_cons_of_mem _ (List.mem_append_right _ h)
abbrev rm_X12_face : Room := { frames := 4, cells := 0, slots := 0, locals := 87 }
set_option maxRecDepth 100000 in
def f_X12_face_69 (N : Nat) (t_s : Nat → Int32) (t_names : Nat → Int64) (x1 : Int32) (x2 : Int32) (c_t_thrown : Int32) (c_t_textMany : Int32) (c_t_text : Nat → Int32) : Option (Int32 × Int32 × Int32 × (Nat → Int32)) := zcl (f_X12_lays N (48 + (zrem (x2 / 60) 10)) c_t_textMany c_t_text) fun z80 => zcl (f_X12_lays N 46 z80.1 z80.2) fun z86 => zcl (f_X12_lays N (48 + ((zrem x2 60) / 10)) z86.1 z86.2) fun z100 => zcl (f_X12_lays N (48 + (zrem (zrem x2 60) 10)) z100.1 z100.2) fun z114 => zcl (f_X12_isStopped N x1 t_s) fun z119 => if z119 = 0 then (some (z114.1, c_t_thrown, z114.1, z114.2)) else (zcl (f_X12_says N 32497644298331492 z114.1 z114.2) fun z129 => some (z129.1, c_t_thrown, z129.1, z129.2))
set_option maxRecDepth 100000 in
def f_X12_face (N : Nat) (x0 : Int32) (t_thrown : Int32) (t_textMany : Int32) (t_s : Nat → Int32) (t_names : Nat → Int64) (t_text : Nat → Int32) : Option (Int32 × Int32 × Int32 × (Nat → Int32)) := zcl (f_X12_isClock N x0 t_s) fun z7 => if z7 = 0 then (some ((-1), 0, t_textMany, t_text)) else (zck (zin x0 36) <| zcl (f_X12_spells N (t_names (Int32.toNatClampNeg x0)) 0 t_text) fun z27 => zcl (f_X12_says N 495673374579 z27.1 z27.2) fun z34 => zcl (f_X12_lays N 32 z34.1 z34.2) fun z40 => zcl (f_X12_showsAt N x0 (t_s 52) t_s) fun z52 => if z52 < 600 then (f_X12_face_69 N t_s t_names x0 z52 0 z40.1 z40.2) else (zcl (f_X12_lays N 49 z40.1 z40.2) fun z66 => f_X12_face_69 N t_s t_names x0 z52 0 z66.1 z66.2))
set_option maxHeartbeats 4000000 in
set_option maxRecDepth 100000 in
theorem w_X12_face_69 {p : Program} {l : Launch} {e : Env} {s : State} {m : MethodId} {args : Array Value} {below : List Frame} {meth : Method} {c : Code} {G : va_G} {cy : Nat → ClassId} {E : Nat → Nat} {w0 : va_W} {N : Nat} {q_t q_t_tape q_t_s q_t_h q_t_read q_t_names q_t_reserved q_t_undone q_t_before q_t_comeRow q_t_shown q_t_text q_t_toldAt q_t_stack q_t_truths q_t_imaged q_t_namesKept q_t_areKept : Nat} {t_length : Int32} {t_size : Int32} {t_p : Int32} {t_limit : Int32} {t_token : Int32} {t_at : Int32} {t_span : Int32} {t_number : Int32} {t_fault : Int32} {t_faultAt : Int32} {t_word : Int64} {t_got : Int32} {t_lines : Int32} {t_hasWait : Int32} {t_undoMany : Int32} {t_firstMinute : Int32} {t_lookClock : Int32} {t_hasTime : Int32} {t_latestMost : Int32} {t_seed : Int32} {t_toldMany : Int32} {t_hasTold : Int32} {t_codes : Int32} {t_ones : Int32} {t_top : Int32} {t_deep : Int32} {t_isWhole : Int32} {t_s : Nat → Int32} {t_names : Nat → Int64} {r : Int32} {r_t_thrown : Int32} {r_t_textMany : Int32} {r_t_text : Nat → Int32} (S : CallFix p m c cX12_face 3 s args wsX12_face RX12) (hr : meth.sig.returnType = some .int) (hlocks : meth.locks = false) (hF : zF G cy E (va_A w0 s.heap.size) s) :
    ∀ (x1 : Int32) (x2 : Int32) (c_t_thrown : Int32) (c_t_textMany : Int32) (c_t_text : Nat → Int32) (H : Heap) (locs : List Loc) (ls : Array Slot), zH G (va_A w0 s.heap.size) s H locs (wd_X12_face cy q_t q_t_tape q_t_s q_t_h q_t_read q_t_names q_t_reserved q_t_undone q_t_before q_t_comeRow q_t_shown q_t_text q_t_toldAt q_t_stack q_t_truths q_t_imaged q_t_namesKept q_t_areKept c_t_thrown t_length t_size t_p t_limit t_token t_at t_span t_number t_fault t_faultAt t_word t_got t_lines t_hasWait t_undoMany t_firstMinute t_lookClock t_hasTime t_latestMost c_t_textMany t_seed t_toldMany t_hasTold t_codes t_ones t_top t_deep t_isWhole t_s t_names c_t_text) → lv_has ls 3 [(0, .ref q_t), (1, .int x1), (2, .int x2)] → f_X12_face_69 N t_s t_names x1 x2 c_t_thrown c_t_textMany c_t_text = some (r, r_t_thrown, r_t_textMany, r_t_text) → W p l e rm_X12_face s m args below meth c H locs 0 0 (MQ below (zQ G w0 (wd_X12_face cy q_t q_t_tape q_t_s q_t_h q_t_read q_t_names q_t_reserved q_t_undone q_t_before q_t_comeRow q_t_shown q_t_text q_t_toldAt q_t_stack q_t_truths q_t_imaged q_t_namesKept q_t_areKept r_t_thrown t_length t_size t_p t_limit t_token t_at t_span t_number t_fault t_faultAt t_word t_got t_lines t_hasWait t_undoMany t_firstMinute t_lookClock t_hasTime t_latestMost r_t_textMany t_seed t_toldMany t_hasTold t_codes t_ones t_top t_deep t_isWhole t_s t_names r_t_text) s.heap.size (some (.int r))) args s 0 0 (va_A w0 s.heap.size)) (F0 m 69 ls []) := by
  obtain ⟨hx, hb, hml, hown, hts⟩ := id S
  intro x1 x2 c_t_thrown c_t_textMany c_t_text H locs ls hH hl h
  rw [f_X12_face_69] at h
  refine lv_aload_n hx hb dX12_face_69 rfl (lv_at hl 0 rfl) ?_
  refine lv_bipush (v := 48) hx hb dX12_face_70 (by decide) ?_
  refine lv_iload_n hx hb dX12_face_72 rfl (lv_at hl 2 rfl) ?_
  refine lv_bipush (v := 60) hx hb dX12_face_73 (by decide) ?_
  refine lv_idiv hx hb dX12_face_75 (by decide) ?_
  refine lv_bipush (v := 10) hx hb dX12_face_76 (by decide) ?_
  refine z_irem hx hb dX12_face_78 (by decide) ?_
  refine lv_iadd hx hb dX12_face_79 ?_
  obtain ⟨z80, hz80, h⟩ := zcl_e h
  refine z_callV (As := [.int (48 + (zrem (x2 / 60) 10))]) (rest := []) (st1 := []) (ws' := (wd_X12_face cy q_t q_t_tape q_t_s q_t_h q_t_read q_t_names q_t_reserved q_t_undone q_t_before q_t_comeRow q_t_shown q_t_text q_t_toldAt q_t_stack q_t_truths q_t_imaged q_t_namesKept q_t_areKept c_t_thrown t_length t_size t_p t_limit t_token t_at t_span t_number t_fault t_faultAt t_word t_got t_lines t_hasWait t_undoMany t_firstMinute t_lookClock t_hasTime t_latestMost z80.1 t_seed t_toldMany t_hasTold t_codes t_ones t_top t_deep t_isWhole t_s t_names z80.2)) S hF hH (c_X12_lays l G cy E N q_t q_t_tape q_t_s q_t_h q_t_read q_t_names q_t_reserved q_t_undone q_t_before q_t_comeRow q_t_shown q_t_text q_t_toldAt q_t_stack q_t_truths q_t_imaged q_t_namesKept q_t_areKept c_t_thrown t_length t_size t_p t_limit t_token t_at t_span t_number t_fault t_faultAt t_word t_got t_lines t_hasWait t_undoMany t_firstMinute t_lookClock t_hasTime t_latestMost c_t_textMany t_seed t_toldMany t_hasTold t_codes t_ones t_top t_deep t_isWhole c_t_text (48 + (zrem (x2 / 60) 10)) z80.1 z80.2 hz80) (cwV 1 hts gX12_face_X12_lays rfl rfl rfl (by decide +kernel) ⟨Nat.le_of_ble_eq_true rfl, Nat.le_of_ble_eq_true rfl⟩) 13 0 rfl rfl [0, 3] rfl (by decide) rfl rfl rfl rfl rfl hl.1 (Nat.le_of_ble_eq_true rfl) dX12_face_80 ⟨Nat.le_of_ble_eq_true rfl, Nat.le_of_ble_eq_true rfl⟩ (fun H locs hH => ?_)
  refine lv_aload_n hx hb dX12_face_83 rfl (lv_at hl 0 rfl) ?_
  refine lv_bipush (v := 46) hx hb dX12_face_84 (by decide) ?_
  obtain ⟨z86, hz86, h⟩ := zcl_e h
  refine z_callV (As := [.int 46]) (rest := []) (st1 := []) (ws' := (wd_X12_face cy q_t q_t_tape q_t_s q_t_h q_t_read q_t_names q_t_reserved q_t_undone q_t_before q_t_comeRow q_t_shown q_t_text q_t_toldAt q_t_stack q_t_truths q_t_imaged q_t_namesKept q_t_areKept c_t_thrown t_length t_size t_p t_limit t_token t_at t_span t_number t_fault t_faultAt t_word t_got t_lines t_hasWait t_undoMany t_firstMinute t_lookClock t_hasTime t_latestMost z86.1 t_seed t_toldMany t_hasTold t_codes t_ones t_top t_deep t_isWhole t_s t_names z86.2)) S hF hH (c_X12_lays l G cy E N q_t q_t_tape q_t_s q_t_h q_t_read q_t_names q_t_reserved q_t_undone q_t_before q_t_comeRow q_t_shown q_t_text q_t_toldAt q_t_stack q_t_truths q_t_imaged q_t_namesKept q_t_areKept c_t_thrown t_length t_size t_p t_limit t_token t_at t_span t_number t_fault t_faultAt t_word t_got t_lines t_hasWait t_undoMany t_firstMinute t_lookClock t_hasTime t_latestMost z80.1 t_seed t_toldMany t_hasTold t_codes t_ones t_top t_deep t_isWhole z80.2 46 z86.1 z86.2 hz86) (cwV 1 hts gX12_face_X12_lays rfl rfl rfl (by decide +kernel) ⟨Nat.le_of_ble_eq_true rfl, Nat.le_of_ble_eq_true rfl⟩) 13 0 rfl rfl [0, 3] rfl (by decide) rfl rfl rfl rfl rfl hl.1 (Nat.le_of_ble_eq_true rfl) dX12_face_86 ⟨Nat.le_of_ble_eq_true rfl, Nat.le_of_ble_eq_true rfl⟩ (fun H locs hH => ?_)
  refine lv_aload_n hx hb dX12_face_89 rfl (lv_at hl 0 rfl) ?_
  refine lv_bipush (v := 48) hx hb dX12_face_90 (by decide) ?_
  refine lv_iload_n hx hb dX12_face_92 rfl (lv_at hl 2 rfl) ?_
  refine lv_bipush (v := 60) hx hb dX12_face_93 (by decide) ?_
  refine z_irem hx hb dX12_face_95 (by decide) ?_
  refine lv_bipush (v := 10) hx hb dX12_face_96 (by decide) ?_
  refine lv_idiv hx hb dX12_face_98 (by decide) ?_
  refine lv_iadd hx hb dX12_face_99 ?_
  obtain ⟨z100, hz100, h⟩ := zcl_e h
  refine z_callV (As := [.int (48 + ((zrem x2 60) / 10))]) (rest := []) (st1 := []) (ws' := (wd_X12_face cy q_t q_t_tape q_t_s q_t_h q_t_read q_t_names q_t_reserved q_t_undone q_t_before q_t_comeRow q_t_shown q_t_text q_t_toldAt q_t_stack q_t_truths q_t_imaged q_t_namesKept q_t_areKept c_t_thrown t_length t_size t_p t_limit t_token t_at t_span t_number t_fault t_faultAt t_word t_got t_lines t_hasWait t_undoMany t_firstMinute t_lookClock t_hasTime t_latestMost z100.1 t_seed t_toldMany t_hasTold t_codes t_ones t_top t_deep t_isWhole t_s t_names z100.2)) S hF hH (c_X12_lays l G cy E N q_t q_t_tape q_t_s q_t_h q_t_read q_t_names q_t_reserved q_t_undone q_t_before q_t_comeRow q_t_shown q_t_text q_t_toldAt q_t_stack q_t_truths q_t_imaged q_t_namesKept q_t_areKept c_t_thrown t_length t_size t_p t_limit t_token t_at t_span t_number t_fault t_faultAt t_word t_got t_lines t_hasWait t_undoMany t_firstMinute t_lookClock t_hasTime t_latestMost z86.1 t_seed t_toldMany t_hasTold t_codes t_ones t_top t_deep t_isWhole z86.2 (48 + ((zrem x2 60) / 10)) z100.1 z100.2 hz100) (cwV 1 hts gX12_face_X12_lays rfl rfl rfl (by decide +kernel) ⟨Nat.le_of_ble_eq_true rfl, Nat.le_of_ble_eq_true rfl⟩) 13 0 rfl rfl [0, 3] rfl (by decide) rfl rfl rfl rfl rfl hl.1 (Nat.le_of_ble_eq_true rfl) dX12_face_100 ⟨Nat.le_of_ble_eq_true rfl, Nat.le_of_ble_eq_true rfl⟩ (fun H locs hH => ?_)
  refine lv_aload_n hx hb dX12_face_103 rfl (lv_at hl 0 rfl) ?_
  refine lv_bipush (v := 48) hx hb dX12_face_104 (by decide) ?_
  refine lv_iload_n hx hb dX12_face_106 rfl (lv_at hl 2 rfl) ?_
  refine lv_bipush (v := 60) hx hb dX12_face_107 (by decide) ?_
  refine z_irem hx hb dX12_face_109 (by decide) ?_
  refine lv_bipush (v := 10) hx hb dX12_face_110 (by decide) ?_
  refine z_irem hx hb dX12_face_112 (by decide) ?_
  refine lv_iadd hx hb dX12_face_113 ?_
  obtain ⟨z114, hz114, h⟩ := zcl_e h
  refine z_callV (As := [.int (48 + (zrem (zrem x2 60) 10))]) (rest := []) (st1 := []) (ws' := (wd_X12_face cy q_t q_t_tape q_t_s q_t_h q_t_read q_t_names q_t_reserved q_t_undone q_t_before q_t_comeRow q_t_shown q_t_text q_t_toldAt q_t_stack q_t_truths q_t_imaged q_t_namesKept q_t_areKept c_t_thrown t_length t_size t_p t_limit t_token t_at t_span t_number t_fault t_faultAt t_word t_got t_lines t_hasWait t_undoMany t_firstMinute t_lookClock t_hasTime t_latestMost z114.1 t_seed t_toldMany t_hasTold t_codes t_ones t_top t_deep t_isWhole t_s t_names z114.2)) S hF hH (c_X12_lays l G cy E N q_t q_t_tape q_t_s q_t_h q_t_read q_t_names q_t_reserved q_t_undone q_t_before q_t_comeRow q_t_shown q_t_text q_t_toldAt q_t_stack q_t_truths q_t_imaged q_t_namesKept q_t_areKept c_t_thrown t_length t_size t_p t_limit t_token t_at t_span t_number t_fault t_faultAt t_word t_got t_lines t_hasWait t_undoMany t_firstMinute t_lookClock t_hasTime t_latestMost z100.1 t_seed t_toldMany t_hasTold t_codes t_ones t_top t_deep t_isWhole z100.2 (48 + (zrem (zrem x2 60) 10)) z114.1 z114.2 hz114) (cwV 1 hts gX12_face_X12_lays rfl rfl rfl (by decide +kernel) ⟨Nat.le_of_ble_eq_true rfl, Nat.le_of_ble_eq_true rfl⟩) 13 0 rfl rfl [0, 3] rfl (by decide) rfl rfl rfl rfl rfl hl.1 (Nat.le_of_ble_eq_true rfl) dX12_face_114 ⟨Nat.le_of_ble_eq_true rfl, Nat.le_of_ble_eq_true rfl⟩ (fun H locs hH => ?_)
  refine lv_aload_n hx hb dX12_face_117 rfl (lv_at hl 0 rfl) ?_
  refine lv_iload_n hx hb dX12_face_118 rfl (lv_at hl 1 rfl) ?_
  obtain ⟨z119, hz119, h⟩ := zcl_e h
  refine z_callV (As := [.int x1]) (rest := []) (st1 := [.int z119]) (ws' := (wd_X12_face cy q_t q_t_tape q_t_s q_t_h q_t_read q_t_names q_t_reserved q_t_undone q_t_before q_t_comeRow q_t_shown q_t_text q_t_toldAt q_t_stack q_t_truths q_t_imaged q_t_namesKept q_t_areKept c_t_thrown t_length t_size t_p t_limit t_token t_at t_span t_number t_fault t_faultAt t_word t_got t_lines t_hasWait t_undoMany t_firstMinute t_lookClock t_hasTime t_latestMost z114.1 t_seed t_toldMany t_hasTold t_codes t_ones t_top t_deep t_isWhole t_s t_names z114.2)) S hF hH (c_X12_isStopped l G cy E N q_t q_t_tape q_t_s q_t_h q_t_read q_t_names q_t_reserved q_t_undone q_t_before q_t_comeRow q_t_shown q_t_text q_t_toldAt q_t_stack q_t_truths q_t_imaged q_t_namesKept q_t_areKept c_t_thrown t_length t_size t_p t_limit t_token t_at t_span t_number t_fault t_faultAt t_word t_got t_lines t_hasWait t_undoMany t_firstMinute t_lookClock t_hasTime t_latestMost z114.1 t_seed t_toldMany t_hasTold t_codes t_ones t_top t_deep t_isWhole t_s x1 z119 hz119) (cwV 1 hts gX12_face_X12_isStopped rfl rfl rfl (by decide +kernel) ⟨Nat.le_of_ble_eq_true rfl, Nat.le_of_ble_eq_true rfl⟩) 13 0 rfl rfl [0, 1] rfl (by decide) rfl rfl rfl rfl rfl hl.1 (Nat.le_of_ble_eq_true rfl) dX12_face_119 ⟨Nat.le_of_ble_eq_true rfl, Nat.le_of_ble_eq_true rfl⟩ (fun H locs hH => ?_)
  refine lv_if_eq (tgt := 132) hx hb dX12_face_122 (by decide) (fun b122 => ?_) (fun b122 => ?_)
  · replace h := zif_t b122 h
    refine lv_aload_n hx hb dX12_face_132 rfl (lv_at hl 0 rfl) ?_
    refine z_get S hF hH iX12_face_X12 0 rfl rfl 31 (by decide) (List.mem_of_getElem? (i := 2) rfl) rfl dX12_face_133 ?_
    cases h
    exact z_iret S hr hlocks hH dX12_face_136
  · replace h := zif_f b122 h
    refine lv_aload_n hx hb dX12_face_125 rfl (lv_at hl 0 rfl) ?_
    refine lv_ldc2 (v := 32497644298331492) hx hb hown (hts _ (List.mem_of_getElem? (i := 6) rfl)) dX12_face_126 ?_
    obtain ⟨z129, hz129, h⟩ := zcl_e h
    refine z_callV (As := [.long 32497644298331492]) (rest := []) (st1 := []) (ws' := (wd_X12_face cy q_t q_t_tape q_t_s q_t_h q_t_read q_t_names q_t_reserved q_t_undone q_t_before q_t_comeRow q_t_shown q_t_text q_t_toldAt q_t_stack q_t_truths q_t_imaged q_t_namesKept q_t_areKept c_t_thrown t_length t_size t_p t_limit t_token t_at t_span t_number t_fault t_faultAt t_word t_got t_lines t_hasWait t_undoMany t_firstMinute t_lookClock t_hasTime t_latestMost z129.1 t_seed t_toldMany t_hasTold t_codes t_ones t_top t_deep t_isWhole t_s t_names z129.2)) S hF hH (c_X12_says l G cy E N q_t q_t_tape q_t_s q_t_h q_t_read q_t_names q_t_reserved q_t_undone q_t_before q_t_comeRow q_t_shown q_t_text q_t_toldAt q_t_stack q_t_truths q_t_imaged q_t_namesKept q_t_areKept c_t_thrown t_length t_size t_p t_limit t_token t_at t_span t_number t_fault t_faultAt t_word t_got t_lines t_hasWait t_undoMany t_firstMinute t_lookClock t_hasTime t_latestMost z114.1 t_seed t_toldMany t_hasTold t_codes t_ones t_top t_deep t_isWhole z114.2 32497644298331492 z129.1 z129.2 hz129) (cwV 1 hts gX12_face_X12_says rfl rfl rfl (by decide +kernel) ⟨Nat.le_of_ble_eq_true rfl, Nat.le_of_ble_eq_true rfl⟩) 13 0 rfl rfl [0, 3] rfl (by decide) rfl rfl rfl rfl rfl hl.1 (Nat.le_of_ble_eq_true rfl) dX12_face_129 ⟨Nat.le_of_ble_eq_true rfl, Nat.le_of_ble_eq_true rfl⟩ (fun H locs hH => ?_)
    refine lv_aload_n hx hb dX12_face_132 rfl (lv_at hl 0 rfl) ?_
    refine z_get S hF hH iX12_face_X12 0 rfl rfl 31 (by decide) (List.mem_of_getElem? (i := 2) rfl) rfl dX12_face_133 ?_
    cases h
    exact z_iret S hr hlocks hH dX12_face_136
set_option maxHeartbeats 4000000 in
set_option maxRecDepth 100000 in
theorem c_X12_face (l : Launch) (G : va_G) (cy : Nat → ClassId) (E : Nat → Nat) (N : Nat) (q_t q_t_tape q_t_s q_t_h q_t_read q_t_names q_t_reserved q_t_undone q_t_before q_t_comeRow q_t_shown q_t_text q_t_toldAt q_t_stack q_t_truths q_t_imaged q_t_namesKept q_t_areKept : Nat) (t_thrown : Int32) (t_length : Int32) (t_size : Int32) (t_p : Int32) (t_limit : Int32) (t_token : Int32) (t_at : Int32) (t_span : Int32) (t_number : Int32) (t_fault : Int32) (t_faultAt : Int32) (t_word : Int64) (t_got : Int32) (t_lines : Int32) (t_hasWait : Int32) (t_undoMany : Int32) (t_firstMinute : Int32) (t_lookClock : Int32) (t_hasTime : Int32) (t_latestMost : Int32) (t_textMany : Int32) (t_seed : Int32) (t_toldMany : Int32) (t_hasTold : Int32) (t_codes : Int32) (t_ones : Int32) (t_top : Int32) (t_deep : Int32) (t_isWhole : Int32) (t_s : Nat → Int32) (t_names : Nat → Int64) (t_text : Nat → Int32) (x0 : Int32) (r : Int32) (r_t_thrown : Int32) (r_t_textMany : Int32) (r_t_text : Nat → Int32) (h : f_X12_face N x0 t_thrown t_textMany t_s t_names t_text = some (r, r_t_thrown, r_t_textMany, r_t_text)) : zM l G cy E yX12_face wsX12_face rm_X12_face [.ref q_t, .int x0] (wd_X12_face cy q_t q_t_tape q_t_s q_t_h q_t_read q_t_names q_t_reserved q_t_undone q_t_before q_t_comeRow q_t_shown q_t_text q_t_toldAt q_t_stack q_t_truths q_t_imaged q_t_namesKept q_t_areKept t_thrown t_length t_size t_p t_limit t_token t_at t_span t_number t_fault t_faultAt t_word t_got t_lines t_hasWait t_undoMany t_firstMinute t_lookClock t_hasTime t_latestMost t_textMany t_seed t_toldMany t_hasTold t_codes t_ones t_top t_deep t_isWhole t_s t_names t_text) (wd_X12_face cy q_t q_t_tape q_t_s q_t_h q_t_read q_t_names q_t_reserved q_t_undone q_t_before q_t_comeRow q_t_shown q_t_text q_t_toldAt q_t_stack q_t_truths q_t_imaged q_t_namesKept q_t_areKept r_t_thrown t_length t_size t_p t_limit t_token t_at t_span t_number t_fault t_faultAt t_word t_got t_lines t_hasWait t_undoMany t_firstMinute t_lookClock t_hasTime t_latestMost r_t_textMany t_seed t_toldMany t_hasTold t_codes t_ones t_top t_deep t_isWhole t_s t_names r_t_text) (some (.int r)) 0 0 := by
  refine z_body (cc := cX12_face) (maxL := 3) (ret := some .int) (by decide) rfl (Nat.le_of_ble_eq_true rfl) ?_
  intro p e s m below meth c ls S hr hlocks hnm hF hH hl
  have S : CallFix p m c cX12_face 3 s ([.ref q_t, .int x0] : List Value).toArray wsX12_face RX12 := S
  obtain ⟨hx, hb, hml, hown, hts⟩ := id S
  have hl : lv_has ls 3 [(0, .ref q_t), (1, .int x0)] := hl
  rw [f_X12_face] at h
  refine lv_aload_n hx hb dX12_face_0 rfl (lv_at hl 0 rfl) ?_
  refine lv_iconst (v := 0) hx hb dX12_face_1 (by decide) ?_
  refine z_put (ws' := (wd_X12_face cy q_t q_t_tape q_t_s q_t_h q_t_read q_t_names q_t_reserved q_t_undone q_t_before q_t_comeRow q_t_shown q_t_text q_t_toldAt q_t_stack q_t_truths q_t_imaged q_t_namesKept q_t_areKept 0 t_length t_size t_p t_limit t_token t_at t_span t_number t_fault t_faultAt t_word t_got t_lines t_hasWait t_undoMany t_firstMinute t_lookClock t_hasTime t_latestMost t_textMany t_seed t_toldMany t_hasTold t_codes t_ones t_top t_deep t_isWhole t_s t_names t_text)) S hF hH iX12_face_X12 tyX12 tyX12_ok nmX12 0 rfl rfl 0 (by decide) (List.mem_of_getElem? (i := 1) rfl) rfl rfl rfl (Nat.le_of_ble_eq_true rfl) rfl dX12_face_2 (fun H locs hH => ?_)
  refine lv_aload_n hx hb dX12_face_5 rfl (lv_at hl 0 rfl) ?_
  refine lv_iload_n hx hb dX12_face_6 rfl (lv_at hl 1 rfl) ?_
  obtain ⟨z7, hz7, h⟩ := zcl_e h
  refine z_callV (As := [.int x0]) (rest := []) (st1 := [.int z7]) (ws' := (wd_X12_face cy q_t q_t_tape q_t_s q_t_h q_t_read q_t_names q_t_reserved q_t_undone q_t_before q_t_comeRow q_t_shown q_t_text q_t_toldAt q_t_stack q_t_truths q_t_imaged q_t_namesKept q_t_areKept 0 t_length t_size t_p t_limit t_token t_at t_span t_number t_fault t_faultAt t_word t_got t_lines t_hasWait t_undoMany t_firstMinute t_lookClock t_hasTime t_latestMost t_textMany t_seed t_toldMany t_hasTold t_codes t_ones t_top t_deep t_isWhole t_s t_names t_text)) S hF hH (c_X12_isClock l G cy E N q_t q_t_tape q_t_s q_t_h q_t_read q_t_names q_t_reserved q_t_undone q_t_before q_t_comeRow q_t_shown q_t_text q_t_toldAt q_t_stack q_t_truths q_t_imaged q_t_namesKept q_t_areKept 0 t_length t_size t_p t_limit t_token t_at t_span t_number t_fault t_faultAt t_word t_got t_lines t_hasWait t_undoMany t_firstMinute t_lookClock t_hasTime t_latestMost t_textMany t_seed t_toldMany t_hasTold t_codes t_ones t_top t_deep t_isWhole t_s x0 z7 hz7) (cwV 1 hts gX12_face_X12_isClock rfl rfl rfl (by decide +kernel) ⟨Nat.le_of_ble_eq_true rfl, Nat.le_of_ble_eq_true rfl⟩) 13 0 rfl rfl [0, 1] rfl (by decide) rfl rfl rfl rfl rfl hl.1 (Nat.le_of_ble_eq_true rfl) dX12_face_7 ⟨Nat.le_of_ble_eq_true rfl, Nat.le_of_ble_eq_true rfl⟩ (fun H locs hH => ?_)
  refine lv_if_ne (tgt := 15) hx hb dX12_face_10 (by decide) (fun b10 => ?_) (fun b10 => ?_)
  · replace h := zif_f b10 h
    refine lv_aload_n hx hb dX12_face_15 rfl (lv_at hl 0 rfl) ?_
    refine lv_iconst (v := 0) hx hb dX12_face_16 (by decide) ?_
    refine z_put (ws' := (wd_X12_face cy q_t q_t_tape q_t_s q_t_h q_t_read q_t_names q_t_reserved q_t_undone q_t_before q_t_comeRow q_t_shown q_t_text q_t_toldAt q_t_stack q_t_truths q_t_imaged q_t_namesKept q_t_areKept 0 t_length t_size t_p t_limit t_token t_at t_span t_number t_fault t_faultAt t_word t_got t_lines t_hasWait t_undoMany t_firstMinute t_lookClock t_hasTime t_latestMost 0 t_seed t_toldMany t_hasTold t_codes t_ones t_top t_deep t_isWhole t_s t_names t_text)) S hF hH iX12_face_X12 tyX12 tyX12_ok nmX12 0 rfl rfl 31 (by decide) (List.mem_of_getElem? (i := 2) rfl) rfl rfl rfl (Nat.le_of_ble_eq_true rfl) rfl dX12_face_17 (fun H locs hH => ?_)
    refine lv_aload_n hx hb dX12_face_20 rfl (lv_at hl 0 rfl) ?_
    refine lv_aload_n hx hb dX12_face_21 rfl (lv_at hl 0 rfl) ?_
    refine z_get S hF hH iX12_face_X12 0 rfl rfl 9 (by decide) (List.mem_of_getElem? (i := 3) rfl) rfl dX12_face_22 ?_
    refine lv_iload_n hx hb dX12_face_25 rfl (lv_at hl 1 rfl) ?_
    obtain ⟨h26, h⟩ := zck_e h
    refine z_lald S hF hH 2 rfl h26 rfl dX12_face_26 ?_
    obtain ⟨z27, hz27, h⟩ := zcl_e h
    refine z_callV (As := [.long (t_names (Int32.toNatClampNeg x0))]) (rest := []) (st1 := []) (ws' := (wd_X12_face cy q_t q_t_tape q_t_s q_t_h q_t_read q_t_names q_t_reserved q_t_undone q_t_before q_t_comeRow q_t_shown q_t_text q_t_toldAt q_t_stack q_t_truths q_t_imaged q_t_namesKept q_t_areKept 0 t_length t_size t_p t_limit t_token t_at t_span t_number t_fault t_faultAt t_word t_got t_lines t_hasWait t_undoMany t_firstMinute t_lookClock t_hasTime t_latestMost z27.1 t_seed t_toldMany t_hasTold t_codes t_ones t_top t_deep t_isWhole t_s t_names z27.2)) S hF hH (c_X12_spells l G cy E N q_t q_t_tape q_t_s q_t_h q_t_read q_t_names q_t_reserved q_t_undone q_t_before q_t_comeRow q_t_shown q_t_text q_t_toldAt q_t_stack q_t_truths q_t_imaged q_t_namesKept q_t_areKept 0 t_length t_size t_p t_limit t_token t_at t_span t_number t_fault t_faultAt t_word t_got t_lines t_hasWait t_undoMany t_firstMinute t_lookClock t_hasTime t_latestMost 0 t_seed t_toldMany t_hasTold t_codes t_ones t_top t_deep t_isWhole t_text (t_names (Int32.toNatClampNeg x0)) z27.1 z27.2 hz27) (cwV 1 hts gX12_face_X12_spells rfl rfl rfl (by decide +kernel) ⟨Nat.le_of_ble_eq_true rfl, Nat.le_of_ble_eq_true rfl⟩) 13 0 rfl rfl [0, 3] rfl (by decide) rfl rfl rfl rfl rfl hl.1 (Nat.le_of_ble_eq_true rfl) dX12_face_27 ⟨Nat.le_of_ble_eq_true rfl, Nat.le_of_ble_eq_true rfl⟩ (fun H locs hH => ?_)
    refine lv_aload_n hx hb dX12_face_30 rfl (lv_at hl 0 rfl) ?_
    refine lv_ldc2 (v := 495673374579) hx hb hown (hts _ (List.mem_of_getElem? (i := 4) rfl)) dX12_face_31 ?_
    obtain ⟨z34, hz34, h⟩ := zcl_e h
    refine z_callV (As := [.long 495673374579]) (rest := []) (st1 := []) (ws' := (wd_X12_face cy q_t q_t_tape q_t_s q_t_h q_t_read q_t_names q_t_reserved q_t_undone q_t_before q_t_comeRow q_t_shown q_t_text q_t_toldAt q_t_stack q_t_truths q_t_imaged q_t_namesKept q_t_areKept 0 t_length t_size t_p t_limit t_token t_at t_span t_number t_fault t_faultAt t_word t_got t_lines t_hasWait t_undoMany t_firstMinute t_lookClock t_hasTime t_latestMost z34.1 t_seed t_toldMany t_hasTold t_codes t_ones t_top t_deep t_isWhole t_s t_names z34.2)) S hF hH (c_X12_says l G cy E N q_t q_t_tape q_t_s q_t_h q_t_read q_t_names q_t_reserved q_t_undone q_t_before q_t_comeRow q_t_shown q_t_text q_t_toldAt q_t_stack q_t_truths q_t_imaged q_t_namesKept q_t_areKept 0 t_length t_size t_p t_limit t_token t_at t_span t_number t_fault t_faultAt t_word t_got t_lines t_hasWait t_undoMany t_firstMinute t_lookClock t_hasTime t_latestMost z27.1 t_seed t_toldMany t_hasTold t_codes t_ones t_top t_deep t_isWhole z27.2 495673374579 z34.1 z34.2 hz34) (cwV 1 hts gX12_face_X12_says rfl rfl rfl (by decide +kernel) ⟨Nat.le_of_ble_eq_true rfl, Nat.le_of_ble_eq_true rfl⟩) 13 0 rfl rfl [0, 3] rfl (by decide) rfl rfl rfl rfl rfl hl.1 (Nat.le_of_ble_eq_true rfl) dX12_face_34 ⟨Nat.le_of_ble_eq_true rfl, Nat.le_of_ble_eq_true rfl⟩ (fun H locs hH => ?_)
    refine lv_aload_n hx hb dX12_face_37 rfl (lv_at hl 0 rfl) ?_
    refine lv_bipush (v := 32) hx hb dX12_face_38 (by decide) ?_
    obtain ⟨z40, hz40, h⟩ := zcl_e h
    refine z_callV (As := [.int 32]) (rest := []) (st1 := []) (ws' := (wd_X12_face cy q_t q_t_tape q_t_s q_t_h q_t_read q_t_names q_t_reserved q_t_undone q_t_before q_t_comeRow q_t_shown q_t_text q_t_toldAt q_t_stack q_t_truths q_t_imaged q_t_namesKept q_t_areKept 0 t_length t_size t_p t_limit t_token t_at t_span t_number t_fault t_faultAt t_word t_got t_lines t_hasWait t_undoMany t_firstMinute t_lookClock t_hasTime t_latestMost z40.1 t_seed t_toldMany t_hasTold t_codes t_ones t_top t_deep t_isWhole t_s t_names z40.2)) S hF hH (c_X12_lays l G cy E N q_t q_t_tape q_t_s q_t_h q_t_read q_t_names q_t_reserved q_t_undone q_t_before q_t_comeRow q_t_shown q_t_text q_t_toldAt q_t_stack q_t_truths q_t_imaged q_t_namesKept q_t_areKept 0 t_length t_size t_p t_limit t_token t_at t_span t_number t_fault t_faultAt t_word t_got t_lines t_hasWait t_undoMany t_firstMinute t_lookClock t_hasTime t_latestMost z34.1 t_seed t_toldMany t_hasTold t_codes t_ones t_top t_deep t_isWhole z34.2 32 z40.1 z40.2 hz40) (cwV 1 hts gX12_face_X12_lays rfl rfl rfl (by decide +kernel) ⟨Nat.le_of_ble_eq_true rfl, Nat.le_of_ble_eq_true rfl⟩) 13 0 rfl rfl [0, 3] rfl (by decide) rfl rfl rfl rfl rfl hl.1 (Nat.le_of_ble_eq_true rfl) dX12_face_40 ⟨Nat.le_of_ble_eq_true rfl, Nat.le_of_ble_eq_true rfl⟩ (fun H locs hH => ?_)
    refine lv_aload_n hx hb dX12_face_43 rfl (lv_at hl 0 rfl) ?_
    refine lv_iload_n hx hb dX12_face_44 rfl (lv_at hl 1 rfl) ?_
    refine lv_aload_n hx hb dX12_face_45 rfl (lv_at hl 0 rfl) ?_
    refine z_get S hF hH iX12_face_X12 0 rfl rfl 6 (by decide) (List.mem_of_getElem? (i := 5) rfl) rfl dX12_face_46 ?_
    refine lv_bipush (v := 52) hx hb dX12_face_49 (by decide) ?_
    refine z_iald (j := 52) S hF hH 1 rfl (by decide) rfl dX12_face_51 ?_
    obtain ⟨z52, hz52, h⟩ := zcl_e h
    refine z_callV (As := [.int x0, .int (t_s 52)]) (rest := []) (st1 := [.int z52]) (ws' := (wd_X12_face cy q_t q_t_tape q_t_s q_t_h q_t_read q_t_names q_t_reserved q_t_undone q_t_before q_t_comeRow q_t_shown q_t_text q_t_toldAt q_t_stack q_t_truths q_t_imaged q_t_namesKept q_t_areKept 0 t_length t_size t_p t_limit t_token t_at t_span t_number t_fault t_faultAt t_word t_got t_lines t_hasWait t_undoMany t_firstMinute t_lookClock t_hasTime t_latestMost z40.1 t_seed t_toldMany t_hasTold t_codes t_ones t_top t_deep t_isWhole t_s t_names z40.2)) S hF hH (c_X12_showsAt l G cy E N q_t q_t_tape q_t_s q_t_h q_t_read q_t_names q_t_reserved q_t_undone q_t_before q_t_comeRow q_t_shown q_t_text q_t_toldAt q_t_stack q_t_truths q_t_imaged q_t_namesKept q_t_areKept 0 t_length t_size t_p t_limit t_token t_at t_span t_number t_fault t_faultAt t_word t_got t_lines t_hasWait t_undoMany t_firstMinute t_lookClock t_hasTime t_latestMost z40.1 t_seed t_toldMany t_hasTold t_codes t_ones t_top t_deep t_isWhole t_s x0 (t_s 52) z52 hz52) (cwV 2 hts gX12_face_X12_showsAt rfl rfl rfl (by decide +kernel) ⟨Nat.le_of_ble_eq_true rfl, Nat.le_of_ble_eq_true rfl⟩) 13 0 rfl rfl [0, 1] rfl (by decide) rfl rfl rfl rfl rfl hl.1 (Nat.le_of_ble_eq_true rfl) dX12_face_52 ⟨Nat.le_of_ble_eq_true rfl, Nat.le_of_ble_eq_true rfl⟩ (fun H locs hH => ?_)
    refine lv_istore_n (lv' := [(2, .int z52), (0, .ref q_t), (1, .int x0)]) hx hb dX12_face_55 rfl hl (by decide) rfl (fun ls hl => ?_)
    refine lv_iload_n hx hb dX12_face_56 rfl (lv_at hl 0 rfl) ?_
    refine lv_sipush (v := 600) hx hb dX12_face_57 (by decide) ?_
    refine lv_icmp_lt (tgt := 69) hx hb dX12_face_60 (by decide) (fun b60 => ?_) (fun b60 => ?_)
    · replace h := zif_t b60 h
      exact w_X12_face_69 S hr hlocks hF x0 z52 0 z40.1 z40.2 _ _ _ hH (lv_sub hl [1, 2, 0] rfl) h
    · replace h := zif_f b60 h
      refine lv_aload_n hx hb dX12_face_63 rfl (lv_at hl 1 rfl) ?_
      refine lv_bipush (v := 49) hx hb dX12_face_64 (by decide) ?_
      obtain ⟨z66, hz66, h⟩ := zcl_e h
      refine z_callV (As := [.int 49]) (rest := []) (st1 := []) (ws' := (wd_X12_face cy q_t q_t_tape q_t_s q_t_h q_t_read q_t_names q_t_reserved q_t_undone q_t_before q_t_comeRow q_t_shown q_t_text q_t_toldAt q_t_stack q_t_truths q_t_imaged q_t_namesKept q_t_areKept 0 t_length t_size t_p t_limit t_token t_at t_span t_number t_fault t_faultAt t_word t_got t_lines t_hasWait t_undoMany t_firstMinute t_lookClock t_hasTime t_latestMost z66.1 t_seed t_toldMany t_hasTold t_codes t_ones t_top t_deep t_isWhole t_s t_names z66.2)) S hF hH (c_X12_lays l G cy E N q_t q_t_tape q_t_s q_t_h q_t_read q_t_names q_t_reserved q_t_undone q_t_before q_t_comeRow q_t_shown q_t_text q_t_toldAt q_t_stack q_t_truths q_t_imaged q_t_namesKept q_t_areKept 0 t_length t_size t_p t_limit t_token t_at t_span t_number t_fault t_faultAt t_word t_got t_lines t_hasWait t_undoMany t_firstMinute t_lookClock t_hasTime t_latestMost z40.1 t_seed t_toldMany t_hasTold t_codes t_ones t_top t_deep t_isWhole z40.2 49 z66.1 z66.2 hz66) (cwV 1 hts gX12_face_X12_lays rfl rfl rfl (by decide +kernel) ⟨Nat.le_of_ble_eq_true rfl, Nat.le_of_ble_eq_true rfl⟩) 13 0 rfl rfl [0, 3] rfl (by decide) rfl rfl rfl rfl rfl hl.1 (Nat.le_of_ble_eq_true rfl) dX12_face_66 ⟨Nat.le_of_ble_eq_true rfl, Nat.le_of_ble_eq_true rfl⟩ (fun H locs hH => ?_)
      exact w_X12_face_69 S hr hlocks hF x0 z52 0 z66.1 z66.2 _ _ _ hH (lv_sub hl [1, 2, 0] rfl) h
  · replace h := zif_t b10 h
    refine lv_iconst (v := (-1)) hx hb dX12_face_13 (by decide) ?_
    cases h
    exact z_iret S hr hlocks hH dX12_face_14
abbrev wd_X12_byteAt (cy : Nat → ClassId) (q_t q_t_tape q_t_s q_t_h q_t_read q_t_names q_t_reserved q_t_undone q_t_before q_t_comeRow q_t_shown q_t_text q_t_toldAt q_t_stack q_t_truths q_t_imaged q_t_namesKept q_t_areKept : Nat) (t_thrown : Int32) (t_length : Int32) (t_size : Int32) (t_p : Int32) (t_limit : Int32) (t_token : Int32) (t_at : Int32) (t_span : Int32) (t_number : Int32) (t_fault : Int32) (t_faultAt : Int32) (t_word : Int64) (t_got : Int32) (t_lines : Int32) (t_hasWait : Int32) (t_undoMany : Int32) (t_firstMinute : Int32) (t_lookClock : Int32) (t_hasTime : Int32) (t_latestMost : Int32) (t_textMany : Int32) (t_seed : Int32) (t_toldMany : Int32) (t_hasTold : Int32) (t_codes : Int32) (t_ones : Int32) (t_top : Int32) (t_deep : Int32) (t_isWhole : Int32) (t_text : Nat → Int32) : va_W := [(q_t, .inr (13, [.int t_thrown, .ref q_t_tape, .int t_length, .int t_size, .int t_p, .int t_limit, .ref q_t_s, .ref q_t_h, .ref q_t_read, .ref q_t_names, .ref q_t_reserved, .int t_token, .int t_at, .int t_span, .int t_number, .int t_fault, .int t_faultAt, .long t_word, .int t_got, .int t_lines, .int t_hasWait, .ref q_t_undone, .ref q_t_before, .int t_undoMany, .ref q_t_comeRow, .int t_firstMinute, .int t_lookClock, .int t_hasTime, .ref q_t_shown, .int t_latestMost, .ref q_t_text, .int t_textMany, .int t_seed, .int t_toldMany, .ref q_t_toldAt, .int t_hasTold, .ref q_t_stack, .int t_codes, .int t_ones, .int t_top, .int t_deep, .int t_isWhole, .ref q_t_truths, .ref q_t_imaged, .ref q_t_namesKept, .ref q_t_areKept])), (q_t_text, .inl (cy 0, 40, .inl t_text))]
theorem iX12_byteAt_X12 : ∀ w ∈ wsX120, w ∈ wsX12_byteAt := fun _ h => List.mem_cons_of_mem _ (List.mem_append_right _ h)
abbrev rm_X12_byteAt : Room := { frames := 1, cells := 0, slots := 0, locals := 22 }
set_option maxRecDepth 100000 in
def f_X12_byteAt (N : Nat) (x0 : Int32) (t_thrown : Int32) (t_textMany : Int32) (t_text : Nat → Int32) : Option (Int32 × Int32) := zcl (f_X12_isIn N x0 0 (t_textMany - 1)) fun z13 => if z13 = 0 then (some ((-1), 0)) else (zck (zin x0 40) <| some ((t_text (Int32.toNatClampNeg x0)), 0))
set_option maxHeartbeats 4000000 in
set_option maxRecDepth 100000 in
theorem c_X12_byteAt (l : Launch) (G : va_G) (cy : Nat → ClassId) (E : Nat → Nat) (N : Nat) (q_t q_t_tape q_t_s q_t_h q_t_read q_t_names q_t_reserved q_t_undone q_t_before q_t_comeRow q_t_shown q_t_text q_t_toldAt q_t_stack q_t_truths q_t_imaged q_t_namesKept q_t_areKept : Nat) (t_thrown : Int32) (t_length : Int32) (t_size : Int32) (t_p : Int32) (t_limit : Int32) (t_token : Int32) (t_at : Int32) (t_span : Int32) (t_number : Int32) (t_fault : Int32) (t_faultAt : Int32) (t_word : Int64) (t_got : Int32) (t_lines : Int32) (t_hasWait : Int32) (t_undoMany : Int32) (t_firstMinute : Int32) (t_lookClock : Int32) (t_hasTime : Int32) (t_latestMost : Int32) (t_textMany : Int32) (t_seed : Int32) (t_toldMany : Int32) (t_hasTold : Int32) (t_codes : Int32) (t_ones : Int32) (t_top : Int32) (t_deep : Int32) (t_isWhole : Int32) (t_text : Nat → Int32) (x0 : Int32) (r : Int32) (r_t_thrown : Int32) (h : f_X12_byteAt N x0 t_thrown t_textMany t_text = some (r, r_t_thrown)) : zM l G cy E yX12_byteAt wsX12_byteAt rm_X12_byteAt [.ref q_t, .int x0] (wd_X12_byteAt cy q_t q_t_tape q_t_s q_t_h q_t_read q_t_names q_t_reserved q_t_undone q_t_before q_t_comeRow q_t_shown q_t_text q_t_toldAt q_t_stack q_t_truths q_t_imaged q_t_namesKept q_t_areKept t_thrown t_length t_size t_p t_limit t_token t_at t_span t_number t_fault t_faultAt t_word t_got t_lines t_hasWait t_undoMany t_firstMinute t_lookClock t_hasTime t_latestMost t_textMany t_seed t_toldMany t_hasTold t_codes t_ones t_top t_deep t_isWhole t_text) (wd_X12_byteAt cy q_t q_t_tape q_t_s q_t_h q_t_read q_t_names q_t_reserved q_t_undone q_t_before q_t_comeRow q_t_shown q_t_text q_t_toldAt q_t_stack q_t_truths q_t_imaged q_t_namesKept q_t_areKept r_t_thrown t_length t_size t_p t_limit t_token t_at t_span t_number t_fault t_faultAt t_word t_got t_lines t_hasWait t_undoMany t_firstMinute t_lookClock t_hasTime t_latestMost t_textMany t_seed t_toldMany t_hasTold t_codes t_ones t_top t_deep t_isWhole t_text) (some (.int r)) 0 0 := by
  refine z_body (cc := cX12_byteAt) (maxL := 2) (ret := some .int) (by decide) rfl (Nat.le_of_ble_eq_true rfl) ?_
  intro p e s m below meth c ls S hr hlocks hnm hF hH hl
  have S : CallFix p m c cX12_byteAt 2 s ([.ref q_t, .int x0] : List Value).toArray wsX12_byteAt RX12 := S
  obtain ⟨hx, hb, hml, hown, hts⟩ := id S
  have hl : lv_has ls 2 [(0, .ref q_t), (1, .int x0)] := hl
  rw [f_X12_byteAt] at h
  refine lv_aload_n hx hb dX12_byteAt_0 rfl (lv_at hl 0 rfl) ?_
  refine lv_iconst (v := 0) hx hb dX12_byteAt_1 (by decide) ?_
  refine z_put (ws' := (wd_X12_byteAt cy q_t q_t_tape q_t_s q_t_h q_t_read q_t_names q_t_reserved q_t_undone q_t_before q_t_comeRow q_t_shown q_t_text q_t_toldAt q_t_stack q_t_truths q_t_imaged q_t_namesKept q_t_areKept 0 t_length t_size t_p t_limit t_token t_at t_span t_number t_fault t_faultAt t_word t_got t_lines t_hasWait t_undoMany t_firstMinute t_lookClock t_hasTime t_latestMost t_textMany t_seed t_toldMany t_hasTold t_codes t_ones t_top t_deep t_isWhole t_text)) S hF hH iX12_byteAt_X12 tyX12 tyX12_ok nmX12 0 rfl rfl 0 (by decide) (List.mem_of_getElem? (i := 1) rfl) rfl rfl rfl (Nat.le_of_ble_eq_true rfl) rfl dX12_byteAt_2 (fun H locs hH => ?_)
  refine lv_iload_n hx hb dX12_byteAt_5 rfl (lv_at hl 1 rfl) ?_
  refine lv_iconst (v := 0) hx hb dX12_byteAt_6 (by decide) ?_
  refine lv_aload_n hx hb dX12_byteAt_7 rfl (lv_at hl 0 rfl) ?_
  refine z_get S hF hH iX12_byteAt_X12 0 rfl rfl 31 (by decide) (List.mem_of_getElem? (i := 2) rfl) rfl dX12_byteAt_8 ?_
  refine lv_iconst (v := 1) hx hb dX12_byteAt_11 (by decide) ?_
  refine lv_isub hx hb dX12_byteAt_12 ?_
  obtain ⟨z13, hz13, h⟩ := zcl_e h
  refine z_callS (As := [.int x0, .int 0, .int (t_textMany - 1)]) (rest := []) (st1 := [.int z13]) (ws' := (wd_X12_byteAt cy q_t q_t_tape q_t_s q_t_h q_t_read q_t_names q_t_reserved q_t_undone q_t_before q_t_comeRow q_t_shown q_t_text q_t_toldAt q_t_stack q_t_truths q_t_imaged q_t_namesKept q_t_areKept 0 t_length t_size t_p t_limit t_token t_at t_span t_number t_fault t_faultAt t_word t_got t_lines t_hasWait t_undoMany t_firstMinute t_lookClock t_hasTime t_latestMost t_textMany t_seed t_toldMany t_hasTold t_codes t_ones t_top t_deep t_isWhole t_text)) S hF hH (c_X12_isIn l G cy E N x0 0 (t_textMany - 1) z13 hz13) (cwS 3 hts gX12_byteAt_X12_isIn rfl rfl rfl (by decide +kernel) ⟨Nat.le_of_ble_eq_true rfl, Nat.le_of_ble_eq_true rfl⟩) [] rfl (by decide) rfl rfl rfl rfl rfl hl.1 (Nat.le_of_ble_eq_true rfl) dX12_byteAt_13 ⟨Nat.le_of_ble_eq_true rfl, Nat.le_of_ble_eq_true rfl⟩ (fun H locs hH => ?_)
  refine lv_if_eq (tgt := 28) hx hb dX12_byteAt_16 (by decide) (fun b16 => ?_) (fun b16 => ?_)
  · replace h := zif_t b16 h
    refine lv_iconst (v := (-1)) hx hb dX12_byteAt_28 (by decide) ?_
    cases h
    exact z_iret S hr hlocks hH dX12_byteAt_29
  · replace h := zif_f b16 h
    refine lv_aload_n hx hb dX12_byteAt_19 rfl (lv_at hl 0 rfl) ?_
    refine z_get S hF hH iX12_byteAt_X12 0 rfl rfl 30 (by decide) (List.mem_of_getElem? (i := 3) rfl) rfl dX12_byteAt_20 ?_
    refine lv_iload_n hx hb dX12_byteAt_23 rfl (lv_at hl 1 rfl) ?_
    obtain ⟨h24, h⟩ := zck_e h
    refine z_bald S hF hH 1 rfl h24 rfl dX12_byteAt_24 ?_
    refine lv_goto (tgt := 29) hx hb dX12_byteAt_25 (by decide) ?_
    cases h
    exact z_iret S hr hlocks hH dX12_byteAt_29
abbrev wd_X12_draw (cy : Nat → ClassId) (q_t q_t_tape q_t_s q_t_h q_t_read q_t_names q_t_reserved q_t_undone q_t_before q_t_comeRow q_t_shown q_t_text q_t_toldAt q_t_stack q_t_truths q_t_imaged q_t_namesKept q_t_areKept : Nat) (t_thrown : Int32) (t_length : Int32) (t_size : Int32) (t_p : Int32) (t_limit : Int32) (t_token : Int32) (t_at : Int32) (t_span : Int32) (t_number : Int32) (t_fault : Int32) (t_faultAt : Int32) (t_word : Int64) (t_got : Int32) (t_lines : Int32) (t_hasWait : Int32) (t_undoMany : Int32) (t_firstMinute : Int32) (t_lookClock : Int32) (t_hasTime : Int32) (t_latestMost : Int32) (t_textMany : Int32) (t_seed : Int32) (t_toldMany : Int32) (t_hasTold : Int32) (t_codes : Int32) (t_ones : Int32) (t_top : Int32) (t_deep : Int32) (t_isWhole : Int32) : va_W := [(q_t, .inr (13, [.int t_thrown, .ref q_t_tape, .int t_length, .int t_size, .int t_p, .int t_limit, .ref q_t_s, .ref q_t_h, .ref q_t_read, .ref q_t_names, .ref q_t_reserved, .int t_token, .int t_at, .int t_span, .int t_number, .int t_fault, .int t_faultAt, .long t_word, .int t_got, .int t_lines, .int t_hasWait, .ref q_t_undone, .ref q_t_before, .int t_undoMany, .ref q_t_comeRow, .int t_firstMinute, .int t_lookClock, .int t_hasTime, .ref q_t_shown, .int t_latestMost, .ref q_t_text, .int t_textMany, .int t_seed, .int t_toldMany, .ref q_t_toldAt, .int t_hasTold, .ref q_t_stack, .int t_codes, .int t_ones, .int t_top, .int t_deep, .int t_isWhole, .ref q_t_truths, .ref q_t_imaged, .ref q_t_namesKept, .ref q_t_areKept]))]
theorem iX12_draw_X12 : ∀ w ∈ wsX120, w ∈ wsX12_draw := fun _ h => List.mem_cons_of_mem _ (List.mem_append_right _ h)
abbrev rm_X12_draw : Room := { frames := 0, cells := 0, slots := 0, locals := 0 }
set_option maxRecDepth 100000 in
def f_X12_draw (N : Nat) (x0 : Int32) (t_seed : Int32) : Option (Int32 × Int32) := zbn (((t_seed * 1103515245) + 12345)) fun y1 => zck (zne0 x0) <| some ((zrem (zushr y1 8) x0), y1)
set_option maxHeartbeats 4000000 in
set_option maxRecDepth 100000 in
theorem c_X12_draw (l : Launch) (G : va_G) (cy : Nat → ClassId) (E : Nat → Nat) (N : Nat) (q_t q_t_tape q_t_s q_t_h q_t_read q_t_names q_t_reserved q_t_undone q_t_before q_t_comeRow q_t_shown q_t_text q_t_toldAt q_t_stack q_t_truths q_t_imaged q_t_namesKept q_t_areKept : Nat) (t_thrown : Int32) (t_length : Int32) (t_size : Int32) (t_p : Int32) (t_limit : Int32) (t_token : Int32) (t_at : Int32) (t_span : Int32) (t_number : Int32) (t_fault : Int32) (t_faultAt : Int32) (t_word : Int64) (t_got : Int32) (t_lines : Int32) (t_hasWait : Int32) (t_undoMany : Int32) (t_firstMinute : Int32) (t_lookClock : Int32) (t_hasTime : Int32) (t_latestMost : Int32) (t_textMany : Int32) (t_seed : Int32) (t_toldMany : Int32) (t_hasTold : Int32) (t_codes : Int32) (t_ones : Int32) (t_top : Int32) (t_deep : Int32) (t_isWhole : Int32) (x0 : Int32) (r : Int32) (r_t_seed : Int32) (h : f_X12_draw N x0 t_seed = some (r, r_t_seed)) : zM l G cy E yX12_draw wsX12_draw rm_X12_draw [.ref q_t, .int x0] (wd_X12_draw cy q_t q_t_tape q_t_s q_t_h q_t_read q_t_names q_t_reserved q_t_undone q_t_before q_t_comeRow q_t_shown q_t_text q_t_toldAt q_t_stack q_t_truths q_t_imaged q_t_namesKept q_t_areKept t_thrown t_length t_size t_p t_limit t_token t_at t_span t_number t_fault t_faultAt t_word t_got t_lines t_hasWait t_undoMany t_firstMinute t_lookClock t_hasTime t_latestMost t_textMany t_seed t_toldMany t_hasTold t_codes t_ones t_top t_deep t_isWhole) (wd_X12_draw cy q_t q_t_tape q_t_s q_t_h q_t_read q_t_names q_t_reserved q_t_undone q_t_before q_t_comeRow q_t_shown q_t_text q_t_toldAt q_t_stack q_t_truths q_t_imaged q_t_namesKept q_t_areKept t_thrown t_length t_size t_p t_limit t_token t_at t_span t_number t_fault t_faultAt t_word t_got t_lines t_hasWait t_undoMany t_firstMinute t_lookClock t_hasTime t_latestMost t_textMany r_t_seed t_toldMany t_hasTold t_codes t_ones t_top t_deep t_isWhole) (some (.int r)) 0 0 := by
  refine z_body (cc := cX12_draw) (maxL := 2) (ret := some .int) (by decide) rfl (Nat.le_of_ble_eq_true rfl) ?_
  intro p e s m below meth c ls S hr hlocks hnm hF hH hl
  have S : CallFix p m c cX12_draw 2 s ([.ref q_t, .int x0] : List Value).toArray wsX12_draw RX12 := S
  obtain ⟨hx, hb, hml, hown, hts⟩ := id S
  have hl : lv_has ls 2 [(0, .ref q_t), (1, .int x0)] := hl
  rw [f_X12_draw] at h
  refine lv_aload_n hx hb dX12_draw_0 rfl (lv_at hl 0 rfl) ?_
  refine lv_aload_n hx hb dX12_draw_1 rfl (lv_at hl 0 rfl) ?_
  refine z_get S hF hH iX12_draw_X12 0 rfl rfl 32 (by decide) (List.mem_of_getElem? (i := 1) rfl) rfl dX12_draw_2 ?_
  refine lv_ldcw (v := 1103515245) hx hb hown (hts _ (List.mem_of_getElem? (i := 2) rfl)) dX12_draw_5 ?_
  refine lv_imul hx hb dX12_draw_8 ?_
  refine lv_sipush (v := 12345) hx hb dX12_draw_9 (by decide) ?_
  refine lv_iadd hx hb dX12_draw_12 ?_
  obtain ⟨y1, ey1, h⟩ := zbn_e h
  refine z_top ey1 ?_
  clear ey1
  refine z_put (ws' := (wd_X12_draw cy q_t q_t_tape q_t_s q_t_h q_t_read q_t_names q_t_reserved q_t_undone q_t_before q_t_comeRow q_t_shown q_t_text q_t_toldAt q_t_stack q_t_truths q_t_imaged q_t_namesKept q_t_areKept t_thrown t_length t_size t_p t_limit t_token t_at t_span t_number t_fault t_faultAt t_word t_got t_lines t_hasWait t_undoMany t_firstMinute t_lookClock t_hasTime t_latestMost t_textMany y1 t_toldMany t_hasTold t_codes t_ones t_top t_deep t_isWhole)) S hF hH iX12_draw_X12 tyX12 tyX12_ok nmX12 0 rfl rfl 32 (by decide) (List.mem_of_getElem? (i := 1) rfl) rfl rfl rfl (Nat.le_of_ble_eq_true rfl) rfl dX12_draw_13 (fun H locs hH => ?_)
  refine lv_aload_n hx hb dX12_draw_16 rfl (lv_at hl 0 rfl) ?_
  refine z_get S hF hH iX12_draw_X12 0 rfl rfl 32 (by decide) (List.mem_of_getElem? (i := 1) rfl) rfl dX12_draw_17 ?_
  refine lv_bipush (v := 8) hx hb dX12_draw_20 (by decide) ?_
  refine lv_iushr (v := zushr y1 8) hx hb dX12_draw_22 rfl ?_
  refine lv_iload_n hx hb dX12_draw_23 rfl (lv_at hl 1 rfl) ?_
  obtain ⟨h24, h⟩ := zck_e h
  refine z_irem hx hb dX12_draw_24 h24 ?_
  cases h
  exact z_iret S hr hlocks hH dX12_draw_25
abbrev wd_X12_drawHour (cy : Nat → ClassId) (q_t q_t_tape q_t_s q_t_h q_t_read q_t_names q_t_reserved q_t_undone q_t_before q_t_comeRow q_t_shown q_t_text q_t_toldAt q_t_stack q_t_truths q_t_imaged q_t_namesKept q_t_areKept : Nat) (t_thrown : Int32) (t_length : Int32) (t_size : Int32) (t_p : Int32) (t_limit : Int32) (t_token : Int32) (t_at : Int32) (t_span : Int32) (t_number : Int32) (t_fault : Int32) (t_faultAt : Int32) (t_word : Int64) (t_got : Int32) (t_lines : Int32) (t_hasWait : Int32) (t_undoMany : Int32) (t_firstMinute : Int32) (t_lookClock : Int32) (t_hasTime : Int32) (t_latestMost : Int32) (t_textMany : Int32) (t_seed : Int32) (t_toldMany : Int32) (t_hasTold : Int32) (t_codes : Int32) (t_ones : Int32) (t_top : Int32) (t_deep : Int32) (t_isWhole : Int32) (t_s : Nat → Int32) : va_W := [(q_t, .inr (13, [.int t_thrown, .ref q_t_tape, .int t_length, .int t_size, .int t_p, .int t_limit, .ref q_t_s, .ref q_t_h, .ref q_t_read, .ref q_t_names, .ref q_t_reserved, .int t_token, .int t_at, .int t_span, .int t_number, .int t_fault, .int t_faultAt, .long t_word, .int t_got, .int t_lines, .int t_hasWait, .ref q_t_undone, .ref q_t_before, .int t_undoMany, .ref q_t_comeRow, .int t_firstMinute, .int t_lookClock, .int t_hasTime, .ref q_t_shown, .int t_latestMost, .ref q_t_text, .int t_textMany, .int t_seed, .int t_toldMany, .ref q_t_toldAt, .int t_hasTold, .ref q_t_stack, .int t_codes, .int t_ones, .int t_top, .int t_deep, .int t_isWhole, .ref q_t_truths, .ref q_t_imaged, .ref q_t_namesKept, .ref q_t_areKept])), (q_t_s, .inl (cy 1, 334, .inl t_s))]
theorem iX12_drawHour_X12 : ∀ w ∈ wsX120, w ∈ wsX12_drawHour := fun _ h => List.mem_cons_of_mem _ (List.mem_append_right _ h)
abbrev rm_X12_drawHour : Room := { frames := 4, cells := 0, slots := 0, locals := 85 }
set_option maxRecDepth 100000 in
def f_X12_drawHour_56 (N : Nat) (x1 : Int32) (c_t_seed : Int32) (c_t_s : Nat → Int32) : Option (Int32 × (Nat → Int32)) := if x1 = 1 then (if (c_t_s 0) = 0 then (some (c_t_seed, c_t_s)) else (if (c_t_s 1) = 0 then (some (c_t_seed, c_t_s)) else (zcl (f_X12_draw N (c_t_s 1) c_t_seed) fun z87 => zcl (f_X12_draw N (c_t_s 0) z87.2) fun z98 => zcl (f_X12_whySet N z87.1 z98.1 c_t_s) fun z105 => if z105 = 0 then (zck (zin (28 + z87.1) 334) <| zcl (f_X12_runsFrom N z98.1 (-(c_t_s (Int32.toNatClampNeg (28 + z87.1)))) c_t_s) fun z123 => some (z98.2, z123)) else (some (z98.2, c_t_s))))) else (some (c_t_seed, c_t_s))
set_option maxRecDepth 100000 in
def f_X12_drawHour (N : Nat) (t_seed : Int32) (t_s : Nat → Int32) : Option (Int32 × (Nat → Int32)) := zcl (f_X12_draw N 4 t_seed) fun z2 => if z2.1 = 0 then (if (t_s 0) ≤ 0 then (f_X12_drawHour_56 N z2.1 z2.2 t_s) else (zcl (f_X12_draw N (t_s 0) z2.2) fun z26 => zcl (f_X12_isStopped N z26.1 t_s) fun z32 => if z32 = 0 then (zcl (f_X12_stops N z26.1 t_s) fun z53 => f_X12_drawHour_56 N z2.1 z26.2 z53) else (zcl (f_X12_wrongBy N z26.1 t_s) fun z42 => zcl (f_X12_runsFrom N z26.1 z42 t_s) fun z45 => f_X12_drawHour_56 N z2.1 z26.2 z45))) else (f_X12_drawHour_56 N z2.1 z2.2 t_s)
set_option maxHeartbeats 4000000 in
set_option maxRecDepth 100000 in
theorem w_X12_drawHour_56 {p : Program} {l : Launch} {e : Env} {s : State} {m : MethodId} {args : Array Value} {below : List Frame} {meth : Method} {c : Code} {G : va_G} {cy : Nat → ClassId} {E : Nat → Nat} {w0 : va_W} {N : Nat} {q_t q_t_tape q_t_s q_t_h q_t_read q_t_names q_t_reserved q_t_undone q_t_before q_t_comeRow q_t_shown q_t_text q_t_toldAt q_t_stack q_t_truths q_t_imaged q_t_namesKept q_t_areKept : Nat} {t_thrown : Int32} {t_length : Int32} {t_size : Int32} {t_p : Int32} {t_limit : Int32} {t_token : Int32} {t_at : Int32} {t_span : Int32} {t_number : Int32} {t_fault : Int32} {t_faultAt : Int32} {t_word : Int64} {t_got : Int32} {t_lines : Int32} {t_hasWait : Int32} {t_undoMany : Int32} {t_firstMinute : Int32} {t_lookClock : Int32} {t_hasTime : Int32} {t_latestMost : Int32} {t_textMany : Int32} {t_toldMany : Int32} {t_hasTold : Int32} {t_codes : Int32} {t_ones : Int32} {t_top : Int32} {t_deep : Int32} {t_isWhole : Int32} {r_t_seed : Int32} {r_t_s : Nat → Int32} (S : CallFix p m c cX12_drawHour 4 s args wsX12_drawHour RX12) (hr : meth.sig.returnType = none) (hlocks : meth.locks = false) (hF : zF G cy E (va_A w0 s.heap.size) s) :
    ∀ (x1 : Int32) (c_t_seed : Int32) (c_t_s : Nat → Int32) (H : Heap) (locs : List Loc) (ls : Array Slot), zH G (va_A w0 s.heap.size) s H locs (wd_X12_drawHour cy q_t q_t_tape q_t_s q_t_h q_t_read q_t_names q_t_reserved q_t_undone q_t_before q_t_comeRow q_t_shown q_t_text q_t_toldAt q_t_stack q_t_truths q_t_imaged q_t_namesKept q_t_areKept t_thrown t_length t_size t_p t_limit t_token t_at t_span t_number t_fault t_faultAt t_word t_got t_lines t_hasWait t_undoMany t_firstMinute t_lookClock t_hasTime t_latestMost t_textMany c_t_seed t_toldMany t_hasTold t_codes t_ones t_top t_deep t_isWhole c_t_s) → lv_has ls 4 [(0, .ref q_t), (1, .int x1)] → f_X12_drawHour_56 N x1 c_t_seed c_t_s = some (r_t_seed, r_t_s) → W p l e rm_X12_drawHour s m args below meth c H locs 0 0 (MQ below (zQ G w0 (wd_X12_drawHour cy q_t q_t_tape q_t_s q_t_h q_t_read q_t_names q_t_reserved q_t_undone q_t_before q_t_comeRow q_t_shown q_t_text q_t_toldAt q_t_stack q_t_truths q_t_imaged q_t_namesKept q_t_areKept t_thrown t_length t_size t_p t_limit t_token t_at t_span t_number t_fault t_faultAt t_word t_got t_lines t_hasWait t_undoMany t_firstMinute t_lookClock t_hasTime t_latestMost t_textMany r_t_seed t_toldMany t_hasTold t_codes t_ones t_top t_deep t_isWhole r_t_s) s.heap.size none) args s 0 0 (va_A w0 s.heap.size)) (F0 m 56 ls []) := by
  obtain ⟨hx, hb, hml, hown, hts⟩ := id S
  intro x1 c_t_seed c_t_s H locs ls hH hl h
  rw [f_X12_drawHour_56] at h
  refine lv_iload_n hx hb dX12_drawHour_56 rfl (lv_at hl 1 rfl) ?_
  refine lv_iconst (v := 1) hx hb dX12_drawHour_57 (by decide) ?_
  refine lv_icmp_ne (tgt := 79) hx hb dX12_drawHour_58 (by decide) (fun b58 => ?_) (fun b58 => ?_)
  · replace h := zif_f b58 h
    cases h
    exact z_vret S hr hlocks hH dX12_drawHour_79
  · replace h := zif_t b58 h
    refine lv_aload_n hx hb dX12_drawHour_61 rfl (lv_at hl 0 rfl) ?_
    refine z_get S hF hH iX12_drawHour_X12 0 rfl rfl 6 (by decide) (List.mem_of_getElem? (i := 1) rfl) rfl dX12_drawHour_62 ?_
    refine lv_iconst (v := 0) hx hb dX12_drawHour_65 (by decide) ?_
    refine z_iald (j := 0) S hF hH 1 rfl (by decide) rfl dX12_drawHour_66 ?_
    refine lv_if_eq (tgt := 79) hx hb dX12_drawHour_67 (by decide) (fun b67 => ?_) (fun b67 => ?_)
    · replace h := zif_t b67 h
      cases h
      exact z_vret S hr hlocks hH dX12_drawHour_79
    · replace h := zif_f b67 h
      refine lv_aload_n hx hb dX12_drawHour_70 rfl (lv_at hl 0 rfl) ?_
      refine z_get S hF hH iX12_drawHour_X12 0 rfl rfl 6 (by decide) (List.mem_of_getElem? (i := 1) rfl) rfl dX12_drawHour_71 ?_
      refine lv_iconst (v := 1) hx hb dX12_drawHour_74 (by decide) ?_
      refine z_iald (j := 1) S hF hH 1 rfl (by decide) rfl dX12_drawHour_75 ?_
      refine lv_if_ne (tgt := 80) hx hb dX12_drawHour_76 (by decide) (fun b76 => ?_) (fun b76 => ?_)
      · replace h := zif_f b76 h
        refine lv_aload_n hx hb dX12_drawHour_80 rfl (lv_at hl 0 rfl) ?_
        refine lv_aload_n hx hb dX12_drawHour_81 rfl (lv_at hl 0 rfl) ?_
        refine z_get S hF hH iX12_drawHour_X12 0 rfl rfl 6 (by decide) (List.mem_of_getElem? (i := 1) rfl) rfl dX12_drawHour_82 ?_
        refine lv_iconst (v := 1) hx hb dX12_drawHour_85 (by decide) ?_
        refine z_iald (j := 1) S hF hH 1 rfl (by decide) rfl dX12_drawHour_86 ?_
        obtain ⟨z87, hz87, h⟩ := zcl_e h
        refine z_callV (As := [.int (c_t_s 1)]) (rest := []) (st1 := [.int z87.1]) (ws' := (wd_X12_drawHour cy q_t q_t_tape q_t_s q_t_h q_t_read q_t_names q_t_reserved q_t_undone q_t_before q_t_comeRow q_t_shown q_t_text q_t_toldAt q_t_stack q_t_truths q_t_imaged q_t_namesKept q_t_areKept t_thrown t_length t_size t_p t_limit t_token t_at t_span t_number t_fault t_faultAt t_word t_got t_lines t_hasWait t_undoMany t_firstMinute t_lookClock t_hasTime t_latestMost t_textMany z87.2 t_toldMany t_hasTold t_codes t_ones t_top t_deep t_isWhole c_t_s)) S hF hH (c_X12_draw l G cy E N q_t q_t_tape q_t_s q_t_h q_t_read q_t_names q_t_reserved q_t_undone q_t_before q_t_comeRow q_t_shown q_t_text q_t_toldAt q_t_stack q_t_truths q_t_imaged q_t_namesKept q_t_areKept t_thrown t_length t_size t_p t_limit t_token t_at t_span t_number t_fault t_faultAt t_word t_got t_lines t_hasWait t_undoMany t_firstMinute t_lookClock t_hasTime t_latestMost t_textMany c_t_seed t_toldMany t_hasTold t_codes t_ones t_top t_deep t_isWhole (c_t_s 1) z87.1 z87.2 hz87) (cwV 1 hts gX12_drawHour_X12_draw rfl rfl rfl (by decide +kernel) ⟨Nat.le_of_ble_eq_true rfl, Nat.le_of_ble_eq_true rfl⟩) 13 0 rfl rfl [0] rfl (by decide) rfl rfl rfl rfl rfl hl.1 (Nat.le_of_ble_eq_true rfl) dX12_drawHour_87 ⟨Nat.le_of_ble_eq_true rfl, Nat.le_of_ble_eq_true rfl⟩ (fun H locs hH => ?_)
        refine lv_istore_n (lv' := [(2, .int z87.1), (0, .ref q_t), (1, .int x1)]) hx hb dX12_drawHour_90 rfl hl (by decide) rfl (fun ls hl => ?_)
        refine lv_aload_n hx hb dX12_drawHour_91 rfl (lv_at hl 1 rfl) ?_
        refine lv_aload_n hx hb dX12_drawHour_92 rfl (lv_at hl 1 rfl) ?_
        refine z_get S hF hH iX12_drawHour_X12 0 rfl rfl 6 (by decide) (List.mem_of_getElem? (i := 1) rfl) rfl dX12_drawHour_93 ?_
        refine lv_iconst (v := 0) hx hb dX12_drawHour_96 (by decide) ?_
        refine z_iald (j := 0) S hF hH 1 rfl (by decide) rfl dX12_drawHour_97 ?_
        obtain ⟨z98, hz98, h⟩ := zcl_e h
        refine z_callV (As := [.int (c_t_s 0)]) (rest := []) (st1 := [.int z98.1]) (ws' := (wd_X12_drawHour cy q_t q_t_tape q_t_s q_t_h q_t_read q_t_names q_t_reserved q_t_undone q_t_before q_t_comeRow q_t_shown q_t_text q_t_toldAt q_t_stack q_t_truths q_t_imaged q_t_namesKept q_t_areKept t_thrown t_length t_size t_p t_limit t_token t_at t_span t_number t_fault t_faultAt t_word t_got t_lines t_hasWait t_undoMany t_firstMinute t_lookClock t_hasTime t_latestMost t_textMany z98.2 t_toldMany t_hasTold t_codes t_ones t_top t_deep t_isWhole c_t_s)) S hF hH (c_X12_draw l G cy E N q_t q_t_tape q_t_s q_t_h q_t_read q_t_names q_t_reserved q_t_undone q_t_before q_t_comeRow q_t_shown q_t_text q_t_toldAt q_t_stack q_t_truths q_t_imaged q_t_namesKept q_t_areKept t_thrown t_length t_size t_p t_limit t_token t_at t_span t_number t_fault t_faultAt t_word t_got t_lines t_hasWait t_undoMany t_firstMinute t_lookClock t_hasTime t_latestMost t_textMany z87.2 t_toldMany t_hasTold t_codes t_ones t_top t_deep t_isWhole (c_t_s 0) z98.1 z98.2 hz98) (cwV 1 hts gX12_drawHour_X12_draw rfl rfl rfl (by decide +kernel) ⟨Nat.le_of_ble_eq_true rfl, Nat.le_of_ble_eq_true rfl⟩) 13 0 rfl rfl [0] rfl (by decide) rfl rfl rfl rfl rfl hl.1 (Nat.le_of_ble_eq_true rfl) dX12_drawHour_98 ⟨Nat.le_of_ble_eq_true rfl, Nat.le_of_ble_eq_true rfl⟩ (fun H locs hH => ?_)
        refine lv_istore_n (lv' := [(3, .int z98.1), (2, .int z87.1), (0, .ref q_t), (1, .int x1)]) hx hb dX12_drawHour_101 rfl hl (by decide) rfl (fun ls hl => ?_)
        refine lv_aload_n hx hb dX12_drawHour_102 rfl (lv_at hl 2 rfl) ?_
        refine lv_iload_n hx hb dX12_drawHour_103 rfl (lv_at hl 1 rfl) ?_
        refine lv_iload_n hx hb dX12_drawHour_104 rfl (lv_at hl 0 rfl) ?_
        obtain ⟨z105, hz105, h⟩ := zcl_e h
        refine z_callV (As := [.int z87.1, .int z98.1]) (rest := []) (st1 := [.int z105]) (ws' := (wd_X12_drawHour cy q_t q_t_tape q_t_s q_t_h q_t_read q_t_names q_t_reserved q_t_undone q_t_before q_t_comeRow q_t_shown q_t_text q_t_toldAt q_t_stack q_t_truths q_t_imaged q_t_namesKept q_t_areKept t_thrown t_length t_size t_p t_limit t_token t_at t_span t_number t_fault t_faultAt t_word t_got t_lines t_hasWait t_undoMany t_firstMinute t_lookClock t_hasTime t_latestMost t_textMany z98.2 t_toldMany t_hasTold t_codes t_ones t_top t_deep t_isWhole c_t_s)) S hF hH (c_X12_whySet l G cy E N q_t q_t_tape q_t_s q_t_h q_t_read q_t_names q_t_reserved q_t_undone q_t_before q_t_comeRow q_t_shown q_t_text q_t_toldAt q_t_stack q_t_truths q_t_imaged q_t_namesKept q_t_areKept t_thrown t_length t_size t_p t_limit t_token t_at t_span t_number t_fault t_faultAt t_word t_got t_lines t_hasWait t_undoMany t_firstMinute t_lookClock t_hasTime t_latestMost t_textMany z98.2 t_toldMany t_hasTold t_codes t_ones t_top t_deep t_isWhole c_t_s z87.1 z98.1 z105 hz105) (cwV 2 hts gX12_drawHour_X12_whySet rfl rfl rfl (by decide +kernel) ⟨Nat.le_of_ble_eq_true rfl, Nat.le_of_ble_eq_true rfl⟩) 13 0 rfl rfl [0, 1] rfl (by decide) rfl rfl rfl rfl rfl hl.1 (Nat.le_of_ble_eq_true rfl) dX12_drawHour_105 ⟨Nat.le_of_ble_eq_true rfl, Nat.le_of_ble_eq_true rfl⟩ (fun H locs hH => ?_)
        refine lv_if_ne (tgt := 126) hx hb dX12_drawHour_108 (by decide) (fun b108 => ?_) (fun b108 => ?_)
        · replace h := zif_f b108 h
          cases h
          exact z_vret S hr hlocks hH dX12_drawHour_126
        · replace h := zif_t b108 h
          refine lv_aload_n hx hb dX12_drawHour_111 rfl (lv_at hl 2 rfl) ?_
          refine lv_iload_n hx hb dX12_drawHour_112 rfl (lv_at hl 0 rfl) ?_
          refine lv_aload_n hx hb dX12_drawHour_113 rfl (lv_at hl 2 rfl) ?_
          refine z_get S hF hH iX12_drawHour_X12 0 rfl rfl 6 (by decide) (List.mem_of_getElem? (i := 1) rfl) rfl dX12_drawHour_114 ?_
          refine lv_bipush (v := 28) hx hb dX12_drawHour_117 (by decide) ?_
          refine lv_iload_n hx hb dX12_drawHour_119 rfl (lv_at hl 1 rfl) ?_
          refine lv_iadd hx hb dX12_drawHour_120 ?_
          obtain ⟨h121, h⟩ := zck_e h
          refine z_iald S hF hH 1 rfl h121 rfl dX12_drawHour_121 ?_
          refine lv_ineg hx hb dX12_drawHour_122 ?_
          obtain ⟨z123, hz123, h⟩ := zcl_e h
          refine z_callV (As := [.int z98.1, .int (-(c_t_s (Int32.toNatClampNeg (28 + z87.1))))]) (rest := []) (st1 := []) (ws' := (wd_X12_drawHour cy q_t q_t_tape q_t_s q_t_h q_t_read q_t_names q_t_reserved q_t_undone q_t_before q_t_comeRow q_t_shown q_t_text q_t_toldAt q_t_stack q_t_truths q_t_imaged q_t_namesKept q_t_areKept t_thrown t_length t_size t_p t_limit t_token t_at t_span t_number t_fault t_faultAt t_word t_got t_lines t_hasWait t_undoMany t_firstMinute t_lookClock t_hasTime t_latestMost t_textMany z98.2 t_toldMany t_hasTold t_codes t_ones t_top t_deep t_isWhole z123)) S hF hH (c_X12_runsFrom l G cy E N q_t q_t_tape q_t_s q_t_h q_t_read q_t_names q_t_reserved q_t_undone q_t_before q_t_comeRow q_t_shown q_t_text q_t_toldAt q_t_stack q_t_truths q_t_imaged q_t_namesKept q_t_areKept t_thrown t_length t_size t_p t_limit t_token t_at t_span t_number t_fault t_faultAt t_word t_got t_lines t_hasWait t_undoMany t_firstMinute t_lookClock t_hasTime t_latestMost t_textMany z98.2 t_toldMany t_hasTold t_codes t_ones t_top t_deep t_isWhole c_t_s z98.1 (-(c_t_s (Int32.toNatClampNeg (28 + z87.1)))) z123 hz123) (cwV 2 hts gX12_drawHour_X12_runsFrom rfl rfl rfl (by decide +kernel) ⟨Nat.le_of_ble_eq_true rfl, Nat.le_of_ble_eq_true rfl⟩) 13 0 rfl rfl [0, 1] rfl (by decide) rfl rfl rfl rfl rfl hl.1 (Nat.le_of_ble_eq_true rfl) dX12_drawHour_123 ⟨Nat.le_of_ble_eq_true rfl, Nat.le_of_ble_eq_true rfl⟩ (fun H locs hH => ?_)
          cases h
          exact z_vret S hr hlocks hH dX12_drawHour_126
      · replace h := zif_t b76 h
        cases h
        exact z_vret S hr hlocks hH dX12_drawHour_79
set_option maxHeartbeats 4000000 in
set_option maxRecDepth 100000 in
theorem c_X12_drawHour (l : Launch) (G : va_G) (cy : Nat → ClassId) (E : Nat → Nat) (N : Nat) (q_t q_t_tape q_t_s q_t_h q_t_read q_t_names q_t_reserved q_t_undone q_t_before q_t_comeRow q_t_shown q_t_text q_t_toldAt q_t_stack q_t_truths q_t_imaged q_t_namesKept q_t_areKept : Nat) (t_thrown : Int32) (t_length : Int32) (t_size : Int32) (t_p : Int32) (t_limit : Int32) (t_token : Int32) (t_at : Int32) (t_span : Int32) (t_number : Int32) (t_fault : Int32) (t_faultAt : Int32) (t_word : Int64) (t_got : Int32) (t_lines : Int32) (t_hasWait : Int32) (t_undoMany : Int32) (t_firstMinute : Int32) (t_lookClock : Int32) (t_hasTime : Int32) (t_latestMost : Int32) (t_textMany : Int32) (t_seed : Int32) (t_toldMany : Int32) (t_hasTold : Int32) (t_codes : Int32) (t_ones : Int32) (t_top : Int32) (t_deep : Int32) (t_isWhole : Int32) (t_s : Nat → Int32) (r_t_seed : Int32) (r_t_s : Nat → Int32) (h : f_X12_drawHour N t_seed t_s = some (r_t_seed, r_t_s)) : zM l G cy E yX12_drawHour wsX12_drawHour rm_X12_drawHour [.ref q_t] (wd_X12_drawHour cy q_t q_t_tape q_t_s q_t_h q_t_read q_t_names q_t_reserved q_t_undone q_t_before q_t_comeRow q_t_shown q_t_text q_t_toldAt q_t_stack q_t_truths q_t_imaged q_t_namesKept q_t_areKept t_thrown t_length t_size t_p t_limit t_token t_at t_span t_number t_fault t_faultAt t_word t_got t_lines t_hasWait t_undoMany t_firstMinute t_lookClock t_hasTime t_latestMost t_textMany t_seed t_toldMany t_hasTold t_codes t_ones t_top t_deep t_isWhole t_s) (wd_X12_drawHour cy q_t q_t_tape q_t_s q_t_h q_t_read q_t_names q_t_reserved q_t_undone q_t_before q_t_comeRow q_t_shown q_t_text q_t_toldAt q_t_stack q_t_truths q_t_imaged q_t_namesKept q_t_areKept t_thrown t_length t_size t_p t_limit t_token t_at t_span t_number t_fault t_faultAt t_word t_got t_lines t_hasWait t_undoMany t_firstMinute t_lookClock t_hasTime t_latestMost t_textMany r_t_seed t_toldMany t_hasTold t_codes t_ones t_top t_deep t_isWhole r_t_s) none 0 0 := by
  refine z_body (cc := cX12_drawHour) (maxL := 4) (ret := none) (by decide) rfl (Nat.le_of_ble_eq_true rfl) ?_
  intro p e s m below meth c ls S hr hlocks hnm hF hH hl
  have S : CallFix p m c cX12_drawHour 4 s ([.ref q_t] : List Value).toArray wsX12_drawHour RX12 := S
  obtain ⟨hx, hb, hml, hown, hts⟩ := id S
  have hl : lv_has ls 4 [(0, .ref q_t)] := hl
  rw [f_X12_drawHour] at h
  refine lv_aload_n hx hb dX12_drawHour_0 rfl (lv_at hl 0 rfl) ?_
  refine lv_iconst (v := 4) hx hb dX12_drawHour_1 (by decide) ?_
  obtain ⟨z2, hz2, h⟩ := zcl_e h
  refine z_callV (As := [.int 4]) (rest := []) (st1 := [.int z2.1]) (ws' := (wd_X12_drawHour cy q_t q_t_tape q_t_s q_t_h q_t_read q_t_names q_t_reserved q_t_undone q_t_before q_t_comeRow q_t_shown q_t_text q_t_toldAt q_t_stack q_t_truths q_t_imaged q_t_namesKept q_t_areKept t_thrown t_length t_size t_p t_limit t_token t_at t_span t_number t_fault t_faultAt t_word t_got t_lines t_hasWait t_undoMany t_firstMinute t_lookClock t_hasTime t_latestMost t_textMany z2.2 t_toldMany t_hasTold t_codes t_ones t_top t_deep t_isWhole t_s)) S hF hH (c_X12_draw l G cy E N q_t q_t_tape q_t_s q_t_h q_t_read q_t_names q_t_reserved q_t_undone q_t_before q_t_comeRow q_t_shown q_t_text q_t_toldAt q_t_stack q_t_truths q_t_imaged q_t_namesKept q_t_areKept t_thrown t_length t_size t_p t_limit t_token t_at t_span t_number t_fault t_faultAt t_word t_got t_lines t_hasWait t_undoMany t_firstMinute t_lookClock t_hasTime t_latestMost t_textMany t_seed t_toldMany t_hasTold t_codes t_ones t_top t_deep t_isWhole 4 z2.1 z2.2 hz2) (cwV 1 hts gX12_drawHour_X12_draw rfl rfl rfl (by decide +kernel) ⟨Nat.le_of_ble_eq_true rfl, Nat.le_of_ble_eq_true rfl⟩) 13 0 rfl rfl [0] rfl (by decide) rfl rfl rfl rfl rfl hl.1 (Nat.le_of_ble_eq_true rfl) dX12_drawHour_2 ⟨Nat.le_of_ble_eq_true rfl, Nat.le_of_ble_eq_true rfl⟩ (fun H locs hH => ?_)
  refine lv_istore_n (lv' := [(1, .int z2.1), (0, .ref q_t)]) hx hb dX12_drawHour_5 rfl hl (by decide) rfl (fun ls hl => ?_)
  refine lv_iload_n hx hb dX12_drawHour_6 rfl (lv_at hl 0 rfl) ?_
  refine lv_if_ne (tgt := 56) hx hb dX12_drawHour_7 (by decide) (fun b7 => ?_) (fun b7 => ?_)
  · replace h := zif_f b7 h
    exact w_X12_drawHour_56 S hr hlocks hF z2.1 z2.2 t_s _ _ _ hH (lv_sub hl [1, 0] rfl) h
  · replace h := zif_t b7 h
    refine lv_aload_n hx hb dX12_drawHour_10 rfl (lv_at hl 1 rfl) ?_
    refine z_get S hF hH iX12_drawHour_X12 0 rfl rfl 6 (by decide) (List.mem_of_getElem? (i := 1) rfl) rfl dX12_drawHour_11 ?_
    refine lv_iconst (v := 0) hx hb dX12_drawHour_14 (by decide) ?_
    refine z_iald (j := 0) S hF hH 1 rfl (by decide) rfl dX12_drawHour_15 ?_
    refine lv_if_le (tgt := 56) hx hb dX12_drawHour_16 (by decide) (fun b16 => ?_) (fun b16 => ?_)
    · replace h := zif_t b16 h
      exact w_X12_drawHour_56 S hr hlocks hF z2.1 z2.2 t_s _ _ _ hH (lv_sub hl [1, 0] rfl) h
    · replace h := zif_f b16 h
      refine lv_aload_n hx hb dX12_drawHour_19 rfl (lv_at hl 1 rfl) ?_
      refine lv_aload_n hx hb dX12_drawHour_20 rfl (lv_at hl 1 rfl) ?_
      refine z_get S hF hH iX12_drawHour_X12 0 rfl rfl 6 (by decide) (List.mem_of_getElem? (i := 1) rfl) rfl dX12_drawHour_21 ?_
      refine lv_iconst (v := 0) hx hb dX12_drawHour_24 (by decide) ?_
      refine z_iald (j := 0) S hF hH 1 rfl (by decide) rfl dX12_drawHour_25 ?_
      obtain ⟨z26, hz26, h⟩ := zcl_e h
      refine z_callV (As := [.int (t_s 0)]) (rest := []) (st1 := [.int z26.1]) (ws' := (wd_X12_drawHour cy q_t q_t_tape q_t_s q_t_h q_t_read q_t_names q_t_reserved q_t_undone q_t_before q_t_comeRow q_t_shown q_t_text q_t_toldAt q_t_stack q_t_truths q_t_imaged q_t_namesKept q_t_areKept t_thrown t_length t_size t_p t_limit t_token t_at t_span t_number t_fault t_faultAt t_word t_got t_lines t_hasWait t_undoMany t_firstMinute t_lookClock t_hasTime t_latestMost t_textMany z26.2 t_toldMany t_hasTold t_codes t_ones t_top t_deep t_isWhole t_s)) S hF hH (c_X12_draw l G cy E N q_t q_t_tape q_t_s q_t_h q_t_read q_t_names q_t_reserved q_t_undone q_t_before q_t_comeRow q_t_shown q_t_text q_t_toldAt q_t_stack q_t_truths q_t_imaged q_t_namesKept q_t_areKept t_thrown t_length t_size t_p t_limit t_token t_at t_span t_number t_fault t_faultAt t_word t_got t_lines t_hasWait t_undoMany t_firstMinute t_lookClock t_hasTime t_latestMost t_textMany z2.2 t_toldMany t_hasTold t_codes t_ones t_top t_deep t_isWhole (t_s 0) z26.1 z26.2 hz26) (cwV 1 hts gX12_drawHour_X12_draw rfl rfl rfl (by decide +kernel) ⟨Nat.le_of_ble_eq_true rfl, Nat.le_of_ble_eq_true rfl⟩) 13 0 rfl rfl [0] rfl (by decide) rfl rfl rfl rfl rfl hl.1 (Nat.le_of_ble_eq_true rfl) dX12_drawHour_26 ⟨Nat.le_of_ble_eq_true rfl, Nat.le_of_ble_eq_true rfl⟩ (fun H locs hH => ?_)
      refine lv_istore_n (lv' := [(2, .int z26.1), (1, .int z2.1), (0, .ref q_t)]) hx hb dX12_drawHour_29 rfl hl (by decide) rfl (fun ls hl => ?_)
      refine lv_aload_n hx hb dX12_drawHour_30 rfl (lv_at hl 2 rfl) ?_
      refine lv_iload_n hx hb dX12_drawHour_31 rfl (lv_at hl 0 rfl) ?_
      obtain ⟨z32, hz32, h⟩ := zcl_e h
      refine z_callV (As := [.int z26.1]) (rest := []) (st1 := [.int z32]) (ws' := (wd_X12_drawHour cy q_t q_t_tape q_t_s q_t_h q_t_read q_t_names q_t_reserved q_t_undone q_t_before q_t_comeRow q_t_shown q_t_text q_t_toldAt q_t_stack q_t_truths q_t_imaged q_t_namesKept q_t_areKept t_thrown t_length t_size t_p t_limit t_token t_at t_span t_number t_fault t_faultAt t_word t_got t_lines t_hasWait t_undoMany t_firstMinute t_lookClock t_hasTime t_latestMost t_textMany z26.2 t_toldMany t_hasTold t_codes t_ones t_top t_deep t_isWhole t_s)) S hF hH (c_X12_isStopped l G cy E N q_t q_t_tape q_t_s q_t_h q_t_read q_t_names q_t_reserved q_t_undone q_t_before q_t_comeRow q_t_shown q_t_text q_t_toldAt q_t_stack q_t_truths q_t_imaged q_t_namesKept q_t_areKept t_thrown t_length t_size t_p t_limit t_token t_at t_span t_number t_fault t_faultAt t_word t_got t_lines t_hasWait t_undoMany t_firstMinute t_lookClock t_hasTime t_latestMost t_textMany z26.2 t_toldMany t_hasTold t_codes t_ones t_top t_deep t_isWhole t_s z26.1 z32 hz32) (cwV 1 hts gX12_drawHour_X12_isStopped rfl rfl rfl (by decide +kernel) ⟨Nat.le_of_ble_eq_true rfl, Nat.le_of_ble_eq_true rfl⟩) 13 0 rfl rfl [0, 1] rfl (by decide) rfl rfl rfl rfl rfl hl.1 (Nat.le_of_ble_eq_true rfl) dX12_drawHour_32 ⟨Nat.le_of_ble_eq_true rfl, Nat.le_of_ble_eq_true rfl⟩ (fun H locs hH => ?_)
      refine lv_if_eq (tgt := 51) hx hb dX12_drawHour_35 (by decide) (fun b35 => ?_) (fun b35 => ?_)
      · replace h := zif_t b35 h
        refine lv_aload_n hx hb dX12_drawHour_51 rfl (lv_at hl 2 rfl) ?_
        refine lv_iload_n hx hb dX12_drawHour_52 rfl (lv_at hl 0 rfl) ?_
        obtain ⟨z53, hz53, h⟩ := zcl_e h
        refine z_callV (As := [.int z26.1]) (rest := []) (st1 := []) (ws' := (wd_X12_drawHour cy q_t q_t_tape q_t_s q_t_h q_t_read q_t_names q_t_reserved q_t_undone q_t_before q_t_comeRow q_t_shown q_t_text q_t_toldAt q_t_stack q_t_truths q_t_imaged q_t_namesKept q_t_areKept t_thrown t_length t_size t_p t_limit t_token t_at t_span t_number t_fault t_faultAt t_word t_got t_lines t_hasWait t_undoMany t_firstMinute t_lookClock t_hasTime t_latestMost t_textMany z26.2 t_toldMany t_hasTold t_codes t_ones t_top t_deep t_isWhole z53)) S hF hH (c_X12_stops l G cy E N q_t q_t_tape q_t_s q_t_h q_t_read q_t_names q_t_reserved q_t_undone q_t_before q_t_comeRow q_t_shown q_t_text q_t_toldAt q_t_stack q_t_truths q_t_imaged q_t_namesKept q_t_areKept t_thrown t_length t_size t_p t_limit t_token t_at t_span t_number t_fault t_faultAt t_word t_got t_lines t_hasWait t_undoMany t_firstMinute t_lookClock t_hasTime t_latestMost t_textMany z26.2 t_toldMany t_hasTold t_codes t_ones t_top t_deep t_isWhole t_s z26.1 z53 hz53) (cwV 1 hts gX12_drawHour_X12_stops rfl rfl rfl (by decide +kernel) ⟨Nat.le_of_ble_eq_true rfl, Nat.le_of_ble_eq_true rfl⟩) 13 0 rfl rfl [0, 1] rfl (by decide) rfl rfl rfl rfl rfl hl.1 (Nat.le_of_ble_eq_true rfl) dX12_drawHour_53 ⟨Nat.le_of_ble_eq_true rfl, Nat.le_of_ble_eq_true rfl⟩ (fun H locs hH => ?_)
        exact w_X12_drawHour_56 S hr hlocks hF z2.1 z26.2 z53 _ _ _ hH (lv_sub hl [2, 1] rfl) h
      · replace h := zif_f b35 h
        refine lv_aload_n hx hb dX12_drawHour_38 rfl (lv_at hl 2 rfl) ?_
        refine lv_iload_n hx hb dX12_drawHour_39 rfl (lv_at hl 0 rfl) ?_
        refine lv_aload_n hx hb dX12_drawHour_40 rfl (lv_at hl 2 rfl) ?_
        refine lv_iload_n hx hb dX12_drawHour_41 rfl (lv_at hl 0 rfl) ?_
        obtain ⟨z42, hz42, h⟩ := zcl_e h
        refine z_callV (As := [.int z26.1]) (rest := [.int z26.1, .ref q_t]) (st1 := [.int z42, .int z26.1, .ref q_t]) (ws' := (wd_X12_drawHour cy q_t q_t_tape q_t_s q_t_h q_t_read q_t_names q_t_reserved q_t_undone q_t_before q_t_comeRow q_t_shown q_t_text q_t_toldAt q_t_stack q_t_truths q_t_imaged q_t_namesKept q_t_areKept t_thrown t_length t_size t_p t_limit t_token t_at t_span t_number t_fault t_faultAt t_word t_got t_lines t_hasWait t_undoMany t_firstMinute t_lookClock t_hasTime t_latestMost t_textMany z26.2 t_toldMany t_hasTold t_codes t_ones t_top t_deep t_isWhole t_s)) S hF hH (c_X12_wrongBy l G cy E N q_t q_t_tape q_t_s q_t_h q_t_read q_t_names q_t_reserved q_t_undone q_t_before q_t_comeRow q_t_shown q_t_text q_t_toldAt q_t_stack q_t_truths q_t_imaged q_t_namesKept q_t_areKept t_thrown t_length t_size t_p t_limit t_token t_at t_span t_number t_fault t_faultAt t_word t_got t_lines t_hasWait t_undoMany t_firstMinute t_lookClock t_hasTime t_latestMost t_textMany z26.2 t_toldMany t_hasTold t_codes t_ones t_top t_deep t_isWhole t_s z26.1 z42 hz42) (cwV 1 hts gX12_drawHour_X12_wrongBy rfl rfl rfl (by decide +kernel) ⟨Nat.le_of_ble_eq_true rfl, Nat.le_of_ble_eq_true rfl⟩) 13 0 rfl rfl [0, 1] rfl (by decide) rfl rfl rfl rfl rfl hl.1 (Nat.le_of_ble_eq_true rfl) dX12_drawHour_42 ⟨Nat.le_of_ble_eq_true rfl, Nat.le_of_ble_eq_true rfl⟩ (fun H locs hH => ?_)
        obtain ⟨z45, hz45, h⟩ := zcl_e h
        refine z_callV (As := [.int z26.1, .int z42]) (rest := []) (st1 := []) (ws' := (wd_X12_drawHour cy q_t q_t_tape q_t_s q_t_h q_t_read q_t_names q_t_reserved q_t_undone q_t_before q_t_comeRow q_t_shown q_t_text q_t_toldAt q_t_stack q_t_truths q_t_imaged q_t_namesKept q_t_areKept t_thrown t_length t_size t_p t_limit t_token t_at t_span t_number t_fault t_faultAt t_word t_got t_lines t_hasWait t_undoMany t_firstMinute t_lookClock t_hasTime t_latestMost t_textMany z26.2 t_toldMany t_hasTold t_codes t_ones t_top t_deep t_isWhole z45)) S hF hH (c_X12_runsFrom l G cy E N q_t q_t_tape q_t_s q_t_h q_t_read q_t_names q_t_reserved q_t_undone q_t_before q_t_comeRow q_t_shown q_t_text q_t_toldAt q_t_stack q_t_truths q_t_imaged q_t_namesKept q_t_areKept t_thrown t_length t_size t_p t_limit t_token t_at t_span t_number t_fault t_faultAt t_word t_got t_lines t_hasWait t_undoMany t_firstMinute t_lookClock t_hasTime t_latestMost t_textMany z26.2 t_toldMany t_hasTold t_codes t_ones t_top t_deep t_isWhole t_s z26.1 z42 z45 hz45) (cwV 2 hts gX12_drawHour_X12_runsFrom rfl rfl rfl (by decide +kernel) ⟨Nat.le_of_ble_eq_true rfl, Nat.le_of_ble_eq_true rfl⟩) 13 0 rfl rfl [0, 1] rfl (by decide) rfl rfl rfl rfl rfl hl.1 (Nat.le_of_ble_eq_true rfl) dX12_drawHour_45 ⟨Nat.le_of_ble_eq_true rfl, Nat.le_of_ble_eq_true rfl⟩ (fun H locs hH => ?_)
        refine lv_goto (tgt := 56) hx hb dX12_drawHour_48 (by decide) ?_
        exact w_X12_drawHour_56 S hr hlocks hF z2.1 z26.2 z45 _ _ _ hH (lv_sub hl [2, 1] rfl) h
abbrev wd_X12_draws (cy : Nat → ClassId) (q_t q_t_tape q_t_s q_t_h q_t_read q_t_names q_t_reserved q_t_undone q_t_before q_t_comeRow q_t_shown q_t_text q_t_toldAt q_t_stack q_t_truths q_t_imaged q_t_namesKept q_t_areKept : Nat) (t_thrown : Int32) (t_length : Int32) (t_size : Int32) (t_p : Int32) (t_limit : Int32) (t_token : Int32) (t_at : Int32) (t_span : Int32) (t_number : Int32) (t_fault : Int32) (t_faultAt : Int32) (t_word : Int64) (t_got : Int32) (t_lines : Int32) (t_hasWait : Int32) (t_undoMany : Int32) (t_firstMinute : Int32) (t_lookClock : Int32) (t_hasTime : Int32) (t_latestMost : Int32) (t_textMany : Int32) (t_seed : Int32) (t_toldMany : Int32) (t_hasTold : Int32) (t_codes : Int32) (t_ones : Int32) (t_top : Int32) (t_deep : Int32) (t_isWhole : Int32) (t_s : Nat → Int32) : va_W := [(q_t, .inr (13, [.int t_thrown, .ref q_t_tape, .int t_length, .int t_size, .int t_p, .int t_limit, .ref q_t_s, .ref q_t_h, .ref q_t_read, .ref q_t_names, .ref q_t_reserved, .int t_token, .int t_at, .int t_span, .int t_number, .int t_fault, .int t_faultAt, .long t_word, .int t_got, .int t_lines, .int t_hasWait, .ref q_t_undone, .ref q_t_before, .int t_undoMany, .ref q_t_comeRow, .int t_firstMinute, .int t_lookClock, .int t_hasTime, .ref q_t_shown, .int t_latestMost, .ref q_t_text, .int t_textMany, .int t_seed, .int t_toldMany, .ref q_t_toldAt, .int t_hasTold, .ref q_t_stack, .int t_codes, .int t_ones, .int t_top, .int t_deep, .int t_isWhole, .ref q_t_truths, .ref q_t_imaged, .ref q_t_namesKept, .ref q_t_areKept])), (q_t_s, .inl (cy 1, 334, .inl t_s))]
theorem iX12_draws_X12 : ∀ w ∈ wsX120, w ∈ wsX12_draws := fun _ h => List.mem_cons_of_mem _ (List.mem_append_right _ h)
abbrev rm_X12_draws : Room := { frames := 6, cells := 0, slots := 0, locals := 132 }
set_option maxRecDepth 100000 in
def f_X12_draws_10 (N : Nat) : Nat → Int32 → Int32 → Int32 → Int32 → (Nat → Int32) → (Option (Int32 × Int32 × (Nat → Int32)))
  | 0, _, _, _, _, _ => none
  | n + 1, x1, x3, x4, c_t_seed, c_t_s => if x1 ≤ x4 then (some (x3, c_t_seed, c_t_s)) else (if 2000 ≤ (c_t_s 52) then (some (x3, c_t_seed, c_t_s)) else (zcl (f_X12_drawHour N c_t_seed c_t_s) fun z30 => zcl (f_X12_goesOn N 60 z30.2) fun z37 => zbn ((x3 + z37.1)) fun y1 => zbn (x4 + 1) fun y2 => f_X12_draws_10 N n x1 y1 y2 z30.1 z37.2))
set_option maxRecDepth 100000 in
def f_X12_draws (N : Nat) (x0 : Int32) (x1 : Int32) (t_seed : Int32) (t_s : Nat → Int32) : Option (Int32 × Int32 × (Nat → Int32)) := f_X12_draws_10 N N x0 0 0 x1 t_s
set_option maxHeartbeats 4000000 in
set_option maxRecDepth 100000 in
theorem w_X12_draws_10 {p : Program} {l : Launch} {e : Env} {s : State} {m : MethodId} {args : Array Value} {below : List Frame} {meth : Method} {c : Code} {G : va_G} {cy : Nat → ClassId} {E : Nat → Nat} {w0 : va_W} {N : Nat} {q_t q_t_tape q_t_s q_t_h q_t_read q_t_names q_t_reserved q_t_undone q_t_before q_t_comeRow q_t_shown q_t_text q_t_toldAt q_t_stack q_t_truths q_t_imaged q_t_namesKept q_t_areKept : Nat} {t_thrown : Int32} {t_length : Int32} {t_size : Int32} {t_p : Int32} {t_limit : Int32} {t_token : Int32} {t_at : Int32} {t_span : Int32} {t_number : Int32} {t_fault : Int32} {t_faultAt : Int32} {t_word : Int64} {t_got : Int32} {t_lines : Int32} {t_hasWait : Int32} {t_undoMany : Int32} {t_firstMinute : Int32} {t_lookClock : Int32} {t_hasTime : Int32} {t_latestMost : Int32} {t_textMany : Int32} {t_toldMany : Int32} {t_hasTold : Int32} {t_codes : Int32} {t_ones : Int32} {t_top : Int32} {t_deep : Int32} {t_isWhole : Int32} {r : Int32} {r_t_seed : Int32} {r_t_s : Nat → Int32} (S : CallFix p m c cX12_draws 5 s args wsX12_draws RX12) (hr : meth.sig.returnType = some .int) (hlocks : meth.locks = false) (hF : zF G cy E (va_A w0 s.heap.size) s) :
    ∀ (n : Nat) (x1 : Int32) (x3 : Int32) (x4 : Int32) (c_t_seed : Int32) (c_t_s : Nat → Int32) (H : Heap) (locs : List Loc) (ls : Array Slot), zH G (va_A w0 s.heap.size) s H locs (wd_X12_draws cy q_t q_t_tape q_t_s q_t_h q_t_read q_t_names q_t_reserved q_t_undone q_t_before q_t_comeRow q_t_shown q_t_text q_t_toldAt q_t_stack q_t_truths q_t_imaged q_t_namesKept q_t_areKept t_thrown t_length t_size t_p t_limit t_token t_at t_span t_number t_fault t_faultAt t_word t_got t_lines t_hasWait t_undoMany t_firstMinute t_lookClock t_hasTime t_latestMost t_textMany c_t_seed t_toldMany t_hasTold t_codes t_ones t_top t_deep t_isWhole c_t_s) → lv_has ls 5 [(0, .ref q_t), (1, .int x1), (3, .int x3), (4, .int x4)] → f_X12_draws_10 N n x1 x3 x4 c_t_seed c_t_s = some (r, r_t_seed, r_t_s) → W p l e rm_X12_draws s m args below meth c H locs 0 0 (MQ below (zQ G w0 (wd_X12_draws cy q_t q_t_tape q_t_s q_t_h q_t_read q_t_names q_t_reserved q_t_undone q_t_before q_t_comeRow q_t_shown q_t_text q_t_toldAt q_t_stack q_t_truths q_t_imaged q_t_namesKept q_t_areKept t_thrown t_length t_size t_p t_limit t_token t_at t_span t_number t_fault t_faultAt t_word t_got t_lines t_hasWait t_undoMany t_firstMinute t_lookClock t_hasTime t_latestMost t_textMany r_t_seed t_toldMany t_hasTold t_codes t_ones t_top t_deep t_isWhole r_t_s) s.heap.size (some (.int r))) args s 0 0 (va_A w0 s.heap.size)) (F0 m 10 ls []) := by
  obtain ⟨hx, hb, hml, hown, hts⟩ := id S
  intro n
  induction n with
  | zero =>
    intro x1 x3 x4 c_t_seed c_t_s H locs ls hH hl h
    rw [f_X12_draws_10] at h
    cases h
  | succ n ih =>
    intro x1 x3 x4 c_t_seed c_t_s H locs ls hH hl h
    rw [f_X12_draws_10] at h
    refine lv_iload hx hb dX12_draws_10 (lv_at hl 3 rfl) ?_
    refine lv_iload_n hx hb dX12_draws_12 rfl (lv_at hl 1 rfl) ?_
    refine lv_icmp_ge (tgt := 48) hx hb dX12_draws_13 (by decide) (fun b13 => ?_) (fun b13 => ?_)
    · replace h := zif_t b13 h
      refine lv_iload_n hx hb dX12_draws_48 rfl (lv_at hl 2 rfl) ?_
      cases h
      exact z_iret S hr hlocks hH dX12_draws_49
    · replace h := zif_f b13 h
      refine lv_aload_n hx hb dX12_draws_16 rfl (lv_at hl 0 rfl) ?_
      refine z_get S hF hH iX12_draws_X12 0 rfl rfl 6 (by decide) (List.mem_of_getElem? (i := 2) rfl) rfl dX12_draws_17 ?_
      refine lv_bipush (v := 52) hx hb dX12_draws_20 (by decide) ?_
      refine z_iald (j := 52) S hF hH 1 rfl (by decide) rfl dX12_draws_22 ?_
      refine lv_sipush (v := 2000) hx hb dX12_draws_23 (by decide) ?_
      refine lv_icmp_ge (tgt := 48) hx hb dX12_draws_26 (by decide) (fun b26 => ?_) (fun b26 => ?_)
      · replace h := zif_t b26 h
        refine lv_iload_n hx hb dX12_draws_48 rfl (lv_at hl 2 rfl) ?_
        cases h
        exact z_iret S hr hlocks hH dX12_draws_49
      · replace h := zif_f b26 h
        refine lv_aload_n hx hb dX12_draws_29 rfl (lv_at hl 0 rfl) ?_
        obtain ⟨z30, hz30, h⟩ := zcl_e h
        refine z_callV (As := []) (rest := []) (st1 := []) (ws' := (wd_X12_draws cy q_t q_t_tape q_t_s q_t_h q_t_read q_t_names q_t_reserved q_t_undone q_t_before q_t_comeRow q_t_shown q_t_text q_t_toldAt q_t_stack q_t_truths q_t_imaged q_t_namesKept q_t_areKept t_thrown t_length t_size t_p t_limit t_token t_at t_span t_number t_fault t_faultAt t_word t_got t_lines t_hasWait t_undoMany t_firstMinute t_lookClock t_hasTime t_latestMost t_textMany z30.1 t_toldMany t_hasTold t_codes t_ones t_top t_deep t_isWhole z30.2)) S hF hH (c_X12_drawHour l G cy E N q_t q_t_tape q_t_s q_t_h q_t_read q_t_names q_t_reserved q_t_undone q_t_before q_t_comeRow q_t_shown q_t_text q_t_toldAt q_t_stack q_t_truths q_t_imaged q_t_namesKept q_t_areKept t_thrown t_length t_size t_p t_limit t_token t_at t_span t_number t_fault t_faultAt t_word t_got t_lines t_hasWait t_undoMany t_firstMinute t_lookClock t_hasTime t_latestMost t_textMany c_t_seed t_toldMany t_hasTold t_codes t_ones t_top t_deep t_isWhole c_t_s z30.1 z30.2 hz30) (cwV 0 hts gX12_draws_X12_drawHour rfl rfl rfl (by decide +kernel) ⟨Nat.le_of_ble_eq_true rfl, Nat.le_of_ble_eq_true rfl⟩) 13 0 rfl rfl [0, 1] rfl (by decide) rfl rfl rfl rfl rfl hl.1 (Nat.le_of_ble_eq_true rfl) dX12_draws_30 ⟨Nat.le_of_ble_eq_true rfl, Nat.le_of_ble_eq_true rfl⟩ (fun H locs hH => ?_)
        refine lv_iload_n hx hb dX12_draws_33 rfl (lv_at hl 2 rfl) ?_
        refine lv_aload_n hx hb dX12_draws_34 rfl (lv_at hl 0 rfl) ?_
        refine lv_bipush (v := 60) hx hb dX12_draws_35 (by decide) ?_
        obtain ⟨z37, hz37, h⟩ := zcl_e h
        refine z_callV (As := [.int 60]) (rest := [.int x3]) (st1 := [.int z37.1, .int x3]) (ws' := (wd_X12_draws cy q_t q_t_tape q_t_s q_t_h q_t_read q_t_names q_t_reserved q_t_undone q_t_before q_t_comeRow q_t_shown q_t_text q_t_toldAt q_t_stack q_t_truths q_t_imaged q_t_namesKept q_t_areKept t_thrown t_length t_size t_p t_limit t_token t_at t_span t_number t_fault t_faultAt t_word t_got t_lines t_hasWait t_undoMany t_firstMinute t_lookClock t_hasTime t_latestMost t_textMany z30.1 t_toldMany t_hasTold t_codes t_ones t_top t_deep t_isWhole z37.2)) S hF hH (c_X12_goesOn l G cy E N q_t q_t_tape q_t_s q_t_h q_t_read q_t_names q_t_reserved q_t_undone q_t_before q_t_comeRow q_t_shown q_t_text q_t_toldAt q_t_stack q_t_truths q_t_imaged q_t_namesKept q_t_areKept t_thrown t_length t_size t_p t_limit t_token t_at t_span t_number t_fault t_faultAt t_word t_got t_lines t_hasWait t_undoMany t_firstMinute t_lookClock t_hasTime t_latestMost t_textMany z30.1 t_toldMany t_hasTold t_codes t_ones t_top t_deep t_isWhole z30.2 60 z37.1 z37.2 hz37) (cwV 1 hts gX12_draws_X12_goesOn rfl rfl rfl (by decide +kernel) ⟨Nat.le_of_ble_eq_true rfl, Nat.le_of_ble_eq_true rfl⟩) 13 0 rfl rfl [0, 1] rfl (by decide) rfl rfl rfl rfl rfl hl.1 (Nat.le_of_ble_eq_true rfl) dX12_draws_37 ⟨Nat.le_of_ble_eq_true rfl, Nat.le_of_ble_eq_true rfl⟩ (fun H locs hH => ?_)
        refine lv_iadd hx hb dX12_draws_40 ?_
        obtain ⟨y1, ey1, h⟩ := zbn_e h
        refine z_top ey1 ?_
        clear ey1
        refine lv_istore_n (lv' := [(3, .int y1), (0, .ref q_t), (1, .int x1), (4, .int x4)]) hx hb dX12_draws_41 rfl hl (by decide) rfl (fun ls hl => ?_)
        obtain ⟨y2, ey2, h⟩ := zbn_e h
        refine lv_iinc (v := y2) (lv' := [(4, .int y2), (3, .int y1), (0, .ref q_t), (1, .int x1)]) hx hb dX12_draws_42 hl (k := 3) rfl (by rw [ey2]; exact congrArg (fun z => x4 + z) (by decide)) (by decide) rfl (fun ls hl => ?_)
        clear ey2
        refine lv_goto (tgt := 10) hx hb dX12_draws_45 (by decide) ?_
        exact ih x1 y1 y2 z30.1 z37.2 _ _ _ hH (lv_sub hl [2, 3, 1, 0] rfl) h
set_option maxHeartbeats 4000000 in
set_option maxRecDepth 100000 in
theorem c_X12_draws (l : Launch) (G : va_G) (cy : Nat → ClassId) (E : Nat → Nat) (N : Nat) (q_t q_t_tape q_t_s q_t_h q_t_read q_t_names q_t_reserved q_t_undone q_t_before q_t_comeRow q_t_shown q_t_text q_t_toldAt q_t_stack q_t_truths q_t_imaged q_t_namesKept q_t_areKept : Nat) (t_thrown : Int32) (t_length : Int32) (t_size : Int32) (t_p : Int32) (t_limit : Int32) (t_token : Int32) (t_at : Int32) (t_span : Int32) (t_number : Int32) (t_fault : Int32) (t_faultAt : Int32) (t_word : Int64) (t_got : Int32) (t_lines : Int32) (t_hasWait : Int32) (t_undoMany : Int32) (t_firstMinute : Int32) (t_lookClock : Int32) (t_hasTime : Int32) (t_latestMost : Int32) (t_textMany : Int32) (t_seed : Int32) (t_toldMany : Int32) (t_hasTold : Int32) (t_codes : Int32) (t_ones : Int32) (t_top : Int32) (t_deep : Int32) (t_isWhole : Int32) (t_s : Nat → Int32) (x0 : Int32) (x1 : Int32) (r : Int32) (r_t_seed : Int32) (r_t_s : Nat → Int32) (h : f_X12_draws N x0 x1 t_seed t_s = some (r, r_t_seed, r_t_s)) : zM l G cy E yX12_draws wsX12_draws rm_X12_draws [.ref q_t, .int x0, .int x1] (wd_X12_draws cy q_t q_t_tape q_t_s q_t_h q_t_read q_t_names q_t_reserved q_t_undone q_t_before q_t_comeRow q_t_shown q_t_text q_t_toldAt q_t_stack q_t_truths q_t_imaged q_t_namesKept q_t_areKept t_thrown t_length t_size t_p t_limit t_token t_at t_span t_number t_fault t_faultAt t_word t_got t_lines t_hasWait t_undoMany t_firstMinute t_lookClock t_hasTime t_latestMost t_textMany t_seed t_toldMany t_hasTold t_codes t_ones t_top t_deep t_isWhole t_s) (wd_X12_draws cy q_t q_t_tape q_t_s q_t_h q_t_read q_t_names q_t_reserved q_t_undone q_t_before q_t_comeRow q_t_shown q_t_text q_t_toldAt q_t_stack q_t_truths q_t_imaged q_t_namesKept q_t_areKept t_thrown t_length t_size t_p t_limit t_token t_at t_span t_number t_fault t_faultAt t_word t_got t_lines t_hasWait t_undoMany t_firstMinute t_lookClock t_hasTime t_latestMost t_textMany r_t_seed t_toldMany t_hasTold t_codes t_ones t_top t_deep t_isWhole r_t_s) (some (.int r)) 0 0 := by
  refine z_body (cc := cX12_draws) (maxL := 5) (ret := some .int) (by decide) rfl (Nat.le_of_ble_eq_true rfl) ?_
  intro p e s m below meth c ls S hr hlocks hnm hF hH hl
  have S : CallFix p m c cX12_draws 5 s ([.ref q_t, .int x0, .int x1] : List Value).toArray wsX12_draws RX12 := S
  obtain ⟨hx, hb, hml, hown, hts⟩ := id S
  have hl : lv_has ls 5 [(0, .ref q_t), (1, .int x0), (2, .int x1)] := hl
  rw [f_X12_draws] at h
  refine lv_aload_n hx hb dX12_draws_0 rfl (lv_at hl 0 rfl) ?_
  refine lv_iload_n hx hb dX12_draws_1 rfl (lv_at hl 2 rfl) ?_
  refine z_put (ws' := (wd_X12_draws cy q_t q_t_tape q_t_s q_t_h q_t_read q_t_names q_t_reserved q_t_undone q_t_before q_t_comeRow q_t_shown q_t_text q_t_toldAt q_t_stack q_t_truths q_t_imaged q_t_namesKept q_t_areKept t_thrown t_length t_size t_p t_limit t_token t_at t_span t_number t_fault t_faultAt t_word t_got t_lines t_hasWait t_undoMany t_firstMinute t_lookClock t_hasTime t_latestMost t_textMany x1 t_toldMany t_hasTold t_codes t_ones t_top t_deep t_isWhole t_s)) S hF hH iX12_draws_X12 tyX12 tyX12_ok nmX12 0 rfl rfl 32 (by decide) (List.mem_of_getElem? (i := 1) rfl) rfl rfl rfl (Nat.le_of_ble_eq_true rfl) rfl dX12_draws_2 (fun H locs hH => ?_)
  refine lv_iconst (v := 0) hx hb dX12_draws_5 (by decide) ?_
  refine lv_istore_n (lv' := [(3, .int 0), (0, .ref q_t), (1, .int x0), (2, .int x1)]) hx hb dX12_draws_6 rfl hl (by decide) rfl (fun ls hl => ?_)
  refine lv_iconst (v := 0) hx hb dX12_draws_7 (by decide) ?_
  refine lv_istore (lv' := [(4, .int 0), (3, .int 0), (0, .ref q_t), (1, .int x0), (2, .int x1)]) hx hb dX12_draws_8 hl (by decide) rfl (fun ls hl => ?_)
  exact w_X12_draws_10 S hr hlocks hF N x0 0 0 x1 t_s _ _ _ hH (lv_sub hl [2, 3, 1, 0] rfl) h
abbrev wd_X12_drawn (cy : Nat → ClassId) (q_t q_t_tape q_t_s q_t_h q_t_read q_t_names q_t_reserved q_t_undone q_t_before q_t_comeRow q_t_shown q_t_text q_t_toldAt q_t_stack q_t_truths q_t_imaged q_t_namesKept q_t_areKept : Nat) (t_thrown : Int32) (t_length : Int32) (t_size : Int32) (t_p : Int32) (t_limit : Int32) (t_token : Int32) (t_at : Int32) (t_span : Int32) (t_number : Int32) (t_fault : Int32) (t_faultAt : Int32) (t_word : Int64) (t_got : Int32) (t_lines : Int32) (t_hasWait : Int32) (t_undoMany : Int32) (t_firstMinute : Int32) (t_lookClock : Int32) (t_hasTime : Int32) (t_latestMost : Int32) (t_textMany : Int32) (t_seed : Int32) (t_toldMany : Int32) (t_hasTold : Int32) (t_codes : Int32) (t_ones : Int32) (t_top : Int32) (t_deep : Int32) (t_isWhole : Int32) (t_s : Nat → Int32) (t_undone : Nat → Int32) : va_W := [(q_t, .inr (13, [.int t_thrown, .ref q_t_tape, .int t_length, .int t_size, .int t_p, .int t_limit, .ref q_t_s, .ref q_t_h, .ref q_t_read, .ref q_t_names, .ref q_t_reserved, .int t_token, .int t_at, .int t_span, .int t_number, .int t_fault, .int t_faultAt, .long t_word, .int t_got, .int t_lines, .int t_hasWait, .ref q_t_undone, .ref q_t_before, .int t_undoMany, .ref q_t_comeRow, .int t_firstMinute, .int t_lookClock, .int t_hasTime, .ref q_t_shown, .int t_latestMost, .ref q_t_text, .int t_textMany, .int t_seed, .int t_toldMany, .ref q_t_toldAt, .int t_hasTold, .ref q_t_stack, .int t_codes, .int t_ones, .int t_top, .int t_deep, .int t_isWhole, .ref q_t_truths, .ref q_t_imaged, .ref q_t_namesKept, .ref q_t_areKept])), (q_t_s, .inl (cy 1, 334, .inl t_s)), (q_t_undone, .inl (cy 1, 808, .inl t_undone))]
theorem iX12_drawn_X12 : ∀ w ∈ wsX120, w ∈ wsX12_drawn := fun _ h => List.mem_cons_of_mem _ (List.mem_append_right _ h)
abbrev rm_X12_drawn : Room := { frames := 7, cells := 0, slots := 0, locals := 156 }
set_option maxRecDepth 100000 in
def f_X12_drawn_34 (N : Nat) (x1 : Int32) (x2 : Int32) (c_t_thrown : Int32) (c_t_undoMany : Int32) (c_t_seed : Int32) (c_t_s : Nat → Int32) (c_t_undone : Nat → Int32) : Option (Int32 × Int32 × Int32 × Int32 × (Nat → Int32) × (Nat → Int32)) := zcl (f_X12_draws N x1 x2 c_t_seed c_t_s) fun z37 => some (z37.1, c_t_thrown, c_t_undoMany, z37.2.1, z37.2.2, c_t_undone)
set_option maxRecDepth 100000 in
def f_X12_drawn (N : Nat) (x0 : Int32) (x1 : Int32) (t_thrown : Int32) (t_undoMany : Int32) (t_seed : Int32) (t_s : Nat → Int32) (t_undone : Nat → Int32) : Option (Int32 × Int32 × Int32 × Int32 × (Nat → Int32) × (Nat → Int32)) := zcl (f_X12_isIn N x0 1 24) fun z9 => if z9 = 0 then (some ((-1), 0, t_undoMany, t_seed, t_s, t_undone)) else (if 2000 ≤ (t_s 52) then (f_X12_drawn_34 N x0 x1 0 t_undoMany t_seed t_s t_undone) else (zcl (f_X12_keep N t_undoMany t_undone t_s) fun z31 => f_X12_drawn_34 N x0 x1 0 z31.1 t_seed t_s z31.2))
set_option maxHeartbeats 4000000 in
set_option maxRecDepth 100000 in
theorem w_X12_drawn_34 {p : Program} {l : Launch} {e : Env} {s : State} {m : MethodId} {args : Array Value} {below : List Frame} {meth : Method} {c : Code} {G : va_G} {cy : Nat → ClassId} {E : Nat → Nat} {w0 : va_W} {N : Nat} {q_t q_t_tape q_t_s q_t_h q_t_read q_t_names q_t_reserved q_t_undone q_t_before q_t_comeRow q_t_shown q_t_text q_t_toldAt q_t_stack q_t_truths q_t_imaged q_t_namesKept q_t_areKept : Nat} {t_length : Int32} {t_size : Int32} {t_p : Int32} {t_limit : Int32} {t_token : Int32} {t_at : Int32} {t_span : Int32} {t_number : Int32} {t_fault : Int32} {t_faultAt : Int32} {t_word : Int64} {t_got : Int32} {t_lines : Int32} {t_hasWait : Int32} {t_firstMinute : Int32} {t_lookClock : Int32} {t_hasTime : Int32} {t_latestMost : Int32} {t_textMany : Int32} {t_toldMany : Int32} {t_hasTold : Int32} {t_codes : Int32} {t_ones : Int32} {t_top : Int32} {t_deep : Int32} {t_isWhole : Int32} {r : Int32} {r_t_thrown : Int32} {r_t_undoMany : Int32} {r_t_seed : Int32} {r_t_s : Nat → Int32} {r_t_undone : Nat → Int32} (S : CallFix p m c cX12_drawn 3 s args wsX12_drawn RX12) (hr : meth.sig.returnType = some .int) (hlocks : meth.locks = false) (hF : zF G cy E (va_A w0 s.heap.size) s) :
    ∀ (x1 : Int32) (x2 : Int32) (c_t_thrown : Int32) (c_t_undoMany : Int32) (c_t_seed : Int32) (c_t_s : Nat → Int32) (c_t_undone : Nat → Int32) (H : Heap) (locs : List Loc) (ls : Array Slot), zH G (va_A w0 s.heap.size) s H locs (wd_X12_drawn cy q_t q_t_tape q_t_s q_t_h q_t_read q_t_names q_t_reserved q_t_undone q_t_before q_t_comeRow q_t_shown q_t_text q_t_toldAt q_t_stack q_t_truths q_t_imaged q_t_namesKept q_t_areKept c_t_thrown t_length t_size t_p t_limit t_token t_at t_span t_number t_fault t_faultAt t_word t_got t_lines t_hasWait c_t_undoMany t_firstMinute t_lookClock t_hasTime t_latestMost t_textMany c_t_seed t_toldMany t_hasTold t_codes t_ones t_top t_deep t_isWhole c_t_s c_t_undone) → lv_has ls 3 [(0, .ref q_t), (1, .int x1), (2, .int x2)] → f_X12_drawn_34 N x1 x2 c_t_thrown c_t_undoMany c_t_seed c_t_s c_t_undone = some (r, r_t_thrown, r_t_undoMany, r_t_seed, r_t_s, r_t_undone) → W p l e rm_X12_drawn s m args below meth c H locs 0 0 (MQ below (zQ G w0 (wd_X12_drawn cy q_t q_t_tape q_t_s q_t_h q_t_read q_t_names q_t_reserved q_t_undone q_t_before q_t_comeRow q_t_shown q_t_text q_t_toldAt q_t_stack q_t_truths q_t_imaged q_t_namesKept q_t_areKept r_t_thrown t_length t_size t_p t_limit t_token t_at t_span t_number t_fault t_faultAt t_word t_got t_lines t_hasWait r_t_undoMany t_firstMinute t_lookClock t_hasTime t_latestMost t_textMany r_t_seed t_toldMany t_hasTold t_codes t_ones t_top t_deep t_isWhole r_t_s r_t_undone) s.heap.size (some (.int r))) args s 0 0 (va_A w0 s.heap.size)) (F0 m 34 ls []) := by
  obtain ⟨hx, hb, hml, hown, hts⟩ := id S
  intro x1 x2 c_t_thrown c_t_undoMany c_t_seed c_t_s c_t_undone H locs ls hH hl h
  rw [f_X12_drawn_34] at h
  refine lv_aload_n hx hb dX12_drawn_34 rfl (lv_at hl 0 rfl) ?_
  refine lv_iload_n hx hb dX12_drawn_35 rfl (lv_at hl 1 rfl) ?_
  refine lv_iload_n hx hb dX12_drawn_36 rfl (lv_at hl 2 rfl) ?_
  obtain ⟨z37, hz37, h⟩ := zcl_e h
  refine z_callV (As := [.int x1, .int x2]) (rest := []) (st1 := [.int z37.1]) (ws' := (wd_X12_drawn cy q_t q_t_tape q_t_s q_t_h q_t_read q_t_names q_t_reserved q_t_undone q_t_before q_t_comeRow q_t_shown q_t_text q_t_toldAt q_t_stack q_t_truths q_t_imaged q_t_namesKept q_t_areKept c_t_thrown t_length t_size t_p t_limit t_token t_at t_span t_number t_fault t_faultAt t_word t_got t_lines t_hasWait c_t_undoMany t_firstMinute t_lookClock t_hasTime t_latestMost t_textMany z37.2.1 t_toldMany t_hasTold t_codes t_ones t_top t_deep t_isWhole z37.2.2 c_t_undone)) S hF hH (c_X12_draws l G cy E N q_t q_t_tape q_t_s q_t_h q_t_read q_t_names q_t_reserved q_t_undone q_t_before q_t_comeRow q_t_shown q_t_text q_t_toldAt q_t_stack q_t_truths q_t_imaged q_t_namesKept q_t_areKept c_t_thrown t_length t_size t_p t_limit t_token t_at t_span t_number t_fault t_faultAt t_word t_got t_lines t_hasWait c_t_undoMany t_firstMinute t_lookClock t_hasTime t_latestMost t_textMany c_t_seed t_toldMany t_hasTold t_codes t_ones t_top t_deep t_isWhole c_t_s x1 x2 z37.1 z37.2.1 z37.2.2 hz37) (cwV 2 hts gX12_drawn_X12_draws rfl rfl rfl (by decide +kernel) ⟨Nat.le_of_ble_eq_true rfl, Nat.le_of_ble_eq_true rfl⟩) 13 0 rfl rfl [0, 1] rfl (by decide) rfl rfl rfl rfl rfl hl.1 (Nat.le_of_ble_eq_true rfl) dX12_drawn_37 ⟨Nat.le_of_ble_eq_true rfl, Nat.le_of_ble_eq_true rfl⟩ (fun H locs hH => ?_)
  cases h
  exact z_iret S hr hlocks hH dX12_drawn_40
set_option maxHeartbeats 4000000 in
set_option maxRecDepth 100000 in
theorem c_X12_drawn (l : Launch) (G : va_G) (cy : Nat → ClassId) (E : Nat → Nat) (N : Nat) (q_t q_t_tape q_t_s q_t_h q_t_read q_t_names q_t_reserved q_t_undone q_t_before q_t_comeRow q_t_shown q_t_text q_t_toldAt q_t_stack q_t_truths q_t_imaged q_t_namesKept q_t_areKept : Nat) (t_thrown : Int32) (t_length : Int32) (t_size : Int32) (t_p : Int32) (t_limit : Int32) (t_token : Int32) (t_at : Int32) (t_span : Int32) (t_number : Int32) (t_fault : Int32) (t_faultAt : Int32) (t_word : Int64) (t_got : Int32) (t_lines : Int32) (t_hasWait : Int32) (t_undoMany : Int32) (t_firstMinute : Int32) (t_lookClock : Int32) (t_hasTime : Int32) (t_latestMost : Int32) (t_textMany : Int32) (t_seed : Int32) (t_toldMany : Int32) (t_hasTold : Int32) (t_codes : Int32) (t_ones : Int32) (t_top : Int32) (t_deep : Int32) (t_isWhole : Int32) (t_s : Nat → Int32) (t_undone : Nat → Int32) (x0 : Int32) (x1 : Int32) (r : Int32) (r_t_thrown : Int32) (r_t_undoMany : Int32) (r_t_seed : Int32) (r_t_s : Nat → Int32) (r_t_undone : Nat → Int32) (h : f_X12_drawn N x0 x1 t_thrown t_undoMany t_seed t_s t_undone = some (r, r_t_thrown, r_t_undoMany, r_t_seed, r_t_s, r_t_undone)) : zM l G cy E yX12_drawn wsX12_drawn rm_X12_drawn [.ref q_t, .int x0, .int x1] (wd_X12_drawn cy q_t q_t_tape q_t_s q_t_h q_t_read q_t_names q_t_reserved q_t_undone q_t_before q_t_comeRow q_t_shown q_t_text q_t_toldAt q_t_stack q_t_truths q_t_imaged q_t_namesKept q_t_areKept t_thrown t_length t_size t_p t_limit t_token t_at t_span t_number t_fault t_faultAt t_word t_got t_lines t_hasWait t_undoMany t_firstMinute t_lookClock t_hasTime t_latestMost t_textMany t_seed t_toldMany t_hasTold t_codes t_ones t_top t_deep t_isWhole t_s t_undone) (wd_X12_drawn cy q_t q_t_tape q_t_s q_t_h q_t_read q_t_names q_t_reserved q_t_undone q_t_before q_t_comeRow q_t_shown q_t_text q_t_toldAt q_t_stack q_t_truths q_t_imaged q_t_namesKept q_t_areKept r_t_thrown t_length t_size t_p t_limit t_token t_at t_span t_number t_fault t_faultAt t_word t_got t_lines t_hasWait r_t_undoMany t_firstMinute t_lookClock t_hasTime t_latestMost t_textMany r_t_seed t_toldMany t_hasTold t_codes t_ones t_top t_deep t_isWhole r_t_s r_t_undone) (some (.int r)) 0 0 := by
  refine z_body (cc := cX12_drawn) (maxL := 3) (ret := some .int) (by decide) rfl (Nat.le_of_ble_eq_true rfl) ?_
  intro p e s m below meth c ls S hr hlocks hnm hF hH hl
  have S : CallFix p m c cX12_drawn 3 s ([.ref q_t, .int x0, .int x1] : List Value).toArray wsX12_drawn RX12 := S
  obtain ⟨hx, hb, hml, hown, hts⟩ := id S
  have hl : lv_has ls 3 [(0, .ref q_t), (1, .int x0), (2, .int x1)] := hl
  rw [f_X12_drawn] at h
  refine lv_aload_n hx hb dX12_drawn_0 rfl (lv_at hl 0 rfl) ?_
  refine lv_iconst (v := 0) hx hb dX12_drawn_1 (by decide) ?_
  refine z_put (ws' := (wd_X12_drawn cy q_t q_t_tape q_t_s q_t_h q_t_read q_t_names q_t_reserved q_t_undone q_t_before q_t_comeRow q_t_shown q_t_text q_t_toldAt q_t_stack q_t_truths q_t_imaged q_t_namesKept q_t_areKept 0 t_length t_size t_p t_limit t_token t_at t_span t_number t_fault t_faultAt t_word t_got t_lines t_hasWait t_undoMany t_firstMinute t_lookClock t_hasTime t_latestMost t_textMany t_seed t_toldMany t_hasTold t_codes t_ones t_top t_deep t_isWhole t_s t_undone)) S hF hH iX12_drawn_X12 tyX12 tyX12_ok nmX12 0 rfl rfl 0 (by decide) (List.mem_of_getElem? (i := 1) rfl) rfl rfl rfl (Nat.le_of_ble_eq_true rfl) rfl dX12_drawn_2 (fun H locs hH => ?_)
  refine lv_iload_n hx hb dX12_drawn_5 rfl (lv_at hl 1 rfl) ?_
  refine lv_iconst (v := 1) hx hb dX12_drawn_6 (by decide) ?_
  refine lv_bipush (v := 24) hx hb dX12_drawn_7 (by decide) ?_
  obtain ⟨z9, hz9, h⟩ := zcl_e h
  refine z_callS (As := [.int x0, .int 1, .int 24]) (rest := []) (st1 := [.int z9]) (ws' := (wd_X12_drawn cy q_t q_t_tape q_t_s q_t_h q_t_read q_t_names q_t_reserved q_t_undone q_t_before q_t_comeRow q_t_shown q_t_text q_t_toldAt q_t_stack q_t_truths q_t_imaged q_t_namesKept q_t_areKept 0 t_length t_size t_p t_limit t_token t_at t_span t_number t_fault t_faultAt t_word t_got t_lines t_hasWait t_undoMany t_firstMinute t_lookClock t_hasTime t_latestMost t_textMany t_seed t_toldMany t_hasTold t_codes t_ones t_top t_deep t_isWhole t_s t_undone)) S hF hH (c_X12_isIn l G cy E N x0 1 24 z9 hz9) (cwS 3 hts gX12_drawn_X12_isIn rfl rfl rfl (by decide +kernel) ⟨Nat.le_of_ble_eq_true rfl, Nat.le_of_ble_eq_true rfl⟩) [] rfl (by decide) rfl rfl rfl rfl rfl hl.1 (Nat.le_of_ble_eq_true rfl) dX12_drawn_9 ⟨Nat.le_of_ble_eq_true rfl, Nat.le_of_ble_eq_true rfl⟩ (fun H locs hH => ?_)
  refine lv_if_ne (tgt := 17) hx hb dX12_drawn_12 (by decide) (fun b12 => ?_) (fun b12 => ?_)
  · replace h := zif_f b12 h
    refine lv_aload_n hx hb dX12_drawn_17 rfl (lv_at hl 0 rfl) ?_
    refine z_get S hF hH iX12_drawn_X12 0 rfl rfl 6 (by decide) (List.mem_of_getElem? (i := 2) rfl) rfl dX12_drawn_18 ?_
    refine lv_bipush (v := 52) hx hb dX12_drawn_21 (by decide) ?_
    refine z_iald (j := 52) S hF hH 1 rfl (by decide) rfl dX12_drawn_23 ?_
    refine lv_sipush (v := 2000) hx hb dX12_drawn_24 (by decide) ?_
    refine lv_icmp_ge (tgt := 34) hx hb dX12_drawn_27 (by decide) (fun b27 => ?_) (fun b27 => ?_)
    · replace h := zif_t b27 h
      exact w_X12_drawn_34 S hr hlocks hF x0 x1 0 t_undoMany t_seed t_s t_undone _ _ _ hH (lv_sub hl [0, 1, 2] rfl) h
    · replace h := zif_f b27 h
      refine lv_aload_n hx hb dX12_drawn_30 rfl (lv_at hl 0 rfl) ?_
      obtain ⟨z31, hz31, h⟩ := zcl_e h
      refine z_callV (As := []) (rest := []) (st1 := []) (ws' := (wd_X12_drawn cy q_t q_t_tape q_t_s q_t_h q_t_read q_t_names q_t_reserved q_t_undone q_t_before q_t_comeRow q_t_shown q_t_text q_t_toldAt q_t_stack q_t_truths q_t_imaged q_t_namesKept q_t_areKept 0 t_length t_size t_p t_limit t_token t_at t_span t_number t_fault t_faultAt t_word t_got t_lines t_hasWait z31.1 t_firstMinute t_lookClock t_hasTime t_latestMost t_textMany t_seed t_toldMany t_hasTold t_codes t_ones t_top t_deep t_isWhole t_s z31.2)) S hF hH (c_X12_keep l G cy E N q_t q_t_tape q_t_s q_t_h q_t_read q_t_names q_t_reserved q_t_undone q_t_before q_t_comeRow q_t_shown q_t_text q_t_toldAt q_t_stack q_t_truths q_t_imaged q_t_namesKept q_t_areKept 0 t_length t_size t_p t_limit t_token t_at t_span t_number t_fault t_faultAt t_word t_got t_lines t_hasWait t_undoMany t_firstMinute t_lookClock t_hasTime t_latestMost t_textMany t_seed t_toldMany t_hasTold t_codes t_ones t_top t_deep t_isWhole t_undone t_s z31.1 z31.2 hz31) (cwV 0 hts gX12_drawn_X12_keep rfl rfl rfl (by decide +kernel) ⟨Nat.le_of_ble_eq_true rfl, Nat.le_of_ble_eq_true rfl⟩) 13 0 rfl rfl [0, 2, 1] rfl (by decide) rfl rfl rfl rfl rfl hl.1 (Nat.le_of_ble_eq_true rfl) dX12_drawn_31 ⟨Nat.le_of_ble_eq_true rfl, Nat.le_of_ble_eq_true rfl⟩ (fun H locs hH => ?_)
      exact w_X12_drawn_34 S hr hlocks hF x0 x1 0 z31.1 t_seed t_s z31.2 _ _ _ hH (lv_sub hl [0, 1, 2] rfl) h
  · replace h := zif_t b12 h
    refine lv_iconst (v := (-1)) hx hb dX12_drawn_15 (by decide) ?_
    cases h
    exact z_iret S hr hlocks hH dX12_drawn_16
