abbrev wd_X12_burgh (cy : Nat → ClassId) (q_t q_t_tape q_t_s q_t_h q_t_read q_t_names q_t_reserved q_t_undone q_t_before q_t_comeRow q_t_shown q_t_text q_t_toldAt q_t_stack q_t_truths q_t_imaged q_t_namesKept q_t_areKept : Nat) (t_thrown : Int32) (t_length : Int32) (t_size : Int32) (t_p : Int32) (t_limit : Int32) (t_token : Int32) (t_at : Int32) (t_span : Int32) (t_number : Int32) (t_fault : Int32) (t_faultAt : Int32) (t_word : Int64) (t_got : Int32) (t_lines : Int32) (t_hasWait : Int32) (t_undoMany : Int32) (t_firstMinute : Int32) (t_lookClock : Int32) (t_hasTime : Int32) (t_latestMost : Int32) (t_textMany : Int32) (t_seed : Int32) (t_toldMany : Int32) (t_hasTold : Int32) (t_codes : Int32) (t_ones : Int32) (t_top : Int32) (t_deep : Int32) (t_isWhole : Int32) (t_h : Nat → Int32) (t_tape : Nat → Int32) (t_reserved : Nat → Int64) (t_names : Nat → Int64) (t_s : Nat → Int32) : va_W := [(q_t, .inr (13, [.int t_thrown, .ref q_t_tape, .int t_length, .int t_size, .int t_p, .int t_limit, .ref q_t_s, .ref q_t_h, .ref q_t_read, .ref q_t_names, .ref q_t_reserved, .int t_token, .int t_at, .int t_span, .int t_number, .int t_fault, .int t_faultAt, .long t_word, .int t_got, .int t_lines, .int t_hasWait, .ref q_t_undone, .ref q_t_before, .int t_undoMany, .ref q_t_comeRow, .int t_firstMinute, .int t_lookClock, .int t_hasTime, .ref q_t_shown, .int t_latestMost, .ref q_t_text, .int t_textMany, .int t_seed, .int t_toldMany, .ref q_t_toldAt, .int t_hasTold, .ref q_t_stack, .int t_codes, .int t_ones, .int t_top, .int t_deep, .int t_isWhole, .ref q_t_truths, .ref q_t_imaged, .ref q_t_namesKept, .ref q_t_areKept])), (q_t_h, .inl (cy 1, 52, .inl t_h)), (q_t_tape, .inl (cy 0, 940, .inl t_tape)), (q_t_reserved, .inl (cy 2, 26, .inr (.inl t_reserved))), (q_t_names, .inl (cy 2, 36, .inr (.inl t_names))), (q_t_s, .inl (cy 1, 334, .inl t_s))]
theorem iX12_burgh_X12 : ∀ w ∈ wsX120, w ∈ wsX12_burgh := fun _ h => List.mem_cons_of_mem _ (List.mem_append_right _ h)
abbrev rm_X12_burgh : Room := { frames := 6, cells := 0, slots := 0, locals := 131 }
set_option maxRecDepth 100000 in
def f_X12_burgh_146 (N : Nat) (t_tape : Nat → Int32) (t_reserved : Nat → Int64) : Nat → Int32 → Int32 → Int32 → Int32 → Int32 → Int32 → Int32 → Int32 → Int32 → Int32 → Int32 → Int32 → Int64 → Int32 → Int32 → Int32 → Int32 → (Nat → Int32) → (Nat → Int64) → (Nat → Int32) → (Option (Int32 × Int32 × Int32 × Int32 × Int32 × Int32 × Int32 × Int32 × Int32 × Int32 × Int32 × Int32 × Int64 × Int32 × Int32 × Int32 × Int32 × (Nat → Int32) × (Nat → Int64) × (Nat → Int32)))
  | 0, _, _, _, _, _, _, _, _, _, _, _, _, _, _, _, _, _, _, _, _ => none
  | n + 1, x1, c_t_thrown, c_t_length, c_t_size, c_t_p, c_t_limit, c_t_token, c_t_at, c_t_span, c_t_number, c_t_fault, c_t_faultAt, c_t_word, c_t_got, c_t_lines, c_t_hasWait, c_t_undoMany, c_t_h, c_t_names, c_t_s => if 6 ≤ x1 then (some (c_t_lines, c_t_thrown, c_t_length, c_t_size, c_t_p, c_t_limit, c_t_token, c_t_at, c_t_span, c_t_number, c_t_fault, c_t_faultAt, c_t_word, c_t_got, c_t_lines, c_t_hasWait, 0, c_t_h, c_t_names, c_t_s)) else (zck (zin (10 + x1) 334) <| zbn ((c_t_s (Int32.toNatClampNeg (10 + x1)))) fun y1 => zck (zin (57 + x1) 334) <| zbn (upd c_t_s (Int32.toNatClampNeg (57 + x1)) y1) fun f2 => zck (zin (40 + x1) 334) <| zbn ((f2 (Int32.toNatClampNeg (40 + x1)))) fun y3 => zck (zin (75 + x1) 334) <| zbn (upd f2 (Int32.toNatClampNeg (75 + x1)) y3) fun f4 => zbn (x1 + 1) fun y5 => f_X12_burgh_146 N t_tape t_reserved n y5 c_t_thrown c_t_length c_t_size c_t_p c_t_limit c_t_token c_t_at c_t_span c_t_number c_t_fault c_t_faultAt c_t_word c_t_got c_t_lines c_t_hasWait c_t_undoMany c_t_h c_t_names f4)
set_option maxRecDepth 100000 in
def f_X12_burgh_108 (N : Nat) (t_tape : Nat → Int32) (t_reserved : Nat → Int64) (k_80 : Int32 → Int32 → Int32 → Int32 → Int32 → Int32 → Int32 → Int32 → Int32 → Int32 → Int32 → Int32 → Int64 → Int32 → Int32 → Int32 → Int32 → (Nat → Int32) → (Nat → Int64) → (Nat → Int32) → (Option (Int32 × Int32 × Int32 × Int32 × Int32 × Int32 × Int32 × Int32 × Int32 × Int32 × Int32 × Int32 × Int64 × Int32 × Int32 × Int32 × Int32 × (Nat → Int32) × (Nat → Int64) × (Nat → Int32)))) (x1 : Int32) (sk0 : Int32) (sk1 : Int32) (c_t_thrown : Int32) (c_t_length : Int32) (c_t_size : Int32) (c_t_p : Int32) (c_t_limit : Int32) (c_t_token : Int32) (c_t_at : Int32) (c_t_span : Int32) (c_t_number : Int32) (c_t_fault : Int32) (c_t_faultAt : Int32) (c_t_word : Int64) (c_t_got : Int32) (c_t_lines : Int32) (c_t_hasWait : Int32) (c_t_undoMany : Int32) (c_t_h : Nat → Int32) (c_t_names : Nat → Int64) (c_t_s : Nat → Int32) : Option (Int32 × Int32 × Int32 × Int32 × Int32 × Int32 × Int32 × Int32 × Int32 × Int32 × Int32 × Int32 × Int64 × Int32 × Int32 × Int32 × Int32 × (Nat → Int32) × (Nat → Int64) × (Nat → Int32)) := zck (zin sk1 334) <| zbn (upd c_t_s (Int32.toNatClampNeg sk1) sk0) fun f1 => zbn (x1 + 1) fun y2 => k_80 y2 c_t_thrown c_t_length c_t_size c_t_p c_t_limit c_t_token c_t_at c_t_span c_t_number c_t_fault c_t_faultAt c_t_word c_t_got c_t_lines c_t_hasWait c_t_undoMany c_t_h c_t_names f1
set_option maxRecDepth 100000 in
def f_X12_burgh_117 (N : Nat) (t_tape : Nat → Int32) (t_reserved : Nat → Int64) : Nat → Int32 → Int32 → Int32 → Int32 → Int32 → Int32 → Int32 → Int32 → Int32 → Int32 → Int32 → Int32 → Int64 → Int32 → Int32 → Int32 → Int32 → (Nat → Int32) → (Nat → Int64) → (Nat → Int32) → (Option (Int32 × Int32 × Int32 × Int32 × Int32 × Int32 × Int32 × Int32 × Int32 × Int32 × Int32 × Int32 × Int64 × Int32 × Int32 × Int32 × Int32 × (Nat → Int32) × (Nat → Int64) × (Nat → Int32)))
  | 0, _, _, _, _, _, _, _, _, _, _, _, _, _, _, _, _, _, _, _, _ => none
  | n + 1, x1, c_t_thrown, c_t_length, c_t_size, c_t_p, c_t_limit, c_t_token, c_t_at, c_t_span, c_t_number, c_t_fault, c_t_faultAt, c_t_word, c_t_got, c_t_lines, c_t_hasWait, c_t_undoMany, c_t_h, c_t_names, c_t_s => if 18 ≤ x1 then (f_X12_burgh_146 N t_tape t_reserved N 0 c_t_thrown c_t_length c_t_size c_t_p c_t_limit c_t_token c_t_at c_t_span c_t_number c_t_fault c_t_faultAt c_t_word c_t_got c_t_lines c_t_hasWait c_t_undoMany c_t_h c_t_names c_t_s) else (zck (zin (18 + x1) 36) <| zbn ((c_t_names (Int32.toNatClampNeg (18 + x1)))) fun y1 => zck (zin x1 36) <| zbn (vp_updL c_t_names (Int32.toNatClampNeg x1) y1) fun f2 => zbn (x1 + 1) fun y3 => f_X12_burgh_117 N t_tape t_reserved n y3 c_t_thrown c_t_length c_t_size c_t_p c_t_limit c_t_token c_t_at c_t_span c_t_number c_t_fault c_t_faultAt c_t_word c_t_got c_t_lines c_t_hasWait c_t_undoMany c_t_h f2 c_t_s)
set_option maxRecDepth 100000 in
def f_X12_burgh_58 (N : Nat) (t_tape : Nat → Int32) (t_reserved : Nat → Int64) (c_t_thrown : Int32) (c_t_length : Int32) (c_t_size : Int32) (c_t_p : Int32) (c_t_limit : Int32) (c_t_token : Int32) (c_t_at : Int32) (c_t_span : Int32) (c_t_number : Int32) (c_t_fault : Int32) (c_t_faultAt : Int32) (c_t_word : Int64) (c_t_got : Int32) (c_t_lines : Int32) (c_t_hasWait : Int32) (c_t_undoMany : Int32) (c_t_h : Nat → Int32) (c_t_names : Nat → Int64) (c_t_s : Nat → Int32) : Option (Int32 × Int32 × Int32 × Int32 × Int32 × Int32 × Int32 × Int32 × Int32 × Int32 × Int32 × Int32 × Int64 × Int32 × Int32 × Int32 × Int32 × (Nat → Int32) × (Nat → Int64) × (Nat → Int32)) := some (((-1) - c_t_faultAt), c_t_thrown, c_t_length, c_t_size, c_t_p, c_t_limit, c_t_token, c_t_at, c_t_span, c_t_number, c_t_fault, c_t_faultAt, c_t_word, c_t_got, c_t_lines, c_t_hasWait, c_t_undoMany, c_t_h, c_t_names, c_t_s)
set_option maxRecDepth 100000 in
def f_X12_burgh_80 (N : Nat) (t_tape : Nat → Int32) (t_reserved : Nat → Int64) : Nat → Int32 → Int32 → Int32 → Int32 → Int32 → Int32 → Int32 → Int32 → Int32 → Int32 → Int32 → Int32 → Int64 → Int32 → Int32 → Int32 → Int32 → (Nat → Int32) → (Nat → Int64) → (Nat → Int32) → (Option (Int32 × Int32 × Int32 × Int32 × Int32 × Int32 × Int32 × Int32 × Int32 × Int32 × Int32 × Int32 × Int64 × Int32 × Int32 × Int32 × Int32 × (Nat → Int32) × (Nat → Int64) × (Nat → Int32)))
  | 0, _, _, _, _, _, _, _, _, _, _, _, _, _, _, _, _, _, _, _, _ => none
  | n + 1, x1, c_t_thrown, c_t_length, c_t_size, c_t_p, c_t_limit, c_t_token, c_t_at, c_t_span, c_t_number, c_t_fault, c_t_faultAt, c_t_word, c_t_got, c_t_lines, c_t_hasWait, c_t_undoMany, c_t_h, c_t_names, c_t_s => if 334 ≤ x1 then (f_X12_burgh_117 N t_tape t_reserved N 0 c_t_thrown c_t_length c_t_size c_t_p c_t_limit c_t_token c_t_at c_t_span c_t_number c_t_fault c_t_faultAt c_t_word c_t_got c_t_lines c_t_hasWait c_t_undoMany c_t_h c_t_names c_t_s) else (if 52 ≤ x1 then (f_X12_burgh_108 N t_tape t_reserved (f_X12_burgh_80 N t_tape t_reserved n) x1 0 x1 c_t_thrown c_t_length c_t_size c_t_p c_t_limit c_t_token c_t_at c_t_span c_t_number c_t_fault c_t_faultAt c_t_word c_t_got c_t_lines c_t_hasWait c_t_undoMany c_t_h c_t_names c_t_s) else (zck (zin x1 52) <| f_X12_burgh_108 N t_tape t_reserved (f_X12_burgh_80 N t_tape t_reserved n) x1 (c_t_h (Int32.toNatClampNeg x1)) x1 c_t_thrown c_t_length c_t_size c_t_p c_t_limit c_t_token c_t_at c_t_span c_t_number c_t_fault c_t_faultAt c_t_word c_t_got c_t_lines c_t_hasWait c_t_undoMany c_t_h c_t_names c_t_s))
set_option maxRecDepth 100000 in
def f_X12_burgh_35 (N : Nat) (t_tape : Nat → Int32) (t_reserved : Nat → Int64) : Nat → Int32 → Int32 → Int32 → Int32 → Int32 → Int32 → Int32 → Int32 → Int32 → Int32 → Int32 → Int64 → Int32 → Int32 → Int32 → Int32 → (Nat → Int32) → (Nat → Int64) → (Nat → Int32) → (Option (Int32 × Int32 × Int32 × Int32 × Int32 × Int32 × Int32 × Int32 × Int32 × Int32 × Int32 × Int32 × Int64 × Int32 × Int32 × Int32 × Int32 × (Nat → Int32) × (Nat → Int64) × (Nat → Int32)))
  | 0, _, _, _, _, _, _, _, _, _, _, _, _, _, _, _, _, _, _, _ => none
  | n + 1, c_t_thrown, c_t_length, c_t_size, c_t_p, c_t_limit, c_t_token, c_t_at, c_t_span, c_t_number, c_t_fault, c_t_faultAt, c_t_word, c_t_got, c_t_lines, c_t_hasWait, c_t_undoMany, c_t_h, c_t_names, c_t_s => if c_t_token = 0 then (f_X12_burgh_80 N t_tape t_reserved N 0 c_t_thrown c_t_length c_t_size c_t_p c_t_limit c_t_token c_t_at c_t_span c_t_number c_t_fault c_t_faultAt c_t_word c_t_got c_t_lines c_t_hasWait c_t_undoMany c_t_h c_t_names c_t_s) else (zcl (f_X12_readLine N c_t_size c_t_p c_t_limit c_t_token c_t_at c_t_span c_t_number c_t_fault c_t_faultAt c_t_word c_t_got c_t_hasWait c_t_h t_tape t_reserved c_t_names) fun z43 => if z43.1 = 0 then (f_X12_burgh_58 N t_tape t_reserved c_t_thrown c_t_length c_t_size z43.2.1 c_t_limit z43.2.2.1 z43.2.2.2.1 z43.2.2.2.2.1 z43.2.2.2.2.2.1 z43.2.2.2.2.2.2.1 z43.2.2.2.2.2.2.2.1 z43.2.2.2.2.2.2.2.2.1 z43.2.2.2.2.2.2.2.2.2.1 c_t_lines z43.2.2.2.2.2.2.2.2.2.2.1 c_t_undoMany z43.2.2.2.2.2.2.2.2.2.2.2.1 z43.2.2.2.2.2.2.2.2.2.2.2.2 c_t_s) else (zcl (f_X12_sign N 59 c_t_size z43.2.1 c_t_limit z43.2.2.1 z43.2.2.2.1 z43.2.2.2.2.1 z43.2.2.2.2.2.1 z43.2.2.2.2.2.2.1 z43.2.2.2.2.2.2.2.1 z43.2.2.2.2.2.2.2.2.1 t_tape) fun z52 => if z52.1 = 0 then (f_X12_burgh_58 N t_tape t_reserved c_t_thrown c_t_length c_t_size z52.2.1 c_t_limit z52.2.2.1 z52.2.2.2.1 z52.2.2.2.2.1 z52.2.2.2.2.2.1 z52.2.2.2.2.2.2.1 z52.2.2.2.2.2.2.2.1 z52.2.2.2.2.2.2.2.2 z43.2.2.2.2.2.2.2.2.2.1 c_t_lines z43.2.2.2.2.2.2.2.2.2.2.1 c_t_undoMany z43.2.2.2.2.2.2.2.2.2.2.2.1 z43.2.2.2.2.2.2.2.2.2.2.2.2 c_t_s) else (zbn ((c_t_lines + 1)) fun y1 => f_X12_burgh_35 N t_tape t_reserved n c_t_thrown c_t_length c_t_size z52.2.1 c_t_limit z52.2.2.1 z52.2.2.2.1 z52.2.2.2.2.1 z52.2.2.2.2.2.1 z52.2.2.2.2.2.2.1 z52.2.2.2.2.2.2.2.1 z52.2.2.2.2.2.2.2.2 z43.2.2.2.2.2.2.2.2.2.1 y1 z43.2.2.2.2.2.2.2.2.2.2.1 c_t_undoMany z43.2.2.2.2.2.2.2.2.2.2.2.1 z43.2.2.2.2.2.2.2.2.2.2.2.2 c_t_s)))
set_option maxRecDepth 100000 in
def f_X12_burgh (N : Nat) (t_thrown : Int32) (t_length : Int32) (t_size : Int32) (t_p : Int32) (t_limit : Int32) (t_token : Int32) (t_at : Int32) (t_span : Int32) (t_number : Int32) (t_fault : Int32) (t_faultAt : Int32) (t_word : Int64) (t_got : Int32) (t_lines : Int32) (t_hasWait : Int32) (t_undoMany : Int32) (t_h : Nat → Int32) (t_tape : Nat → Int32) (t_reserved : Nat → Int64) (t_names : Nat → Int64) (t_s : Nat → Int32) : Option (Int32 × Int32 × Int32 × Int32 × Int32 × Int32 × Int32 × Int32 × Int32 × Int32 × Int32 × Int32 × Int64 × Int32 × Int32 × Int32 × Int32 × (Nat → Int32) × (Nat → Int64) × (Nat → Int32)) := zcl (f_X12_taken N 900 t_length t_size t_p t_limit) fun z9 => zcl (f_X12_clears N t_h) fun z28 => zcl (f_X12_next N z9.2.1 z9.2.2.1 z9.2.2.2 t_token t_at t_span t_number t_word t_tape) fun z32 => f_X12_burgh_35 N t_tape t_reserved N 0 z9.1 z9.2.1 z32.1 z9.2.2.2 z32.2.1 z32.2.2.1 z32.2.2.2.1 z32.2.2.2.2.1 0 t_faultAt z32.2.2.2.2.2 t_got 0 0 t_undoMany z28 t_names t_s
set_option maxHeartbeats 4000000 in
set_option maxRecDepth 100000 in
theorem w_X12_burgh_146 {p : Program} {l : Launch} {e : Env} {s : State} {m : MethodId} {args : Array Value} {below : List Frame} {meth : Method} {c : Code} {G : va_G} {cy : Nat → ClassId} {E : Nat → Nat} {w0 : va_W} {N : Nat} {q_t q_t_tape q_t_s q_t_h q_t_read q_t_names q_t_reserved q_t_undone q_t_before q_t_comeRow q_t_shown q_t_text q_t_toldAt q_t_stack q_t_truths q_t_imaged q_t_namesKept q_t_areKept : Nat} {t_firstMinute : Int32} {t_lookClock : Int32} {t_hasTime : Int32} {t_latestMost : Int32} {t_textMany : Int32} {t_seed : Int32} {t_toldMany : Int32} {t_hasTold : Int32} {t_codes : Int32} {t_ones : Int32} {t_top : Int32} {t_deep : Int32} {t_isWhole : Int32} {t_tape : Nat → Int32} {t_reserved : Nat → Int64} {r : Int32} {r_t_thrown : Int32} {r_t_length : Int32} {r_t_size : Int32} {r_t_p : Int32} {r_t_limit : Int32} {r_t_token : Int32} {r_t_at : Int32} {r_t_span : Int32} {r_t_number : Int32} {r_t_fault : Int32} {r_t_faultAt : Int32} {r_t_word : Int64} {r_t_got : Int32} {r_t_lines : Int32} {r_t_hasWait : Int32} {r_t_undoMany : Int32} {r_t_h : Nat → Int32} {r_t_names : Nat → Int64} {r_t_s : Nat → Int32} (S : CallFix p m c cX12_burgh 2 s args wsX12_burgh RX12) (hr : meth.sig.returnType = some .int) (hlocks : meth.locks = false) (hF : zF G cy E (va_A w0 s.heap.size) s) :
    ∀ (n : Nat) (x1 : Int32) (c_t_thrown : Int32) (c_t_length : Int32) (c_t_size : Int32) (c_t_p : Int32) (c_t_limit : Int32) (c_t_token : Int32) (c_t_at : Int32) (c_t_span : Int32) (c_t_number : Int32) (c_t_fault : Int32) (c_t_faultAt : Int32) (c_t_word : Int64) (c_t_got : Int32) (c_t_lines : Int32) (c_t_hasWait : Int32) (c_t_undoMany : Int32) (c_t_h : Nat → Int32) (c_t_names : Nat → Int64) (c_t_s : Nat → Int32) (H : Heap) (locs : List Loc) (ls : Array Slot), zH G (va_A w0 s.heap.size) s H locs (wd_X12_burgh cy q_t q_t_tape q_t_s q_t_h q_t_read q_t_names q_t_reserved q_t_undone q_t_before q_t_comeRow q_t_shown q_t_text q_t_toldAt q_t_stack q_t_truths q_t_imaged q_t_namesKept q_t_areKept c_t_thrown c_t_length c_t_size c_t_p c_t_limit c_t_token c_t_at c_t_span c_t_number c_t_fault c_t_faultAt c_t_word c_t_got c_t_lines c_t_hasWait c_t_undoMany t_firstMinute t_lookClock t_hasTime t_latestMost t_textMany t_seed t_toldMany t_hasTold t_codes t_ones t_top t_deep t_isWhole c_t_h t_tape t_reserved c_t_names c_t_s) → lv_has ls 2 [(0, .ref q_t), (1, .int x1)] → f_X12_burgh_146 N t_tape t_reserved n x1 c_t_thrown c_t_length c_t_size c_t_p c_t_limit c_t_token c_t_at c_t_span c_t_number c_t_fault c_t_faultAt c_t_word c_t_got c_t_lines c_t_hasWait c_t_undoMany c_t_h c_t_names c_t_s = some (r, r_t_thrown, r_t_length, r_t_size, r_t_p, r_t_limit, r_t_token, r_t_at, r_t_span, r_t_number, r_t_fault, r_t_faultAt, r_t_word, r_t_got, r_t_lines, r_t_hasWait, r_t_undoMany, r_t_h, r_t_names, r_t_s) → W p l e rm_X12_burgh s m args below meth c H locs 0 0 (MQ below (zQ G w0 (wd_X12_burgh cy q_t q_t_tape q_t_s q_t_h q_t_read q_t_names q_t_reserved q_t_undone q_t_before q_t_comeRow q_t_shown q_t_text q_t_toldAt q_t_stack q_t_truths q_t_imaged q_t_namesKept q_t_areKept r_t_thrown r_t_length r_t_size r_t_p r_t_limit r_t_token r_t_at r_t_span r_t_number r_t_fault r_t_faultAt r_t_word r_t_got r_t_lines r_t_hasWait r_t_undoMany t_firstMinute t_lookClock t_hasTime t_latestMost t_textMany t_seed t_toldMany t_hasTold t_codes t_ones t_top t_deep t_isWhole r_t_h t_tape t_reserved r_t_names r_t_s) s.heap.size (some (.int r))) args s 0 0 (va_A w0 s.heap.size)) (F0 m 146 ls []) := by
  obtain ⟨hx, hb, hml, hown, hts⟩ := id S
  intro n
  induction n with
  | zero =>
    intro x1 c_t_thrown c_t_length c_t_size c_t_p c_t_limit c_t_token c_t_at c_t_span c_t_number c_t_fault c_t_faultAt c_t_word c_t_got c_t_lines c_t_hasWait c_t_undoMany c_t_h c_t_names c_t_s H locs ls hH hl h
    rw [f_X12_burgh_146] at h
    cases h
  | succ n ih =>
    intro x1 c_t_thrown c_t_length c_t_size c_t_p c_t_limit c_t_token c_t_at c_t_span c_t_number c_t_fault c_t_faultAt c_t_word c_t_got c_t_lines c_t_hasWait c_t_undoMany c_t_h c_t_names c_t_s H locs ls hH hl h
    rw [f_X12_burgh_146] at h
    refine lv_iload_n hx hb dX12_burgh_146 rfl (lv_at hl 1 rfl) ?_
    refine lv_bipush (v := 6) hx hb dX12_burgh_147 (by decide) ?_
    refine lv_icmp_ge (tgt := 194) hx hb dX12_burgh_149 (by decide) (fun b149 => ?_) (fun b149 => ?_)
    · replace h := zif_t b149 h
      refine lv_aload_n hx hb dX12_burgh_194 rfl (lv_at hl 0 rfl) ?_
      refine lv_iconst (v := 0) hx hb dX12_burgh_195 (by decide) ?_
      refine z_put (ws' := (wd_X12_burgh cy q_t q_t_tape q_t_s q_t_h q_t_read q_t_names q_t_reserved q_t_undone q_t_before q_t_comeRow q_t_shown q_t_text q_t_toldAt q_t_stack q_t_truths q_t_imaged q_t_namesKept q_t_areKept c_t_thrown c_t_length c_t_size c_t_p c_t_limit c_t_token c_t_at c_t_span c_t_number c_t_fault c_t_faultAt c_t_word c_t_got c_t_lines c_t_hasWait 0 t_firstMinute t_lookClock t_hasTime t_latestMost t_textMany t_seed t_toldMany t_hasTold t_codes t_ones t_top t_deep t_isWhole c_t_h t_tape t_reserved c_t_names c_t_s)) S hF hH iX12_burgh_X12 tyX12 tyX12_ok nmX12 0 rfl rfl 23 (by decide) (List.mem_of_getElem? (i := 10) rfl) rfl rfl rfl (Nat.le_of_ble_eq_true rfl) rfl dX12_burgh_196 (fun H locs hH => ?_)
      refine lv_aload_n hx hb dX12_burgh_199 rfl (lv_at hl 0 rfl) ?_
      refine z_get S hF hH iX12_burgh_X12 0 rfl rfl 19 (by decide) (List.mem_of_getElem? (i := 3) rfl) rfl dX12_burgh_200 ?_
      cases h
      exact z_iret S hr hlocks hH dX12_burgh_203
    · replace h := zif_f b149 h
      refine lv_aload_n hx hb dX12_burgh_152 rfl (lv_at hl 0 rfl) ?_
      refine z_get S hF hH iX12_burgh_X12 0 rfl rfl 6 (by decide) (List.mem_of_getElem? (i := 7) rfl) rfl dX12_burgh_153 ?_
      refine lv_bipush (v := 57) hx hb dX12_burgh_156 (by decide) ?_
      refine lv_iload_n hx hb dX12_burgh_158 rfl (lv_at hl 1 rfl) ?_
      refine lv_iadd hx hb dX12_burgh_159 ?_
      refine lv_aload_n hx hb dX12_burgh_160 rfl (lv_at hl 0 rfl) ?_
      refine z_get S hF hH iX12_burgh_X12 0 rfl rfl 6 (by decide) (List.mem_of_getElem? (i := 7) rfl) rfl dX12_burgh_161 ?_
      refine lv_bipush (v := 10) hx hb dX12_burgh_164 (by decide) ?_
      refine lv_iload_n hx hb dX12_burgh_166 rfl (lv_at hl 1 rfl) ?_
      refine lv_iadd hx hb dX12_burgh_167 ?_
      obtain ⟨h168, h⟩ := zck_e h
      refine z_iald S hF hH 5 rfl h168 rfl dX12_burgh_168 ?_
      obtain ⟨y1, ey1, h⟩ := zbn_e h
      refine z_top ey1 ?_
      clear ey1
      obtain ⟨h169, h⟩ := zck_e h
      obtain ⟨f2, ef2, h⟩ := zbn_e h
      refine z_iast (ws' := (wd_X12_burgh cy q_t q_t_tape q_t_s q_t_h q_t_read q_t_names q_t_reserved q_t_undone q_t_before q_t_comeRow q_t_shown q_t_text q_t_toldAt q_t_stack q_t_truths q_t_imaged q_t_namesKept q_t_areKept c_t_thrown c_t_length c_t_size c_t_p c_t_limit c_t_token c_t_at c_t_span c_t_number c_t_fault c_t_faultAt c_t_word c_t_got c_t_lines c_t_hasWait c_t_undoMany t_firstMinute t_lookClock t_hasTime t_latestMost t_textMany t_seed t_toldMany t_hasTold t_codes t_ones t_top t_deep t_isWhole c_t_h t_tape t_reserved c_t_names f2)) (j := (Int32.toNatClampNeg (57 + x1))) S hF hH 5 rfl h169 rfl (by rw [ef2]; rfl) dX12_burgh_169 (fun H locs hH => ?_)
      clear ef2
      refine lv_aload_n hx hb dX12_burgh_170 rfl (lv_at hl 0 rfl) ?_
      refine z_get S hF hH iX12_burgh_X12 0 rfl rfl 6 (by decide) (List.mem_of_getElem? (i := 7) rfl) rfl dX12_burgh_171 ?_
      refine lv_bipush (v := 75) hx hb dX12_burgh_174 (by decide) ?_
      refine lv_iload_n hx hb dX12_burgh_176 rfl (lv_at hl 1 rfl) ?_
      refine lv_iadd hx hb dX12_burgh_177 ?_
      refine lv_aload_n hx hb dX12_burgh_178 rfl (lv_at hl 0 rfl) ?_
      refine z_get S hF hH iX12_burgh_X12 0 rfl rfl 6 (by decide) (List.mem_of_getElem? (i := 7) rfl) rfl dX12_burgh_179 ?_
      refine lv_bipush (v := 40) hx hb dX12_burgh_182 (by decide) ?_
      refine lv_iload_n hx hb dX12_burgh_184 rfl (lv_at hl 1 rfl) ?_
      refine lv_iadd hx hb dX12_burgh_185 ?_
      obtain ⟨h186, h⟩ := zck_e h
      refine z_iald S hF hH 5 rfl h186 rfl dX12_burgh_186 ?_
      obtain ⟨y3, ey3, h⟩ := zbn_e h
      refine z_top ey3 ?_
      clear ey3
      obtain ⟨h187, h⟩ := zck_e h
      obtain ⟨f4, ef4, h⟩ := zbn_e h
      refine z_iast (ws' := (wd_X12_burgh cy q_t q_t_tape q_t_s q_t_h q_t_read q_t_names q_t_reserved q_t_undone q_t_before q_t_comeRow q_t_shown q_t_text q_t_toldAt q_t_stack q_t_truths q_t_imaged q_t_namesKept q_t_areKept c_t_thrown c_t_length c_t_size c_t_p c_t_limit c_t_token c_t_at c_t_span c_t_number c_t_fault c_t_faultAt c_t_word c_t_got c_t_lines c_t_hasWait c_t_undoMany t_firstMinute t_lookClock t_hasTime t_latestMost t_textMany t_seed t_toldMany t_hasTold t_codes t_ones t_top t_deep t_isWhole c_t_h t_tape t_reserved c_t_names f4)) (j := (Int32.toNatClampNeg (75 + x1))) S hF hH 5 rfl h187 rfl (by rw [ef4]; rfl) dX12_burgh_187 (fun H locs hH => ?_)
      clear ef4
      obtain ⟨y5, ey5, h⟩ := zbn_e h
      refine lv_iinc (v := y5) (lv' := [(1, .int y5), (0, .ref q_t)]) hx hb dX12_burgh_188 hl (k := 1) rfl (by rw [ey5]; exact congrArg (fun z => x1 + z) (by decide)) (by decide) rfl (fun ls hl => ?_)
      clear ey5
      refine lv_goto (tgt := 146) hx hb dX12_burgh_191 (by decide) ?_
      exact ih y5 c_t_thrown c_t_length c_t_size c_t_p c_t_limit c_t_token c_t_at c_t_span c_t_number c_t_fault c_t_faultAt c_t_word c_t_got c_t_lines c_t_hasWait c_t_undoMany c_t_h c_t_names f4 _ _ _ hH (lv_sub hl [1, 0] rfl) h
set_option maxHeartbeats 4000000 in
set_option maxRecDepth 100000 in
theorem w_X12_burgh_108 {p : Program} {l : Launch} {e : Env} {s : State} {m : MethodId} {args : Array Value} {below : List Frame} {meth : Method} {c : Code} {G : va_G} {cy : Nat → ClassId} {E : Nat → Nat} {w0 : va_W} {N : Nat} {q_t q_t_tape q_t_s q_t_h q_t_read q_t_names q_t_reserved q_t_undone q_t_before q_t_comeRow q_t_shown q_t_text q_t_toldAt q_t_stack q_t_truths q_t_imaged q_t_namesKept q_t_areKept : Nat} {t_firstMinute : Int32} {t_lookClock : Int32} {t_hasTime : Int32} {t_latestMost : Int32} {t_textMany : Int32} {t_seed : Int32} {t_toldMany : Int32} {t_hasTold : Int32} {t_codes : Int32} {t_ones : Int32} {t_top : Int32} {t_deep : Int32} {t_isWhole : Int32} {t_tape : Nat → Int32} {t_reserved : Nat → Int64} {r : Int32} {r_t_thrown : Int32} {r_t_length : Int32} {r_t_size : Int32} {r_t_p : Int32} {r_t_limit : Int32} {r_t_token : Int32} {r_t_at : Int32} {r_t_span : Int32} {r_t_number : Int32} {r_t_fault : Int32} {r_t_faultAt : Int32} {r_t_word : Int64} {r_t_got : Int32} {r_t_lines : Int32} {r_t_hasWait : Int32} {r_t_undoMany : Int32} {r_t_h : Nat → Int32} {r_t_names : Nat → Int64} {r_t_s : Nat → Int32} {k_80 : Int32 → Int32 → Int32 → Int32 → Int32 → Int32 → Int32 → Int32 → Int32 → Int32 → Int32 → Int32 → Int64 → Int32 → Int32 → Int32 → Int32 → (Nat → Int32) → (Nat → Int64) → (Nat → Int32) → (Option (Int32 × Int32 × Int32 × Int32 × Int32 × Int32 × Int32 × Int32 × Int32 × Int32 × Int32 × Int32 × Int64 × Int32 × Int32 × Int32 × Int32 × (Nat → Int32) × (Nat → Int64) × (Nat → Int32)))} (S : CallFix p m c cX12_burgh 2 s args wsX12_burgh RX12) (hr : meth.sig.returnType = some .int) (hlocks : meth.locks = false) (hF : zF G cy E (va_A w0 s.heap.size) s) (hk_80 : ∀ (x1 : Int32) (c_t_thrown : Int32) (c_t_length : Int32) (c_t_size : Int32) (c_t_p : Int32) (c_t_limit : Int32) (c_t_token : Int32) (c_t_at : Int32) (c_t_span : Int32) (c_t_number : Int32) (c_t_fault : Int32) (c_t_faultAt : Int32) (c_t_word : Int64) (c_t_got : Int32) (c_t_lines : Int32) (c_t_hasWait : Int32) (c_t_undoMany : Int32) (c_t_h : Nat → Int32) (c_t_names : Nat → Int64) (c_t_s : Nat → Int32) (H : Heap) (locs : List Loc) (ls : Array Slot), zH G (va_A w0 s.heap.size) s H locs (wd_X12_burgh cy q_t q_t_tape q_t_s q_t_h q_t_read q_t_names q_t_reserved q_t_undone q_t_before q_t_comeRow q_t_shown q_t_text q_t_toldAt q_t_stack q_t_truths q_t_imaged q_t_namesKept q_t_areKept c_t_thrown c_t_length c_t_size c_t_p c_t_limit c_t_token c_t_at c_t_span c_t_number c_t_fault c_t_faultAt c_t_word c_t_got c_t_lines c_t_hasWait c_t_undoMany t_firstMinute t_lookClock t_hasTime t_latestMost t_textMany t_seed t_toldMany t_hasTold t_codes t_ones t_top t_deep t_isWhole c_t_h t_tape t_reserved c_t_names c_t_s) → lv_has ls 2 [(0, .ref q_t), (1, .int x1)] → k_80 x1 c_t_thrown c_t_length c_t_size c_t_p c_t_limit c_t_token c_t_at c_t_span c_t_number c_t_fault c_t_faultAt c_t_word c_t_got c_t_lines c_t_hasWait c_t_undoMany c_t_h c_t_names c_t_s = some (r, r_t_thrown, r_t_length, r_t_size, r_t_p, r_t_limit, r_t_token, r_t_at, r_t_span, r_t_number, r_t_fault, r_t_faultAt, r_t_word, r_t_got, r_t_lines, r_t_hasWait, r_t_undoMany, r_t_h, r_t_names, r_t_s) → W p l e rm_X12_burgh s m args below meth c H locs 0 0 (MQ below (zQ G w0 (wd_X12_burgh cy q_t q_t_tape q_t_s q_t_h q_t_read q_t_names q_t_reserved q_t_undone q_t_before q_t_comeRow q_t_shown q_t_text q_t_toldAt q_t_stack q_t_truths q_t_imaged q_t_namesKept q_t_areKept r_t_thrown r_t_length r_t_size r_t_p r_t_limit r_t_token r_t_at r_t_span r_t_number r_t_fault r_t_faultAt r_t_word r_t_got r_t_lines r_t_hasWait r_t_undoMany t_firstMinute t_lookClock t_hasTime t_latestMost t_textMany t_seed t_toldMany t_hasTold t_codes t_ones t_top t_deep t_isWhole r_t_h t_tape t_reserved r_t_names r_t_s) s.heap.size (some (.int r))) args s 0 0 (va_A w0 s.heap.size)) (F0 m 80 ls [])) :
    ∀ (x1 : Int32) (sk0 : Int32) (sk1 : Int32) (c_t_thrown : Int32) (c_t_length : Int32) (c_t_size : Int32) (c_t_p : Int32) (c_t_limit : Int32) (c_t_token : Int32) (c_t_at : Int32) (c_t_span : Int32) (c_t_number : Int32) (c_t_fault : Int32) (c_t_faultAt : Int32) (c_t_word : Int64) (c_t_got : Int32) (c_t_lines : Int32) (c_t_hasWait : Int32) (c_t_undoMany : Int32) (c_t_h : Nat → Int32) (c_t_names : Nat → Int64) (c_t_s : Nat → Int32) (H : Heap) (locs : List Loc) (ls : Array Slot), zH G (va_A w0 s.heap.size) s H locs (wd_X12_burgh cy q_t q_t_tape q_t_s q_t_h q_t_read q_t_names q_t_reserved q_t_undone q_t_before q_t_comeRow q_t_shown q_t_text q_t_toldAt q_t_stack q_t_truths q_t_imaged q_t_namesKept q_t_areKept c_t_thrown c_t_length c_t_size c_t_p c_t_limit c_t_token c_t_at c_t_span c_t_number c_t_fault c_t_faultAt c_t_word c_t_got c_t_lines c_t_hasWait c_t_undoMany t_firstMinute t_lookClock t_hasTime t_latestMost t_textMany t_seed t_toldMany t_hasTold t_codes t_ones t_top t_deep t_isWhole c_t_h t_tape t_reserved c_t_names c_t_s) → lv_has ls 2 [(0, .ref q_t), (1, .int x1)] → f_X12_burgh_108 N t_tape t_reserved k_80 x1 sk0 sk1 c_t_thrown c_t_length c_t_size c_t_p c_t_limit c_t_token c_t_at c_t_span c_t_number c_t_fault c_t_faultAt c_t_word c_t_got c_t_lines c_t_hasWait c_t_undoMany c_t_h c_t_names c_t_s = some (r, r_t_thrown, r_t_length, r_t_size, r_t_p, r_t_limit, r_t_token, r_t_at, r_t_span, r_t_number, r_t_fault, r_t_faultAt, r_t_word, r_t_got, r_t_lines, r_t_hasWait, r_t_undoMany, r_t_h, r_t_names, r_t_s) → W p l e rm_X12_burgh s m args below meth c H locs 0 0 (MQ below (zQ G w0 (wd_X12_burgh cy q_t q_t_tape q_t_s q_t_h q_t_read q_t_names q_t_reserved q_t_undone q_t_before q_t_comeRow q_t_shown q_t_text q_t_toldAt q_t_stack q_t_truths q_t_imaged q_t_namesKept q_t_areKept r_t_thrown r_t_length r_t_size r_t_p r_t_limit r_t_token r_t_at r_t_span r_t_number r_t_fault r_t_faultAt r_t_word r_t_got r_t_lines r_t_hasWait r_t_undoMany t_firstMinute t_lookClock t_hasTime t_latestMost t_textMany t_seed t_toldMany t_hasTold t_codes t_ones t_top t_deep t_isWhole r_t_h t_tape t_reserved r_t_names r_t_s) s.heap.size (some (.int r))) args s 0 0 (va_A w0 s.heap.size)) (F0 m 108 ls [.int sk0, .int sk1, .ref q_t_s]) := by
  obtain ⟨hx, hb, hml, hown, hts⟩ := id S
  intro x1 sk0 sk1 c_t_thrown c_t_length c_t_size c_t_p c_t_limit c_t_token c_t_at c_t_span c_t_number c_t_fault c_t_faultAt c_t_word c_t_got c_t_lines c_t_hasWait c_t_undoMany c_t_h c_t_names c_t_s H locs ls hH hl h
  rw [f_X12_burgh_108] at h
  obtain ⟨h108, h⟩ := zck_e h
  obtain ⟨f1, ef1, h⟩ := zbn_e h
  refine z_iast (ws' := (wd_X12_burgh cy q_t q_t_tape q_t_s q_t_h q_t_read q_t_names q_t_reserved q_t_undone q_t_before q_t_comeRow q_t_shown q_t_text q_t_toldAt q_t_stack q_t_truths q_t_imaged q_t_namesKept q_t_areKept c_t_thrown c_t_length c_t_size c_t_p c_t_limit c_t_token c_t_at c_t_span c_t_number c_t_fault c_t_faultAt c_t_word c_t_got c_t_lines c_t_hasWait c_t_undoMany t_firstMinute t_lookClock t_hasTime t_latestMost t_textMany t_seed t_toldMany t_hasTold t_codes t_ones t_top t_deep t_isWhole c_t_h t_tape t_reserved c_t_names f1)) (j := (Int32.toNatClampNeg sk1)) S hF hH 5 rfl h108 rfl (by rw [ef1]; rfl) dX12_burgh_108 (fun H locs hH => ?_)
  clear ef1
  obtain ⟨y2, ey2, h⟩ := zbn_e h
  refine lv_iinc (v := y2) (lv' := [(1, .int y2), (0, .ref q_t)]) hx hb dX12_burgh_109 hl (k := 1) rfl (by rw [ey2]; exact congrArg (fun z => x1 + z) (by decide)) (by decide) rfl (fun ls hl => ?_)
  clear ey2
  refine lv_goto (tgt := 80) hx hb dX12_burgh_112 (by decide) ?_
  exact hk_80 y2 c_t_thrown c_t_length c_t_size c_t_p c_t_limit c_t_token c_t_at c_t_span c_t_number c_t_fault c_t_faultAt c_t_word c_t_got c_t_lines c_t_hasWait c_t_undoMany c_t_h c_t_names f1 _ _ _ hH (lv_sub hl [1, 0] rfl) h
set_option maxHeartbeats 4000000 in
set_option maxRecDepth 100000 in
theorem w_X12_burgh_117 {p : Program} {l : Launch} {e : Env} {s : State} {m : MethodId} {args : Array Value} {below : List Frame} {meth : Method} {c : Code} {G : va_G} {cy : Nat → ClassId} {E : Nat → Nat} {w0 : va_W} {N : Nat} {q_t q_t_tape q_t_s q_t_h q_t_read q_t_names q_t_reserved q_t_undone q_t_before q_t_comeRow q_t_shown q_t_text q_t_toldAt q_t_stack q_t_truths q_t_imaged q_t_namesKept q_t_areKept : Nat} {t_firstMinute : Int32} {t_lookClock : Int32} {t_hasTime : Int32} {t_latestMost : Int32} {t_textMany : Int32} {t_seed : Int32} {t_toldMany : Int32} {t_hasTold : Int32} {t_codes : Int32} {t_ones : Int32} {t_top : Int32} {t_deep : Int32} {t_isWhole : Int32} {t_tape : Nat → Int32} {t_reserved : Nat → Int64} {r : Int32} {r_t_thrown : Int32} {r_t_length : Int32} {r_t_size : Int32} {r_t_p : Int32} {r_t_limit : Int32} {r_t_token : Int32} {r_t_at : Int32} {r_t_span : Int32} {r_t_number : Int32} {r_t_fault : Int32} {r_t_faultAt : Int32} {r_t_word : Int64} {r_t_got : Int32} {r_t_lines : Int32} {r_t_hasWait : Int32} {r_t_undoMany : Int32} {r_t_h : Nat → Int32} {r_t_names : Nat → Int64} {r_t_s : Nat → Int32} (S : CallFix p m c cX12_burgh 2 s args wsX12_burgh RX12) (hr : meth.sig.returnType = some .int) (hlocks : meth.locks = false) (hF : zF G cy E (va_A w0 s.heap.size) s) :
    ∀ (n : Nat) (x1 : Int32) (c_t_thrown : Int32) (c_t_length : Int32) (c_t_size : Int32) (c_t_p : Int32) (c_t_limit : Int32) (c_t_token : Int32) (c_t_at : Int32) (c_t_span : Int32) (c_t_number : Int32) (c_t_fault : Int32) (c_t_faultAt : Int32) (c_t_word : Int64) (c_t_got : Int32) (c_t_lines : Int32) (c_t_hasWait : Int32) (c_t_undoMany : Int32) (c_t_h : Nat → Int32) (c_t_names : Nat → Int64) (c_t_s : Nat → Int32) (H : Heap) (locs : List Loc) (ls : Array Slot), zH G (va_A w0 s.heap.size) s H locs (wd_X12_burgh cy q_t q_t_tape q_t_s q_t_h q_t_read q_t_names q_t_reserved q_t_undone q_t_before q_t_comeRow q_t_shown q_t_text q_t_toldAt q_t_stack q_t_truths q_t_imaged q_t_namesKept q_t_areKept c_t_thrown c_t_length c_t_size c_t_p c_t_limit c_t_token c_t_at c_t_span c_t_number c_t_fault c_t_faultAt c_t_word c_t_got c_t_lines c_t_hasWait c_t_undoMany t_firstMinute t_lookClock t_hasTime t_latestMost t_textMany t_seed t_toldMany t_hasTold t_codes t_ones t_top t_deep t_isWhole c_t_h t_tape t_reserved c_t_names c_t_s) → lv_has ls 2 [(0, .ref q_t), (1, .int x1)] → f_X12_burgh_117 N t_tape t_reserved n x1 c_t_thrown c_t_length c_t_size c_t_p c_t_limit c_t_token c_t_at c_t_span c_t_number c_t_fault c_t_faultAt c_t_word c_t_got c_t_lines c_t_hasWait c_t_undoMany c_t_h c_t_names c_t_s = some (r, r_t_thrown, r_t_length, r_t_size, r_t_p, r_t_limit, r_t_token, r_t_at, r_t_span, r_t_number, r_t_fault, r_t_faultAt, r_t_word, r_t_got, r_t_lines, r_t_hasWait, r_t_undoMany, r_t_h, r_t_names, r_t_s) → W p l e rm_X12_burgh s m args below meth c H locs 0 0 (MQ below (zQ G w0 (wd_X12_burgh cy q_t q_t_tape q_t_s q_t_h q_t_read q_t_names q_t_reserved q_t_undone q_t_before q_t_comeRow q_t_shown q_t_text q_t_toldAt q_t_stack q_t_truths q_t_imaged q_t_namesKept q_t_areKept r_t_thrown r_t_length r_t_size r_t_p r_t_limit r_t_token r_t_at r_t_span r_t_number r_t_fault r_t_faultAt r_t_word r_t_got r_t_lines r_t_hasWait r_t_undoMany t_firstMinute t_lookClock t_hasTime t_latestMost t_textMany t_seed t_toldMany t_hasTold t_codes t_ones t_top t_deep t_isWhole r_t_h t_tape t_reserved r_t_names r_t_s) s.heap.size (some (.int r))) args s 0 0 (va_A w0 s.heap.size)) (F0 m 117 ls []) := by
  obtain ⟨hx, hb, hml, hown, hts⟩ := id S
  intro n
  induction n with
  | zero =>
    intro x1 c_t_thrown c_t_length c_t_size c_t_p c_t_limit c_t_token c_t_at c_t_span c_t_number c_t_fault c_t_faultAt c_t_word c_t_got c_t_lines c_t_hasWait c_t_undoMany c_t_h c_t_names c_t_s H locs ls hH hl h
    rw [f_X12_burgh_117] at h
    cases h
  | succ n ih =>
    intro x1 c_t_thrown c_t_length c_t_size c_t_p c_t_limit c_t_token c_t_at c_t_span c_t_number c_t_fault c_t_faultAt c_t_word c_t_got c_t_lines c_t_hasWait c_t_undoMany c_t_h c_t_names c_t_s H locs ls hH hl h
    rw [f_X12_burgh_117] at h
    refine lv_iload_n hx hb dX12_burgh_117 rfl (lv_at hl 1 rfl) ?_
    refine lv_bipush (v := 18) hx hb dX12_burgh_118 (by decide) ?_
    refine lv_icmp_ge (tgt := 144) hx hb dX12_burgh_120 (by decide) (fun b120 => ?_) (fun b120 => ?_)
    · replace h := zif_t b120 h
      refine lv_iconst (v := 0) hx hb dX12_burgh_144 (by decide) ?_
      refine lv_istore_n (lv' := [(1, .int 0), (0, .ref q_t)]) hx hb dX12_burgh_145 rfl hl (by decide) rfl (fun ls hl => ?_)
      exact w_X12_burgh_146 S hr hlocks hF N 0 c_t_thrown c_t_length c_t_size c_t_p c_t_limit c_t_token c_t_at c_t_span c_t_number c_t_fault c_t_faultAt c_t_word c_t_got c_t_lines c_t_hasWait c_t_undoMany c_t_h c_t_names c_t_s _ _ _ hH (lv_sub hl [1, 0] rfl) h
    · replace h := zif_f b120 h
      refine lv_aload_n hx hb dX12_burgh_123 rfl (lv_at hl 0 rfl) ?_
      refine z_get S hF hH iX12_burgh_X12 0 rfl rfl 9 (by decide) (List.mem_of_getElem? (i := 9) rfl) rfl dX12_burgh_124 ?_
      refine lv_iload_n hx hb dX12_burgh_127 rfl (lv_at hl 1 rfl) ?_
      refine lv_aload_n hx hb dX12_burgh_128 rfl (lv_at hl 0 rfl) ?_
      refine z_get S hF hH iX12_burgh_X12 0 rfl rfl 9 (by decide) (List.mem_of_getElem? (i := 9) rfl) rfl dX12_burgh_129 ?_
      refine lv_bipush (v := 18) hx hb dX12_burgh_132 (by decide) ?_
      refine lv_iload_n hx hb dX12_burgh_134 rfl (lv_at hl 1 rfl) ?_
      refine lv_iadd hx hb dX12_burgh_135 ?_
      obtain ⟨h136, h⟩ := zck_e h
      refine z_lald S hF hH 4 rfl h136 rfl dX12_burgh_136 ?_
      obtain ⟨y1, ey1, h⟩ := zbn_e h
      refine z_topl ey1 ?_
      clear ey1
      obtain ⟨h137, h⟩ := zck_e h
      obtain ⟨f2, ef2, h⟩ := zbn_e h
      refine z_last (ws' := (wd_X12_burgh cy q_t q_t_tape q_t_s q_t_h q_t_read q_t_names q_t_reserved q_t_undone q_t_before q_t_comeRow q_t_shown q_t_text q_t_toldAt q_t_stack q_t_truths q_t_imaged q_t_namesKept q_t_areKept c_t_thrown c_t_length c_t_size c_t_p c_t_limit c_t_token c_t_at c_t_span c_t_number c_t_fault c_t_faultAt c_t_word c_t_got c_t_lines c_t_hasWait c_t_undoMany t_firstMinute t_lookClock t_hasTime t_latestMost t_textMany t_seed t_toldMany t_hasTold t_codes t_ones t_top t_deep t_isWhole c_t_h t_tape t_reserved f2 c_t_s)) (j := (Int32.toNatClampNeg x1)) S hF hH 4 rfl h137 rfl (by rw [ef2]; rfl) dX12_burgh_137 (fun H locs hH => ?_)
      clear ef2
      obtain ⟨y3, ey3, h⟩ := zbn_e h
      refine lv_iinc (v := y3) (lv' := [(1, .int y3), (0, .ref q_t)]) hx hb dX12_burgh_138 hl (k := 1) rfl (by rw [ey3]; exact congrArg (fun z => x1 + z) (by decide)) (by decide) rfl (fun ls hl => ?_)
      clear ey3
      refine lv_goto (tgt := 117) hx hb dX12_burgh_141 (by decide) ?_
      exact ih y3 c_t_thrown c_t_length c_t_size c_t_p c_t_limit c_t_token c_t_at c_t_span c_t_number c_t_fault c_t_faultAt c_t_word c_t_got c_t_lines c_t_hasWait c_t_undoMany c_t_h f2 c_t_s _ _ _ hH (lv_sub hl [1, 0] rfl) h
set_option maxHeartbeats 4000000 in
set_option maxRecDepth 100000 in
theorem w_X12_burgh_58 {p : Program} {l : Launch} {e : Env} {s : State} {m : MethodId} {args : Array Value} {below : List Frame} {meth : Method} {c : Code} {G : va_G} {cy : Nat → ClassId} {E : Nat → Nat} {w0 : va_W} {N : Nat} {q_t q_t_tape q_t_s q_t_h q_t_read q_t_names q_t_reserved q_t_undone q_t_before q_t_comeRow q_t_shown q_t_text q_t_toldAt q_t_stack q_t_truths q_t_imaged q_t_namesKept q_t_areKept : Nat} {t_firstMinute : Int32} {t_lookClock : Int32} {t_hasTime : Int32} {t_latestMost : Int32} {t_textMany : Int32} {t_seed : Int32} {t_toldMany : Int32} {t_hasTold : Int32} {t_codes : Int32} {t_ones : Int32} {t_top : Int32} {t_deep : Int32} {t_isWhole : Int32} {t_tape : Nat → Int32} {t_reserved : Nat → Int64} {r : Int32} {r_t_thrown : Int32} {r_t_length : Int32} {r_t_size : Int32} {r_t_p : Int32} {r_t_limit : Int32} {r_t_token : Int32} {r_t_at : Int32} {r_t_span : Int32} {r_t_number : Int32} {r_t_fault : Int32} {r_t_faultAt : Int32} {r_t_word : Int64} {r_t_got : Int32} {r_t_lines : Int32} {r_t_hasWait : Int32} {r_t_undoMany : Int32} {r_t_h : Nat → Int32} {r_t_names : Nat → Int64} {r_t_s : Nat → Int32} (S : CallFix p m c cX12_burgh 2 s args wsX12_burgh RX12) (hr : meth.sig.returnType = some .int) (hlocks : meth.locks = false) (hF : zF G cy E (va_A w0 s.heap.size) s) :
    ∀ (c_t_thrown : Int32) (c_t_length : Int32) (c_t_size : Int32) (c_t_p : Int32) (c_t_limit : Int32) (c_t_token : Int32) (c_t_at : Int32) (c_t_span : Int32) (c_t_number : Int32) (c_t_fault : Int32) (c_t_faultAt : Int32) (c_t_word : Int64) (c_t_got : Int32) (c_t_lines : Int32) (c_t_hasWait : Int32) (c_t_undoMany : Int32) (c_t_h : Nat → Int32) (c_t_names : Nat → Int64) (c_t_s : Nat → Int32) (H : Heap) (locs : List Loc) (ls : Array Slot), zH G (va_A w0 s.heap.size) s H locs (wd_X12_burgh cy q_t q_t_tape q_t_s q_t_h q_t_read q_t_names q_t_reserved q_t_undone q_t_before q_t_comeRow q_t_shown q_t_text q_t_toldAt q_t_stack q_t_truths q_t_imaged q_t_namesKept q_t_areKept c_t_thrown c_t_length c_t_size c_t_p c_t_limit c_t_token c_t_at c_t_span c_t_number c_t_fault c_t_faultAt c_t_word c_t_got c_t_lines c_t_hasWait c_t_undoMany t_firstMinute t_lookClock t_hasTime t_latestMost t_textMany t_seed t_toldMany t_hasTold t_codes t_ones t_top t_deep t_isWhole c_t_h t_tape t_reserved c_t_names c_t_s) → lv_has ls 2 [(0, .ref q_t)] → f_X12_burgh_58 N t_tape t_reserved c_t_thrown c_t_length c_t_size c_t_p c_t_limit c_t_token c_t_at c_t_span c_t_number c_t_fault c_t_faultAt c_t_word c_t_got c_t_lines c_t_hasWait c_t_undoMany c_t_h c_t_names c_t_s = some (r, r_t_thrown, r_t_length, r_t_size, r_t_p, r_t_limit, r_t_token, r_t_at, r_t_span, r_t_number, r_t_fault, r_t_faultAt, r_t_word, r_t_got, r_t_lines, r_t_hasWait, r_t_undoMany, r_t_h, r_t_names, r_t_s) → W p l e rm_X12_burgh s m args below meth c H locs 0 0 (MQ below (zQ G w0 (wd_X12_burgh cy q_t q_t_tape q_t_s q_t_h q_t_read q_t_names q_t_reserved q_t_undone q_t_before q_t_comeRow q_t_shown q_t_text q_t_toldAt q_t_stack q_t_truths q_t_imaged q_t_namesKept q_t_areKept r_t_thrown r_t_length r_t_size r_t_p r_t_limit r_t_token r_t_at r_t_span r_t_number r_t_fault r_t_faultAt r_t_word r_t_got r_t_lines r_t_hasWait r_t_undoMany t_firstMinute t_lookClock t_hasTime t_latestMost t_textMany t_seed t_toldMany t_hasTold t_codes t_ones t_top t_deep t_isWhole r_t_h t_tape t_reserved r_t_names r_t_s) s.heap.size (some (.int r))) args s 0 0 (va_A w0 s.heap.size)) (F0 m 58 ls []) := by
  obtain ⟨hx, hb, hml, hown, hts⟩ := id S
  intro c_t_thrown c_t_length c_t_size c_t_p c_t_limit c_t_token c_t_at c_t_span c_t_number c_t_fault c_t_faultAt c_t_word c_t_got c_t_lines c_t_hasWait c_t_undoMany c_t_h c_t_names c_t_s H locs ls hH hl h
  rw [f_X12_burgh_58] at h
  refine lv_iconst (v := (-1)) hx hb dX12_burgh_58 (by decide) ?_
  refine lv_aload_n hx hb dX12_burgh_59 rfl (lv_at hl 0 rfl) ?_
  refine z_get S hF hH iX12_burgh_X12 0 rfl rfl 16 (by decide) (List.mem_of_getElem? (i := 6) rfl) rfl dX12_burgh_60 ?_
  refine lv_isub hx hb dX12_burgh_63 ?_
  obtain ⟨e0, h⟩ := Prod.mk.inj (Option.some.inj h)
  subst e0
  cases h
  exact z_iret S hr hlocks hH dX12_burgh_64
set_option maxHeartbeats 4000000 in
set_option maxRecDepth 100000 in
theorem w_X12_burgh_80 {p : Program} {l : Launch} {e : Env} {s : State} {m : MethodId} {args : Array Value} {below : List Frame} {meth : Method} {c : Code} {G : va_G} {cy : Nat → ClassId} {E : Nat → Nat} {w0 : va_W} {N : Nat} {q_t q_t_tape q_t_s q_t_h q_t_read q_t_names q_t_reserved q_t_undone q_t_before q_t_comeRow q_t_shown q_t_text q_t_toldAt q_t_stack q_t_truths q_t_imaged q_t_namesKept q_t_areKept : Nat} {t_firstMinute : Int32} {t_lookClock : Int32} {t_hasTime : Int32} {t_latestMost : Int32} {t_textMany : Int32} {t_seed : Int32} {t_toldMany : Int32} {t_hasTold : Int32} {t_codes : Int32} {t_ones : Int32} {t_top : Int32} {t_deep : Int32} {t_isWhole : Int32} {t_tape : Nat → Int32} {t_reserved : Nat → Int64} {r : Int32} {r_t_thrown : Int32} {r_t_length : Int32} {r_t_size : Int32} {r_t_p : Int32} {r_t_limit : Int32} {r_t_token : Int32} {r_t_at : Int32} {r_t_span : Int32} {r_t_number : Int32} {r_t_fault : Int32} {r_t_faultAt : Int32} {r_t_word : Int64} {r_t_got : Int32} {r_t_lines : Int32} {r_t_hasWait : Int32} {r_t_undoMany : Int32} {r_t_h : Nat → Int32} {r_t_names : Nat → Int64} {r_t_s : Nat → Int32} (S : CallFix p m c cX12_burgh 2 s args wsX12_burgh RX12) (hr : meth.sig.returnType = some .int) (hlocks : meth.locks = false) (hF : zF G cy E (va_A w0 s.heap.size) s) :
    ∀ (n : Nat) (x1 : Int32) (c_t_thrown : Int32) (c_t_length : Int32) (c_t_size : Int32) (c_t_p : Int32) (c_t_limit : Int32) (c_t_token : Int32) (c_t_at : Int32) (c_t_span : Int32) (c_t_number : Int32) (c_t_fault : Int32) (c_t_faultAt : Int32) (c_t_word : Int64) (c_t_got : Int32) (c_t_lines : Int32) (c_t_hasWait : Int32) (c_t_undoMany : Int32) (c_t_h : Nat → Int32) (c_t_names : Nat → Int64) (c_t_s : Nat → Int32) (H : Heap) (locs : List Loc) (ls : Array Slot), zH G (va_A w0 s.heap.size) s H locs (wd_X12_burgh cy q_t q_t_tape q_t_s q_t_h q_t_read q_t_names q_t_reserved q_t_undone q_t_before q_t_comeRow q_t_shown q_t_text q_t_toldAt q_t_stack q_t_truths q_t_imaged q_t_namesKept q_t_areKept c_t_thrown c_t_length c_t_size c_t_p c_t_limit c_t_token c_t_at c_t_span c_t_number c_t_fault c_t_faultAt c_t_word c_t_got c_t_lines c_t_hasWait c_t_undoMany t_firstMinute t_lookClock t_hasTime t_latestMost t_textMany t_seed t_toldMany t_hasTold t_codes t_ones t_top t_deep t_isWhole c_t_h t_tape t_reserved c_t_names c_t_s) → lv_has ls 2 [(0, .ref q_t), (1, .int x1)] → f_X12_burgh_80 N t_tape t_reserved n x1 c_t_thrown c_t_length c_t_size c_t_p c_t_limit c_t_token c_t_at c_t_span c_t_number c_t_fault c_t_faultAt c_t_word c_t_got c_t_lines c_t_hasWait c_t_undoMany c_t_h c_t_names c_t_s = some (r, r_t_thrown, r_t_length, r_t_size, r_t_p, r_t_limit, r_t_token, r_t_at, r_t_span, r_t_number, r_t_fault, r_t_faultAt, r_t_word, r_t_got, r_t_lines, r_t_hasWait, r_t_undoMany, r_t_h, r_t_names, r_t_s) → W p l e rm_X12_burgh s m args below meth c H locs 0 0 (MQ below (zQ G w0 (wd_X12_burgh cy q_t q_t_tape q_t_s q_t_h q_t_read q_t_names q_t_reserved q_t_undone q_t_before q_t_comeRow q_t_shown q_t_text q_t_toldAt q_t_stack q_t_truths q_t_imaged q_t_namesKept q_t_areKept r_t_thrown r_t_length r_t_size r_t_p r_t_limit r_t_token r_t_at r_t_span r_t_number r_t_fault r_t_faultAt r_t_word r_t_got r_t_lines r_t_hasWait r_t_undoMany t_firstMinute t_lookClock t_hasTime t_latestMost t_textMany t_seed t_toldMany t_hasTold t_codes t_ones t_top t_deep t_isWhole r_t_h t_tape t_reserved r_t_names r_t_s) s.heap.size (some (.int r))) args s 0 0 (va_A w0 s.heap.size)) (F0 m 80 ls []) := by
  obtain ⟨hx, hb, hml, hown, hts⟩ := id S
  intro n
  induction n with
  | zero =>
    intro x1 c_t_thrown c_t_length c_t_size c_t_p c_t_limit c_t_token c_t_at c_t_span c_t_number c_t_fault c_t_faultAt c_t_word c_t_got c_t_lines c_t_hasWait c_t_undoMany c_t_h c_t_names c_t_s H locs ls hH hl h
    rw [f_X12_burgh_80] at h
    cases h
  | succ n ih =>
    intro x1 c_t_thrown c_t_length c_t_size c_t_p c_t_limit c_t_token c_t_at c_t_span c_t_number c_t_fault c_t_faultAt c_t_word c_t_got c_t_lines c_t_hasWait c_t_undoMany c_t_h c_t_names c_t_s H locs ls hH hl h
    rw [f_X12_burgh_80] at h
    refine lv_iload_n hx hb dX12_burgh_80 rfl (lv_at hl 1 rfl) ?_
    refine lv_sipush (v := 334) hx hb dX12_burgh_81 (by decide) ?_
    refine lv_icmp_ge (tgt := 115) hx hb dX12_burgh_84 (by decide) (fun b84 => ?_) (fun b84 => ?_)
    · replace h := zif_t b84 h
      refine lv_iconst (v := 0) hx hb dX12_burgh_115 (by decide) ?_
      refine lv_istore_n (lv' := [(1, .int 0), (0, .ref q_t)]) hx hb dX12_burgh_116 rfl hl (by decide) rfl (fun ls hl => ?_)
      exact w_X12_burgh_117 S hr hlocks hF N 0 c_t_thrown c_t_length c_t_size c_t_p c_t_limit c_t_token c_t_at c_t_span c_t_number c_t_fault c_t_faultAt c_t_word c_t_got c_t_lines c_t_hasWait c_t_undoMany c_t_h c_t_names c_t_s _ _ _ hH (lv_sub hl [1, 0] rfl) h
    · replace h := zif_f b84 h
      refine lv_aload_n hx hb dX12_burgh_87 rfl (lv_at hl 0 rfl) ?_
      refine z_get S hF hH iX12_burgh_X12 0 rfl rfl 6 (by decide) (List.mem_of_getElem? (i := 7) rfl) rfl dX12_burgh_88 ?_
      refine lv_iload_n hx hb dX12_burgh_91 rfl (lv_at hl 1 rfl) ?_
      refine lv_iload_n hx hb dX12_burgh_92 rfl (lv_at hl 1 rfl) ?_
      refine lv_bipush (v := 52) hx hb dX12_burgh_93 (by decide) ?_
      refine lv_icmp_ge (tgt := 107) hx hb dX12_burgh_95 (by decide) (fun b95 => ?_) (fun b95 => ?_)
      · replace h := zif_t b95 h
        refine lv_iconst (v := 0) hx hb dX12_burgh_107 (by decide) ?_
        exact w_X12_burgh_108 S hr hlocks hF ih x1 0 x1 c_t_thrown c_t_length c_t_size c_t_p c_t_limit c_t_token c_t_at c_t_span c_t_number c_t_fault c_t_faultAt c_t_word c_t_got c_t_lines c_t_hasWait c_t_undoMany c_t_h c_t_names c_t_s _ _ _ hH (lv_sub hl [0, 1] rfl) h
      · replace h := zif_f b95 h
        refine lv_aload_n hx hb dX12_burgh_98 rfl (lv_at hl 0 rfl) ?_
        refine z_get S hF hH iX12_burgh_X12 0 rfl rfl 7 (by decide) (List.mem_of_getElem? (i := 8) rfl) rfl dX12_burgh_99 ?_
        refine lv_iload_n hx hb dX12_burgh_102 rfl (lv_at hl 1 rfl) ?_
        obtain ⟨h103, h⟩ := zck_e h
        refine z_iald S hF hH 1 rfl h103 rfl dX12_burgh_103 ?_
        refine lv_goto (tgt := 108) hx hb dX12_burgh_104 (by decide) ?_
        exact w_X12_burgh_108 S hr hlocks hF ih x1 (c_t_h (Int32.toNatClampNeg x1)) x1 c_t_thrown c_t_length c_t_size c_t_p c_t_limit c_t_token c_t_at c_t_span c_t_number c_t_fault c_t_faultAt c_t_word c_t_got c_t_lines c_t_hasWait c_t_undoMany c_t_h c_t_names c_t_s _ _ _ hH (lv_sub hl [0, 1] rfl) h
set_option maxHeartbeats 4000000 in
set_option maxRecDepth 100000 in
theorem w_X12_burgh_35 {p : Program} {l : Launch} {e : Env} {s : State} {m : MethodId} {args : Array Value} {below : List Frame} {meth : Method} {c : Code} {G : va_G} {cy : Nat → ClassId} {E : Nat → Nat} {w0 : va_W} {N : Nat} {q_t q_t_tape q_t_s q_t_h q_t_read q_t_names q_t_reserved q_t_undone q_t_before q_t_comeRow q_t_shown q_t_text q_t_toldAt q_t_stack q_t_truths q_t_imaged q_t_namesKept q_t_areKept : Nat} {t_firstMinute : Int32} {t_lookClock : Int32} {t_hasTime : Int32} {t_latestMost : Int32} {t_textMany : Int32} {t_seed : Int32} {t_toldMany : Int32} {t_hasTold : Int32} {t_codes : Int32} {t_ones : Int32} {t_top : Int32} {t_deep : Int32} {t_isWhole : Int32} {t_tape : Nat → Int32} {t_reserved : Nat → Int64} {r : Int32} {r_t_thrown : Int32} {r_t_length : Int32} {r_t_size : Int32} {r_t_p : Int32} {r_t_limit : Int32} {r_t_token : Int32} {r_t_at : Int32} {r_t_span : Int32} {r_t_number : Int32} {r_t_fault : Int32} {r_t_faultAt : Int32} {r_t_word : Int64} {r_t_got : Int32} {r_t_lines : Int32} {r_t_hasWait : Int32} {r_t_undoMany : Int32} {r_t_h : Nat → Int32} {r_t_names : Nat → Int64} {r_t_s : Nat → Int32} (S : CallFix p m c cX12_burgh 2 s args wsX12_burgh RX12) (hr : meth.sig.returnType = some .int) (hlocks : meth.locks = false) (hF : zF G cy E (va_A w0 s.heap.size) s) :
    ∀ (n : Nat) (c_t_thrown : Int32) (c_t_length : Int32) (c_t_size : Int32) (c_t_p : Int32) (c_t_limit : Int32) (c_t_token : Int32) (c_t_at : Int32) (c_t_span : Int32) (c_t_number : Int32) (c_t_fault : Int32) (c_t_faultAt : Int32) (c_t_word : Int64) (c_t_got : Int32) (c_t_lines : Int32) (c_t_hasWait : Int32) (c_t_undoMany : Int32) (c_t_h : Nat → Int32) (c_t_names : Nat → Int64) (c_t_s : Nat → Int32) (H : Heap) (locs : List Loc) (ls : Array Slot), zH G (va_A w0 s.heap.size) s H locs (wd_X12_burgh cy q_t q_t_tape q_t_s q_t_h q_t_read q_t_names q_t_reserved q_t_undone q_t_before q_t_comeRow q_t_shown q_t_text q_t_toldAt q_t_stack q_t_truths q_t_imaged q_t_namesKept q_t_areKept c_t_thrown c_t_length c_t_size c_t_p c_t_limit c_t_token c_t_at c_t_span c_t_number c_t_fault c_t_faultAt c_t_word c_t_got c_t_lines c_t_hasWait c_t_undoMany t_firstMinute t_lookClock t_hasTime t_latestMost t_textMany t_seed t_toldMany t_hasTold t_codes t_ones t_top t_deep t_isWhole c_t_h t_tape t_reserved c_t_names c_t_s) → lv_has ls 2 [(0, .ref q_t)] → f_X12_burgh_35 N t_tape t_reserved n c_t_thrown c_t_length c_t_size c_t_p c_t_limit c_t_token c_t_at c_t_span c_t_number c_t_fault c_t_faultAt c_t_word c_t_got c_t_lines c_t_hasWait c_t_undoMany c_t_h c_t_names c_t_s = some (r, r_t_thrown, r_t_length, r_t_size, r_t_p, r_t_limit, r_t_token, r_t_at, r_t_span, r_t_number, r_t_fault, r_t_faultAt, r_t_word, r_t_got, r_t_lines, r_t_hasWait, r_t_undoMany, r_t_h, r_t_names, r_t_s) → W p l e rm_X12_burgh s m args below meth c H locs 0 0 (MQ below (zQ G w0 (wd_X12_burgh cy q_t q_t_tape q_t_s q_t_h q_t_read q_t_names q_t_reserved q_t_undone q_t_before q_t_comeRow q_t_shown q_t_text q_t_toldAt q_t_stack q_t_truths q_t_imaged q_t_namesKept q_t_areKept r_t_thrown r_t_length r_t_size r_t_p r_t_limit r_t_token r_t_at r_t_span r_t_number r_t_fault r_t_faultAt r_t_word r_t_got r_t_lines r_t_hasWait r_t_undoMany t_firstMinute t_lookClock t_hasTime t_latestMost t_textMany t_seed t_toldMany t_hasTold t_codes t_ones t_top t_deep t_isWhole r_t_h t_tape t_reserved r_t_names r_t_s) s.heap.size (some (.int r))) args s 0 0 (va_A w0 s.heap.size)) (F0 m 35 ls []) := by
  obtain ⟨hx, hb, hml, hown, hts⟩ := id S
  intro n
  induction n with
  | zero =>
    intro c_t_thrown c_t_length c_t_size c_t_p c_t_limit c_t_token c_t_at c_t_span c_t_number c_t_fault c_t_faultAt c_t_word c_t_got c_t_lines c_t_hasWait c_t_undoMany c_t_h c_t_names c_t_s H locs ls hH hl h
    rw [f_X12_burgh_35] at h
    cases h
  | succ n ih =>
    intro c_t_thrown c_t_length c_t_size c_t_p c_t_limit c_t_token c_t_at c_t_span c_t_number c_t_fault c_t_faultAt c_t_word c_t_got c_t_lines c_t_hasWait c_t_undoMany c_t_h c_t_names c_t_s H locs ls hH hl h
    rw [f_X12_burgh_35] at h
    refine lv_aload_n hx hb dX12_burgh_35 rfl (lv_at hl 0 rfl) ?_
    refine z_get S hF hH iX12_burgh_X12 0 rfl rfl 11 (by decide) (List.mem_of_getElem? (i := 5) rfl) rfl dX12_burgh_36 ?_
    refine lv_if_eq (tgt := 78) hx hb dX12_burgh_39 (by decide) (fun b39 => ?_) (fun b39 => ?_)
    · replace h := zif_t b39 h
      refine lv_iconst (v := 0) hx hb dX12_burgh_78 (by decide) ?_
      refine lv_istore_n (lv' := [(1, .int 0), (0, .ref q_t)]) hx hb dX12_burgh_79 rfl hl (by decide) rfl (fun ls hl => ?_)
      exact w_X12_burgh_80 S hr hlocks hF N 0 c_t_thrown c_t_length c_t_size c_t_p c_t_limit c_t_token c_t_at c_t_span c_t_number c_t_fault c_t_faultAt c_t_word c_t_got c_t_lines c_t_hasWait c_t_undoMany c_t_h c_t_names c_t_s _ _ _ hH (lv_sub hl [1, 0] rfl) h
    · replace h := zif_f b39 h
      refine lv_aload_n hx hb dX12_burgh_42 rfl (lv_at hl 0 rfl) ?_
      obtain ⟨z43, hz43, h⟩ := zcl_e h
      refine z_callV (As := []) (rest := []) (st1 := [.int z43.1]) (ws' := (wd_X12_burgh cy q_t q_t_tape q_t_s q_t_h q_t_read q_t_names q_t_reserved q_t_undone q_t_before q_t_comeRow q_t_shown q_t_text q_t_toldAt q_t_stack q_t_truths q_t_imaged q_t_namesKept q_t_areKept c_t_thrown c_t_length c_t_size z43.2.1 c_t_limit z43.2.2.1 z43.2.2.2.1 z43.2.2.2.2.1 z43.2.2.2.2.2.1 z43.2.2.2.2.2.2.1 z43.2.2.2.2.2.2.2.1 z43.2.2.2.2.2.2.2.2.1 z43.2.2.2.2.2.2.2.2.2.1 c_t_lines z43.2.2.2.2.2.2.2.2.2.2.1 c_t_undoMany t_firstMinute t_lookClock t_hasTime t_latestMost t_textMany t_seed t_toldMany t_hasTold t_codes t_ones t_top t_deep t_isWhole z43.2.2.2.2.2.2.2.2.2.2.2.1 t_tape t_reserved z43.2.2.2.2.2.2.2.2.2.2.2.2 c_t_s)) S hF hH (c_X12_readLine l G cy E N q_t q_t_tape q_t_s q_t_h q_t_read q_t_names q_t_reserved q_t_undone q_t_before q_t_comeRow q_t_shown q_t_text q_t_toldAt q_t_stack q_t_truths q_t_imaged q_t_namesKept q_t_areKept c_t_thrown c_t_length c_t_size c_t_p c_t_limit c_t_token c_t_at c_t_span c_t_number c_t_fault c_t_faultAt c_t_word c_t_got c_t_lines c_t_hasWait c_t_undoMany t_firstMinute t_lookClock t_hasTime t_latestMost t_textMany t_seed t_toldMany t_hasTold t_codes t_ones t_top t_deep t_isWhole c_t_h t_tape t_reserved c_t_names z43.1 z43.2.1 z43.2.2.1 z43.2.2.2.1 z43.2.2.2.2.1 z43.2.2.2.2.2.1 z43.2.2.2.2.2.2.1 z43.2.2.2.2.2.2.2.1 z43.2.2.2.2.2.2.2.2.1 z43.2.2.2.2.2.2.2.2.2.1 z43.2.2.2.2.2.2.2.2.2.2.1 z43.2.2.2.2.2.2.2.2.2.2.2.1 z43.2.2.2.2.2.2.2.2.2.2.2.2 hz43) (cwV 0 hts gX12_burgh_X12_readLine rfl rfl rfl (by decide +kernel) ⟨Nat.le_of_ble_eq_true rfl, Nat.le_of_ble_eq_true rfl⟩) 13 0 rfl rfl [0, 1, 2, 3, 4] rfl (by decide) rfl rfl rfl rfl rfl hl.1 (Nat.le_of_ble_eq_true rfl) dX12_burgh_43 ⟨Nat.le_of_ble_eq_true rfl, Nat.le_of_ble_eq_true rfl⟩ (fun H locs hH => ?_)
      refine lv_if_eq (tgt := 58) hx hb dX12_burgh_46 (by decide) (fun b46 => ?_) (fun b46 => ?_)
      · replace h := zif_t b46 h
        exact w_X12_burgh_58 S hr hlocks hF c_t_thrown c_t_length c_t_size z43.2.1 c_t_limit z43.2.2.1 z43.2.2.2.1 z43.2.2.2.2.1 z43.2.2.2.2.2.1 z43.2.2.2.2.2.2.1 z43.2.2.2.2.2.2.2.1 z43.2.2.2.2.2.2.2.2.1 z43.2.2.2.2.2.2.2.2.2.1 c_t_lines z43.2.2.2.2.2.2.2.2.2.2.1 c_t_undoMany z43.2.2.2.2.2.2.2.2.2.2.2.1 z43.2.2.2.2.2.2.2.2.2.2.2.2 c_t_s _ _ _ hH (lv_sub hl [0] rfl) h
      · replace h := zif_f b46 h
        refine lv_aload_n hx hb dX12_burgh_49 rfl (lv_at hl 0 rfl) ?_
        refine lv_bipush (v := 59) hx hb dX12_burgh_50 (by decide) ?_
        obtain ⟨z52, hz52, h⟩ := zcl_e h
        refine z_callV (As := [.int 59]) (rest := []) (st1 := [.int z52.1]) (ws' := (wd_X12_burgh cy q_t q_t_tape q_t_s q_t_h q_t_read q_t_names q_t_reserved q_t_undone q_t_before q_t_comeRow q_t_shown q_t_text q_t_toldAt q_t_stack q_t_truths q_t_imaged q_t_namesKept q_t_areKept c_t_thrown c_t_length c_t_size z52.2.1 c_t_limit z52.2.2.1 z52.2.2.2.1 z52.2.2.2.2.1 z52.2.2.2.2.2.1 z52.2.2.2.2.2.2.1 z52.2.2.2.2.2.2.2.1 z52.2.2.2.2.2.2.2.2 z43.2.2.2.2.2.2.2.2.2.1 c_t_lines z43.2.2.2.2.2.2.2.2.2.2.1 c_t_undoMany t_firstMinute t_lookClock t_hasTime t_latestMost t_textMany t_seed t_toldMany t_hasTold t_codes t_ones t_top t_deep t_isWhole z43.2.2.2.2.2.2.2.2.2.2.2.1 t_tape t_reserved z43.2.2.2.2.2.2.2.2.2.2.2.2 c_t_s)) S hF hH (c_X12_sign l G cy E N q_t q_t_tape q_t_s q_t_h q_t_read q_t_names q_t_reserved q_t_undone q_t_before q_t_comeRow q_t_shown q_t_text q_t_toldAt q_t_stack q_t_truths q_t_imaged q_t_namesKept q_t_areKept c_t_thrown c_t_length c_t_size z43.2.1 c_t_limit z43.2.2.1 z43.2.2.2.1 z43.2.2.2.2.1 z43.2.2.2.2.2.1 z43.2.2.2.2.2.2.1 z43.2.2.2.2.2.2.2.1 z43.2.2.2.2.2.2.2.2.1 z43.2.2.2.2.2.2.2.2.2.1 c_t_lines z43.2.2.2.2.2.2.2.2.2.2.1 c_t_undoMany t_firstMinute t_lookClock t_hasTime t_latestMost t_textMany t_seed t_toldMany t_hasTold t_codes t_ones t_top t_deep t_isWhole t_tape 59 z52.1 z52.2.1 z52.2.2.1 z52.2.2.2.1 z52.2.2.2.2.1 z52.2.2.2.2.2.1 z52.2.2.2.2.2.2.1 z52.2.2.2.2.2.2.2.1 z52.2.2.2.2.2.2.2.2 hz52) (cwV 1 hts gX12_burgh_X12_sign rfl rfl rfl (by decide +kernel) ⟨Nat.le_of_ble_eq_true rfl, Nat.le_of_ble_eq_true rfl⟩) 13 0 rfl rfl [0, 2] rfl (by decide) rfl rfl rfl rfl rfl hl.1 (Nat.le_of_ble_eq_true rfl) dX12_burgh_52 ⟨Nat.le_of_ble_eq_true rfl, Nat.le_of_ble_eq_true rfl⟩ (fun H locs hH => ?_)
        refine lv_if_ne (tgt := 65) hx hb dX12_burgh_55 (by decide) (fun b55 => ?_) (fun b55 => ?_)
        · replace h := zif_f b55 h
          refine lv_aload_n hx hb dX12_burgh_65 rfl (lv_at hl 0 rfl) ?_
          refine lv_dup hx hb dX12_burgh_66 rfl ?_
          refine z_get S hF hH iX12_burgh_X12 0 rfl rfl 19 (by decide) (List.mem_of_getElem? (i := 3) rfl) rfl dX12_burgh_67 ?_
          refine lv_iconst (v := 1) hx hb dX12_burgh_70 (by decide) ?_
          refine lv_iadd hx hb dX12_burgh_71 ?_
          obtain ⟨y1, ey1, h⟩ := zbn_e h
          refine z_top ey1 ?_
          clear ey1
          refine z_put (ws' := (wd_X12_burgh cy q_t q_t_tape q_t_s q_t_h q_t_read q_t_names q_t_reserved q_t_undone q_t_before q_t_comeRow q_t_shown q_t_text q_t_toldAt q_t_stack q_t_truths q_t_imaged q_t_namesKept q_t_areKept c_t_thrown c_t_length c_t_size z52.2.1 c_t_limit z52.2.2.1 z52.2.2.2.1 z52.2.2.2.2.1 z52.2.2.2.2.2.1 z52.2.2.2.2.2.2.1 z52.2.2.2.2.2.2.2.1 z52.2.2.2.2.2.2.2.2 z43.2.2.2.2.2.2.2.2.2.1 y1 z43.2.2.2.2.2.2.2.2.2.2.1 c_t_undoMany t_firstMinute t_lookClock t_hasTime t_latestMost t_textMany t_seed t_toldMany t_hasTold t_codes t_ones t_top t_deep t_isWhole z43.2.2.2.2.2.2.2.2.2.2.2.1 t_tape t_reserved z43.2.2.2.2.2.2.2.2.2.2.2.2 c_t_s)) S hF hH iX12_burgh_X12 tyX12 tyX12_ok nmX12 0 rfl rfl 19 (by decide) (List.mem_of_getElem? (i := 3) rfl) rfl rfl rfl (Nat.le_of_ble_eq_true rfl) rfl dX12_burgh_72 (fun H locs hH => ?_)
          refine lv_goto (tgt := 35) hx hb dX12_burgh_75 (by decide) ?_
          exact ih c_t_thrown c_t_length c_t_size z52.2.1 c_t_limit z52.2.2.1 z52.2.2.2.1 z52.2.2.2.2.1 z52.2.2.2.2.2.1 z52.2.2.2.2.2.2.1 z52.2.2.2.2.2.2.2.1 z52.2.2.2.2.2.2.2.2 z43.2.2.2.2.2.2.2.2.2.1 y1 z43.2.2.2.2.2.2.2.2.2.2.1 c_t_undoMany z43.2.2.2.2.2.2.2.2.2.2.2.1 z43.2.2.2.2.2.2.2.2.2.2.2.2 c_t_s _ _ _ hH (lv_sub hl [0] rfl) h
        · replace h := zif_t b55 h
          exact w_X12_burgh_58 S hr hlocks hF c_t_thrown c_t_length c_t_size z52.2.1 c_t_limit z52.2.2.1 z52.2.2.2.1 z52.2.2.2.2.1 z52.2.2.2.2.2.1 z52.2.2.2.2.2.2.1 z52.2.2.2.2.2.2.2.1 z52.2.2.2.2.2.2.2.2 z43.2.2.2.2.2.2.2.2.2.1 c_t_lines z43.2.2.2.2.2.2.2.2.2.2.1 c_t_undoMany z43.2.2.2.2.2.2.2.2.2.2.2.1 z43.2.2.2.2.2.2.2.2.2.2.2.2 c_t_s _ _ _ hH (lv_sub hl [0] rfl) h
set_option maxHeartbeats 4000000 in
set_option maxRecDepth 100000 in
theorem c_X12_burgh (l : Launch) (G : va_G) (cy : Nat → ClassId) (E : Nat → Nat) (N : Nat) (q_t q_t_tape q_t_s q_t_h q_t_read q_t_names q_t_reserved q_t_undone q_t_before q_t_comeRow q_t_shown q_t_text q_t_toldAt q_t_stack q_t_truths q_t_imaged q_t_namesKept q_t_areKept : Nat) (t_thrown : Int32) (t_length : Int32) (t_size : Int32) (t_p : Int32) (t_limit : Int32) (t_token : Int32) (t_at : Int32) (t_span : Int32) (t_number : Int32) (t_fault : Int32) (t_faultAt : Int32) (t_word : Int64) (t_got : Int32) (t_lines : Int32) (t_hasWait : Int32) (t_undoMany : Int32) (t_firstMinute : Int32) (t_lookClock : Int32) (t_hasTime : Int32) (t_latestMost : Int32) (t_textMany : Int32) (t_seed : Int32) (t_toldMany : Int32) (t_hasTold : Int32) (t_codes : Int32) (t_ones : Int32) (t_top : Int32) (t_deep : Int32) (t_isWhole : Int32) (t_h : Nat → Int32) (t_tape : Nat → Int32) (t_reserved : Nat → Int64) (t_names : Nat → Int64) (t_s : Nat → Int32) (r : Int32) (r_t_thrown : Int32) (r_t_length : Int32) (r_t_size : Int32) (r_t_p : Int32) (r_t_limit : Int32) (r_t_token : Int32) (r_t_at : Int32) (r_t_span : Int32) (r_t_number : Int32) (r_t_fault : Int32) (r_t_faultAt : Int32) (r_t_word : Int64) (r_t_got : Int32) (r_t_lines : Int32) (r_t_hasWait : Int32) (r_t_undoMany : Int32) (r_t_h : Nat → Int32) (r_t_names : Nat → Int64) (r_t_s : Nat → Int32) (h : f_X12_burgh N t_thrown t_length t_size t_p t_limit t_token t_at t_span t_number t_fault t_faultAt t_word t_got t_lines t_hasWait t_undoMany t_h t_tape t_reserved t_names t_s = some (r, r_t_thrown, r_t_length, r_t_size, r_t_p, r_t_limit, r_t_token, r_t_at, r_t_span, r_t_number, r_t_fault, r_t_faultAt, r_t_word, r_t_got, r_t_lines, r_t_hasWait, r_t_undoMany, r_t_h, r_t_names, r_t_s)) : zM l G cy E yX12_burgh wsX12_burgh rm_X12_burgh [.ref q_t] (wd_X12_burgh cy q_t q_t_tape q_t_s q_t_h q_t_read q_t_names q_t_reserved q_t_undone q_t_before q_t_comeRow q_t_shown q_t_text q_t_toldAt q_t_stack q_t_truths q_t_imaged q_t_namesKept q_t_areKept t_thrown t_length t_size t_p t_limit t_token t_at t_span t_number t_fault t_faultAt t_word t_got t_lines t_hasWait t_undoMany t_firstMinute t_lookClock t_hasTime t_latestMost t_textMany t_seed t_toldMany t_hasTold t_codes t_ones t_top t_deep t_isWhole t_h t_tape t_reserved t_names t_s) (wd_X12_burgh cy q_t q_t_tape q_t_s q_t_h q_t_read q_t_names q_t_reserved q_t_undone q_t_before q_t_comeRow q_t_shown q_t_text q_t_toldAt q_t_stack q_t_truths q_t_imaged q_t_namesKept q_t_areKept r_t_thrown r_t_length r_t_size r_t_p r_t_limit r_t_token r_t_at r_t_span r_t_number r_t_fault r_t_faultAt r_t_word r_t_got r_t_lines r_t_hasWait r_t_undoMany t_firstMinute t_lookClock t_hasTime t_latestMost t_textMany t_seed t_toldMany t_hasTold t_codes t_ones t_top t_deep t_isWhole r_t_h t_tape t_reserved r_t_names r_t_s) (some (.int r)) 0 0 := by
  refine z_body (cc := cX12_burgh) (maxL := 2) (ret := some .int) (by decide) rfl (Nat.le_of_ble_eq_true rfl) ?_
  intro p e s m below meth c ls S hr hlocks hnm hF hH hl
  have S : CallFix p m c cX12_burgh 2 s ([.ref q_t] : List Value).toArray wsX12_burgh RX12 := S
  obtain ⟨hx, hb, hml, hown, hts⟩ := id S
  have hl : lv_has ls 2 [(0, .ref q_t)] := hl
  rw [f_X12_burgh] at h
  refine lv_aload_n hx hb dX12_burgh_0 rfl (lv_at hl 0 rfl) ?_
  refine lv_iconst (v := 0) hx hb dX12_burgh_1 (by decide) ?_
  refine z_put (ws' := (wd_X12_burgh cy q_t q_t_tape q_t_s q_t_h q_t_read q_t_names q_t_reserved q_t_undone q_t_before q_t_comeRow q_t_shown q_t_text q_t_toldAt q_t_stack q_t_truths q_t_imaged q_t_namesKept q_t_areKept 0 t_length t_size t_p t_limit t_token t_at t_span t_number t_fault t_faultAt t_word t_got t_lines t_hasWait t_undoMany t_firstMinute t_lookClock t_hasTime t_latestMost t_textMany t_seed t_toldMany t_hasTold t_codes t_ones t_top t_deep t_isWhole t_h t_tape t_reserved t_names t_s)) S hF hH iX12_burgh_X12 tyX12 tyX12_ok nmX12 0 rfl rfl 0 (by decide) (List.mem_of_getElem? (i := 1) rfl) rfl rfl rfl (Nat.le_of_ble_eq_true rfl) rfl dX12_burgh_2 (fun H locs hH => ?_)
  refine lv_aload_n hx hb dX12_burgh_5 rfl (lv_at hl 0 rfl) ?_
  refine lv_sipush (v := 900) hx hb dX12_burgh_6 (by decide) ?_
  obtain ⟨z9, hz9, h⟩ := zcl_e h
  refine z_callV (As := [.int 900]) (rest := []) (st1 := []) (ws' := (wd_X12_burgh cy q_t q_t_tape q_t_s q_t_h q_t_read q_t_names q_t_reserved q_t_undone q_t_before q_t_comeRow q_t_shown q_t_text q_t_toldAt q_t_stack q_t_truths q_t_imaged q_t_namesKept q_t_areKept 0 z9.1 z9.2.1 z9.2.2.1 z9.2.2.2 t_token t_at t_span t_number t_fault t_faultAt t_word t_got t_lines t_hasWait t_undoMany t_firstMinute t_lookClock t_hasTime t_latestMost t_textMany t_seed t_toldMany t_hasTold t_codes t_ones t_top t_deep t_isWhole t_h t_tape t_reserved t_names t_s)) S hF hH (c_X12_taken l G cy E N q_t q_t_tape q_t_s q_t_h q_t_read q_t_names q_t_reserved q_t_undone q_t_before q_t_comeRow q_t_shown q_t_text q_t_toldAt q_t_stack q_t_truths q_t_imaged q_t_namesKept q_t_areKept 0 t_length t_size t_p t_limit t_token t_at t_span t_number t_fault t_faultAt t_word t_got t_lines t_hasWait t_undoMany t_firstMinute t_lookClock t_hasTime t_latestMost t_textMany t_seed t_toldMany t_hasTold t_codes t_ones t_top t_deep t_isWhole 900 z9.1 z9.2.1 z9.2.2.1 z9.2.2.2 hz9) (cwV 1 hts gX12_burgh_X12_taken rfl rfl rfl (by decide +kernel) ⟨Nat.le_of_ble_eq_true rfl, Nat.le_of_ble_eq_true rfl⟩) 13 0 rfl rfl [0] rfl (by decide) rfl rfl rfl rfl rfl hl.1 (Nat.le_of_ble_eq_true rfl) dX12_burgh_9 ⟨Nat.le_of_ble_eq_true rfl, Nat.le_of_ble_eq_true rfl⟩ (fun H locs hH => ?_)
  refine lv_aload_n hx hb dX12_burgh_12 rfl (lv_at hl 0 rfl) ?_
  refine lv_iconst (v := 0) hx hb dX12_burgh_13 (by decide) ?_
  refine z_put (ws' := (wd_X12_burgh cy q_t q_t_tape q_t_s q_t_h q_t_read q_t_names q_t_reserved q_t_undone q_t_before q_t_comeRow q_t_shown q_t_text q_t_toldAt q_t_stack q_t_truths q_t_imaged q_t_namesKept q_t_areKept 0 z9.1 z9.2.1 z9.2.2.1 z9.2.2.2 t_token t_at t_span t_number 0 t_faultAt t_word t_got t_lines t_hasWait t_undoMany t_firstMinute t_lookClock t_hasTime t_latestMost t_textMany t_seed t_toldMany t_hasTold t_codes t_ones t_top t_deep t_isWhole t_h t_tape t_reserved t_names t_s)) S hF hH iX12_burgh_X12 tyX12 tyX12_ok nmX12 0 rfl rfl 15 (by decide) (List.mem_of_getElem? (i := 2) rfl) rfl rfl rfl (Nat.le_of_ble_eq_true rfl) rfl dX12_burgh_14 (fun H locs hH => ?_)
  refine lv_aload_n hx hb dX12_burgh_17 rfl (lv_at hl 0 rfl) ?_
  refine lv_iconst (v := 0) hx hb dX12_burgh_18 (by decide) ?_
  refine z_put (ws' := (wd_X12_burgh cy q_t q_t_tape q_t_s q_t_h q_t_read q_t_names q_t_reserved q_t_undone q_t_before q_t_comeRow q_t_shown q_t_text q_t_toldAt q_t_stack q_t_truths q_t_imaged q_t_namesKept q_t_areKept 0 z9.1 z9.2.1 z9.2.2.1 z9.2.2.2 t_token t_at t_span t_number 0 t_faultAt t_word t_got 0 t_hasWait t_undoMany t_firstMinute t_lookClock t_hasTime t_latestMost t_textMany t_seed t_toldMany t_hasTold t_codes t_ones t_top t_deep t_isWhole t_h t_tape t_reserved t_names t_s)) S hF hH iX12_burgh_X12 tyX12 tyX12_ok nmX12 0 rfl rfl 19 (by decide) (List.mem_of_getElem? (i := 3) rfl) rfl rfl rfl (Nat.le_of_ble_eq_true rfl) rfl dX12_burgh_19 (fun H locs hH => ?_)
  refine lv_aload_n hx hb dX12_burgh_22 rfl (lv_at hl 0 rfl) ?_
  refine lv_iconst (v := 0) hx hb dX12_burgh_23 (by decide) ?_
  refine z_put (ws' := (wd_X12_burgh cy q_t q_t_tape q_t_s q_t_h q_t_read q_t_names q_t_reserved q_t_undone q_t_before q_t_comeRow q_t_shown q_t_text q_t_toldAt q_t_stack q_t_truths q_t_imaged q_t_namesKept q_t_areKept 0 z9.1 z9.2.1 z9.2.2.1 z9.2.2.2 t_token t_at t_span t_number 0 t_faultAt t_word t_got 0 0 t_undoMany t_firstMinute t_lookClock t_hasTime t_latestMost t_textMany t_seed t_toldMany t_hasTold t_codes t_ones t_top t_deep t_isWhole t_h t_tape t_reserved t_names t_s)) S hF hH iX12_burgh_X12 tyX12 tyX12_ok nmX12 0 rfl rfl 20 (by decide) (List.mem_of_getElem? (i := 4) rfl) rfl rfl rfl (Nat.le_of_ble_eq_true rfl) rfl dX12_burgh_24 (fun H locs hH => ?_)
  refine lv_aload_n hx hb dX12_burgh_27 rfl (lv_at hl 0 rfl) ?_
  obtain ⟨z28, hz28, h⟩ := zcl_e h
  refine z_callV (As := []) (rest := []) (st1 := []) (ws' := (wd_X12_burgh cy q_t q_t_tape q_t_s q_t_h q_t_read q_t_names q_t_reserved q_t_undone q_t_before q_t_comeRow q_t_shown q_t_text q_t_toldAt q_t_stack q_t_truths q_t_imaged q_t_namesKept q_t_areKept 0 z9.1 z9.2.1 z9.2.2.1 z9.2.2.2 t_token t_at t_span t_number 0 t_faultAt t_word t_got 0 0 t_undoMany t_firstMinute t_lookClock t_hasTime t_latestMost t_textMany t_seed t_toldMany t_hasTold t_codes t_ones t_top t_deep t_isWhole z28 t_tape t_reserved t_names t_s)) S hF hH (c_X12_clears l G cy E N q_t q_t_tape q_t_s q_t_h q_t_read q_t_names q_t_reserved q_t_undone q_t_before q_t_comeRow q_t_shown q_t_text q_t_toldAt q_t_stack q_t_truths q_t_imaged q_t_namesKept q_t_areKept 0 z9.1 z9.2.1 z9.2.2.1 z9.2.2.2 t_token t_at t_span t_number 0 t_faultAt t_word t_got 0 0 t_undoMany t_firstMinute t_lookClock t_hasTime t_latestMost t_textMany t_seed t_toldMany t_hasTold t_codes t_ones t_top t_deep t_isWhole t_h z28 hz28) (cwV 0 hts gX12_burgh_X12_clears rfl rfl rfl (by decide +kernel) ⟨Nat.le_of_ble_eq_true rfl, Nat.le_of_ble_eq_true rfl⟩) 13 0 rfl rfl [0, 1] rfl (by decide) rfl rfl rfl rfl rfl hl.1 (Nat.le_of_ble_eq_true rfl) dX12_burgh_28 ⟨Nat.le_of_ble_eq_true rfl, Nat.le_of_ble_eq_true rfl⟩ (fun H locs hH => ?_)
  refine lv_aload_n hx hb dX12_burgh_31 rfl (lv_at hl 0 rfl) ?_
  obtain ⟨z32, hz32, h⟩ := zcl_e h
  refine z_callV (As := []) (rest := []) (st1 := []) (ws' := (wd_X12_burgh cy q_t q_t_tape q_t_s q_t_h q_t_read q_t_names q_t_reserved q_t_undone q_t_before q_t_comeRow q_t_shown q_t_text q_t_toldAt q_t_stack q_t_truths q_t_imaged q_t_namesKept q_t_areKept 0 z9.1 z9.2.1 z32.1 z9.2.2.2 z32.2.1 z32.2.2.1 z32.2.2.2.1 z32.2.2.2.2.1 0 t_faultAt z32.2.2.2.2.2 t_got 0 0 t_undoMany t_firstMinute t_lookClock t_hasTime t_latestMost t_textMany t_seed t_toldMany t_hasTold t_codes t_ones t_top t_deep t_isWhole z28 t_tape t_reserved t_names t_s)) S hF hH (c_X12_next l G cy E N q_t q_t_tape q_t_s q_t_h q_t_read q_t_names q_t_reserved q_t_undone q_t_before q_t_comeRow q_t_shown q_t_text q_t_toldAt q_t_stack q_t_truths q_t_imaged q_t_namesKept q_t_areKept 0 z9.1 z9.2.1 z9.2.2.1 z9.2.2.2 t_token t_at t_span t_number 0 t_faultAt t_word t_got 0 0 t_undoMany t_firstMinute t_lookClock t_hasTime t_latestMost t_textMany t_seed t_toldMany t_hasTold t_codes t_ones t_top t_deep t_isWhole t_tape z32.1 z32.2.1 z32.2.2.1 z32.2.2.2.1 z32.2.2.2.2.1 z32.2.2.2.2.2 hz32) (cwV 0 hts gX12_burgh_X12_next rfl rfl rfl (by decide +kernel) ⟨Nat.le_of_ble_eq_true rfl, Nat.le_of_ble_eq_true rfl⟩) 13 0 rfl rfl [0, 2] rfl (by decide) rfl rfl rfl rfl rfl hl.1 (Nat.le_of_ble_eq_true rfl) dX12_burgh_32 ⟨Nat.le_of_ble_eq_true rfl, Nat.le_of_ble_eq_true rfl⟩ (fun H locs hH => ?_)
  exact w_X12_burgh_35 S hr hlocks hF N 0 z9.1 z9.2.1 z32.1 z9.2.2.2 z32.2.1 z32.2.2.1 z32.2.2.2.1 z32.2.2.2.2.1 0 t_faultAt z32.2.2.2.2.2 t_got 0 0 t_undoMany z28 t_names t_s _ _ _ hH (lv_sub hl [0] rfl) h
abbrev wd_X12_fault (cy : Nat → ClassId) (q_t q_t_tape q_t_s q_t_h q_t_read q_t_names q_t_reserved q_t_undone q_t_before q_t_comeRow q_t_shown q_t_text q_t_toldAt q_t_stack q_t_truths q_t_imaged q_t_namesKept q_t_areKept : Nat) (t_thrown : Int32) (t_length : Int32) (t_size : Int32) (t_p : Int32) (t_limit : Int32) (t_token : Int32) (t_at : Int32) (t_span : Int32) (t_number : Int32) (t_fault : Int32) (t_faultAt : Int32) (t_word : Int64) (t_got : Int32) (t_lines : Int32) (t_hasWait : Int32) (t_undoMany : Int32) (t_firstMinute : Int32) (t_lookClock : Int32) (t_hasTime : Int32) (t_latestMost : Int32) (t_textMany : Int32) (t_seed : Int32) (t_toldMany : Int32) (t_hasTold : Int32) (t_codes : Int32) (t_ones : Int32) (t_top : Int32) (t_deep : Int32) (t_isWhole : Int32) : va_W := [(q_t, .inr (13, [.int t_thrown, .ref q_t_tape, .int t_length, .int t_size, .int t_p, .int t_limit, .ref q_t_s, .ref q_t_h, .ref q_t_read, .ref q_t_names, .ref q_t_reserved, .int t_token, .int t_at, .int t_span, .int t_number, .int t_fault, .int t_faultAt, .long t_word, .int t_got, .int t_lines, .int t_hasWait, .ref q_t_undone, .ref q_t_before, .int t_undoMany, .ref q_t_comeRow, .int t_firstMinute, .int t_lookClock, .int t_hasTime, .ref q_t_shown, .int t_latestMost, .ref q_t_text, .int t_textMany, .int t_seed, .int t_toldMany, .ref q_t_toldAt, .int t_hasTold, .ref q_t_stack, .int t_codes, .int t_ones, .int t_top, .int t_deep, .int t_isWhole, .ref q_t_truths, .ref q_t_imaged, .ref q_t_namesKept, .ref q_t_areKept]))]
theorem iX12_fault_X12 : ∀ w ∈ wsX120, w ∈ wsX12_fault := fun _ h => List.mem_cons_of_mem _ (List.mem_append_right _ h)
abbrev rm_X12_fault : Room := { frames := 0, cells := 0, slots := 0, locals := 0 }
set_option maxRecDepth 100000 in
def f_X12_fault (N : Nat) (t_thrown : Int32) (t_fault : Int32) : Option (Int32 × Int32) := some (t_fault, 0)
set_option maxHeartbeats 4000000 in
set_option maxRecDepth 100000 in
theorem c_X12_fault (l : Launch) (G : va_G) (cy : Nat → ClassId) (E : Nat → Nat) (N : Nat) (q_t q_t_tape q_t_s q_t_h q_t_read q_t_names q_t_reserved q_t_undone q_t_before q_t_comeRow q_t_shown q_t_text q_t_toldAt q_t_stack q_t_truths q_t_imaged q_t_namesKept q_t_areKept : Nat) (t_thrown : Int32) (t_length : Int32) (t_size : Int32) (t_p : Int32) (t_limit : Int32) (t_token : Int32) (t_at : Int32) (t_span : Int32) (t_number : Int32) (t_fault : Int32) (t_faultAt : Int32) (t_word : Int64) (t_got : Int32) (t_lines : Int32) (t_hasWait : Int32) (t_undoMany : Int32) (t_firstMinute : Int32) (t_lookClock : Int32) (t_hasTime : Int32) (t_latestMost : Int32) (t_textMany : Int32) (t_seed : Int32) (t_toldMany : Int32) (t_hasTold : Int32) (t_codes : Int32) (t_ones : Int32) (t_top : Int32) (t_deep : Int32) (t_isWhole : Int32) (r : Int32) (r_t_thrown : Int32) (h : f_X12_fault N t_thrown t_fault = some (r, r_t_thrown)) : zM l G cy E yX12_fault wsX12_fault rm_X12_fault [.ref q_t] (wd_X12_fault cy q_t q_t_tape q_t_s q_t_h q_t_read q_t_names q_t_reserved q_t_undone q_t_before q_t_comeRow q_t_shown q_t_text q_t_toldAt q_t_stack q_t_truths q_t_imaged q_t_namesKept q_t_areKept t_thrown t_length t_size t_p t_limit t_token t_at t_span t_number t_fault t_faultAt t_word t_got t_lines t_hasWait t_undoMany t_firstMinute t_lookClock t_hasTime t_latestMost t_textMany t_seed t_toldMany t_hasTold t_codes t_ones t_top t_deep t_isWhole) (wd_X12_fault cy q_t q_t_tape q_t_s q_t_h q_t_read q_t_names q_t_reserved q_t_undone q_t_before q_t_comeRow q_t_shown q_t_text q_t_toldAt q_t_stack q_t_truths q_t_imaged q_t_namesKept q_t_areKept r_t_thrown t_length t_size t_p t_limit t_token t_at t_span t_number t_fault t_faultAt t_word t_got t_lines t_hasWait t_undoMany t_firstMinute t_lookClock t_hasTime t_latestMost t_textMany t_seed t_toldMany t_hasTold t_codes t_ones t_top t_deep t_isWhole) (some (.int r)) 0 0 := by
  refine z_body (cc := cX12_fault) (maxL := 1) (ret := some .int) (by decide) rfl (Nat.le_of_ble_eq_true rfl) ?_
  intro p e s m below meth c ls S hr hlocks hnm hF hH hl
  have S : CallFix p m c cX12_fault 1 s ([.ref q_t] : List Value).toArray wsX12_fault RX12 := S
  obtain ⟨hx, hb, hml, hown, hts⟩ := id S
  have hl : lv_has ls 1 [(0, .ref q_t)] := hl
  rw [f_X12_fault] at h
  refine lv_aload_n hx hb dX12_fault_0 rfl (lv_at hl 0 rfl) ?_
  refine lv_iconst (v := 0) hx hb dX12_fault_1 (by decide) ?_
  refine z_put (ws' := (wd_X12_fault cy q_t q_t_tape q_t_s q_t_h q_t_read q_t_names q_t_reserved q_t_undone q_t_before q_t_comeRow q_t_shown q_t_text q_t_toldAt q_t_stack q_t_truths q_t_imaged q_t_namesKept q_t_areKept 0 t_length t_size t_p t_limit t_token t_at t_span t_number t_fault t_faultAt t_word t_got t_lines t_hasWait t_undoMany t_firstMinute t_lookClock t_hasTime t_latestMost t_textMany t_seed t_toldMany t_hasTold t_codes t_ones t_top t_deep t_isWhole)) S hF hH iX12_fault_X12 tyX12 tyX12_ok nmX12 0 rfl rfl 0 (by decide) (List.mem_of_getElem? (i := 1) rfl) rfl rfl rfl (Nat.le_of_ble_eq_true rfl) rfl dX12_fault_2 (fun H locs hH => ?_)
  refine lv_aload_n hx hb dX12_fault_5 rfl (lv_at hl 0 rfl) ?_
  refine z_get S hF hH iX12_fault_X12 0 rfl rfl 15 (by decide) (List.mem_of_getElem? (i := 2) rfl) rfl dX12_fault_6 ?_
  cases h
  exact z_iret S hr hlocks hH dX12_fault_9
abbrev wd_X12_isClock (cy : Nat → ClassId) (q_t q_t_tape q_t_s q_t_h q_t_read q_t_names q_t_reserved q_t_undone q_t_before q_t_comeRow q_t_shown q_t_text q_t_toldAt q_t_stack q_t_truths q_t_imaged q_t_namesKept q_t_areKept : Nat) (t_thrown : Int32) (t_length : Int32) (t_size : Int32) (t_p : Int32) (t_limit : Int32) (t_token : Int32) (t_at : Int32) (t_span : Int32) (t_number : Int32) (t_fault : Int32) (t_faultAt : Int32) (t_word : Int64) (t_got : Int32) (t_lines : Int32) (t_hasWait : Int32) (t_undoMany : Int32) (t_firstMinute : Int32) (t_lookClock : Int32) (t_hasTime : Int32) (t_latestMost : Int32) (t_textMany : Int32) (t_seed : Int32) (t_toldMany : Int32) (t_hasTold : Int32) (t_codes : Int32) (t_ones : Int32) (t_top : Int32) (t_deep : Int32) (t_isWhole : Int32) (t_s : Nat → Int32) : va_W := [(q_t, .inr (13, [.int t_thrown, .ref q_t_tape, .int t_length, .int t_size, .int t_p, .int t_limit, .ref q_t_s, .ref q_t_h, .ref q_t_read, .ref q_t_names, .ref q_t_reserved, .int t_token, .int t_at, .int t_span, .int t_number, .int t_fault, .int t_faultAt, .long t_word, .int t_got, .int t_lines, .int t_hasWait, .ref q_t_undone, .ref q_t_before, .int t_undoMany, .ref q_t_comeRow, .int t_firstMinute, .int t_lookClock, .int t_hasTime, .ref q_t_shown, .int t_latestMost, .ref q_t_text, .int t_textMany, .int t_seed, .int t_toldMany, .ref q_t_toldAt, .int t_hasTold, .ref q_t_stack, .int t_codes, .int t_ones, .int t_top, .int t_deep, .int t_isWhole, .ref q_t_truths, .ref q_t_imaged, .ref q_t_namesKept, .ref q_t_areKept])), (q_t_s, .inl (cy 1, 334, .inl t_s))]
theorem iX12_isClock_X12 : ∀ w ∈ wsX120, w ∈ wsX12_isClock := fun _ h => List.mem_cons_of_mem _ (List.mem_append_right _ h)
abbrev rm_X12_isClock : Room := { frames := 1, cells := 0, slots := 0, locals := 22 }
set_option maxRecDepth 100000 in
def f_X12_isClock (N : Nat) (x0 : Int32) (t_s : Nat → Int32) : Option (Int32) := zcl (f_X12_isIn N x0 0 ((t_s 0) - 1)) fun z10 => zck (zbo z10) <| some z10
set_option maxHeartbeats 4000000 in
set_option maxRecDepth 100000 in
theorem c_X12_isClock (l : Launch) (G : va_G) (cy : Nat → ClassId) (E : Nat → Nat) (N : Nat) (q_t q_t_tape q_t_s q_t_h q_t_read q_t_names q_t_reserved q_t_undone q_t_before q_t_comeRow q_t_shown q_t_text q_t_toldAt q_t_stack q_t_truths q_t_imaged q_t_namesKept q_t_areKept : Nat) (t_thrown : Int32) (t_length : Int32) (t_size : Int32) (t_p : Int32) (t_limit : Int32) (t_token : Int32) (t_at : Int32) (t_span : Int32) (t_number : Int32) (t_fault : Int32) (t_faultAt : Int32) (t_word : Int64) (t_got : Int32) (t_lines : Int32) (t_hasWait : Int32) (t_undoMany : Int32) (t_firstMinute : Int32) (t_lookClock : Int32) (t_hasTime : Int32) (t_latestMost : Int32) (t_textMany : Int32) (t_seed : Int32) (t_toldMany : Int32) (t_hasTold : Int32) (t_codes : Int32) (t_ones : Int32) (t_top : Int32) (t_deep : Int32) (t_isWhole : Int32) (t_s : Nat → Int32) (x0 : Int32) (r : Int32) (h : f_X12_isClock N x0 t_s = some r) : zM l G cy E yX12_isClock wsX12_isClock rm_X12_isClock [.ref q_t, .int x0] (wd_X12_isClock cy q_t q_t_tape q_t_s q_t_h q_t_read q_t_names q_t_reserved q_t_undone q_t_before q_t_comeRow q_t_shown q_t_text q_t_toldAt q_t_stack q_t_truths q_t_imaged q_t_namesKept q_t_areKept t_thrown t_length t_size t_p t_limit t_token t_at t_span t_number t_fault t_faultAt t_word t_got t_lines t_hasWait t_undoMany t_firstMinute t_lookClock t_hasTime t_latestMost t_textMany t_seed t_toldMany t_hasTold t_codes t_ones t_top t_deep t_isWhole t_s) (wd_X12_isClock cy q_t q_t_tape q_t_s q_t_h q_t_read q_t_names q_t_reserved q_t_undone q_t_before q_t_comeRow q_t_shown q_t_text q_t_toldAt q_t_stack q_t_truths q_t_imaged q_t_namesKept q_t_areKept t_thrown t_length t_size t_p t_limit t_token t_at t_span t_number t_fault t_faultAt t_word t_got t_lines t_hasWait t_undoMany t_firstMinute t_lookClock t_hasTime t_latestMost t_textMany t_seed t_toldMany t_hasTold t_codes t_ones t_top t_deep t_isWhole t_s) (some (.int r)) 0 0 := by
  refine z_body (cc := cX12_isClock) (maxL := 2) (ret := some .boolean) (by decide) rfl (Nat.le_of_ble_eq_true rfl) ?_
  intro p e s m below meth c ls S hr hlocks hnm hF hH hl
  have S : CallFix p m c cX12_isClock 2 s ([.ref q_t, .int x0] : List Value).toArray wsX12_isClock RX12 := S
  obtain ⟨hx, hb, hml, hown, hts⟩ := id S
  have hl : lv_has ls 2 [(0, .ref q_t), (1, .int x0)] := hl
  rw [f_X12_isClock] at h
  refine lv_iload_n hx hb dX12_isClock_0 rfl (lv_at hl 1 rfl) ?_
  refine lv_iconst (v := 0) hx hb dX12_isClock_1 (by decide) ?_
  refine lv_aload_n hx hb dX12_isClock_2 rfl (lv_at hl 0 rfl) ?_
  refine z_get S hF hH iX12_isClock_X12 0 rfl rfl 6 (by decide) (List.mem_of_getElem? (i := 1) rfl) rfl dX12_isClock_3 ?_
  refine lv_iconst (v := 0) hx hb dX12_isClock_6 (by decide) ?_
  refine z_iald (j := 0) S hF hH 1 rfl (by decide) rfl dX12_isClock_7 ?_
  refine lv_iconst (v := 1) hx hb dX12_isClock_8 (by decide) ?_
  refine lv_isub hx hb dX12_isClock_9 ?_
  obtain ⟨z10, hz10, h⟩ := zcl_e h
  refine z_callS (As := [.int x0, .int 0, .int ((t_s 0) - 1)]) (rest := []) (st1 := [.int z10]) (ws' := (wd_X12_isClock cy q_t q_t_tape q_t_s q_t_h q_t_read q_t_names q_t_reserved q_t_undone q_t_before q_t_comeRow q_t_shown q_t_text q_t_toldAt q_t_stack q_t_truths q_t_imaged q_t_namesKept q_t_areKept t_thrown t_length t_size t_p t_limit t_token t_at t_span t_number t_fault t_faultAt t_word t_got t_lines t_hasWait t_undoMany t_firstMinute t_lookClock t_hasTime t_latestMost t_textMany t_seed t_toldMany t_hasTold t_codes t_ones t_top t_deep t_isWhole t_s)) S hF hH (c_X12_isIn l G cy E N x0 0 ((t_s 0) - 1) z10 hz10) (cwS 3 hts gX12_isClock_X12_isIn rfl rfl rfl (by decide +kernel) ⟨Nat.le_of_ble_eq_true rfl, Nat.le_of_ble_eq_true rfl⟩) [] rfl (by decide) rfl rfl rfl rfl rfl hl.1 (Nat.le_of_ble_eq_true rfl) dX12_isClock_10 ⟨Nat.le_of_ble_eq_true rfl, Nat.le_of_ble_eq_true rfl⟩ (fun H locs hH => ?_)
  obtain ⟨h13, h⟩ := zck_e h
  cases h
  exact z_zret S hr hlocks hH h13 dX12_isClock_13
abbrev wd_X12_isMaster (cy : Nat → ClassId) (q_t q_t_tape q_t_s q_t_h q_t_read q_t_names q_t_reserved q_t_undone q_t_before q_t_comeRow q_t_shown q_t_text q_t_toldAt q_t_stack q_t_truths q_t_imaged q_t_namesKept q_t_areKept : Nat) (t_thrown : Int32) (t_length : Int32) (t_size : Int32) (t_p : Int32) (t_limit : Int32) (t_token : Int32) (t_at : Int32) (t_span : Int32) (t_number : Int32) (t_fault : Int32) (t_faultAt : Int32) (t_word : Int64) (t_got : Int32) (t_lines : Int32) (t_hasWait : Int32) (t_undoMany : Int32) (t_firstMinute : Int32) (t_lookClock : Int32) (t_hasTime : Int32) (t_latestMost : Int32) (t_textMany : Int32) (t_seed : Int32) (t_toldMany : Int32) (t_hasTold : Int32) (t_codes : Int32) (t_ones : Int32) (t_top : Int32) (t_deep : Int32) (t_isWhole : Int32) (t_s : Nat → Int32) : va_W := [(q_t, .inr (13, [.int t_thrown, .ref q_t_tape, .int t_length, .int t_size, .int t_p, .int t_limit, .ref q_t_s, .ref q_t_h, .ref q_t_read, .ref q_t_names, .ref q_t_reserved, .int t_token, .int t_at, .int t_span, .int t_number, .int t_fault, .int t_faultAt, .long t_word, .int t_got, .int t_lines, .int t_hasWait, .ref q_t_undone, .ref q_t_before, .int t_undoMany, .ref q_t_comeRow, .int t_firstMinute, .int t_lookClock, .int t_hasTime, .ref q_t_shown, .int t_latestMost, .ref q_t_text, .int t_textMany, .int t_seed, .int t_toldMany, .ref q_t_toldAt, .int t_hasTold, .ref q_t_stack, .int t_codes, .int t_ones, .int t_top, .int t_deep, .int t_isWhole, .ref q_t_truths, .ref q_t_imaged, .ref q_t_namesKept, .ref q_t_areKept])), (q_t_s, .inl (cy 1, 334, .inl t_s))]
theorem iX12_isMaster_X12 : ∀ w ∈ wsX120, w ∈ wsX12_isMaster := fun _ h => List.mem_cons_of_mem _ (List.mem_append_right _ h)
abbrev rm_X12_isMaster : Room := { frames := 1, cells := 0, slots := 0, locals := 22 }
set_option maxRecDepth 100000 in
def f_X12_isMaster (N : Nat) (x0 : Int32) (t_s : Nat → Int32) : Option (Int32) := zcl (f_X12_isIn N x0 0 ((t_s 1) - 1)) fun z10 => zck (zbo z10) <| some z10
set_option maxHeartbeats 4000000 in
set_option maxRecDepth 100000 in
theorem c_X12_isMaster (l : Launch) (G : va_G) (cy : Nat → ClassId) (E : Nat → Nat) (N : Nat) (q_t q_t_tape q_t_s q_t_h q_t_read q_t_names q_t_reserved q_t_undone q_t_before q_t_comeRow q_t_shown q_t_text q_t_toldAt q_t_stack q_t_truths q_t_imaged q_t_namesKept q_t_areKept : Nat) (t_thrown : Int32) (t_length : Int32) (t_size : Int32) (t_p : Int32) (t_limit : Int32) (t_token : Int32) (t_at : Int32) (t_span : Int32) (t_number : Int32) (t_fault : Int32) (t_faultAt : Int32) (t_word : Int64) (t_got : Int32) (t_lines : Int32) (t_hasWait : Int32) (t_undoMany : Int32) (t_firstMinute : Int32) (t_lookClock : Int32) (t_hasTime : Int32) (t_latestMost : Int32) (t_textMany : Int32) (t_seed : Int32) (t_toldMany : Int32) (t_hasTold : Int32) (t_codes : Int32) (t_ones : Int32) (t_top : Int32) (t_deep : Int32) (t_isWhole : Int32) (t_s : Nat → Int32) (x0 : Int32) (r : Int32) (h : f_X12_isMaster N x0 t_s = some r) : zM l G cy E yX12_isMaster wsX12_isMaster rm_X12_isMaster [.ref q_t, .int x0] (wd_X12_isMaster cy q_t q_t_tape q_t_s q_t_h q_t_read q_t_names q_t_reserved q_t_undone q_t_before q_t_comeRow q_t_shown q_t_text q_t_toldAt q_t_stack q_t_truths q_t_imaged q_t_namesKept q_t_areKept t_thrown t_length t_size t_p t_limit t_token t_at t_span t_number t_fault t_faultAt t_word t_got t_lines t_hasWait t_undoMany t_firstMinute t_lookClock t_hasTime t_latestMost t_textMany t_seed t_toldMany t_hasTold t_codes t_ones t_top t_deep t_isWhole t_s) (wd_X12_isMaster cy q_t q_t_tape q_t_s q_t_h q_t_read q_t_names q_t_reserved q_t_undone q_t_before q_t_comeRow q_t_shown q_t_text q_t_toldAt q_t_stack q_t_truths q_t_imaged q_t_namesKept q_t_areKept t_thrown t_length t_size t_p t_limit t_token t_at t_span t_number t_fault t_faultAt t_word t_got t_lines t_hasWait t_undoMany t_firstMinute t_lookClock t_hasTime t_latestMost t_textMany t_seed t_toldMany t_hasTold t_codes t_ones t_top t_deep t_isWhole t_s) (some (.int r)) 0 0 := by
  refine z_body (cc := cX12_isMaster) (maxL := 2) (ret := some .boolean) (by decide) rfl (Nat.le_of_ble_eq_true rfl) ?_
  intro p e s m below meth c ls S hr hlocks hnm hF hH hl
  have S : CallFix p m c cX12_isMaster 2 s ([.ref q_t, .int x0] : List Value).toArray wsX12_isMaster RX12 := S
  obtain ⟨hx, hb, hml, hown, hts⟩ := id S
  have hl : lv_has ls 2 [(0, .ref q_t), (1, .int x0)] := hl
  rw [f_X12_isMaster] at h
  refine lv_iload_n hx hb dX12_isMaster_0 rfl (lv_at hl 1 rfl) ?_
  refine lv_iconst (v := 0) hx hb dX12_isMaster_1 (by decide) ?_
  refine lv_aload_n hx hb dX12_isMaster_2 rfl (lv_at hl 0 rfl) ?_
  refine z_get S hF hH iX12_isMaster_X12 0 rfl rfl 6 (by decide) (List.mem_of_getElem? (i := 1) rfl) rfl dX12_isMaster_3 ?_
  refine lv_iconst (v := 1) hx hb dX12_isMaster_6 (by decide) ?_
  refine z_iald (j := 1) S hF hH 1 rfl (by decide) rfl dX12_isMaster_7 ?_
  refine lv_iconst (v := 1) hx hb dX12_isMaster_8 (by decide) ?_
  refine lv_isub hx hb dX12_isMaster_9 ?_
  obtain ⟨z10, hz10, h⟩ := zcl_e h
  refine z_callS (As := [.int x0, .int 0, .int ((t_s 1) - 1)]) (rest := []) (st1 := [.int z10]) (ws' := (wd_X12_isMaster cy q_t q_t_tape q_t_s q_t_h q_t_read q_t_names q_t_reserved q_t_undone q_t_before q_t_comeRow q_t_shown q_t_text q_t_toldAt q_t_stack q_t_truths q_t_imaged q_t_namesKept q_t_areKept t_thrown t_length t_size t_p t_limit t_token t_at t_span t_number t_fault t_faultAt t_word t_got t_lines t_hasWait t_undoMany t_firstMinute t_lookClock t_hasTime t_latestMost t_textMany t_seed t_toldMany t_hasTold t_codes t_ones t_top t_deep t_isWhole t_s)) S hF hH (c_X12_isIn l G cy E N x0 0 ((t_s 1) - 1) z10 hz10) (cwS 3 hts gX12_isMaster_X12_isIn rfl rfl rfl (by decide +kernel) ⟨Nat.le_of_ble_eq_true rfl, Nat.le_of_ble_eq_true rfl⟩) [] rfl (by decide) rfl rfl rfl rfl rfl hl.1 (Nat.le_of_ble_eq_true rfl) dX12_isMaster_10 ⟨Nat.le_of_ble_eq_true rfl, Nat.le_of_ble_eq_true rfl⟩ (fun H locs hH => ?_)
  obtain ⟨h13, h⟩ := zck_e h
  cases h
  exact z_zret S hr hlocks hH h13 dX12_isMaster_13
abbrev wd_X12_isMeet (cy : Nat → ClassId) (q_t q_t_tape q_t_s q_t_h q_t_read q_t_names q_t_reserved q_t_undone q_t_before q_t_comeRow q_t_shown q_t_text q_t_toldAt q_t_stack q_t_truths q_t_imaged q_t_namesKept q_t_areKept : Nat) (t_thrown : Int32) (t_length : Int32) (t_size : Int32) (t_p : Int32) (t_limit : Int32) (t_token : Int32) (t_at : Int32) (t_span : Int32) (t_number : Int32) (t_fault : Int32) (t_faultAt : Int32) (t_word : Int64) (t_got : Int32) (t_lines : Int32) (t_hasWait : Int32) (t_undoMany : Int32) (t_firstMinute : Int32) (t_lookClock : Int32) (t_hasTime : Int32) (t_latestMost : Int32) (t_textMany : Int32) (t_seed : Int32) (t_toldMany : Int32) (t_hasTold : Int32) (t_codes : Int32) (t_ones : Int32) (t_top : Int32) (t_deep : Int32) (t_isWhole : Int32) (t_s : Nat → Int32) : va_W := [(q_t, .inr (13, [.int t_thrown, .ref q_t_tape, .int t_length, .int t_size, .int t_p, .int t_limit, .ref q_t_s, .ref q_t_h, .ref q_t_read, .ref q_t_names, .ref q_t_reserved, .int t_token, .int t_at, .int t_span, .int t_number, .int t_fault, .int t_faultAt, .long t_word, .int t_got, .int t_lines, .int t_hasWait, .ref q_t_undone, .ref q_t_before, .int t_undoMany, .ref q_t_comeRow, .int t_firstMinute, .int t_lookClock, .int t_hasTime, .ref q_t_shown, .int t_latestMost, .ref q_t_text, .int t_textMany, .int t_seed, .int t_toldMany, .ref q_t_toldAt, .int t_hasTold, .ref q_t_stack, .int t_codes, .int t_ones, .int t_top, .int t_deep, .int t_isWhole, .ref q_t_truths, .ref q_t_imaged, .ref q_t_namesKept, .ref q_t_areKept])), (q_t_s, .inl (cy 1, 334, .inl t_s))]
theorem iX12_isMeet_X12 : ∀ w ∈ wsX120, w ∈ wsX12_isMeet := fun _ h => List.mem_cons_of_mem _ (List.mem_append_right _ h)
abbrev rm_X12_isMeet : Room := { frames := 1, cells := 0, slots := 0, locals := 22 }
set_option maxRecDepth 100000 in
def f_X12_isMeet (N : Nat) (x0 : Int32) (t_s : Nat → Int32) : Option (Int32) := zcl (f_X12_isIn N x0 0 ((t_s 2) - 1)) fun z10 => zck (zbo z10) <| some z10
set_option maxHeartbeats 4000000 in
set_option maxRecDepth 100000 in
theorem c_X12_isMeet (l : Launch) (G : va_G) (cy : Nat → ClassId) (E : Nat → Nat) (N : Nat) (q_t q_t_tape q_t_s q_t_h q_t_read q_t_names q_t_reserved q_t_undone q_t_before q_t_comeRow q_t_shown q_t_text q_t_toldAt q_t_stack q_t_truths q_t_imaged q_t_namesKept q_t_areKept : Nat) (t_thrown : Int32) (t_length : Int32) (t_size : Int32) (t_p : Int32) (t_limit : Int32) (t_token : Int32) (t_at : Int32) (t_span : Int32) (t_number : Int32) (t_fault : Int32) (t_faultAt : Int32) (t_word : Int64) (t_got : Int32) (t_lines : Int32) (t_hasWait : Int32) (t_undoMany : Int32) (t_firstMinute : Int32) (t_lookClock : Int32) (t_hasTime : Int32) (t_latestMost : Int32) (t_textMany : Int32) (t_seed : Int32) (t_toldMany : Int32) (t_hasTold : Int32) (t_codes : Int32) (t_ones : Int32) (t_top : Int32) (t_deep : Int32) (t_isWhole : Int32) (t_s : Nat → Int32) (x0 : Int32) (r : Int32) (h : f_X12_isMeet N x0 t_s = some r) : zM l G cy E yX12_isMeet wsX12_isMeet rm_X12_isMeet [.ref q_t, .int x0] (wd_X12_isMeet cy q_t q_t_tape q_t_s q_t_h q_t_read q_t_names q_t_reserved q_t_undone q_t_before q_t_comeRow q_t_shown q_t_text q_t_toldAt q_t_stack q_t_truths q_t_imaged q_t_namesKept q_t_areKept t_thrown t_length t_size t_p t_limit t_token t_at t_span t_number t_fault t_faultAt t_word t_got t_lines t_hasWait t_undoMany t_firstMinute t_lookClock t_hasTime t_latestMost t_textMany t_seed t_toldMany t_hasTold t_codes t_ones t_top t_deep t_isWhole t_s) (wd_X12_isMeet cy q_t q_t_tape q_t_s q_t_h q_t_read q_t_names q_t_reserved q_t_undone q_t_before q_t_comeRow q_t_shown q_t_text q_t_toldAt q_t_stack q_t_truths q_t_imaged q_t_namesKept q_t_areKept t_thrown t_length t_size t_p t_limit t_token t_at t_span t_number t_fault t_faultAt t_word t_got t_lines t_hasWait t_undoMany t_firstMinute t_lookClock t_hasTime t_latestMost t_textMany t_seed t_toldMany t_hasTold t_codes t_ones t_top t_deep t_isWhole t_s) (some (.int r)) 0 0 := by
  refine z_body (cc := cX12_isMeet) (maxL := 2) (ret := some .boolean) (by decide) rfl (Nat.le_of_ble_eq_true rfl) ?_
  intro p e s m below meth c ls S hr hlocks hnm hF hH hl
  have S : CallFix p m c cX12_isMeet 2 s ([.ref q_t, .int x0] : List Value).toArray wsX12_isMeet RX12 := S
  obtain ⟨hx, hb, hml, hown, hts⟩ := id S
  have hl : lv_has ls 2 [(0, .ref q_t), (1, .int x0)] := hl
  rw [f_X12_isMeet] at h
  refine lv_iload_n hx hb dX12_isMeet_0 rfl (lv_at hl 1 rfl) ?_
  refine lv_iconst (v := 0) hx hb dX12_isMeet_1 (by decide) ?_
  refine lv_aload_n hx hb dX12_isMeet_2 rfl (lv_at hl 0 rfl) ?_
  refine z_get S hF hH iX12_isMeet_X12 0 rfl rfl 6 (by decide) (List.mem_of_getElem? (i := 1) rfl) rfl dX12_isMeet_3 ?_
  refine lv_iconst (v := 2) hx hb dX12_isMeet_6 (by decide) ?_
  refine z_iald (j := 2) S hF hH 1 rfl (by decide) rfl dX12_isMeet_7 ?_
  refine lv_iconst (v := 1) hx hb dX12_isMeet_8 (by decide) ?_
  refine lv_isub hx hb dX12_isMeet_9 ?_
  obtain ⟨z10, hz10, h⟩ := zcl_e h
  refine z_callS (As := [.int x0, .int 0, .int ((t_s 2) - 1)]) (rest := []) (st1 := [.int z10]) (ws' := (wd_X12_isMeet cy q_t q_t_tape q_t_s q_t_h q_t_read q_t_names q_t_reserved q_t_undone q_t_before q_t_comeRow q_t_shown q_t_text q_t_toldAt q_t_stack q_t_truths q_t_imaged q_t_namesKept q_t_areKept t_thrown t_length t_size t_p t_limit t_token t_at t_span t_number t_fault t_faultAt t_word t_got t_lines t_hasWait t_undoMany t_firstMinute t_lookClock t_hasTime t_latestMost t_textMany t_seed t_toldMany t_hasTold t_codes t_ones t_top t_deep t_isWhole t_s)) S hF hH (c_X12_isIn l G cy E N x0 0 ((t_s 2) - 1) z10 hz10) (cwS 3 hts gX12_isMeet_X12_isIn rfl rfl rfl (by decide +kernel) ⟨Nat.le_of_ble_eq_true rfl, Nat.le_of_ble_eq_true rfl⟩) [] rfl (by decide) rfl rfl rfl rfl rfl hl.1 (Nat.le_of_ble_eq_true rfl) dX12_isMeet_10 ⟨Nat.le_of_ble_eq_true rfl, Nat.le_of_ble_eq_true rfl⟩ (fun H locs hH => ?_)
  obtain ⟨h13, h⟩ := zck_e h
  cases h
  exact z_zret S hr hlocks hH h13 dX12_isMeet_13
abbrev wd_X12_isStopped (cy : Nat → ClassId) (q_t q_t_tape q_t_s q_t_h q_t_read q_t_names q_t_reserved q_t_undone q_t_before q_t_comeRow q_t_shown q_t_text q_t_toldAt q_t_stack q_t_truths q_t_imaged q_t_namesKept q_t_areKept : Nat) (t_thrown : Int32) (t_length : Int32) (t_size : Int32) (t_p : Int32) (t_limit : Int32) (t_token : Int32) (t_at : Int32) (t_span : Int32) (t_number : Int32) (t_fault : Int32) (t_faultAt : Int32) (t_word : Int64) (t_got : Int32) (t_lines : Int32) (t_hasWait : Int32) (t_undoMany : Int32) (t_firstMinute : Int32) (t_lookClock : Int32) (t_hasTime : Int32) (t_latestMost : Int32) (t_textMany : Int32) (t_seed : Int32) (t_toldMany : Int32) (t_hasTold : Int32) (t_codes : Int32) (t_ones : Int32) (t_top : Int32) (t_deep : Int32) (t_isWhole : Int32) (t_s : Nat → Int32) : va_W := [(q_t, .inr (13, [.int t_thrown, .ref q_t_tape, .int t_length, .int t_size, .int t_p, .int t_limit, .ref q_t_s, .ref q_t_h, .ref q_t_read, .ref q_t_names, .ref q_t_reserved, .int t_token, .int t_at, .int t_span, .int t_number, .int t_fault, .int t_faultAt, .long t_word, .int t_got, .int t_lines, .int t_hasWait, .ref q_t_undone, .ref q_t_before, .int t_undoMany, .ref q_t_comeRow, .int t_firstMinute, .int t_lookClock, .int t_hasTime, .ref q_t_shown, .int t_latestMost, .ref q_t_text, .int t_textMany, .int t_seed, .int t_toldMany, .ref q_t_toldAt, .int t_hasTold, .ref q_t_stack, .int t_codes, .int t_ones, .int t_top, .int t_deep, .int t_isWhole, .ref q_t_truths, .ref q_t_imaged, .ref q_t_namesKept, .ref q_t_areKept])), (q_t_s, .inl (cy 1, 334, .inl t_s))]
theorem iX12_isStopped_X12 : ∀ w ∈ wsX120, w ∈ wsX12_isStopped := fun _ h => List.mem_cons_of_mem _ (List.mem_append_right _ h)
abbrev rm_X12_isStopped : Room := { frames := 1, cells := 0, slots := 0, locals := 21 }
set_option maxRecDepth 100000 in
def f_X12_isStopped (N : Nat) (x0 : Int32) (t_s : Nat → Int32) : Option (Int32) := zcl (f_X12_bitOf N (t_s 54) x0) fun z8 => zck (zbo z8) <| some z8
set_option maxHeartbeats 4000000 in
set_option maxRecDepth 100000 in
theorem c_X12_isStopped (l : Launch) (G : va_G) (cy : Nat → ClassId) (E : Nat → Nat) (N : Nat) (q_t q_t_tape q_t_s q_t_h q_t_read q_t_names q_t_reserved q_t_undone q_t_before q_t_comeRow q_t_shown q_t_text q_t_toldAt q_t_stack q_t_truths q_t_imaged q_t_namesKept q_t_areKept : Nat) (t_thrown : Int32) (t_length : Int32) (t_size : Int32) (t_p : Int32) (t_limit : Int32) (t_token : Int32) (t_at : Int32) (t_span : Int32) (t_number : Int32) (t_fault : Int32) (t_faultAt : Int32) (t_word : Int64) (t_got : Int32) (t_lines : Int32) (t_hasWait : Int32) (t_undoMany : Int32) (t_firstMinute : Int32) (t_lookClock : Int32) (t_hasTime : Int32) (t_latestMost : Int32) (t_textMany : Int32) (t_seed : Int32) (t_toldMany : Int32) (t_hasTold : Int32) (t_codes : Int32) (t_ones : Int32) (t_top : Int32) (t_deep : Int32) (t_isWhole : Int32) (t_s : Nat → Int32) (x0 : Int32) (r : Int32) (h : f_X12_isStopped N x0 t_s = some r) : zM l G cy E yX12_isStopped wsX12_isStopped rm_X12_isStopped [.ref q_t, .int x0] (wd_X12_isStopped cy q_t q_t_tape q_t_s q_t_h q_t_read q_t_names q_t_reserved q_t_undone q_t_before q_t_comeRow q_t_shown q_t_text q_t_toldAt q_t_stack q_t_truths q_t_imaged q_t_namesKept q_t_areKept t_thrown t_length t_size t_p t_limit t_token t_at t_span t_number t_fault t_faultAt t_word t_got t_lines t_hasWait t_undoMany t_firstMinute t_lookClock t_hasTime t_latestMost t_textMany t_seed t_toldMany t_hasTold t_codes t_ones t_top t_deep t_isWhole t_s) (wd_X12_isStopped cy q_t q_t_tape q_t_s q_t_h q_t_read q_t_names q_t_reserved q_t_undone q_t_before q_t_comeRow q_t_shown q_t_text q_t_toldAt q_t_stack q_t_truths q_t_imaged q_t_namesKept q_t_areKept t_thrown t_length t_size t_p t_limit t_token t_at t_span t_number t_fault t_faultAt t_word t_got t_lines t_hasWait t_undoMany t_firstMinute t_lookClock t_hasTime t_latestMost t_textMany t_seed t_toldMany t_hasTold t_codes t_ones t_top t_deep t_isWhole t_s) (some (.int r)) 0 0 := by
  refine z_body (cc := cX12_isStopped) (maxL := 2) (ret := some .boolean) (by decide) rfl (Nat.le_of_ble_eq_true rfl) ?_
  intro p e s m below meth c ls S hr hlocks hnm hF hH hl
  have S : CallFix p m c cX12_isStopped 2 s ([.ref q_t, .int x0] : List Value).toArray wsX12_isStopped RX12 := S
  obtain ⟨hx, hb, hml, hown, hts⟩ := id S
  have hl : lv_has ls 2 [(0, .ref q_t), (1, .int x0)] := hl
  rw [f_X12_isStopped] at h
  refine lv_aload_n hx hb dX12_isStopped_0 rfl (lv_at hl 0 rfl) ?_
  refine z_get S hF hH iX12_isStopped_X12 0 rfl rfl 6 (by decide) (List.mem_of_getElem? (i := 1) rfl) rfl dX12_isStopped_1 ?_
  refine lv_bipush (v := 54) hx hb dX12_isStopped_4 (by decide) ?_
  refine z_iald (j := 54) S hF hH 1 rfl (by decide) rfl dX12_isStopped_6 ?_
  refine lv_iload_n hx hb dX12_isStopped_7 rfl (lv_at hl 1 rfl) ?_
  obtain ⟨z8, hz8, h⟩ := zcl_e h
  refine z_callS (As := [.int (t_s 54), .int x0]) (rest := []) (st1 := [.int z8]) (ws' := (wd_X12_isStopped cy q_t q_t_tape q_t_s q_t_h q_t_read q_t_names q_t_reserved q_t_undone q_t_before q_t_comeRow q_t_shown q_t_text q_t_toldAt q_t_stack q_t_truths q_t_imaged q_t_namesKept q_t_areKept t_thrown t_length t_size t_p t_limit t_token t_at t_span t_number t_fault t_faultAt t_word t_got t_lines t_hasWait t_undoMany t_firstMinute t_lookClock t_hasTime t_latestMost t_textMany t_seed t_toldMany t_hasTold t_codes t_ones t_top t_deep t_isWhole t_s)) S hF hH (c_X12_bitOf l G cy E N (t_s 54) x0 z8 hz8) (cwS 2 hts gX12_isStopped_X12_bitOf rfl rfl rfl (by decide +kernel) ⟨Nat.le_of_ble_eq_true rfl, Nat.le_of_ble_eq_true rfl⟩) [] rfl (by decide) rfl rfl rfl rfl rfl hl.1 (Nat.le_of_ble_eq_true rfl) dX12_isStopped_8 ⟨Nat.le_of_ble_eq_true rfl, Nat.le_of_ble_eq_true rfl⟩ (fun H locs hH => ?_)
  obtain ⟨h11, h⟩ := zck_e h
  cases h
  exact z_zret S hr hlocks hH h11 dX12_isStopped_11
abbrev wd_X12_readsAt (cy : Nat → ClassId) (q_t q_t_tape q_t_s q_t_h q_t_read q_t_names q_t_reserved q_t_undone q_t_before q_t_comeRow q_t_shown q_t_text q_t_toldAt q_t_stack q_t_truths q_t_imaged q_t_namesKept q_t_areKept : Nat) (t_thrown : Int32) (t_length : Int32) (t_size : Int32) (t_p : Int32) (t_limit : Int32) (t_token : Int32) (t_at : Int32) (t_span : Int32) (t_number : Int32) (t_fault : Int32) (t_faultAt : Int32) (t_word : Int64) (t_got : Int32) (t_lines : Int32) (t_hasWait : Int32) (t_undoMany : Int32) (t_firstMinute : Int32) (t_lookClock : Int32) (t_hasTime : Int32) (t_latestMost : Int32) (t_textMany : Int32) (t_seed : Int32) (t_toldMany : Int32) (t_hasTold : Int32) (t_codes : Int32) (t_ones : Int32) (t_top : Int32) (t_deep : Int32) (t_isWhole : Int32) (t_s : Nat → Int32) : va_W := [(q_t, .inr (13, [.int t_thrown, .ref q_t_tape, .int t_length, .int t_size, .int t_p, .int t_limit, .ref q_t_s, .ref q_t_h, .ref q_t_read, .ref q_t_names, .ref q_t_reserved, .int t_token, .int t_at, .int t_span, .int t_number, .int t_fault, .int t_faultAt, .long t_word, .int t_got, .int t_lines, .int t_hasWait, .ref q_t_undone, .ref q_t_before, .int t_undoMany, .ref q_t_comeRow, .int t_firstMinute, .int t_lookClock, .int t_hasTime, .ref q_t_shown, .int t_latestMost, .ref q_t_text, .int t_textMany, .int t_seed, .int t_toldMany, .ref q_t_toldAt, .int t_hasTold, .ref q_t_stack, .int t_codes, .int t_ones, .int t_top, .int t_deep, .int t_isWhole, .ref q_t_truths, .ref q_t_imaged, .ref q_t_namesKept, .ref q_t_areKept])), (q_t_s, .inl (cy 1, 334, .inl t_s))]
theorem iX12_readsAt_X12 : ∀ w ∈ wsX120, w ∈ wsX12_readsAt := fun _ h => List.mem_cons_of_mem _ (List.mem_append_right _ h)
abbrev rm_X12_readsAt : Room := { frames := 2, cells := 0, slots := 0, locals := 42 }
set_option maxRecDepth 100000 in
def f_X12_readsAt (N : Nat) (x0 : Int32) (x1 : Int32) (t_s : Nat → Int32) : Option (Int32) := zcl (f_X12_isStopped N x0 t_s) fun z2 => if z2 = 0 then (zck (zin (57 + x0) 334) <| zck (zin (16 + x0) 334) <| zck (zin (63 + x0) 334) <| some ((x1 + (t_s (Int32.toNatClampNeg (57 + x0)))) + ((t_s (Int32.toNatClampNeg (16 + x0))) * ((x1 - (t_s (Int32.toNatClampNeg (63 + x0)))) / 60)))) else (zck (zin (69 + x0) 334) <| some (t_s (Int32.toNatClampNeg (69 + x0))))
set_option maxHeartbeats 4000000 in
set_option maxRecDepth 100000 in
theorem c_X12_readsAt (l : Launch) (G : va_G) (cy : Nat → ClassId) (E : Nat → Nat) (N : Nat) (q_t q_t_tape q_t_s q_t_h q_t_read q_t_names q_t_reserved q_t_undone q_t_before q_t_comeRow q_t_shown q_t_text q_t_toldAt q_t_stack q_t_truths q_t_imaged q_t_namesKept q_t_areKept : Nat) (t_thrown : Int32) (t_length : Int32) (t_size : Int32) (t_p : Int32) (t_limit : Int32) (t_token : Int32) (t_at : Int32) (t_span : Int32) (t_number : Int32) (t_fault : Int32) (t_faultAt : Int32) (t_word : Int64) (t_got : Int32) (t_lines : Int32) (t_hasWait : Int32) (t_undoMany : Int32) (t_firstMinute : Int32) (t_lookClock : Int32) (t_hasTime : Int32) (t_latestMost : Int32) (t_textMany : Int32) (t_seed : Int32) (t_toldMany : Int32) (t_hasTold : Int32) (t_codes : Int32) (t_ones : Int32) (t_top : Int32) (t_deep : Int32) (t_isWhole : Int32) (t_s : Nat → Int32) (x0 : Int32) (x1 : Int32) (r : Int32) (h : f_X12_readsAt N x0 x1 t_s = some r) : zM l G cy E yX12_readsAt wsX12_readsAt rm_X12_readsAt [.ref q_t, .int x0, .int x1] (wd_X12_readsAt cy q_t q_t_tape q_t_s q_t_h q_t_read q_t_names q_t_reserved q_t_undone q_t_before q_t_comeRow q_t_shown q_t_text q_t_toldAt q_t_stack q_t_truths q_t_imaged q_t_namesKept q_t_areKept t_thrown t_length t_size t_p t_limit t_token t_at t_span t_number t_fault t_faultAt t_word t_got t_lines t_hasWait t_undoMany t_firstMinute t_lookClock t_hasTime t_latestMost t_textMany t_seed t_toldMany t_hasTold t_codes t_ones t_top t_deep t_isWhole t_s) (wd_X12_readsAt cy q_t q_t_tape q_t_s q_t_h q_t_read q_t_names q_t_reserved q_t_undone q_t_before q_t_comeRow q_t_shown q_t_text q_t_toldAt q_t_stack q_t_truths q_t_imaged q_t_namesKept q_t_areKept t_thrown t_length t_size t_p t_limit t_token t_at t_span t_number t_fault t_faultAt t_word t_got t_lines t_hasWait t_undoMany t_firstMinute t_lookClock t_hasTime t_latestMost t_textMany t_seed t_toldMany t_hasTold t_codes t_ones t_top t_deep t_isWhole t_s) (some (.int r)) 0 0 := by
  refine z_body (cc := cX12_readsAt) (maxL := 3) (ret := some .int) (by decide) rfl (Nat.le_of_ble_eq_true rfl) ?_
  intro p e s m below meth c ls S hr hlocks hnm hF hH hl
  have S : CallFix p m c cX12_readsAt 3 s ([.ref q_t, .int x0, .int x1] : List Value).toArray wsX12_readsAt RX12 := S
  obtain ⟨hx, hb, hml, hown, hts⟩ := id S
  have hl : lv_has ls 3 [(0, .ref q_t), (1, .int x0), (2, .int x1)] := hl
  rw [f_X12_readsAt] at h
  refine lv_aload_n hx hb dX12_readsAt_0 rfl (lv_at hl 0 rfl) ?_
  refine lv_iload_n hx hb dX12_readsAt_1 rfl (lv_at hl 1 rfl) ?_
  obtain ⟨z2, hz2, h⟩ := zcl_e h
  refine z_callV (As := [.int x0]) (rest := []) (st1 := [.int z2]) (ws' := (wd_X12_readsAt cy q_t q_t_tape q_t_s q_t_h q_t_read q_t_names q_t_reserved q_t_undone q_t_before q_t_comeRow q_t_shown q_t_text q_t_toldAt q_t_stack q_t_truths q_t_imaged q_t_namesKept q_t_areKept t_thrown t_length t_size t_p t_limit t_token t_at t_span t_number t_fault t_faultAt t_word t_got t_lines t_hasWait t_undoMany t_firstMinute t_lookClock t_hasTime t_latestMost t_textMany t_seed t_toldMany t_hasTold t_codes t_ones t_top t_deep t_isWhole t_s)) S hF hH (c_X12_isStopped l G cy E N q_t q_t_tape q_t_s q_t_h q_t_read q_t_names q_t_reserved q_t_undone q_t_before q_t_comeRow q_t_shown q_t_text q_t_toldAt q_t_stack q_t_truths q_t_imaged q_t_namesKept q_t_areKept t_thrown t_length t_size t_p t_limit t_token t_at t_span t_number t_fault t_faultAt t_word t_got t_lines t_hasWait t_undoMany t_firstMinute t_lookClock t_hasTime t_latestMost t_textMany t_seed t_toldMany t_hasTold t_codes t_ones t_top t_deep t_isWhole t_s x0 z2 hz2) (cwV 1 hts gX12_readsAt_X12_isStopped rfl rfl rfl (by decide +kernel) ⟨Nat.le_of_ble_eq_true rfl, Nat.le_of_ble_eq_true rfl⟩) 13 0 rfl rfl [0, 1] rfl (by decide) rfl rfl rfl rfl rfl hl.1 (Nat.le_of_ble_eq_true rfl) dX12_readsAt_2 ⟨Nat.le_of_ble_eq_true rfl, Nat.le_of_ble_eq_true rfl⟩ (fun H locs hH => ?_)
  refine lv_if_eq (tgt := 20) hx hb dX12_readsAt_5 (by decide) (fun b5 => ?_) (fun b5 => ?_)
  · replace h := zif_t b5 h
    refine lv_iload_n hx hb dX12_readsAt_20 rfl (lv_at hl 2 rfl) ?_
    refine lv_aload_n hx hb dX12_readsAt_21 rfl (lv_at hl 0 rfl) ?_
    refine z_get S hF hH iX12_readsAt_X12 0 rfl rfl 6 (by decide) (List.mem_of_getElem? (i := 1) rfl) rfl dX12_readsAt_22 ?_
    refine lv_bipush (v := 57) hx hb dX12_readsAt_25 (by decide) ?_
    refine lv_iload_n hx hb dX12_readsAt_27 rfl (lv_at hl 1 rfl) ?_
    refine lv_iadd hx hb dX12_readsAt_28 ?_
    obtain ⟨h29, h⟩ := zck_e h
    refine z_iald S hF hH 1 rfl h29 rfl dX12_readsAt_29 ?_
    refine lv_iadd hx hb dX12_readsAt_30 ?_
    refine lv_aload_n hx hb dX12_readsAt_31 rfl (lv_at hl 0 rfl) ?_
    refine z_get S hF hH iX12_readsAt_X12 0 rfl rfl 6 (by decide) (List.mem_of_getElem? (i := 1) rfl) rfl dX12_readsAt_32 ?_
    refine lv_bipush (v := 16) hx hb dX12_readsAt_35 (by decide) ?_
    refine lv_iload_n hx hb dX12_readsAt_37 rfl (lv_at hl 1 rfl) ?_
    refine lv_iadd hx hb dX12_readsAt_38 ?_
    obtain ⟨h39, h⟩ := zck_e h
    refine z_iald S hF hH 1 rfl h39 rfl dX12_readsAt_39 ?_
    refine lv_iload_n hx hb dX12_readsAt_40 rfl (lv_at hl 2 rfl) ?_
    refine lv_aload_n hx hb dX12_readsAt_41 rfl (lv_at hl 0 rfl) ?_
    refine z_get S hF hH iX12_readsAt_X12 0 rfl rfl 6 (by decide) (List.mem_of_getElem? (i := 1) rfl) rfl dX12_readsAt_42 ?_
    refine lv_bipush (v := 63) hx hb dX12_readsAt_45 (by decide) ?_
    refine lv_iload_n hx hb dX12_readsAt_47 rfl (lv_at hl 1 rfl) ?_
    refine lv_iadd hx hb dX12_readsAt_48 ?_
    obtain ⟨h49, h⟩ := zck_e h
    refine z_iald S hF hH 1 rfl h49 rfl dX12_readsAt_49 ?_
    refine lv_isub hx hb dX12_readsAt_50 ?_
    refine lv_bipush (v := 60) hx hb dX12_readsAt_51 (by decide) ?_
    refine lv_idiv hx hb dX12_readsAt_53 (by decide) ?_
    refine lv_imul hx hb dX12_readsAt_54 ?_
    refine lv_iadd hx hb dX12_readsAt_55 ?_
    cases h
    exact z_iret S hr hlocks hH dX12_readsAt_56
  · replace h := zif_f b5 h
    refine lv_aload_n hx hb dX12_readsAt_8 rfl (lv_at hl 0 rfl) ?_
    refine z_get S hF hH iX12_readsAt_X12 0 rfl rfl 6 (by decide) (List.mem_of_getElem? (i := 1) rfl) rfl dX12_readsAt_9 ?_
    refine lv_bipush (v := 69) hx hb dX12_readsAt_12 (by decide) ?_
    refine lv_iload_n hx hb dX12_readsAt_14 rfl (lv_at hl 1 rfl) ?_
    refine lv_iadd hx hb dX12_readsAt_15 ?_
    obtain ⟨h16, h⟩ := zck_e h
    refine z_iald S hF hH 1 rfl h16 rfl dX12_readsAt_16 ?_
    refine lv_goto (tgt := 56) hx hb dX12_readsAt_17 (by decide) ?_
    cases h
    exact z_iret S hr hlocks hH dX12_readsAt_56
abbrev wd_X12_wrongBy (cy : Nat → ClassId) (q_t q_t_tape q_t_s q_t_h q_t_read q_t_names q_t_reserved q_t_undone q_t_before q_t_comeRow q_t_shown q_t_text q_t_toldAt q_t_stack q_t_truths q_t_imaged q_t_namesKept q_t_areKept : Nat) (t_thrown : Int32) (t_length : Int32) (t_size : Int32) (t_p : Int32) (t_limit : Int32) (t_token : Int32) (t_at : Int32) (t_span : Int32) (t_number : Int32) (t_fault : Int32) (t_faultAt : Int32) (t_word : Int64) (t_got : Int32) (t_lines : Int32) (t_hasWait : Int32) (t_undoMany : Int32) (t_firstMinute : Int32) (t_lookClock : Int32) (t_hasTime : Int32) (t_latestMost : Int32) (t_textMany : Int32) (t_seed : Int32) (t_toldMany : Int32) (t_hasTold : Int32) (t_codes : Int32) (t_ones : Int32) (t_top : Int32) (t_deep : Int32) (t_isWhole : Int32) (t_s : Nat → Int32) : va_W := [(q_t, .inr (13, [.int t_thrown, .ref q_t_tape, .int t_length, .int t_size, .int t_p, .int t_limit, .ref q_t_s, .ref q_t_h, .ref q_t_read, .ref q_t_names, .ref q_t_reserved, .int t_token, .int t_at, .int t_span, .int t_number, .int t_fault, .int t_faultAt, .long t_word, .int t_got, .int t_lines, .int t_hasWait, .ref q_t_undone, .ref q_t_before, .int t_undoMany, .ref q_t_comeRow, .int t_firstMinute, .int t_lookClock, .int t_hasTime, .ref q_t_shown, .int t_latestMost, .ref q_t_text, .int t_textMany, .int t_seed, .int t_toldMany, .ref q_t_toldAt, .int t_hasTold, .ref q_t_stack, .int t_codes, .int t_ones, .int t_top, .int t_deep, .int t_isWhole, .ref q_t_truths, .ref q_t_imaged, .ref q_t_namesKept, .ref q_t_areKept])), (q_t_s, .inl (cy 1, 334, .inl t_s))]
theorem iX12_wrongBy_X12 : ∀ w ∈ wsX120, w ∈ wsX12_wrongBy := fun _ h => List.mem_cons_of_mem _ (List.mem_append_right _ h)
abbrev rm_X12_wrongBy : Room := { frames := 3, cells := 0, slots := 0, locals := 64 }
set_option maxRecDepth 100000 in
def f_X12_wrongBy (N : Nat) (x0 : Int32) (t_s : Nat → Int32) : Option (Int32) := zcl (f_X12_readsAt N x0 (t_s 52) t_s) fun z9 => some (z9 - (t_s 52))
set_option maxHeartbeats 4000000 in
set_option maxRecDepth 100000 in
theorem c_X12_wrongBy (l : Launch) (G : va_G) (cy : Nat → ClassId) (E : Nat → Nat) (N : Nat) (q_t q_t_tape q_t_s q_t_h q_t_read q_t_names q_t_reserved q_t_undone q_t_before q_t_comeRow q_t_shown q_t_text q_t_toldAt q_t_stack q_t_truths q_t_imaged q_t_namesKept q_t_areKept : Nat) (t_thrown : Int32) (t_length : Int32) (t_size : Int32) (t_p : Int32) (t_limit : Int32) (t_token : Int32) (t_at : Int32) (t_span : Int32) (t_number : Int32) (t_fault : Int32) (t_faultAt : Int32) (t_word : Int64) (t_got : Int32) (t_lines : Int32) (t_hasWait : Int32) (t_undoMany : Int32) (t_firstMinute : Int32) (t_lookClock : Int32) (t_hasTime : Int32) (t_latestMost : Int32) (t_textMany : Int32) (t_seed : Int32) (t_toldMany : Int32) (t_hasTold : Int32) (t_codes : Int32) (t_ones : Int32) (t_top : Int32) (t_deep : Int32) (t_isWhole : Int32) (t_s : Nat → Int32) (x0 : Int32) (r : Int32) (h : f_X12_wrongBy N x0 t_s = some r) : zM l G cy E yX12_wrongBy wsX12_wrongBy rm_X12_wrongBy [.ref q_t, .int x0] (wd_X12_wrongBy cy q_t q_t_tape q_t_s q_t_h q_t_read q_t_names q_t_reserved q_t_undone q_t_before q_t_comeRow q_t_shown q_t_text q_t_toldAt q_t_stack q_t_truths q_t_imaged q_t_namesKept q_t_areKept t_thrown t_length t_size t_p t_limit t_token t_at t_span t_number t_fault t_faultAt t_word t_got t_lines t_hasWait t_undoMany t_firstMinute t_lookClock t_hasTime t_latestMost t_textMany t_seed t_toldMany t_hasTold t_codes t_ones t_top t_deep t_isWhole t_s) (wd_X12_wrongBy cy q_t q_t_tape q_t_s q_t_h q_t_read q_t_names q_t_reserved q_t_undone q_t_before q_t_comeRow q_t_shown q_t_text q_t_toldAt q_t_stack q_t_truths q_t_imaged q_t_namesKept q_t_areKept t_thrown t_length t_size t_p t_limit t_token t_at t_span t_number t_fault t_faultAt t_word t_got t_lines t_hasWait t_undoMany t_firstMinute t_lookClock t_hasTime t_latestMost t_textMany t_seed t_toldMany t_hasTold t_codes t_ones t_top t_deep t_isWhole t_s) (some (.int r)) 0 0 := by
  refine z_body (cc := cX12_wrongBy) (maxL := 2) (ret := some .int) (by decide) rfl (Nat.le_of_ble_eq_true rfl) ?_
  intro p e s m below meth c ls S hr hlocks hnm hF hH hl
  have S : CallFix p m c cX12_wrongBy 2 s ([.ref q_t, .int x0] : List Value).toArray wsX12_wrongBy RX12 := S
  obtain ⟨hx, hb, hml, hown, hts⟩ := id S
  have hl : lv_has ls 2 [(0, .ref q_t), (1, .int x0)] := hl
  rw [f_X12_wrongBy] at h
  refine lv_aload_n hx hb dX12_wrongBy_0 rfl (lv_at hl 0 rfl) ?_
  refine lv_iload_n hx hb dX12_wrongBy_1 rfl (lv_at hl 1 rfl) ?_
  refine lv_aload_n hx hb dX12_wrongBy_2 rfl (lv_at hl 0 rfl) ?_
  refine z_get S hF hH iX12_wrongBy_X12 0 rfl rfl 6 (by decide) (List.mem_of_getElem? (i := 1) rfl) rfl dX12_wrongBy_3 ?_
  refine lv_bipush (v := 52) hx hb dX12_wrongBy_6 (by decide) ?_
  refine z_iald (j := 52) S hF hH 1 rfl (by decide) rfl dX12_wrongBy_8 ?_
  obtain ⟨z9, hz9, h⟩ := zcl_e h
  refine z_callV (As := [.int x0, .int (t_s 52)]) (rest := []) (st1 := [.int z9]) (ws' := (wd_X12_wrongBy cy q_t q_t_tape q_t_s q_t_h q_t_read q_t_names q_t_reserved q_t_undone q_t_before q_t_comeRow q_t_shown q_t_text q_t_toldAt q_t_stack q_t_truths q_t_imaged q_t_namesKept q_t_areKept t_thrown t_length t_size t_p t_limit t_token t_at t_span t_number t_fault t_faultAt t_word t_got t_lines t_hasWait t_undoMany t_firstMinute t_lookClock t_hasTime t_latestMost t_textMany t_seed t_toldMany t_hasTold t_codes t_ones t_top t_deep t_isWhole t_s)) S hF hH (c_X12_readsAt l G cy E N q_t q_t_tape q_t_s q_t_h q_t_read q_t_names q_t_reserved q_t_undone q_t_before q_t_comeRow q_t_shown q_t_text q_t_toldAt q_t_stack q_t_truths q_t_imaged q_t_namesKept q_t_areKept t_thrown t_length t_size t_p t_limit t_token t_at t_span t_number t_fault t_faultAt t_word t_got t_lines t_hasWait t_undoMany t_firstMinute t_lookClock t_hasTime t_latestMost t_textMany t_seed t_toldMany t_hasTold t_codes t_ones t_top t_deep t_isWhole t_s x0 (t_s 52) z9 hz9) (cwV 2 hts gX12_wrongBy_X12_readsAt rfl rfl rfl (by decide +kernel) ⟨Nat.le_of_ble_eq_true rfl, Nat.le_of_ble_eq_true rfl⟩) 13 0 rfl rfl [0, 1] rfl (by decide) rfl rfl rfl rfl rfl hl.1 (Nat.le_of_ble_eq_true rfl) dX12_wrongBy_9 ⟨Nat.le_of_ble_eq_true rfl, Nat.le_of_ble_eq_true rfl⟩ (fun H locs hH => ?_)
  refine lv_aload_n hx hb dX12_wrongBy_12 rfl (lv_at hl 0 rfl) ?_
  refine z_get S hF hH iX12_wrongBy_X12 0 rfl rfl 6 (by decide) (List.mem_of_getElem? (i := 1) rfl) rfl dX12_wrongBy_13 ?_
  refine lv_bipush (v := 52) hx hb dX12_wrongBy_16 (by decide) ?_
  refine z_iald (j := 52) S hF hH 1 rfl (by decide) rfl dX12_wrongBy_18 ?_
  refine lv_isub hx hb dX12_wrongBy_19 ?_
  cases h
  exact z_iret S hr hlocks hH dX12_wrongBy_20
abbrev wd_X12_showsAt (cy : Nat → ClassId) (q_t q_t_tape q_t_s q_t_h q_t_read q_t_names q_t_reserved q_t_undone q_t_before q_t_comeRow q_t_shown q_t_text q_t_toldAt q_t_stack q_t_truths q_t_imaged q_t_namesKept q_t_areKept : Nat) (t_thrown : Int32) (t_length : Int32) (t_size : Int32) (t_p : Int32) (t_limit : Int32) (t_token : Int32) (t_at : Int32) (t_span : Int32) (t_number : Int32) (t_fault : Int32) (t_faultAt : Int32) (t_word : Int64) (t_got : Int32) (t_lines : Int32) (t_hasWait : Int32) (t_undoMany : Int32) (t_firstMinute : Int32) (t_lookClock : Int32) (t_hasTime : Int32) (t_latestMost : Int32) (t_textMany : Int32) (t_seed : Int32) (t_toldMany : Int32) (t_hasTold : Int32) (t_codes : Int32) (t_ones : Int32) (t_top : Int32) (t_deep : Int32) (t_isWhole : Int32) (t_s : Nat → Int32) : va_W := [(q_t, .inr (13, [.int t_thrown, .ref q_t_tape, .int t_length, .int t_size, .int t_p, .int t_limit, .ref q_t_s, .ref q_t_h, .ref q_t_read, .ref q_t_names, .ref q_t_reserved, .int t_token, .int t_at, .int t_span, .int t_number, .int t_fault, .int t_faultAt, .long t_word, .int t_got, .int t_lines, .int t_hasWait, .ref q_t_undone, .ref q_t_before, .int t_undoMany, .ref q_t_comeRow, .int t_firstMinute, .int t_lookClock, .int t_hasTime, .ref q_t_shown, .int t_latestMost, .ref q_t_text, .int t_textMany, .int t_seed, .int t_toldMany, .ref q_t_toldAt, .int t_hasTold, .ref q_t_stack, .int t_codes, .int t_ones, .int t_top, .int t_deep, .int t_isWhole, .ref q_t_truths, .ref q_t_imaged, .ref q_t_namesKept, .ref q_t_areKept])), (q_t_s, .inl (cy 1, 334, .inl t_s))]
abbrev rm_X12_showsAt : Room := { frames := 3, cells := 0, slots := 0, locals := 64 }
set_option maxRecDepth 100000 in
def f_X12_showsAt (N : Nat) (x0 : Int32) (x1 : Int32) (t_s : Nat → Int32) : Option (Int32) := zcl (f_X12_readsAt N x0 x1 t_s) fun z3 => zbn ((zrem z3 720)) fun y1 => if 0 ≤ y1 then (some y1) else (some (y1 + 720))
set_option maxHeartbeats 4000000 in
set_option maxRecDepth 100000 in
theorem c_X12_showsAt (l : Launch) (G : va_G) (cy : Nat → ClassId) (E : Nat → Nat) (N : Nat) (q_t q_t_tape q_t_s q_t_h q_t_read q_t_names q_t_reserved q_t_undone q_t_before q_t_comeRow q_t_shown q_t_text q_t_toldAt q_t_stack q_t_truths q_t_imaged q_t_namesKept q_t_areKept : Nat) (t_thrown : Int32) (t_length : Int32) (t_size : Int32) (t_p : Int32) (t_limit : Int32) (t_token : Int32) (t_at : Int32) (t_span : Int32) (t_number : Int32) (t_fault : Int32) (t_faultAt : Int32) (t_word : Int64) (t_got : Int32) (t_lines : Int32) (t_hasWait : Int32) (t_undoMany : Int32) (t_firstMinute : Int32) (t_lookClock : Int32) (t_hasTime : Int32) (t_latestMost : Int32) (t_textMany : Int32) (t_seed : Int32) (t_toldMany : Int32) (t_hasTold : Int32) (t_codes : Int32) (t_ones : Int32) (t_top : Int32) (t_deep : Int32) (t_isWhole : Int32) (t_s : Nat → Int32) (x0 : Int32) (x1 : Int32) (r : Int32) (h : f_X12_showsAt N x0 x1 t_s = some r) : zM l G cy E yX12_showsAt wsX12_showsAt rm_X12_showsAt [.ref q_t, .int x0, .int x1] (wd_X12_showsAt cy q_t q_t_tape q_t_s q_t_h q_t_read q_t_names q_t_reserved q_t_undone q_t_before q_t_comeRow q_t_shown q_t_text q_t_toldAt q_t_stack q_t_truths q_t_imaged q_t_namesKept q_t_areKept t_thrown t_length t_size t_p t_limit t_token t_at t_span t_number t_fault t_faultAt t_word t_got t_lines t_hasWait t_undoMany t_firstMinute t_lookClock t_hasTime t_latestMost t_textMany t_seed t_toldMany t_hasTold t_codes t_ones t_top t_deep t_isWhole t_s) (wd_X12_showsAt cy q_t q_t_tape q_t_s q_t_h q_t_read q_t_names q_t_reserved q_t_undone q_t_before q_t_comeRow q_t_shown q_t_text q_t_toldAt q_t_stack q_t_truths q_t_imaged q_t_namesKept q_t_areKept t_thrown t_length t_size t_p t_limit t_token t_at t_span t_number t_fault t_faultAt t_word t_got t_lines t_hasWait t_undoMany t_firstMinute t_lookClock t_hasTime t_latestMost t_textMany t_seed t_toldMany t_hasTold t_codes t_ones t_top t_deep t_isWhole t_s) (some (.int r)) 0 0 := by
  refine z_body (cc := cX12_showsAt) (maxL := 4) (ret := some .int) (by decide) rfl (Nat.le_of_ble_eq_true rfl) ?_
  intro p e s m below meth c ls S hr hlocks hnm hF hH hl
  have S : CallFix p m c cX12_showsAt 4 s ([.ref q_t, .int x0, .int x1] : List Value).toArray wsX12_showsAt RX12 := S
  obtain ⟨hx, hb, hml, hown, hts⟩ := id S
  have hl : lv_has ls 4 [(0, .ref q_t), (1, .int x0), (2, .int x1)] := hl
  rw [f_X12_showsAt] at h
  refine lv_aload_n hx hb dX12_showsAt_0 rfl (lv_at hl 0 rfl) ?_
  refine lv_iload_n hx hb dX12_showsAt_1 rfl (lv_at hl 1 rfl) ?_
  refine lv_iload_n hx hb dX12_showsAt_2 rfl (lv_at hl 2 rfl) ?_
  obtain ⟨z3, hz3, h⟩ := zcl_e h
  refine z_callV (As := [.int x0, .int x1]) (rest := []) (st1 := [.int z3]) (ws' := (wd_X12_showsAt cy q_t q_t_tape q_t_s q_t_h q_t_read q_t_names q_t_reserved q_t_undone q_t_before q_t_comeRow q_t_shown q_t_text q_t_toldAt q_t_stack q_t_truths q_t_imaged q_t_namesKept q_t_areKept t_thrown t_length t_size t_p t_limit t_token t_at t_span t_number t_fault t_faultAt t_word t_got t_lines t_hasWait t_undoMany t_firstMinute t_lookClock t_hasTime t_latestMost t_textMany t_seed t_toldMany t_hasTold t_codes t_ones t_top t_deep t_isWhole t_s)) S hF hH (c_X12_readsAt l G cy E N q_t q_t_tape q_t_s q_t_h q_t_read q_t_names q_t_reserved q_t_undone q_t_before q_t_comeRow q_t_shown q_t_text q_t_toldAt q_t_stack q_t_truths q_t_imaged q_t_namesKept q_t_areKept t_thrown t_length t_size t_p t_limit t_token t_at t_span t_number t_fault t_faultAt t_word t_got t_lines t_hasWait t_undoMany t_firstMinute t_lookClock t_hasTime t_latestMost t_textMany t_seed t_toldMany t_hasTold t_codes t_ones t_top t_deep t_isWhole t_s x0 x1 z3 hz3) (cwV 2 hts gX12_showsAt_X12_readsAt rfl rfl rfl (by decide +kernel) ⟨Nat.le_of_ble_eq_true rfl, Nat.le_of_ble_eq_true rfl⟩) 13 0 rfl rfl [0, 1] rfl (by decide) rfl rfl rfl rfl rfl hl.1 (Nat.le_of_ble_eq_true rfl) dX12_showsAt_3 ⟨Nat.le_of_ble_eq_true rfl, Nat.le_of_ble_eq_true rfl⟩ (fun H locs hH => ?_)
  refine lv_sipush (v := 720) hx hb dX12_showsAt_6 (by decide) ?_
  refine z_irem hx hb dX12_showsAt_9 (by decide) ?_
  obtain ⟨y1, ey1, h⟩ := zbn_e h
  refine z_top ey1 ?_
  clear ey1
  refine lv_istore_n (lv' := [(3, .int y1), (0, .ref q_t), (1, .int x0), (2, .int x1)]) hx hb dX12_showsAt_10 rfl hl (by decide) rfl (fun ls hl => ?_)
  refine lv_iload_n hx hb dX12_showsAt_11 rfl (lv_at hl 0 rfl) ?_
  refine lv_if_ge (tgt := 23) hx hb dX12_showsAt_12 (by decide) (fun b12 => ?_) (fun b12 => ?_)
  · replace h := zif_t b12 h
    refine lv_iload_n hx hb dX12_showsAt_23 rfl (lv_at hl 0 rfl) ?_
    cases h
    exact z_iret S hr hlocks hH dX12_showsAt_24
  · replace h := zif_f b12 h
    refine lv_iload_n hx hb dX12_showsAt_15 rfl (lv_at hl 0 rfl) ?_
    refine lv_sipush (v := 720) hx hb dX12_showsAt_16 (by decide) ?_
    refine lv_iadd hx hb dX12_showsAt_19 ?_
    refine lv_goto (tgt := 24) hx hb dX12_showsAt_20 (by decide) ?_
    cases h
    exact z_iret S hr hlocks hH dX12_showsAt_24
abbrev wd_X12_isOut (cy : Nat → ClassId) (q_t q_t_tape q_t_s q_t_h q_t_read q_t_names q_t_reserved q_t_undone q_t_before q_t_comeRow q_t_shown q_t_text q_t_toldAt q_t_stack q_t_truths q_t_imaged q_t_namesKept q_t_areKept : Nat) (t_thrown : Int32) (t_length : Int32) (t_size : Int32) (t_p : Int32) (t_limit : Int32) (t_token : Int32) (t_at : Int32) (t_span : Int32) (t_number : Int32) (t_fault : Int32) (t_faultAt : Int32) (t_word : Int64) (t_got : Int32) (t_lines : Int32) (t_hasWait : Int32) (t_undoMany : Int32) (t_firstMinute : Int32) (t_lookClock : Int32) (t_hasTime : Int32) (t_latestMost : Int32) (t_textMany : Int32) (t_seed : Int32) (t_toldMany : Int32) (t_hasTold : Int32) (t_codes : Int32) (t_ones : Int32) (t_top : Int32) (t_deep : Int32) (t_isWhole : Int32) (t_s : Nat → Int32) : va_W := [(q_t, .inr (13, [.int t_thrown, .ref q_t_tape, .int t_length, .int t_size, .int t_p, .int t_limit, .ref q_t_s, .ref q_t_h, .ref q_t_read, .ref q_t_names, .ref q_t_reserved, .int t_token, .int t_at, .int t_span, .int t_number, .int t_fault, .int t_faultAt, .long t_word, .int t_got, .int t_lines, .int t_hasWait, .ref q_t_undone, .ref q_t_before, .int t_undoMany, .ref q_t_comeRow, .int t_firstMinute, .int t_lookClock, .int t_hasTime, .ref q_t_shown, .int t_latestMost, .ref q_t_text, .int t_textMany, .int t_seed, .int t_toldMany, .ref q_t_toldAt, .int t_hasTold, .ref q_t_stack, .int t_codes, .int t_ones, .int t_top, .int t_deep, .int t_isWhole, .ref q_t_truths, .ref q_t_imaged, .ref q_t_namesKept, .ref q_t_areKept])), (q_t_s, .inl (cy 1, 334, .inl t_s))]
theorem iX12_isOut_X12 : ∀ w ∈ wsX120, w ∈ wsX12_isOut := fun _ h => List.mem_cons_of_mem _ (List.mem_append_right _ h)
abbrev rm_X12_isOut : Room := { frames := 1, cells := 0, slots := 0, locals := 21 }
set_option maxRecDepth 100000 in
def f_X12_isOut (N : Nat) (x0 : Int32) (t_s : Nat → Int32) : Option (Int32) := zcl (f_X12_bitOf N (t_s 53) x0) fun z8 => zck (zbo z8) <| some z8
set_option maxHeartbeats 4000000 in
set_option maxRecDepth 100000 in
theorem c_X12_isOut (l : Launch) (G : va_G) (cy : Nat → ClassId) (E : Nat → Nat) (N : Nat) (q_t q_t_tape q_t_s q_t_h q_t_read q_t_names q_t_reserved q_t_undone q_t_before q_t_comeRow q_t_shown q_t_text q_t_toldAt q_t_stack q_t_truths q_t_imaged q_t_namesKept q_t_areKept : Nat) (t_thrown : Int32) (t_length : Int32) (t_size : Int32) (t_p : Int32) (t_limit : Int32) (t_token : Int32) (t_at : Int32) (t_span : Int32) (t_number : Int32) (t_fault : Int32) (t_faultAt : Int32) (t_word : Int64) (t_got : Int32) (t_lines : Int32) (t_hasWait : Int32) (t_undoMany : Int32) (t_firstMinute : Int32) (t_lookClock : Int32) (t_hasTime : Int32) (t_latestMost : Int32) (t_textMany : Int32) (t_seed : Int32) (t_toldMany : Int32) (t_hasTold : Int32) (t_codes : Int32) (t_ones : Int32) (t_top : Int32) (t_deep : Int32) (t_isWhole : Int32) (t_s : Nat → Int32) (x0 : Int32) (r : Int32) (h : f_X12_isOut N x0 t_s = some r) : zM l G cy E yX12_isOut wsX12_isOut rm_X12_isOut [.ref q_t, .int x0] (wd_X12_isOut cy q_t q_t_tape q_t_s q_t_h q_t_read q_t_names q_t_reserved q_t_undone q_t_before q_t_comeRow q_t_shown q_t_text q_t_toldAt q_t_stack q_t_truths q_t_imaged q_t_namesKept q_t_areKept t_thrown t_length t_size t_p t_limit t_token t_at t_span t_number t_fault t_faultAt t_word t_got t_lines t_hasWait t_undoMany t_firstMinute t_lookClock t_hasTime t_latestMost t_textMany t_seed t_toldMany t_hasTold t_codes t_ones t_top t_deep t_isWhole t_s) (wd_X12_isOut cy q_t q_t_tape q_t_s q_t_h q_t_read q_t_names q_t_reserved q_t_undone q_t_before q_t_comeRow q_t_shown q_t_text q_t_toldAt q_t_stack q_t_truths q_t_imaged q_t_namesKept q_t_areKept t_thrown t_length t_size t_p t_limit t_token t_at t_span t_number t_fault t_faultAt t_word t_got t_lines t_hasWait t_undoMany t_firstMinute t_lookClock t_hasTime t_latestMost t_textMany t_seed t_toldMany t_hasTold t_codes t_ones t_top t_deep t_isWhole t_s) (some (.int r)) 0 0 := by
  refine z_body (cc := cX12_isOut) (maxL := 2) (ret := some .boolean) (by decide) rfl (Nat.le_of_ble_eq_true rfl) ?_
  intro p e s m below meth c ls S hr hlocks hnm hF hH hl
  have S : CallFix p m c cX12_isOut 2 s ([.ref q_t, .int x0] : List Value).toArray wsX12_isOut RX12 := S
  obtain ⟨hx, hb, hml, hown, hts⟩ := id S
  have hl : lv_has ls 2 [(0, .ref q_t), (1, .int x0)] := hl
  rw [f_X12_isOut] at h
  refine lv_aload_n hx hb dX12_isOut_0 rfl (lv_at hl 0 rfl) ?_
  refine z_get S hF hH iX12_isOut_X12 0 rfl rfl 6 (by decide) (List.mem_of_getElem? (i := 1) rfl) rfl dX12_isOut_1 ?_
  refine lv_bipush (v := 53) hx hb dX12_isOut_4 (by decide) ?_
  refine z_iald (j := 53) S hF hH 1 rfl (by decide) rfl dX12_isOut_6 ?_
  refine lv_iload_n hx hb dX12_isOut_7 rfl (lv_at hl 1 rfl) ?_
  obtain ⟨z8, hz8, h⟩ := zcl_e h
  refine z_callS (As := [.int (t_s 53), .int x0]) (rest := []) (st1 := [.int z8]) (ws' := (wd_X12_isOut cy q_t q_t_tape q_t_s q_t_h q_t_read q_t_names q_t_reserved q_t_undone q_t_before q_t_comeRow q_t_shown q_t_text q_t_toldAt q_t_stack q_t_truths q_t_imaged q_t_namesKept q_t_areKept t_thrown t_length t_size t_p t_limit t_token t_at t_span t_number t_fault t_faultAt t_word t_got t_lines t_hasWait t_undoMany t_firstMinute t_lookClock t_hasTime t_latestMost t_textMany t_seed t_toldMany t_hasTold t_codes t_ones t_top t_deep t_isWhole t_s)) S hF hH (c_X12_bitOf l G cy E N (t_s 53) x0 z8 hz8) (cwS 2 hts gX12_isOut_X12_bitOf rfl rfl rfl (by decide +kernel) ⟨Nat.le_of_ble_eq_true rfl, Nat.le_of_ble_eq_true rfl⟩) [] rfl (by decide) rfl rfl rfl rfl rfl hl.1 (Nat.le_of_ble_eq_true rfl) dX12_isOut_8 ⟨Nat.le_of_ble_eq_true rfl, Nat.le_of_ble_eq_true rfl⟩ (fun H locs hH => ?_)
  obtain ⟨h11, h⟩ := zck_e h
  cases h
  exact z_zret S hr hlocks hH h11 dX12_isOut_11
abbrev wd_X12_isDueTo (cy : Nat → ClassId) (q_t q_t_tape q_t_s q_t_h q_t_read q_t_names q_t_reserved q_t_undone q_t_before q_t_comeRow q_t_shown q_t_text q_t_toldAt q_t_stack q_t_truths q_t_imaged q_t_namesKept q_t_areKept : Nat) (t_thrown : Int32) (t_length : Int32) (t_size : Int32) (t_p : Int32) (t_limit : Int32) (t_token : Int32) (t_at : Int32) (t_span : Int32) (t_number : Int32) (t_fault : Int32) (t_faultAt : Int32) (t_word : Int64) (t_got : Int32) (t_lines : Int32) (t_hasWait : Int32) (t_undoMany : Int32) (t_firstMinute : Int32) (t_lookClock : Int32) (t_hasTime : Int32) (t_latestMost : Int32) (t_textMany : Int32) (t_seed : Int32) (t_toldMany : Int32) (t_hasTold : Int32) (t_codes : Int32) (t_ones : Int32) (t_top : Int32) (t_deep : Int32) (t_isWhole : Int32) (t_s : Nat → Int32) : va_W := [(q_t, .inr (13, [.int t_thrown, .ref q_t_tape, .int t_length, .int t_size, .int t_p, .int t_limit, .ref q_t_s, .ref q_t_h, .ref q_t_read, .ref q_t_names, .ref q_t_reserved, .int t_token, .int t_at, .int t_span, .int t_number, .int t_fault, .int t_faultAt, .long t_word, .int t_got, .int t_lines, .int t_hasWait, .ref q_t_undone, .ref q_t_before, .int t_undoMany, .ref q_t_comeRow, .int t_firstMinute, .int t_lookClock, .int t_hasTime, .ref q_t_shown, .int t_latestMost, .ref q_t_text, .int t_textMany, .int t_seed, .int t_toldMany, .ref q_t_toldAt, .int t_hasTold, .ref q_t_stack, .int t_codes, .int t_ones, .int t_top, .int t_deep, .int t_isWhole, .ref q_t_truths, .ref q_t_imaged, .ref q_t_namesKept, .ref q_t_areKept])), (q_t_s, .inl (cy 1, 334, .inl t_s))]
theorem iX12_isDueTo_X12 : ∀ w ∈ wsX120, w ∈ wsX12_isDueTo := fun _ h => List.mem_cons_of_mem _ (List.mem_append_right _ h)
abbrev rm_X12_isDueTo : Room := { frames := 1, cells := 0, slots := 0, locals := 21 }
set_option maxRecDepth 100000 in
def f_X12_isDueTo (N : Nat) (x0 : Int32) (x1 : Int32) (t_s : Nat → Int32) : Option (Int32) := zck (zin (46 + x1) 334) <| zcl (f_X12_bitOf N (t_s (Int32.toNatClampNeg (46 + x1))) x0) fun z10 => zck (zbo z10) <| some z10
set_option maxHeartbeats 4000000 in
set_option maxRecDepth 100000 in
theorem c_X12_isDueTo (l : Launch) (G : va_G) (cy : Nat → ClassId) (E : Nat → Nat) (N : Nat) (q_t q_t_tape q_t_s q_t_h q_t_read q_t_names q_t_reserved q_t_undone q_t_before q_t_comeRow q_t_shown q_t_text q_t_toldAt q_t_stack q_t_truths q_t_imaged q_t_namesKept q_t_areKept : Nat) (t_thrown : Int32) (t_length : Int32) (t_size : Int32) (t_p : Int32) (t_limit : Int32) (t_token : Int32) (t_at : Int32) (t_span : Int32) (t_number : Int32) (t_fault : Int32) (t_faultAt : Int32) (t_word : Int64) (t_got : Int32) (t_lines : Int32) (t_hasWait : Int32) (t_undoMany : Int32) (t_firstMinute : Int32) (t_lookClock : Int32) (t_hasTime : Int32) (t_latestMost : Int32) (t_textMany : Int32) (t_seed : Int32) (t_toldMany : Int32) (t_hasTold : Int32) (t_codes : Int32) (t_ones : Int32) (t_top : Int32) (t_deep : Int32) (t_isWhole : Int32) (t_s : Nat → Int32) (x0 : Int32) (x1 : Int32) (r : Int32) (h : f_X12_isDueTo N x0 x1 t_s = some r) : zM l G cy E yX12_isDueTo wsX12_isDueTo rm_X12_isDueTo [.ref q_t, .int x0, .int x1] (wd_X12_isDueTo cy q_t q_t_tape q_t_s q_t_h q_t_read q_t_names q_t_reserved q_t_undone q_t_before q_t_comeRow q_t_shown q_t_text q_t_toldAt q_t_stack q_t_truths q_t_imaged q_t_namesKept q_t_areKept t_thrown t_length t_size t_p t_limit t_token t_at t_span t_number t_fault t_faultAt t_word t_got t_lines t_hasWait t_undoMany t_firstMinute t_lookClock t_hasTime t_latestMost t_textMany t_seed t_toldMany t_hasTold t_codes t_ones t_top t_deep t_isWhole t_s) (wd_X12_isDueTo cy q_t q_t_tape q_t_s q_t_h q_t_read q_t_names q_t_reserved q_t_undone q_t_before q_t_comeRow q_t_shown q_t_text q_t_toldAt q_t_stack q_t_truths q_t_imaged q_t_namesKept q_t_areKept t_thrown t_length t_size t_p t_limit t_token t_at t_span t_number t_fault t_faultAt t_word t_got t_lines t_hasWait t_undoMany t_firstMinute t_lookClock t_hasTime t_latestMost t_textMany t_seed t_toldMany t_hasTold t_codes t_ones t_top t_deep t_isWhole t_s) (some (.int r)) 0 0 := by
  refine z_body (cc := cX12_isDueTo) (maxL := 3) (ret := some .boolean) (by decide) rfl (Nat.le_of_ble_eq_true rfl) ?_
  intro p e s m below meth c ls S hr hlocks hnm hF hH hl
  have S : CallFix p m c cX12_isDueTo 3 s ([.ref q_t, .int x0, .int x1] : List Value).toArray wsX12_isDueTo RX12 := S
  obtain ⟨hx, hb, hml, hown, hts⟩ := id S
  have hl : lv_has ls 3 [(0, .ref q_t), (1, .int x0), (2, .int x1)] := hl
  rw [f_X12_isDueTo] at h
  refine lv_aload_n hx hb dX12_isDueTo_0 rfl (lv_at hl 0 rfl) ?_
  refine z_get S hF hH iX12_isDueTo_X12 0 rfl rfl 6 (by decide) (List.mem_of_getElem? (i := 1) rfl) rfl dX12_isDueTo_1 ?_
  refine lv_bipush (v := 46) hx hb dX12_isDueTo_4 (by decide) ?_
  refine lv_iload_n hx hb dX12_isDueTo_6 rfl (lv_at hl 2 rfl) ?_
  refine lv_iadd hx hb dX12_isDueTo_7 ?_
  obtain ⟨h8, h⟩ := zck_e h
  refine z_iald S hF hH 1 rfl h8 rfl dX12_isDueTo_8 ?_
  refine lv_iload_n hx hb dX12_isDueTo_9 rfl (lv_at hl 1 rfl) ?_
  obtain ⟨z10, hz10, h⟩ := zcl_e h
  refine z_callS (As := [.int (t_s (Int32.toNatClampNeg (46 + x1))), .int x0]) (rest := []) (st1 := [.int z10]) (ws' := (wd_X12_isDueTo cy q_t q_t_tape q_t_s q_t_h q_t_read q_t_names q_t_reserved q_t_undone q_t_before q_t_comeRow q_t_shown q_t_text q_t_toldAt q_t_stack q_t_truths q_t_imaged q_t_namesKept q_t_areKept t_thrown t_length t_size t_p t_limit t_token t_at t_span t_number t_fault t_faultAt t_word t_got t_lines t_hasWait t_undoMany t_firstMinute t_lookClock t_hasTime t_latestMost t_textMany t_seed t_toldMany t_hasTold t_codes t_ones t_top t_deep t_isWhole t_s)) S hF hH (c_X12_bitOf l G cy E N (t_s (Int32.toNatClampNeg (46 + x1))) x0 z10 hz10) (cwS 2 hts gX12_isDueTo_X12_bitOf rfl rfl rfl (by decide +kernel) ⟨Nat.le_of_ble_eq_true rfl, Nat.le_of_ble_eq_true rfl⟩) [] rfl (by decide) rfl rfl rfl rfl rfl hl.1 (Nat.le_of_ble_eq_true rfl) dX12_isDueTo_10 ⟨Nat.le_of_ble_eq_true rfl, Nat.le_of_ble_eq_true rfl⟩ (fun H locs hH => ?_)
  obtain ⟨h13, h⟩ := zck_e h
  cases h
  exact z_zret S hr hlocks hH h13 dX12_isDueTo_13
abbrev wd_X12_rowOf (cy : Nat → ClassId) (q_t q_t_tape q_t_s q_t_h q_t_read q_t_names q_t_reserved q_t_undone q_t_before q_t_comeRow q_t_shown q_t_text q_t_toldAt q_t_stack q_t_truths q_t_imaged q_t_namesKept q_t_areKept : Nat) (t_thrown : Int32) (t_length : Int32) (t_size : Int32) (t_p : Int32) (t_limit : Int32) (t_token : Int32) (t_at : Int32) (t_span : Int32) (t_number : Int32) (t_fault : Int32) (t_faultAt : Int32) (t_word : Int64) (t_got : Int32) (t_lines : Int32) (t_hasWait : Int32) (t_undoMany : Int32) (t_firstMinute : Int32) (t_lookClock : Int32) (t_hasTime : Int32) (t_latestMost : Int32) (t_textMany : Int32) (t_seed : Int32) (t_toldMany : Int32) (t_hasTold : Int32) (t_codes : Int32) (t_ones : Int32) (t_top : Int32) (t_deep : Int32) (t_isWhole : Int32) (t_s : Nat → Int32) : va_W := [(q_t, .inr (13, [.int t_thrown, .ref q_t_tape, .int t_length, .int t_size, .int t_p, .int t_limit, .ref q_t_s, .ref q_t_h, .ref q_t_read, .ref q_t_names, .ref q_t_reserved, .int t_token, .int t_at, .int t_span, .int t_number, .int t_fault, .int t_faultAt, .long t_word, .int t_got, .int t_lines, .int t_hasWait, .ref q_t_undone, .ref q_t_before, .int t_undoMany, .ref q_t_comeRow, .int t_firstMinute, .int t_lookClock, .int t_hasTime, .ref q_t_shown, .int t_latestMost, .ref q_t_text, .int t_textMany, .int t_seed, .int t_toldMany, .ref q_t_toldAt, .int t_hasTold, .ref q_t_stack, .int t_codes, .int t_ones, .int t_top, .int t_deep, .int t_isWhole, .ref q_t_truths, .ref q_t_imaged, .ref q_t_namesKept, .ref q_t_areKept])), (q_t_s, .inl (cy 1, 334, .inl t_s))]
theorem iX12_rowOf_X12 : ∀ w ∈ wsX120, w ∈ wsX12_rowOf := fun _ h => List.mem_cons_of_mem _ (List.mem_append_right _ h)
abbrev rm_X12_rowOf : Room := { frames := 0, cells := 0, slots := 0, locals := 0 }
set_option maxRecDepth 100000 in
def f_X12_rowOf_42 (N : Nat) (t_s : Nat → Int32) (k_5 : Int32 → Int32 → Int32 → Int32 → Option (Int32)) (x1 : Int32) (x2 : Int32) (x4 : Int32) (sk0 : Int32) (sk1 : Int32) : Option (Int32) := zbn ((sk1 ||| sk0)) fun y1 => zbn (x4 + 1) fun y2 => k_5 x1 x2 y1 y2
set_option maxRecDepth 100000 in
def f_X12_rowOf_5 (N : Nat) (t_s : Nat → Int32) : Nat → Int32 → Int32 → Int32 → Int32 → Option (Int32)
  | 0, _, _, _, _ => none
  | n + 1, x1, x2, x3, x4 => if (t_s 1) ≤ x4 then (some x3) else (zck (zin ((x1 + (6 * x2)) + x4) 334) <| if (t_s (Int32.toNatClampNeg ((x1 + (6 * x2)) + x4))) ≤ 0 then (f_X12_rowOf_42 N t_s (f_X12_rowOf_5 N t_s n) x1 x2 x4 0 x3) else (f_X12_rowOf_42 N t_s (f_X12_rowOf_5 N t_s n) x1 x2 x4 (1 <<< (x4 &&& 31)) x3))
set_option maxRecDepth 100000 in
def f_X12_rowOf (N : Nat) (x0 : Int32) (x1 : Int32) (t_s : Nat → Int32) : Option (Int32) := f_X12_rowOf_5 N t_s N x0 x1 0 0
set_option maxHeartbeats 4000000 in
set_option maxRecDepth 100000 in
theorem w_X12_rowOf_42 {p : Program} {l : Launch} {e : Env} {s : State} {m : MethodId} {args : Array Value} {below : List Frame} {meth : Method} {c : Code} {G : va_G} {cy : Nat → ClassId} {E : Nat → Nat} {w0 : va_W} {N : Nat} {q_t q_t_tape q_t_s q_t_h q_t_read q_t_names q_t_reserved q_t_undone q_t_before q_t_comeRow q_t_shown q_t_text q_t_toldAt q_t_stack q_t_truths q_t_imaged q_t_namesKept q_t_areKept : Nat} {t_thrown : Int32} {t_length : Int32} {t_size : Int32} {t_p : Int32} {t_limit : Int32} {t_token : Int32} {t_at : Int32} {t_span : Int32} {t_number : Int32} {t_fault : Int32} {t_faultAt : Int32} {t_word : Int64} {t_got : Int32} {t_lines : Int32} {t_hasWait : Int32} {t_undoMany : Int32} {t_firstMinute : Int32} {t_lookClock : Int32} {t_hasTime : Int32} {t_latestMost : Int32} {t_textMany : Int32} {t_seed : Int32} {t_toldMany : Int32} {t_hasTold : Int32} {t_codes : Int32} {t_ones : Int32} {t_top : Int32} {t_deep : Int32} {t_isWhole : Int32} {t_s : Nat → Int32} {r : Int32} {k_5 : Int32 → Int32 → Int32 → Int32 → Option (Int32)} (S : CallFix p m c cX12_rowOf 5 s args wsX12_rowOf RX12) (hr : meth.sig.returnType = some .int) (hlocks : meth.locks = false) (hF : zF G cy E (va_A w0 s.heap.size) s) (hk_5 : ∀ (x1 : Int32) (x2 : Int32) (x3 : Int32) (x4 : Int32) (H : Heap) (locs : List Loc) (ls : Array Slot), zH G (va_A w0 s.heap.size) s H locs (wd_X12_rowOf cy q_t q_t_tape q_t_s q_t_h q_t_read q_t_names q_t_reserved q_t_undone q_t_before q_t_comeRow q_t_shown q_t_text q_t_toldAt q_t_stack q_t_truths q_t_imaged q_t_namesKept q_t_areKept t_thrown t_length t_size t_p t_limit t_token t_at t_span t_number t_fault t_faultAt t_word t_got t_lines t_hasWait t_undoMany t_firstMinute t_lookClock t_hasTime t_latestMost t_textMany t_seed t_toldMany t_hasTold t_codes t_ones t_top t_deep t_isWhole t_s) → lv_has ls 5 [(0, .ref q_t), (1, .int x1), (2, .int x2), (3, .int x3), (4, .int x4)] → k_5 x1 x2 x3 x4 = some r → W p l e rm_X12_rowOf s m args below meth c H locs 0 0 (MQ below (zQ G w0 (wd_X12_rowOf cy q_t q_t_tape q_t_s q_t_h q_t_read q_t_names q_t_reserved q_t_undone q_t_before q_t_comeRow q_t_shown q_t_text q_t_toldAt q_t_stack q_t_truths q_t_imaged q_t_namesKept q_t_areKept t_thrown t_length t_size t_p t_limit t_token t_at t_span t_number t_fault t_faultAt t_word t_got t_lines t_hasWait t_undoMany t_firstMinute t_lookClock t_hasTime t_latestMost t_textMany t_seed t_toldMany t_hasTold t_codes t_ones t_top t_deep t_isWhole t_s) s.heap.size (some (.int r))) args s 0 0 (va_A w0 s.heap.size)) (F0 m 5 ls [])) :
    ∀ (x1 : Int32) (x2 : Int32) (x4 : Int32) (sk0 : Int32) (sk1 : Int32) (H : Heap) (locs : List Loc) (ls : Array Slot), zH G (va_A w0 s.heap.size) s H locs (wd_X12_rowOf cy q_t q_t_tape q_t_s q_t_h q_t_read q_t_names q_t_reserved q_t_undone q_t_before q_t_comeRow q_t_shown q_t_text q_t_toldAt q_t_stack q_t_truths q_t_imaged q_t_namesKept q_t_areKept t_thrown t_length t_size t_p t_limit t_token t_at t_span t_number t_fault t_faultAt t_word t_got t_lines t_hasWait t_undoMany t_firstMinute t_lookClock t_hasTime t_latestMost t_textMany t_seed t_toldMany t_hasTold t_codes t_ones t_top t_deep t_isWhole t_s) → lv_has ls 5 [(0, .ref q_t), (1, .int x1), (2, .int x2), (4, .int x4)] → f_X12_rowOf_42 N t_s k_5 x1 x2 x4 sk0 sk1 = some r → W p l e rm_X12_rowOf s m args below meth c H locs 0 0 (MQ below (zQ G w0 (wd_X12_rowOf cy q_t q_t_tape q_t_s q_t_h q_t_read q_t_names q_t_reserved q_t_undone q_t_before q_t_comeRow q_t_shown q_t_text q_t_toldAt q_t_stack q_t_truths q_t_imaged q_t_namesKept q_t_areKept t_thrown t_length t_size t_p t_limit t_token t_at t_span t_number t_fault t_faultAt t_word t_got t_lines t_hasWait t_undoMany t_firstMinute t_lookClock t_hasTime t_latestMost t_textMany t_seed t_toldMany t_hasTold t_codes t_ones t_top t_deep t_isWhole t_s) s.heap.size (some (.int r))) args s 0 0 (va_A w0 s.heap.size)) (F0 m 42 ls [.int sk0, .int sk1]) := by
  obtain ⟨hx, hb, hml, hown, hts⟩ := id S
  intro x1 x2 x4 sk0 sk1 H locs ls hH hl h
  rw [f_X12_rowOf_42] at h
  refine lv_ior hx hb dX12_rowOf_42 ?_
  obtain ⟨y1, ey1, h⟩ := zbn_e h
  refine z_top ey1 ?_
  clear ey1
  refine lv_istore_n (lv' := [(3, .int y1), (0, .ref q_t), (1, .int x1), (2, .int x2), (4, .int x4)]) hx hb dX12_rowOf_43 rfl hl (by decide) rfl (fun ls hl => ?_)
  obtain ⟨y2, ey2, h⟩ := zbn_e h
  refine lv_iinc (v := y2) (lv' := [(4, .int y2), (3, .int y1), (0, .ref q_t), (1, .int x1), (2, .int x2)]) hx hb dX12_rowOf_44 hl (k := 4) rfl (by rw [ey2]; exact congrArg (fun z => x4 + z) (by decide)) (by decide) rfl (fun ls hl => ?_)
  clear ey2
  refine lv_goto (tgt := 5) hx hb dX12_rowOf_47 (by decide) ?_
  exact hk_5 x1 x2 y1 y2 _ _ _ hH (lv_sub hl [2, 3, 4, 1, 0] rfl) h
set_option maxHeartbeats 4000000 in
set_option maxRecDepth 100000 in
theorem w_X12_rowOf_5 {p : Program} {l : Launch} {e : Env} {s : State} {m : MethodId} {args : Array Value} {below : List Frame} {meth : Method} {c : Code} {G : va_G} {cy : Nat → ClassId} {E : Nat → Nat} {w0 : va_W} {N : Nat} {q_t q_t_tape q_t_s q_t_h q_t_read q_t_names q_t_reserved q_t_undone q_t_before q_t_comeRow q_t_shown q_t_text q_t_toldAt q_t_stack q_t_truths q_t_imaged q_t_namesKept q_t_areKept : Nat} {t_thrown : Int32} {t_length : Int32} {t_size : Int32} {t_p : Int32} {t_limit : Int32} {t_token : Int32} {t_at : Int32} {t_span : Int32} {t_number : Int32} {t_fault : Int32} {t_faultAt : Int32} {t_word : Int64} {t_got : Int32} {t_lines : Int32} {t_hasWait : Int32} {t_undoMany : Int32} {t_firstMinute : Int32} {t_lookClock : Int32} {t_hasTime : Int32} {t_latestMost : Int32} {t_textMany : Int32} {t_seed : Int32} {t_toldMany : Int32} {t_hasTold : Int32} {t_codes : Int32} {t_ones : Int32} {t_top : Int32} {t_deep : Int32} {t_isWhole : Int32} {t_s : Nat → Int32} {r : Int32} (S : CallFix p m c cX12_rowOf 5 s args wsX12_rowOf RX12) (hr : meth.sig.returnType = some .int) (hlocks : meth.locks = false) (hF : zF G cy E (va_A w0 s.heap.size) s) :
    ∀ (n : Nat) (x1 : Int32) (x2 : Int32) (x3 : Int32) (x4 : Int32) (H : Heap) (locs : List Loc) (ls : Array Slot), zH G (va_A w0 s.heap.size) s H locs (wd_X12_rowOf cy q_t q_t_tape q_t_s q_t_h q_t_read q_t_names q_t_reserved q_t_undone q_t_before q_t_comeRow q_t_shown q_t_text q_t_toldAt q_t_stack q_t_truths q_t_imaged q_t_namesKept q_t_areKept t_thrown t_length t_size t_p t_limit t_token t_at t_span t_number t_fault t_faultAt t_word t_got t_lines t_hasWait t_undoMany t_firstMinute t_lookClock t_hasTime t_latestMost t_textMany t_seed t_toldMany t_hasTold t_codes t_ones t_top t_deep t_isWhole t_s) → lv_has ls 5 [(0, .ref q_t), (1, .int x1), (2, .int x2), (3, .int x3), (4, .int x4)] → f_X12_rowOf_5 N t_s n x1 x2 x3 x4 = some r → W p l e rm_X12_rowOf s m args below meth c H locs 0 0 (MQ below (zQ G w0 (wd_X12_rowOf cy q_t q_t_tape q_t_s q_t_h q_t_read q_t_names q_t_reserved q_t_undone q_t_before q_t_comeRow q_t_shown q_t_text q_t_toldAt q_t_stack q_t_truths q_t_imaged q_t_namesKept q_t_areKept t_thrown t_length t_size t_p t_limit t_token t_at t_span t_number t_fault t_faultAt t_word t_got t_lines t_hasWait t_undoMany t_firstMinute t_lookClock t_hasTime t_latestMost t_textMany t_seed t_toldMany t_hasTold t_codes t_ones t_top t_deep t_isWhole t_s) s.heap.size (some (.int r))) args s 0 0 (va_A w0 s.heap.size)) (F0 m 5 ls []) := by
  obtain ⟨hx, hb, hml, hown, hts⟩ := id S
  intro n
  induction n with
  | zero =>
    intro x1 x2 x3 x4 H locs ls hH hl h
    rw [f_X12_rowOf_5] at h
    cases h
  | succ n ih =>
    intro x1 x2 x3 x4 H locs ls hH hl h
    rw [f_X12_rowOf_5] at h
    refine lv_iload hx hb dX12_rowOf_5 (lv_at hl 4 rfl) ?_
    refine lv_aload_n hx hb dX12_rowOf_7 rfl (lv_at hl 0 rfl) ?_
    refine z_get S hF hH iX12_rowOf_X12 0 rfl rfl 6 (by decide) (List.mem_of_getElem? (i := 1) rfl) rfl dX12_rowOf_8 ?_
    refine lv_iconst (v := 1) hx hb dX12_rowOf_11 (by decide) ?_
    refine z_iald (j := 1) S hF hH 1 rfl (by decide) rfl dX12_rowOf_12 ?_
    refine lv_icmp_ge (tgt := 50) hx hb dX12_rowOf_13 (by decide) (fun b13 => ?_) (fun b13 => ?_)
    · replace h := zif_t b13 h
      refine lv_iload_n hx hb dX12_rowOf_50 rfl (lv_at hl 3 rfl) ?_
      cases h
      exact z_iret S hr hlocks hH dX12_rowOf_51
    · replace h := zif_f b13 h
      refine lv_iload_n hx hb dX12_rowOf_16 rfl (lv_at hl 3 rfl) ?_
      refine lv_aload_n hx hb dX12_rowOf_17 rfl (lv_at hl 0 rfl) ?_
      refine z_get S hF hH iX12_rowOf_X12 0 rfl rfl 6 (by decide) (List.mem_of_getElem? (i := 1) rfl) rfl dX12_rowOf_18 ?_
      refine lv_iload_n hx hb dX12_rowOf_21 rfl (lv_at hl 1 rfl) ?_
      refine lv_bipush (v := 6) hx hb dX12_rowOf_22 (by decide) ?_
      refine lv_iload_n hx hb dX12_rowOf_24 rfl (lv_at hl 2 rfl) ?_
      refine lv_imul hx hb dX12_rowOf_25 ?_
      refine lv_iadd hx hb dX12_rowOf_26 ?_
      refine lv_iload hx hb dX12_rowOf_27 (lv_at hl 4 rfl) ?_
      refine lv_iadd hx hb dX12_rowOf_29 ?_
      obtain ⟨h30, h⟩ := zck_e h
      refine z_iald S hF hH 1 rfl h30 rfl dX12_rowOf_30 ?_
      refine lv_if_le (tgt := 41) hx hb dX12_rowOf_31 (by decide) (fun b31 => ?_) (fun b31 => ?_)
      · replace h := zif_t b31 h
        refine lv_iconst (v := 0) hx hb dX12_rowOf_41 (by decide) ?_
        exact w_X12_rowOf_42 S hr hlocks hF ih x1 x2 x4 0 x3 _ _ _ hH (lv_sub hl [0, 1, 2, 4] rfl) h
      · replace h := zif_f b31 h
        refine lv_iconst (v := 1) hx hb dX12_rowOf_34 (by decide) ?_
        refine lv_iload hx hb dX12_rowOf_35 (lv_at hl 4 rfl) ?_
        refine lv_ishl hx hb dX12_rowOf_37 ?_
        refine lv_goto (tgt := 42) hx hb dX12_rowOf_38 (by decide) ?_
        exact w_X12_rowOf_42 S hr hlocks hF ih x1 x2 x4 (1 <<< (x4 &&& 31)) x3 _ _ _ hH (lv_sub hl [0, 1, 2, 4] rfl) h
set_option maxHeartbeats 4000000 in
set_option maxRecDepth 100000 in
theorem c_X12_rowOf (l : Launch) (G : va_G) (cy : Nat → ClassId) (E : Nat → Nat) (N : Nat) (q_t q_t_tape q_t_s q_t_h q_t_read q_t_names q_t_reserved q_t_undone q_t_before q_t_comeRow q_t_shown q_t_text q_t_toldAt q_t_stack q_t_truths q_t_imaged q_t_namesKept q_t_areKept : Nat) (t_thrown : Int32) (t_length : Int32) (t_size : Int32) (t_p : Int32) (t_limit : Int32) (t_token : Int32) (t_at : Int32) (t_span : Int32) (t_number : Int32) (t_fault : Int32) (t_faultAt : Int32) (t_word : Int64) (t_got : Int32) (t_lines : Int32) (t_hasWait : Int32) (t_undoMany : Int32) (t_firstMinute : Int32) (t_lookClock : Int32) (t_hasTime : Int32) (t_latestMost : Int32) (t_textMany : Int32) (t_seed : Int32) (t_toldMany : Int32) (t_hasTold : Int32) (t_codes : Int32) (t_ones : Int32) (t_top : Int32) (t_deep : Int32) (t_isWhole : Int32) (t_s : Nat → Int32) (x0 : Int32) (x1 : Int32) (r : Int32) (h : f_X12_rowOf N x0 x1 t_s = some r) : zM l G cy E yX12_rowOf wsX12_rowOf rm_X12_rowOf [.ref q_t, .int x0, .int x1] (wd_X12_rowOf cy q_t q_t_tape q_t_s q_t_h q_t_read q_t_names q_t_reserved q_t_undone q_t_before q_t_comeRow q_t_shown q_t_text q_t_toldAt q_t_stack q_t_truths q_t_imaged q_t_namesKept q_t_areKept t_thrown t_length t_size t_p t_limit t_token t_at t_span t_number t_fault t_faultAt t_word t_got t_lines t_hasWait t_undoMany t_firstMinute t_lookClock t_hasTime t_latestMost t_textMany t_seed t_toldMany t_hasTold t_codes t_ones t_top t_deep t_isWhole t_s) (wd_X12_rowOf cy q_t q_t_tape q_t_s q_t_h q_t_read q_t_names q_t_reserved q_t_undone q_t_before q_t_comeRow q_t_shown q_t_text q_t_toldAt q_t_stack q_t_truths q_t_imaged q_t_namesKept q_t_areKept t_thrown t_length t_size t_p t_limit t_token t_at t_span t_number t_fault t_faultAt t_word t_got t_lines t_hasWait t_undoMany t_firstMinute t_lookClock t_hasTime t_latestMost t_textMany t_seed t_toldMany t_hasTold t_codes t_ones t_top t_deep t_isWhole t_s) (some (.int r)) 0 0 := by
  refine z_body (cc := cX12_rowOf) (maxL := 5) (ret := some .int) (by decide) rfl (Nat.le_of_ble_eq_true rfl) ?_
  intro p e s m below meth c ls S hr hlocks hnm hF hH hl
  have S : CallFix p m c cX12_rowOf 5 s ([.ref q_t, .int x0, .int x1] : List Value).toArray wsX12_rowOf RX12 := S
  obtain ⟨hx, hb, hml, hown, hts⟩ := id S
  have hl : lv_has ls 5 [(0, .ref q_t), (1, .int x0), (2, .int x1)] := hl
  rw [f_X12_rowOf] at h
  refine lv_iconst (v := 0) hx hb dX12_rowOf_0 (by decide) ?_
  refine lv_istore_n (lv' := [(3, .int 0), (0, .ref q_t), (1, .int x0), (2, .int x1)]) hx hb dX12_rowOf_1 rfl hl (by decide) rfl (fun ls hl => ?_)
  refine lv_iconst (v := 0) hx hb dX12_rowOf_2 (by decide) ?_
  refine lv_istore (lv' := [(4, .int 0), (3, .int 0), (0, .ref q_t), (1, .int x0), (2, .int x1)]) hx hb dX12_rowOf_3 hl (by decide) rfl (fun ls hl => ?_)
  exact w_X12_rowOf_5 S hr hlocks hF N x0 x1 0 0 _ _ _ hH (lv_sub hl [2, 3, 4, 1, 0] rfl) h
abbrev wd_X12_meetsOf (cy : Nat → ClassId) (q_t q_t_tape q_t_s q_t_h q_t_read q_t_names q_t_reserved q_t_undone q_t_before q_t_comeRow q_t_shown q_t_text q_t_toldAt q_t_stack q_t_truths q_t_imaged q_t_namesKept q_t_areKept : Nat) (t_thrown : Int32) (t_length : Int32) (t_size : Int32) (t_p : Int32) (t_limit : Int32) (t_token : Int32) (t_at : Int32) (t_span : Int32) (t_number : Int32) (t_fault : Int32) (t_faultAt : Int32) (t_word : Int64) (t_got : Int32) (t_lines : Int32) (t_hasWait : Int32) (t_undoMany : Int32) (t_firstMinute : Int32) (t_lookClock : Int32) (t_hasTime : Int32) (t_latestMost : Int32) (t_textMany : Int32) (t_seed : Int32) (t_toldMany : Int32) (t_hasTold : Int32) (t_codes : Int32) (t_ones : Int32) (t_top : Int32) (t_deep : Int32) (t_isWhole : Int32) (t_s : Nat → Int32) : va_W := [(q_t, .inr (13, [.int t_thrown, .ref q_t_tape, .int t_length, .int t_size, .int t_p, .int t_limit, .ref q_t_s, .ref q_t_h, .ref q_t_read, .ref q_t_names, .ref q_t_reserved, .int t_token, .int t_at, .int t_span, .int t_number, .int t_fault, .int t_faultAt, .long t_word, .int t_got, .int t_lines, .int t_hasWait, .ref q_t_undone, .ref q_t_before, .int t_undoMany, .ref q_t_comeRow, .int t_firstMinute, .int t_lookClock, .int t_hasTime, .ref q_t_shown, .int t_latestMost, .ref q_t_text, .int t_textMany, .int t_seed, .int t_toldMany, .ref q_t_toldAt, .int t_hasTold, .ref q_t_stack, .int t_codes, .int t_ones, .int t_top, .int t_deep, .int t_isWhole, .ref q_t_truths, .ref q_t_imaged, .ref q_t_namesKept, .ref q_t_areKept])), (q_t_s, .inl (cy 1, 334, .inl t_s))]
theorem iX12_meetsOf_X12 : ∀ w ∈ wsX120, w ∈ wsX12_meetsOf := fun _ h => List.mem_cons_of_mem _ (List.mem_append_right _ h)
abbrev rm_X12_meetsOf : Room := { frames := 0, cells := 0, slots := 0, locals := 0 }
set_option maxRecDepth 100000 in
def f_X12_meetsOf_42 (N : Nat) (t_s : Nat → Int32) (k_5 : Int32 → Int32 → Int32 → Int32 → Option (Int32)) (x1 : Int32) (x2 : Int32) (x4 : Int32) (sk0 : Int32) (sk1 : Int32) : Option (Int32) := zbn ((sk1 ||| sk0)) fun y1 => zbn (x4 + 1) fun y2 => k_5 x1 x2 y1 y2
set_option maxRecDepth 100000 in
def f_X12_meetsOf_5 (N : Nat) (t_s : Nat → Int32) : Nat → Int32 → Int32 → Int32 → Int32 → Option (Int32)
  | 0, _, _, _, _ => none
  | n + 1, x1, x2, x3, x4 => if (t_s 2) ≤ x4 then (some x3) else (zck (zin ((x1 + (6 * x4)) + x2) 334) <| if (t_s (Int32.toNatClampNeg ((x1 + (6 * x4)) + x2))) ≤ 0 then (f_X12_meetsOf_42 N t_s (f_X12_meetsOf_5 N t_s n) x1 x2 x4 0 x3) else (f_X12_meetsOf_42 N t_s (f_X12_meetsOf_5 N t_s n) x1 x2 x4 (1 <<< (x4 &&& 31)) x3))
set_option maxRecDepth 100000 in
def f_X12_meetsOf (N : Nat) (x0 : Int32) (x1 : Int32) (t_s : Nat → Int32) : Option (Int32) := f_X12_meetsOf_5 N t_s N x0 x1 0 0
set_option maxHeartbeats 4000000 in
set_option maxRecDepth 100000 in
theorem w_X12_meetsOf_42 {p : Program} {l : Launch} {e : Env} {s : State} {m : MethodId} {args : Array Value} {below : List Frame} {meth : Method} {c : Code} {G : va_G} {cy : Nat → ClassId} {E : Nat → Nat} {w0 : va_W} {N : Nat} {q_t q_t_tape q_t_s q_t_h q_t_read q_t_names q_t_reserved q_t_undone q_t_before q_t_comeRow q_t_shown q_t_text q_t_toldAt q_t_stack q_t_truths q_t_imaged q_t_namesKept q_t_areKept : Nat} {t_thrown : Int32} {t_length : Int32} {t_size : Int32} {t_p : Int32} {t_limit : Int32} {t_token : Int32} {t_at : Int32} {t_span : Int32} {t_number : Int32} {t_fault : Int32} {t_faultAt : Int32} {t_word : Int64} {t_got : Int32} {t_lines : Int32} {t_hasWait : Int32} {t_undoMany : Int32} {t_firstMinute : Int32} {t_lookClock : Int32} {t_hasTime : Int32} {t_latestMost : Int32} {t_textMany : Int32} {t_seed : Int32} {t_toldMany : Int32} {t_hasTold : Int32} {t_codes : Int32} {t_ones : Int32} {t_top : Int32} {t_deep : Int32} {t_isWhole : Int32} {t_s : Nat → Int32} {r : Int32} {k_5 : Int32 → Int32 → Int32 → Int32 → Option (Int32)} (S : CallFix p m c cX12_meetsOf 5 s args wsX12_meetsOf RX12) (hr : meth.sig.returnType = some .int) (hlocks : meth.locks = false) (hF : zF G cy E (va_A w0 s.heap.size) s) (hk_5 : ∀ (x1 : Int32) (x2 : Int32) (x3 : Int32) (x4 : Int32) (H : Heap) (locs : List Loc) (ls : Array Slot), zH G (va_A w0 s.heap.size) s H locs (wd_X12_meetsOf cy q_t q_t_tape q_t_s q_t_h q_t_read q_t_names q_t_reserved q_t_undone q_t_before q_t_comeRow q_t_shown q_t_text q_t_toldAt q_t_stack q_t_truths q_t_imaged q_t_namesKept q_t_areKept t_thrown t_length t_size t_p t_limit t_token t_at t_span t_number t_fault t_faultAt t_word t_got t_lines t_hasWait t_undoMany t_firstMinute t_lookClock t_hasTime t_latestMost t_textMany t_seed t_toldMany t_hasTold t_codes t_ones t_top t_deep t_isWhole t_s) → lv_has ls 5 [(0, .ref q_t), (1, .int x1), (2, .int x2), (3, .int x3), (4, .int x4)] → k_5 x1 x2 x3 x4 = some r → W p l e rm_X12_meetsOf s m args below meth c H locs 0 0 (MQ below (zQ G w0 (wd_X12_meetsOf cy q_t q_t_tape q_t_s q_t_h q_t_read q_t_names q_t_reserved q_t_undone q_t_before q_t_comeRow q_t_shown q_t_text q_t_toldAt q_t_stack q_t_truths q_t_imaged q_t_namesKept q_t_areKept t_thrown t_length t_size t_p t_limit t_token t_at t_span t_number t_fault t_faultAt t_word t_got t_lines t_hasWait t_undoMany t_firstMinute t_lookClock t_hasTime t_latestMost t_textMany t_seed t_toldMany t_hasTold t_codes t_ones t_top t_deep t_isWhole t_s) s.heap.size (some (.int r))) args s 0 0 (va_A w0 s.heap.size)) (F0 m 5 ls [])) :
    ∀ (x1 : Int32) (x2 : Int32) (x4 : Int32) (sk0 : Int32) (sk1 : Int32) (H : Heap) (locs : List Loc) (ls : Array Slot), zH G (va_A w0 s.heap.size) s H locs (wd_X12_meetsOf cy q_t q_t_tape q_t_s q_t_h q_t_read q_t_names q_t_reserved q_t_undone q_t_before q_t_comeRow q_t_shown q_t_text q_t_toldAt q_t_stack q_t_truths q_t_imaged q_t_namesKept q_t_areKept t_thrown t_length t_size t_p t_limit t_token t_at t_span t_number t_fault t_faultAt t_word t_got t_lines t_hasWait t_undoMany t_firstMinute t_lookClock t_hasTime t_latestMost t_textMany t_seed t_toldMany t_hasTold t_codes t_ones t_top t_deep t_isWhole t_s) → lv_has ls 5 [(0, .ref q_t), (1, .int x1), (2, .int x2), (4, .int x4)] → f_X12_meetsOf_42 N t_s k_5 x1 x2 x4 sk0 sk1 = some r → W p l e rm_X12_meetsOf s m args below meth c H locs 0 0 (MQ below (zQ G w0 (wd_X12_meetsOf cy q_t q_t_tape q_t_s q_t_h q_t_read q_t_names q_t_reserved q_t_undone q_t_before q_t_comeRow q_t_shown q_t_text q_t_toldAt q_t_stack q_t_truths q_t_imaged q_t_namesKept q_t_areKept t_thrown t_length t_size t_p t_limit t_token t_at t_span t_number t_fault t_faultAt t_word t_got t_lines t_hasWait t_undoMany t_firstMinute t_lookClock t_hasTime t_latestMost t_textMany t_seed t_toldMany t_hasTold t_codes t_ones t_top t_deep t_isWhole t_s) s.heap.size (some (.int r))) args s 0 0 (va_A w0 s.heap.size)) (F0 m 42 ls [.int sk0, .int sk1]) := by
  obtain ⟨hx, hb, hml, hown, hts⟩ := id S
  intro x1 x2 x4 sk0 sk1 H locs ls hH hl h
  rw [f_X12_meetsOf_42] at h
  refine lv_ior hx hb dX12_meetsOf_42 ?_
  obtain ⟨y1, ey1, h⟩ := zbn_e h
  refine z_top ey1 ?_
  clear ey1
  refine lv_istore_n (lv' := [(3, .int y1), (0, .ref q_t), (1, .int x1), (2, .int x2), (4, .int x4)]) hx hb dX12_meetsOf_43 rfl hl (by decide) rfl (fun ls hl => ?_)
  obtain ⟨y2, ey2, h⟩ := zbn_e h
  refine lv_iinc (v := y2) (lv' := [(4, .int y2), (3, .int y1), (0, .ref q_t), (1, .int x1), (2, .int x2)]) hx hb dX12_meetsOf_44 hl (k := 4) rfl (by rw [ey2]; exact congrArg (fun z => x4 + z) (by decide)) (by decide) rfl (fun ls hl => ?_)
  clear ey2
  refine lv_goto (tgt := 5) hx hb dX12_meetsOf_47 (by decide) ?_
  exact hk_5 x1 x2 y1 y2 _ _ _ hH (lv_sub hl [2, 3, 4, 1, 0] rfl) h
set_option maxHeartbeats 4000000 in
set_option maxRecDepth 100000 in
theorem w_X12_meetsOf_5 {p : Program} {l : Launch} {e : Env} {s : State} {m : MethodId} {args : Array Value} {below : List Frame} {meth : Method} {c : Code} {G : va_G} {cy : Nat → ClassId} {E : Nat → Nat} {w0 : va_W} {N : Nat} {q_t q_t_tape q_t_s q_t_h q_t_read q_t_names q_t_reserved q_t_undone q_t_before q_t_comeRow q_t_shown q_t_text q_t_toldAt q_t_stack q_t_truths q_t_imaged q_t_namesKept q_t_areKept : Nat} {t_thrown : Int32} {t_length : Int32} {t_size : Int32} {t_p : Int32} {t_limit : Int32} {t_token : Int32} {t_at : Int32} {t_span : Int32} {t_number : Int32} {t_fault : Int32} {t_faultAt : Int32} {t_word : Int64} {t_got : Int32} {t_lines : Int32} {t_hasWait : Int32} {t_undoMany : Int32} {t_firstMinute : Int32} {t_lookClock : Int32} {t_hasTime : Int32} {t_latestMost : Int32} {t_textMany : Int32} {t_seed : Int32} {t_toldMany : Int32} {t_hasTold : Int32} {t_codes : Int32} {t_ones : Int32} {t_top : Int32} {t_deep : Int32} {t_isWhole : Int32} {t_s : Nat → Int32} {r : Int32} (S : CallFix p m c cX12_meetsOf 5 s args wsX12_meetsOf RX12) (hr : meth.sig.returnType = some .int) (hlocks : meth.locks = false) (hF : zF G cy E (va_A w0 s.heap.size) s) :
    ∀ (n : Nat) (x1 : Int32) (x2 : Int32) (x3 : Int32) (x4 : Int32) (H : Heap) (locs : List Loc) (ls : Array Slot), zH G (va_A w0 s.heap.size) s H locs (wd_X12_meetsOf cy q_t q_t_tape q_t_s q_t_h q_t_read q_t_names q_t_reserved q_t_undone q_t_before q_t_comeRow q_t_shown q_t_text q_t_toldAt q_t_stack q_t_truths q_t_imaged q_t_namesKept q_t_areKept t_thrown t_length t_size t_p t_limit t_token t_at t_span t_number t_fault t_faultAt t_word t_got t_lines t_hasWait t_undoMany t_firstMinute t_lookClock t_hasTime t_latestMost t_textMany t_seed t_toldMany t_hasTold t_codes t_ones t_top t_deep t_isWhole t_s) → lv_has ls 5 [(0, .ref q_t), (1, .int x1), (2, .int x2), (3, .int x3), (4, .int x4)] → f_X12_meetsOf_5 N t_s n x1 x2 x3 x4 = some r → W p l e rm_X12_meetsOf s m args below meth c H locs 0 0 (MQ below (zQ G w0 (wd_X12_meetsOf cy q_t q_t_tape q_t_s q_t_h q_t_read q_t_names q_t_reserved q_t_undone q_t_before q_t_comeRow q_t_shown q_t_text q_t_toldAt q_t_stack q_t_truths q_t_imaged q_t_namesKept q_t_areKept t_thrown t_length t_size t_p t_limit t_token t_at t_span t_number t_fault t_faultAt t_word t_got t_lines t_hasWait t_undoMany t_firstMinute t_lookClock t_hasTime t_latestMost t_textMany t_seed t_toldMany t_hasTold t_codes t_ones t_top t_deep t_isWhole t_s) s.heap.size (some (.int r))) args s 0 0 (va_A w0 s.heap.size)) (F0 m 5 ls []) := by
  obtain ⟨hx, hb, hml, hown, hts⟩ := id S
  intro n
  induction n with
  | zero =>
    intro x1 x2 x3 x4 H locs ls hH hl h
    rw [f_X12_meetsOf_5] at h
    cases h
  | succ n ih =>
    intro x1 x2 x3 x4 H locs ls hH hl h
    rw [f_X12_meetsOf_5] at h
    refine lv_iload hx hb dX12_meetsOf_5 (lv_at hl 4 rfl) ?_
    refine lv_aload_n hx hb dX12_meetsOf_7 rfl (lv_at hl 0 rfl) ?_
    refine z_get S hF hH iX12_meetsOf_X12 0 rfl rfl 6 (by decide) (List.mem_of_getElem? (i := 1) rfl) rfl dX12_meetsOf_8 ?_
    refine lv_iconst (v := 2) hx hb dX12_meetsOf_11 (by decide) ?_
    refine z_iald (j := 2) S hF hH 1 rfl (by decide) rfl dX12_meetsOf_12 ?_
    refine lv_icmp_ge (tgt := 50) hx hb dX12_meetsOf_13 (by decide) (fun b13 => ?_) (fun b13 => ?_)
    · replace h := zif_t b13 h
      refine lv_iload_n hx hb dX12_meetsOf_50 rfl (lv_at hl 3 rfl) ?_
      cases h
      exact z_iret S hr hlocks hH dX12_meetsOf_51
    · replace h := zif_f b13 h
      refine lv_iload_n hx hb dX12_meetsOf_16 rfl (lv_at hl 3 rfl) ?_
      refine lv_aload_n hx hb dX12_meetsOf_17 rfl (lv_at hl 0 rfl) ?_
      refine z_get S hF hH iX12_meetsOf_X12 0 rfl rfl 6 (by decide) (List.mem_of_getElem? (i := 1) rfl) rfl dX12_meetsOf_18 ?_
      refine lv_iload_n hx hb dX12_meetsOf_21 rfl (lv_at hl 1 rfl) ?_
      refine lv_bipush (v := 6) hx hb dX12_meetsOf_22 (by decide) ?_
      refine lv_iload hx hb dX12_meetsOf_24 (lv_at hl 4 rfl) ?_
      refine lv_imul hx hb dX12_meetsOf_26 ?_
      refine lv_iadd hx hb dX12_meetsOf_27 ?_
      refine lv_iload_n hx hb dX12_meetsOf_28 rfl (lv_at hl 2 rfl) ?_
      refine lv_iadd hx hb dX12_meetsOf_29 ?_
      obtain ⟨h30, h⟩ := zck_e h
      refine z_iald S hF hH 1 rfl h30 rfl dX12_meetsOf_30 ?_
      refine lv_if_le (tgt := 41) hx hb dX12_meetsOf_31 (by decide) (fun b31 => ?_) (fun b31 => ?_)
      · replace h := zif_t b31 h
        refine lv_iconst (v := 0) hx hb dX12_meetsOf_41 (by decide) ?_
        exact w_X12_meetsOf_42 S hr hlocks hF ih x1 x2 x4 0 x3 _ _ _ hH (lv_sub hl [0, 1, 2, 4] rfl) h
      · replace h := zif_f b31 h
        refine lv_iconst (v := 1) hx hb dX12_meetsOf_34 (by decide) ?_
        refine lv_iload hx hb dX12_meetsOf_35 (lv_at hl 4 rfl) ?_
        refine lv_ishl hx hb dX12_meetsOf_37 ?_
        refine lv_goto (tgt := 42) hx hb dX12_meetsOf_38 (by decide) ?_
        exact w_X12_meetsOf_42 S hr hlocks hF ih x1 x2 x4 (1 <<< (x4 &&& 31)) x3 _ _ _ hH (lv_sub hl [0, 1, 2, 4] rfl) h
set_option maxHeartbeats 4000000 in
set_option maxRecDepth 100000 in
theorem c_X12_meetsOf (l : Launch) (G : va_G) (cy : Nat → ClassId) (E : Nat → Nat) (N : Nat) (q_t q_t_tape q_t_s q_t_h q_t_read q_t_names q_t_reserved q_t_undone q_t_before q_t_comeRow q_t_shown q_t_text q_t_toldAt q_t_stack q_t_truths q_t_imaged q_t_namesKept q_t_areKept : Nat) (t_thrown : Int32) (t_length : Int32) (t_size : Int32) (t_p : Int32) (t_limit : Int32) (t_token : Int32) (t_at : Int32) (t_span : Int32) (t_number : Int32) (t_fault : Int32) (t_faultAt : Int32) (t_word : Int64) (t_got : Int32) (t_lines : Int32) (t_hasWait : Int32) (t_undoMany : Int32) (t_firstMinute : Int32) (t_lookClock : Int32) (t_hasTime : Int32) (t_latestMost : Int32) (t_textMany : Int32) (t_seed : Int32) (t_toldMany : Int32) (t_hasTold : Int32) (t_codes : Int32) (t_ones : Int32) (t_top : Int32) (t_deep : Int32) (t_isWhole : Int32) (t_s : Nat → Int32) (x0 : Int32) (x1 : Int32) (r : Int32) (h : f_X12_meetsOf N x0 x1 t_s = some r) : zM l G cy E yX12_meetsOf wsX12_meetsOf rm_X12_meetsOf [.ref q_t, .int x0, .int x1] (wd_X12_meetsOf cy q_t q_t_tape q_t_s q_t_h q_t_read q_t_names q_t_reserved q_t_undone q_t_before q_t_comeRow q_t_shown q_t_text q_t_toldAt q_t_stack q_t_truths q_t_imaged q_t_namesKept q_t_areKept t_thrown t_length t_size t_p t_limit t_token t_at t_span t_number t_fault t_faultAt t_word t_got t_lines t_hasWait t_undoMany t_firstMinute t_lookClock t_hasTime t_latestMost t_textMany t_seed t_toldMany t_hasTold t_codes t_ones t_top t_deep t_isWhole t_s) (wd_X12_meetsOf cy q_t q_t_tape q_t_s q_t_h q_t_read q_t_names q_t_reserved q_t_undone q_t_before q_t_comeRow q_t_shown q_t_text q_t_toldAt q_t_stack q_t_truths q_t_imaged q_t_namesKept q_t_areKept t_thrown t_length t_size t_p t_limit t_token t_at t_span t_number t_fault t_faultAt t_word t_got t_lines t_hasWait t_undoMany t_firstMinute t_lookClock t_hasTime t_latestMost t_textMany t_seed t_toldMany t_hasTold t_codes t_ones t_top t_deep t_isWhole t_s) (some (.int r)) 0 0 := by
  refine z_body (cc := cX12_meetsOf) (maxL := 5) (ret := some .int) (by decide) rfl (Nat.le_of_ble_eq_true rfl) ?_
  intro p e s m below meth c ls S hr hlocks hnm hF hH hl
  have S : CallFix p m c cX12_meetsOf 5 s ([.ref q_t, .int x0, .int x1] : List Value).toArray wsX12_meetsOf RX12 := S
  obtain ⟨hx, hb, hml, hown, hts⟩ := id S
  have hl : lv_has ls 5 [(0, .ref q_t), (1, .int x0), (2, .int x1)] := hl
  rw [f_X12_meetsOf] at h
  refine lv_iconst (v := 0) hx hb dX12_meetsOf_0 (by decide) ?_
  refine lv_istore_n (lv' := [(3, .int 0), (0, .ref q_t), (1, .int x0), (2, .int x1)]) hx hb dX12_meetsOf_1 rfl hl (by decide) rfl (fun ls hl => ?_)
  refine lv_iconst (v := 0) hx hb dX12_meetsOf_2 (by decide) ?_
  refine lv_istore (lv' := [(4, .int 0), (3, .int 0), (0, .ref q_t), (1, .int x0), (2, .int x1)]) hx hb dX12_meetsOf_3 hl (by decide) rfl (fun ls hl => ?_)
  exact w_X12_meetsOf_5 S hr hlocks hF N x0 x1 0 0 _ _ _ hH (lv_sub hl [2, 3, 4, 1, 0] rfl) h
abbrev wd_X12_toCome (cy : Nat → ClassId) (q_t q_t_tape q_t_s q_t_h q_t_read q_t_names q_t_reserved q_t_undone q_t_before q_t_comeRow q_t_shown q_t_text q_t_toldAt q_t_stack q_t_truths q_t_imaged q_t_namesKept q_t_areKept : Nat) (t_thrown : Int32) (t_length : Int32) (t_size : Int32) (t_p : Int32) (t_limit : Int32) (t_token : Int32) (t_at : Int32) (t_span : Int32) (t_number : Int32) (t_fault : Int32) (t_faultAt : Int32) (t_word : Int64) (t_got : Int32) (t_lines : Int32) (t_hasWait : Int32) (t_undoMany : Int32) (t_firstMinute : Int32) (t_lookClock : Int32) (t_hasTime : Int32) (t_latestMost : Int32) (t_textMany : Int32) (t_seed : Int32) (t_toldMany : Int32) (t_hasTold : Int32) (t_codes : Int32) (t_ones : Int32) (t_top : Int32) (t_deep : Int32) (t_isWhole : Int32) (t_s : Nat → Int32) : va_W := [(q_t, .inr (13, [.int t_thrown, .ref q_t_tape, .int t_length, .int t_size, .int t_p, .int t_limit, .ref q_t_s, .ref q_t_h, .ref q_t_read, .ref q_t_names, .ref q_t_reserved, .int t_token, .int t_at, .int t_span, .int t_number, .int t_fault, .int t_faultAt, .long t_word, .int t_got, .int t_lines, .int t_hasWait, .ref q_t_undone, .ref q_t_before, .int t_undoMany, .ref q_t_comeRow, .int t_firstMinute, .int t_lookClock, .int t_hasTime, .ref q_t_shown, .int t_latestMost, .ref q_t_text, .int t_textMany, .int t_seed, .int t_toldMany, .ref q_t_toldAt, .int t_hasTold, .ref q_t_stack, .int t_codes, .int t_ones, .int t_top, .int t_deep, .int t_isWhole, .ref q_t_truths, .ref q_t_imaged, .ref q_t_namesKept, .ref q_t_areKept])), (q_t_s, .inl (cy 1, 334, .inl t_s))]
theorem iX12_toCome_X12 : ∀ w ∈ wsX120, w ∈ wsX12_toCome := fun _ h => List.mem_cons_of_mem _ (List.mem_append_right _ h)
abbrev rm_X12_toCome : Room := { frames := 2, cells := 0, slots := 0, locals := 43 }
set_option maxRecDepth 100000 in
def f_X12_toCome_31 (N : Nat) (t_s : Nat → Int32) (k_4 : Int32 → Int32 → Int32 → Option (Int32)) (x1 : Int32) (x3 : Int32) (sk0 : Int32) (sk1 : Int32) : Option (Int32) := zbn ((sk1 ||| sk0)) fun y1 => zbn (x3 + 1) fun y2 => k_4 x1 y1 y2
set_option maxRecDepth 100000 in
def f_X12_toCome_4 (N : Nat) (t_s : Nat → Int32) : Nat → Int32 → Int32 → Int32 → Option (Int32)
  | 0, _, _, _ => none
  | n + 1, x1, x2, x3 => if (t_s 2) ≤ x3 then (some x2) else (zcl (f_X12_isDueTo N x1 x3 t_s) fun z18 => if z18 = 0 then (f_X12_toCome_31 N t_s (f_X12_toCome_4 N t_s n) x1 x3 0 x2) else (f_X12_toCome_31 N t_s (f_X12_toCome_4 N t_s n) x1 x3 (1 <<< (x3 &&& 31)) x2))
set_option maxRecDepth 100000 in
def f_X12_toCome (N : Nat) (x0 : Int32) (t_s : Nat → Int32) : Option (Int32) := f_X12_toCome_4 N t_s N x0 0 0
set_option maxHeartbeats 4000000 in
set_option maxRecDepth 100000 in
theorem w_X12_toCome_31 {p : Program} {l : Launch} {e : Env} {s : State} {m : MethodId} {args : Array Value} {below : List Frame} {meth : Method} {c : Code} {G : va_G} {cy : Nat → ClassId} {E : Nat → Nat} {w0 : va_W} {N : Nat} {q_t q_t_tape q_t_s q_t_h q_t_read q_t_names q_t_reserved q_t_undone q_t_before q_t_comeRow q_t_shown q_t_text q_t_toldAt q_t_stack q_t_truths q_t_imaged q_t_namesKept q_t_areKept : Nat} {t_thrown : Int32} {t_length : Int32} {t_size : Int32} {t_p : Int32} {t_limit : Int32} {t_token : Int32} {t_at : Int32} {t_span : Int32} {t_number : Int32} {t_fault : Int32} {t_faultAt : Int32} {t_word : Int64} {t_got : Int32} {t_lines : Int32} {t_hasWait : Int32} {t_undoMany : Int32} {t_firstMinute : Int32} {t_lookClock : Int32} {t_hasTime : Int32} {t_latestMost : Int32} {t_textMany : Int32} {t_seed : Int32} {t_toldMany : Int32} {t_hasTold : Int32} {t_codes : Int32} {t_ones : Int32} {t_top : Int32} {t_deep : Int32} {t_isWhole : Int32} {t_s : Nat → Int32} {r : Int32} {k_4 : Int32 → Int32 → Int32 → Option (Int32)} (S : CallFix p m c cX12_toCome 4 s args wsX12_toCome RX12) (hr : meth.sig.returnType = some .int) (hlocks : meth.locks = false) (hF : zF G cy E (va_A w0 s.heap.size) s) (hk_4 : ∀ (x1 : Int32) (x2 : Int32) (x3 : Int32) (H : Heap) (locs : List Loc) (ls : Array Slot), zH G (va_A w0 s.heap.size) s H locs (wd_X12_toCome cy q_t q_t_tape q_t_s q_t_h q_t_read q_t_names q_t_reserved q_t_undone q_t_before q_t_comeRow q_t_shown q_t_text q_t_toldAt q_t_stack q_t_truths q_t_imaged q_t_namesKept q_t_areKept t_thrown t_length t_size t_p t_limit t_token t_at t_span t_number t_fault t_faultAt t_word t_got t_lines t_hasWait t_undoMany t_firstMinute t_lookClock t_hasTime t_latestMost t_textMany t_seed t_toldMany t_hasTold t_codes t_ones t_top t_deep t_isWhole t_s) → lv_has ls 4 [(0, .ref q_t), (1, .int x1), (2, .int x2), (3, .int x3)] → k_4 x1 x2 x3 = some r → W p l e rm_X12_toCome s m args below meth c H locs 0 0 (MQ below (zQ G w0 (wd_X12_toCome cy q_t q_t_tape q_t_s q_t_h q_t_read q_t_names q_t_reserved q_t_undone q_t_before q_t_comeRow q_t_shown q_t_text q_t_toldAt q_t_stack q_t_truths q_t_imaged q_t_namesKept q_t_areKept t_thrown t_length t_size t_p t_limit t_token t_at t_span t_number t_fault t_faultAt t_word t_got t_lines t_hasWait t_undoMany t_firstMinute t_lookClock t_hasTime t_latestMost t_textMany t_seed t_toldMany t_hasTold t_codes t_ones t_top t_deep t_isWhole t_s) s.heap.size (some (.int r))) args s 0 0 (va_A w0 s.heap.size)) (F0 m 4 ls [])) :
    ∀ (x1 : Int32) (x3 : Int32) (sk0 : Int32) (sk1 : Int32) (H : Heap) (locs : List Loc) (ls : Array Slot), zH G (va_A w0 s.heap.size) s H locs (wd_X12_toCome cy q_t q_t_tape q_t_s q_t_h q_t_read q_t_names q_t_reserved q_t_undone q_t_before q_t_comeRow q_t_shown q_t_text q_t_toldAt q_t_stack q_t_truths q_t_imaged q_t_namesKept q_t_areKept t_thrown t_length t_size t_p t_limit t_token t_at t_span t_number t_fault t_faultAt t_word t_got t_lines t_hasWait t_undoMany t_firstMinute t_lookClock t_hasTime t_latestMost t_textMany t_seed t_toldMany t_hasTold t_codes t_ones t_top t_deep t_isWhole t_s) → lv_has ls 4 [(0, .ref q_t), (1, .int x1), (3, .int x3)] → f_X12_toCome_31 N t_s k_4 x1 x3 sk0 sk1 = some r → W p l e rm_X12_toCome s m args below meth c H locs 0 0 (MQ below (zQ G w0 (wd_X12_toCome cy q_t q_t_tape q_t_s q_t_h q_t_read q_t_names q_t_reserved q_t_undone q_t_before q_t_comeRow q_t_shown q_t_text q_t_toldAt q_t_stack q_t_truths q_t_imaged q_t_namesKept q_t_areKept t_thrown t_length t_size t_p t_limit t_token t_at t_span t_number t_fault t_faultAt t_word t_got t_lines t_hasWait t_undoMany t_firstMinute t_lookClock t_hasTime t_latestMost t_textMany t_seed t_toldMany t_hasTold t_codes t_ones t_top t_deep t_isWhole t_s) s.heap.size (some (.int r))) args s 0 0 (va_A w0 s.heap.size)) (F0 m 31 ls [.int sk0, .int sk1]) := by
  obtain ⟨hx, hb, hml, hown, hts⟩ := id S
  intro x1 x3 sk0 sk1 H locs ls hH hl h
  rw [f_X12_toCome_31] at h
  refine lv_ior hx hb dX12_toCome_31 ?_
  obtain ⟨y1, ey1, h⟩ := zbn_e h
  refine z_top ey1 ?_
  clear ey1
  refine lv_istore_n (lv' := [(2, .int y1), (0, .ref q_t), (1, .int x1), (3, .int x3)]) hx hb dX12_toCome_32 rfl hl (by decide) rfl (fun ls hl => ?_)
  obtain ⟨y2, ey2, h⟩ := zbn_e h
  refine lv_iinc (v := y2) (lv' := [(3, .int y2), (2, .int y1), (0, .ref q_t), (1, .int x1)]) hx hb dX12_toCome_33 hl (k := 3) rfl (by rw [ey2]; exact congrArg (fun z => x3 + z) (by decide)) (by decide) rfl (fun ls hl => ?_)
  clear ey2
  refine lv_goto (tgt := 4) hx hb dX12_toCome_36 (by decide) ?_
  exact hk_4 x1 y1 y2 _ _ _ hH (lv_sub hl [2, 3, 1, 0] rfl) h
set_option maxHeartbeats 4000000 in
set_option maxRecDepth 100000 in
theorem w_X12_toCome_4 {p : Program} {l : Launch} {e : Env} {s : State} {m : MethodId} {args : Array Value} {below : List Frame} {meth : Method} {c : Code} {G : va_G} {cy : Nat → ClassId} {E : Nat → Nat} {w0 : va_W} {N : Nat} {q_t q_t_tape q_t_s q_t_h q_t_read q_t_names q_t_reserved q_t_undone q_t_before q_t_comeRow q_t_shown q_t_text q_t_toldAt q_t_stack q_t_truths q_t_imaged q_t_namesKept q_t_areKept : Nat} {t_thrown : Int32} {t_length : Int32} {t_size : Int32} {t_p : Int32} {t_limit : Int32} {t_token : Int32} {t_at : Int32} {t_span : Int32} {t_number : Int32} {t_fault : Int32} {t_faultAt : Int32} {t_word : Int64} {t_got : Int32} {t_lines : Int32} {t_hasWait : Int32} {t_undoMany : Int32} {t_firstMinute : Int32} {t_lookClock : Int32} {t_hasTime : Int32} {t_latestMost : Int32} {t_textMany : Int32} {t_seed : Int32} {t_toldMany : Int32} {t_hasTold : Int32} {t_codes : Int32} {t_ones : Int32} {t_top : Int32} {t_deep : Int32} {t_isWhole : Int32} {t_s : Nat → Int32} {r : Int32} (S : CallFix p m c cX12_toCome 4 s args wsX12_toCome RX12) (hr : meth.sig.returnType = some .int) (hlocks : meth.locks = false) (hF : zF G cy E (va_A w0 s.heap.size) s) :
    ∀ (n : Nat) (x1 : Int32) (x2 : Int32) (x3 : Int32) (H : Heap) (locs : List Loc) (ls : Array Slot), zH G (va_A w0 s.heap.size) s H locs (wd_X12_toCome cy q_t q_t_tape q_t_s q_t_h q_t_read q_t_names q_t_reserved q_t_undone q_t_before q_t_comeRow q_t_shown q_t_text q_t_toldAt q_t_stack q_t_truths q_t_imaged q_t_namesKept q_t_areKept t_thrown t_length t_size t_p t_limit t_token t_at t_span t_number t_fault t_faultAt t_word t_got t_lines t_hasWait t_undoMany t_firstMinute t_lookClock t_hasTime t_latestMost t_textMany t_seed t_toldMany t_hasTold t_codes t_ones t_top t_deep t_isWhole t_s) → lv_has ls 4 [(0, .ref q_t), (1, .int x1), (2, .int x2), (3, .int x3)] → f_X12_toCome_4 N t_s n x1 x2 x3 = some r → W p l e rm_X12_toCome s m args below meth c H locs 0 0 (MQ below (zQ G w0 (wd_X12_toCome cy q_t q_t_tape q_t_s q_t_h q_t_read q_t_names q_t_reserved q_t_undone q_t_before q_t_comeRow q_t_shown q_t_text q_t_toldAt q_t_stack q_t_truths q_t_imaged q_t_namesKept q_t_areKept t_thrown t_length t_size t_p t_limit t_token t_at t_span t_number t_fault t_faultAt t_word t_got t_lines t_hasWait t_undoMany t_firstMinute t_lookClock t_hasTime t_latestMost t_textMany t_seed t_toldMany t_hasTold t_codes t_ones t_top t_deep t_isWhole t_s) s.heap.size (some (.int r))) args s 0 0 (va_A w0 s.heap.size)) (F0 m 4 ls []) := by
  obtain ⟨hx, hb, hml, hown, hts⟩ := id S
  intro n
  induction n with
  | zero =>
    intro x1 x2 x3 H locs ls hH hl h
    rw [f_X12_toCome_4] at h
    cases h
  | succ n ih =>
    intro x1 x2 x3 H locs ls hH hl h
    rw [f_X12_toCome_4] at h
    refine lv_iload_n hx hb dX12_toCome_4 rfl (lv_at hl 3 rfl) ?_
    refine lv_aload_n hx hb dX12_toCome_5 rfl (lv_at hl 0 rfl) ?_
    refine z_get S hF hH iX12_toCome_X12 0 rfl rfl 6 (by decide) (List.mem_of_getElem? (i := 1) rfl) rfl dX12_toCome_6 ?_
    refine lv_iconst (v := 2) hx hb dX12_toCome_9 (by decide) ?_
    refine z_iald (j := 2) S hF hH 1 rfl (by decide) rfl dX12_toCome_10 ?_
    refine lv_icmp_ge (tgt := 39) hx hb dX12_toCome_11 (by decide) (fun b11 => ?_) (fun b11 => ?_)
    · replace h := zif_t b11 h
      refine lv_iload_n hx hb dX12_toCome_39 rfl (lv_at hl 2 rfl) ?_
      cases h
      exact z_iret S hr hlocks hH dX12_toCome_40
    · replace h := zif_f b11 h
      refine lv_iload_n hx hb dX12_toCome_14 rfl (lv_at hl 2 rfl) ?_
      refine lv_aload_n hx hb dX12_toCome_15 rfl (lv_at hl 0 rfl) ?_
      refine lv_iload_n hx hb dX12_toCome_16 rfl (lv_at hl 1 rfl) ?_
      refine lv_iload_n hx hb dX12_toCome_17 rfl (lv_at hl 3 rfl) ?_
      obtain ⟨z18, hz18, h⟩ := zcl_e h
      refine z_callV (As := [.int x1, .int x3]) (rest := [.int x2]) (st1 := [.int z18, .int x2]) (ws' := (wd_X12_toCome cy q_t q_t_tape q_t_s q_t_h q_t_read q_t_names q_t_reserved q_t_undone q_t_before q_t_comeRow q_t_shown q_t_text q_t_toldAt q_t_stack q_t_truths q_t_imaged q_t_namesKept q_t_areKept t_thrown t_length t_size t_p t_limit t_token t_at t_span t_number t_fault t_faultAt t_word t_got t_lines t_hasWait t_undoMany t_firstMinute t_lookClock t_hasTime t_latestMost t_textMany t_seed t_toldMany t_hasTold t_codes t_ones t_top t_deep t_isWhole t_s)) S hF hH (c_X12_isDueTo l G cy E N q_t q_t_tape q_t_s q_t_h q_t_read q_t_names q_t_reserved q_t_undone q_t_before q_t_comeRow q_t_shown q_t_text q_t_toldAt q_t_stack q_t_truths q_t_imaged q_t_namesKept q_t_areKept t_thrown t_length t_size t_p t_limit t_token t_at t_span t_number t_fault t_faultAt t_word t_got t_lines t_hasWait t_undoMany t_firstMinute t_lookClock t_hasTime t_latestMost t_textMany t_seed t_toldMany t_hasTold t_codes t_ones t_top t_deep t_isWhole t_s x1 x3 z18 hz18) (cwV 2 hts gX12_toCome_X12_isDueTo rfl rfl rfl (by decide +kernel) ⟨Nat.le_of_ble_eq_true rfl, Nat.le_of_ble_eq_true rfl⟩) 13 0 rfl rfl [0, 1] rfl (by decide) rfl rfl rfl rfl rfl hl.1 (Nat.le_of_ble_eq_true rfl) dX12_toCome_18 ⟨Nat.le_of_ble_eq_true rfl, Nat.le_of_ble_eq_true rfl⟩ (fun H locs hH => ?_)
      refine lv_if_eq (tgt := 30) hx hb dX12_toCome_21 (by decide) (fun b21 => ?_) (fun b21 => ?_)
      · replace h := zif_t b21 h
        refine lv_iconst (v := 0) hx hb dX12_toCome_30 (by decide) ?_
        exact w_X12_toCome_31 S hr hlocks hF ih x1 x3 0 x2 _ _ _ hH (lv_sub hl [0, 1, 3] rfl) h
      · replace h := zif_f b21 h
        refine lv_iconst (v := 1) hx hb dX12_toCome_24 (by decide) ?_
        refine lv_iload_n hx hb dX12_toCome_25 rfl (lv_at hl 3 rfl) ?_
        refine lv_ishl hx hb dX12_toCome_26 ?_
        refine lv_goto (tgt := 31) hx hb dX12_toCome_27 (by decide) ?_
        exact w_X12_toCome_31 S hr hlocks hF ih x1 x3 (1 <<< (x3 &&& 31)) x2 _ _ _ hH (lv_sub hl [0, 1, 3] rfl) h
set_option maxHeartbeats 4000000 in
set_option maxRecDepth 100000 in
theorem c_X12_toCome (l : Launch) (G : va_G) (cy : Nat → ClassId) (E : Nat → Nat) (N : Nat) (q_t q_t_tape q_t_s q_t_h q_t_read q_t_names q_t_reserved q_t_undone q_t_before q_t_comeRow q_t_shown q_t_text q_t_toldAt q_t_stack q_t_truths q_t_imaged q_t_namesKept q_t_areKept : Nat) (t_thrown : Int32) (t_length : Int32) (t_size : Int32) (t_p : Int32) (t_limit : Int32) (t_token : Int32) (t_at : Int32) (t_span : Int32) (t_number : Int32) (t_fault : Int32) (t_faultAt : Int32) (t_word : Int64) (t_got : Int32) (t_lines : Int32) (t_hasWait : Int32) (t_undoMany : Int32) (t_firstMinute : Int32) (t_lookClock : Int32) (t_hasTime : Int32) (t_latestMost : Int32) (t_textMany : Int32) (t_seed : Int32) (t_toldMany : Int32) (t_hasTold : Int32) (t_codes : Int32) (t_ones : Int32) (t_top : Int32) (t_deep : Int32) (t_isWhole : Int32) (t_s : Nat → Int32) (x0 : Int32) (r : Int32) (h : f_X12_toCome N x0 t_s = some r) : zM l G cy E yX12_toCome wsX12_toCome rm_X12_toCome [.ref q_t, .int x0] (wd_X12_toCome cy q_t q_t_tape q_t_s q_t_h q_t_read q_t_names q_t_reserved q_t_undone q_t_before q_t_comeRow q_t_shown q_t_text q_t_toldAt q_t_stack q_t_truths q_t_imaged q_t_namesKept q_t_areKept t_thrown t_length t_size t_p t_limit t_token t_at t_span t_number t_fault t_faultAt t_word t_got t_lines t_hasWait t_undoMany t_firstMinute t_lookClock t_hasTime t_latestMost t_textMany t_seed t_toldMany t_hasTold t_codes t_ones t_top t_deep t_isWhole t_s) (wd_X12_toCome cy q_t q_t_tape q_t_s q_t_h q_t_read q_t_names q_t_reserved q_t_undone q_t_before q_t_comeRow q_t_shown q_t_text q_t_toldAt q_t_stack q_t_truths q_t_imaged q_t_namesKept q_t_areKept t_thrown t_length t_size t_p t_limit t_token t_at t_span t_number t_fault t_faultAt t_word t_got t_lines t_hasWait t_undoMany t_firstMinute t_lookClock t_hasTime t_latestMost t_textMany t_seed t_toldMany t_hasTold t_codes t_ones t_top t_deep t_isWhole t_s) (some (.int r)) 0 0 := by
  refine z_body (cc := cX12_toCome) (maxL := 4) (ret := some .int) (by decide) rfl (Nat.le_of_ble_eq_true rfl) ?_
  intro p e s m below meth c ls S hr hlocks hnm hF hH hl
  have S : CallFix p m c cX12_toCome 4 s ([.ref q_t, .int x0] : List Value).toArray wsX12_toCome RX12 := S
  obtain ⟨hx, hb, hml, hown, hts⟩ := id S
  have hl : lv_has ls 4 [(0, .ref q_t), (1, .int x0)] := hl
  rw [f_X12_toCome] at h
  refine lv_iconst (v := 0) hx hb dX12_toCome_0 (by decide) ?_
  refine lv_istore_n (lv' := [(2, .int 0), (0, .ref q_t), (1, .int x0)]) hx hb dX12_toCome_1 rfl hl (by decide) rfl (fun ls hl => ?_)
  refine lv_iconst (v := 0) hx hb dX12_toCome_2 (by decide) ?_
  refine lv_istore_n (lv' := [(3, .int 0), (2, .int 0), (0, .ref q_t), (1, .int x0)]) hx hb dX12_toCome_3 rfl hl (by decide) rfl (fun ls hl => ?_)
  exact w_X12_toCome_4 S hr hlocks hF N x0 0 0 _ _ _ hH (lv_sub hl [2, 3, 1, 0] rfl) h
abbrev wd_X12_clock (cy : Nat → ClassId) (q_t q_t_tape q_t_s q_t_h q_t_read q_t_names q_t_reserved q_t_undone q_t_before q_t_comeRow q_t_shown q_t_text q_t_toldAt q_t_stack q_t_truths q_t_imaged q_t_namesKept q_t_areKept : Nat) (t_thrown : Int32) (t_length : Int32) (t_size : Int32) (t_p : Int32) (t_limit : Int32) (t_token : Int32) (t_at : Int32) (t_span : Int32) (t_number : Int32) (t_fault : Int32) (t_faultAt : Int32) (t_word : Int64) (t_got : Int32) (t_lines : Int32) (t_hasWait : Int32) (t_undoMany : Int32) (t_firstMinute : Int32) (t_lookClock : Int32) (t_hasTime : Int32) (t_latestMost : Int32) (t_textMany : Int32) (t_seed : Int32) (t_toldMany : Int32) (t_hasTold : Int32) (t_codes : Int32) (t_ones : Int32) (t_top : Int32) (t_deep : Int32) (t_isWhole : Int32) (t_s : Nat → Int32) : va_W := [(q_t, .inr (13, [.int t_thrown, .ref q_t_tape, .int t_length, .int t_size, .int t_p, .int t_limit, .ref q_t_s, .ref q_t_h, .ref q_t_read, .ref q_t_names, .ref q_t_reserved, .int t_token, .int t_at, .int t_span, .int t_number, .int t_fault, .int t_faultAt, .long t_word, .int t_got, .int t_lines, .int t_hasWait, .ref q_t_undone, .ref q_t_before, .int t_undoMany, .ref q_t_comeRow, .int t_firstMinute, .int t_lookClock, .int t_hasTime, .ref q_t_shown, .int t_latestMost, .ref q_t_text, .int t_textMany, .int t_seed, .int t_toldMany, .ref q_t_toldAt, .int t_hasTold, .ref q_t_stack, .int t_codes, .int t_ones, .int t_top, .int t_deep, .int t_isWhole, .ref q_t_truths, .ref q_t_imaged, .ref q_t_namesKept, .ref q_t_areKept])), (q_t_s, .inl (cy 1, 334, .inl t_s))]
theorem iX12_clock_X12 : ∀ w ∈ wsX120, w ∈ wsX12_clock := fun _ h => List.mem_cons_of_mem _ (List.mem_append_right _ h)
abbrev rm_X12_clock : Room := { frames := 4, cells := 0, slots := 0, locals := 87 }
set_option maxRecDepth 100000 in
def f_X12_clock_51 (N : Nat) (t_s : Nat → Int32) (k_20 : Int32 → Int32 → Int32 → Int32 → Int32 → Option (Int32 × Int32)) (x1 : Int32) (x2 : Int32) (x4 : Int32) (sk0 : Int32) (sk1 : Int32) (c_t_thrown : Int32) : Option (Int32 × Int32) := zbn ((sk1 + sk0)) fun y1 => zbn (x4 + 1) fun y2 => k_20 x1 x2 y1 y2 c_t_thrown
set_option maxRecDepth 100000 in
def f_X12_clock_20 (N : Nat) (t_s : Nat → Int32) : Nat → Int32 → Int32 → Int32 → Int32 → Int32 → Option (Int32 × Int32)
  | 0, _, _, _, _, _ => none
  | n + 1, x1, x2, x3, x4, c_t_thrown => if (t_s 1) ≤ x4 then (if x2 = 0 then (zck (zin (4 + x1) 334) <| some ((t_s (Int32.toNatClampNeg (4 + x1))), c_t_thrown)) else (if x2 = 1 then (zck (zin (16 + x1) 334) <| some ((t_s (Int32.toNatClampNeg (16 + x1))), c_t_thrown)) else (if x2 = 2 then (zcl (f_X12_isStopped N x1 t_s) fun z117 => if z117 = 0 then (some (0, c_t_thrown)) else (some (1, c_t_thrown))) else (if x2 = 3 then (zcl (f_X12_showsAt N x1 (t_s 52) t_s) fun z138 => some (z138, c_t_thrown)) else (if x2 = 4 then (some (x3, c_t_thrown)) else (some ((-1), c_t_thrown))))))) else (zck (zin (34 + x4) 334) <| if (t_s (Int32.toNatClampNeg (34 + x4))) = x1 then (f_X12_clock_51 N t_s (f_X12_clock_20 N t_s n) x1 x2 x4 1 x3 c_t_thrown) else (f_X12_clock_51 N t_s (f_X12_clock_20 N t_s n) x1 x2 x4 0 x3 c_t_thrown))
set_option maxRecDepth 100000 in
def f_X12_clock (N : Nat) (x0 : Int32) (x1 : Int32) (t_thrown : Int32) (t_s : Nat → Int32) : Option (Int32 × Int32) := zcl (f_X12_isClock N x0 t_s) fun z7 => if z7 = 0 then (some ((-1), 0)) else (f_X12_clock_20 N t_s N x0 x1 0 0 0)
set_option maxHeartbeats 4000000 in
set_option maxRecDepth 100000 in
theorem w_X12_clock_51 {p : Program} {l : Launch} {e : Env} {s : State} {m : MethodId} {args : Array Value} {below : List Frame} {meth : Method} {c : Code} {G : va_G} {cy : Nat → ClassId} {E : Nat → Nat} {w0 : va_W} {N : Nat} {q_t q_t_tape q_t_s q_t_h q_t_read q_t_names q_t_reserved q_t_undone q_t_before q_t_comeRow q_t_shown q_t_text q_t_toldAt q_t_stack q_t_truths q_t_imaged q_t_namesKept q_t_areKept : Nat} {t_length : Int32} {t_size : Int32} {t_p : Int32} {t_limit : Int32} {t_token : Int32} {t_at : Int32} {t_span : Int32} {t_number : Int32} {t_fault : Int32} {t_faultAt : Int32} {t_word : Int64} {t_got : Int32} {t_lines : Int32} {t_hasWait : Int32} {t_undoMany : Int32} {t_firstMinute : Int32} {t_lookClock : Int32} {t_hasTime : Int32} {t_latestMost : Int32} {t_textMany : Int32} {t_seed : Int32} {t_toldMany : Int32} {t_hasTold : Int32} {t_codes : Int32} {t_ones : Int32} {t_top : Int32} {t_deep : Int32} {t_isWhole : Int32} {t_s : Nat → Int32} {r : Int32} {r_t_thrown : Int32} {k_20 : Int32 → Int32 → Int32 → Int32 → Int32 → Option (Int32 × Int32)} (S : CallFix p m c cX12_clock 5 s args wsX12_clock RX12) (hr : meth.sig.returnType = some .int) (hlocks : meth.locks = false) (hF : zF G cy E (va_A w0 s.heap.size) s) (hk_20 : ∀ (x1 : Int32) (x2 : Int32) (x3 : Int32) (x4 : Int32) (c_t_thrown : Int32) (H : Heap) (locs : List Loc) (ls : Array Slot), zH G (va_A w0 s.heap.size) s H locs (wd_X12_clock cy q_t q_t_tape q_t_s q_t_h q_t_read q_t_names q_t_reserved q_t_undone q_t_before q_t_comeRow q_t_shown q_t_text q_t_toldAt q_t_stack q_t_truths q_t_imaged q_t_namesKept q_t_areKept c_t_thrown t_length t_size t_p t_limit t_token t_at t_span t_number t_fault t_faultAt t_word t_got t_lines t_hasWait t_undoMany t_firstMinute t_lookClock t_hasTime t_latestMost t_textMany t_seed t_toldMany t_hasTold t_codes t_ones t_top t_deep t_isWhole t_s) → lv_has ls 5 [(0, .ref q_t), (1, .int x1), (2, .int x2), (3, .int x3), (4, .int x4)] → k_20 x1 x2 x3 x4 c_t_thrown = some (r, r_t_thrown) → W p l e rm_X12_clock s m args below meth c H locs 0 0 (MQ below (zQ G w0 (wd_X12_clock cy q_t q_t_tape q_t_s q_t_h q_t_read q_t_names q_t_reserved q_t_undone q_t_before q_t_comeRow q_t_shown q_t_text q_t_toldAt q_t_stack q_t_truths q_t_imaged q_t_namesKept q_t_areKept r_t_thrown t_length t_size t_p t_limit t_token t_at t_span t_number t_fault t_faultAt t_word t_got t_lines t_hasWait t_undoMany t_firstMinute t_lookClock t_hasTime t_latestMost t_textMany t_seed t_toldMany t_hasTold t_codes t_ones t_top t_deep t_isWhole t_s) s.heap.size (some (.int r))) args s 0 0 (va_A w0 s.heap.size)) (F0 m 20 ls [])) :
    ∀ (x1 : Int32) (x2 : Int32) (x4 : Int32) (sk0 : Int32) (sk1 : Int32) (c_t_thrown : Int32) (H : Heap) (locs : List Loc) (ls : Array Slot), zH G (va_A w0 s.heap.size) s H locs (wd_X12_clock cy q_t q_t_tape q_t_s q_t_h q_t_read q_t_names q_t_reserved q_t_undone q_t_before q_t_comeRow q_t_shown q_t_text q_t_toldAt q_t_stack q_t_truths q_t_imaged q_t_namesKept q_t_areKept c_t_thrown t_length t_size t_p t_limit t_token t_at t_span t_number t_fault t_faultAt t_word t_got t_lines t_hasWait t_undoMany t_firstMinute t_lookClock t_hasTime t_latestMost t_textMany t_seed t_toldMany t_hasTold t_codes t_ones t_top t_deep t_isWhole t_s) → lv_has ls 5 [(0, .ref q_t), (1, .int x1), (2, .int x2), (4, .int x4)] → f_X12_clock_51 N t_s k_20 x1 x2 x4 sk0 sk1 c_t_thrown = some (r, r_t_thrown) → W p l e rm_X12_clock s m args below meth c H locs 0 0 (MQ below (zQ G w0 (wd_X12_clock cy q_t q_t_tape q_t_s q_t_h q_t_read q_t_names q_t_reserved q_t_undone q_t_before q_t_comeRow q_t_shown q_t_text q_t_toldAt q_t_stack q_t_truths q_t_imaged q_t_namesKept q_t_areKept r_t_thrown t_length t_size t_p t_limit t_token t_at t_span t_number t_fault t_faultAt t_word t_got t_lines t_hasWait t_undoMany t_firstMinute t_lookClock t_hasTime t_latestMost t_textMany t_seed t_toldMany t_hasTold t_codes t_ones t_top t_deep t_isWhole t_s) s.heap.size (some (.int r))) args s 0 0 (va_A w0 s.heap.size)) (F0 m 51 ls [.int sk0, .int sk1]) := by
  obtain ⟨hx, hb, hml, hown, hts⟩ := id S
  intro x1 x2 x4 sk0 sk1 c_t_thrown H locs ls hH hl h
  rw [f_X12_clock_51] at h
  refine lv_iadd hx hb dX12_clock_51 ?_
  obtain ⟨y1, ey1, h⟩ := zbn_e h
  refine z_top ey1 ?_
  clear ey1
  refine lv_istore_n (lv' := [(3, .int y1), (0, .ref q_t), (1, .int x1), (2, .int x2), (4, .int x4)]) hx hb dX12_clock_52 rfl hl (by decide) rfl (fun ls hl => ?_)
  obtain ⟨y2, ey2, h⟩ := zbn_e h
  refine lv_iinc (v := y2) (lv' := [(4, .int y2), (3, .int y1), (0, .ref q_t), (1, .int x1), (2, .int x2)]) hx hb dX12_clock_53 hl (k := 4) rfl (by rw [ey2]; exact congrArg (fun z => x4 + z) (by decide)) (by decide) rfl (fun ls hl => ?_)
  clear ey2
  refine lv_goto (tgt := 20) hx hb dX12_clock_56 (by decide) ?_
  exact hk_20 x1 x2 y1 y2 c_t_thrown _ _ _ hH (lv_sub hl [2, 3, 4, 1, 0] rfl) h
set_option maxHeartbeats 4000000 in
set_option maxRecDepth 100000 in
theorem w_X12_clock_20 {p : Program} {l : Launch} {e : Env} {s : State} {m : MethodId} {args : Array Value} {below : List Frame} {meth : Method} {c : Code} {G : va_G} {cy : Nat → ClassId} {E : Nat → Nat} {w0 : va_W} {N : Nat} {q_t q_t_tape q_t_s q_t_h q_t_read q_t_names q_t_reserved q_t_undone q_t_before q_t_comeRow q_t_shown q_t_text q_t_toldAt q_t_stack q_t_truths q_t_imaged q_t_namesKept q_t_areKept : Nat} {t_length : Int32} {t_size : Int32} {t_p : Int32} {t_limit : Int32} {t_token : Int32} {t_at : Int32} {t_span : Int32} {t_number : Int32} {t_fault : Int32} {t_faultAt : Int32} {t_word : Int64} {t_got : Int32} {t_lines : Int32} {t_hasWait : Int32} {t_undoMany : Int32} {t_firstMinute : Int32} {t_lookClock : Int32} {t_hasTime : Int32} {t_latestMost : Int32} {t_textMany : Int32} {t_seed : Int32} {t_toldMany : Int32} {t_hasTold : Int32} {t_codes : Int32} {t_ones : Int32} {t_top : Int32} {t_deep : Int32} {t_isWhole : Int32} {t_s : Nat → Int32} {r : Int32} {r_t_thrown : Int32} (S : CallFix p m c cX12_clock 5 s args wsX12_clock RX12) (hr : meth.sig.returnType = some .int) (hlocks : meth.locks = false) (hF : zF G cy E (va_A w0 s.heap.size) s) :
    ∀ (n : Nat) (x1 : Int32) (x2 : Int32) (x3 : Int32) (x4 : Int32) (c_t_thrown : Int32) (H : Heap) (locs : List Loc) (ls : Array Slot), zH G (va_A w0 s.heap.size) s H locs (wd_X12_clock cy q_t q_t_tape q_t_s q_t_h q_t_read q_t_names q_t_reserved q_t_undone q_t_before q_t_comeRow q_t_shown q_t_text q_t_toldAt q_t_stack q_t_truths q_t_imaged q_t_namesKept q_t_areKept c_t_thrown t_length t_size t_p t_limit t_token t_at t_span t_number t_fault t_faultAt t_word t_got t_lines t_hasWait t_undoMany t_firstMinute t_lookClock t_hasTime t_latestMost t_textMany t_seed t_toldMany t_hasTold t_codes t_ones t_top t_deep t_isWhole t_s) → lv_has ls 5 [(0, .ref q_t), (1, .int x1), (2, .int x2), (3, .int x3), (4, .int x4)] → f_X12_clock_20 N t_s n x1 x2 x3 x4 c_t_thrown = some (r, r_t_thrown) → W p l e rm_X12_clock s m args below meth c H locs 0 0 (MQ below (zQ G w0 (wd_X12_clock cy q_t q_t_tape q_t_s q_t_h q_t_read q_t_names q_t_reserved q_t_undone q_t_before q_t_comeRow q_t_shown q_t_text q_t_toldAt q_t_stack q_t_truths q_t_imaged q_t_namesKept q_t_areKept r_t_thrown t_length t_size t_p t_limit t_token t_at t_span t_number t_fault t_faultAt t_word t_got t_lines t_hasWait t_undoMany t_firstMinute t_lookClock t_hasTime t_latestMost t_textMany t_seed t_toldMany t_hasTold t_codes t_ones t_top t_deep t_isWhole t_s) s.heap.size (some (.int r))) args s 0 0 (va_A w0 s.heap.size)) (F0 m 20 ls []) := by
  obtain ⟨hx, hb, hml, hown, hts⟩ := id S
  intro n
  induction n with
  | zero =>
    intro x1 x2 x3 x4 c_t_thrown H locs ls hH hl h
    rw [f_X12_clock_20] at h
    cases h
  | succ n ih =>
    intro x1 x2 x3 x4 c_t_thrown H locs ls hH hl h
    rw [f_X12_clock_20] at h
    refine lv_iload hx hb dX12_clock_20 (lv_at hl 4 rfl) ?_
    refine lv_aload_n hx hb dX12_clock_22 rfl (lv_at hl 0 rfl) ?_
    refine z_get S hF hH iX12_clock_X12 0 rfl rfl 6 (by decide) (List.mem_of_getElem? (i := 2) rfl) rfl dX12_clock_23 ?_
    refine lv_iconst (v := 1) hx hb dX12_clock_26 (by decide) ?_
    refine z_iald (j := 1) S hF hH 1 rfl (by decide) rfl dX12_clock_27 ?_
    refine lv_icmp_ge (tgt := 59) hx hb dX12_clock_28 (by decide) (fun b28 => ?_) (fun b28 => ?_)
    · replace h := zif_t b28 h
      refine lv_iload_n hx hb dX12_clock_59 rfl (lv_at hl 2 rfl) ?_
      by_cases b60_0 : x2 = 0
      · replace h := zif_t b60_0 h
        refine lv_tableIn (tgt := 96) hx hb dX12_clock_60 (by rw [b60_0]; decide) (by rw [b60_0]; decide) (by rw [b60_0]; rfl) (by decide) ?_
        refine lv_aload_n hx hb dX12_clock_96 rfl (lv_at hl 0 rfl) ?_
        refine z_get S hF hH iX12_clock_X12 0 rfl rfl 6 (by decide) (List.mem_of_getElem? (i := 2) rfl) rfl dX12_clock_97 ?_
        refine lv_iconst (v := 4) hx hb dX12_clock_100 (by decide) ?_
        refine lv_iload_n hx hb dX12_clock_101 rfl (lv_at hl 1 rfl) ?_
        refine lv_iadd hx hb dX12_clock_102 ?_
        obtain ⟨h103, h⟩ := zck_e h
        refine z_iald S hF hH 1 rfl h103 rfl dX12_clock_103 ?_
        cases h
        exact z_iret S hr hlocks hH dX12_clock_104
      · replace h := zif_f b60_0 h
        by_cases b60_1 : x2 = 1
        · replace h := zif_t b60_1 h
          refine lv_tableIn (tgt := 105) hx hb dX12_clock_60 (by rw [b60_1]; decide) (by rw [b60_1]; decide) (by rw [b60_1]; rfl) (by decide) ?_
          refine lv_aload_n hx hb dX12_clock_105 rfl (lv_at hl 0 rfl) ?_
          refine z_get S hF hH iX12_clock_X12 0 rfl rfl 6 (by decide) (List.mem_of_getElem? (i := 2) rfl) rfl dX12_clock_106 ?_
          refine lv_bipush (v := 16) hx hb dX12_clock_109 (by decide) ?_
          refine lv_iload_n hx hb dX12_clock_111 rfl (lv_at hl 1 rfl) ?_
          refine lv_iadd hx hb dX12_clock_112 ?_
          obtain ⟨h113, h⟩ := zck_e h
          refine z_iald S hF hH 1 rfl h113 rfl dX12_clock_113 ?_
          cases h
          exact z_iret S hr hlocks hH dX12_clock_114
        · replace h := zif_f b60_1 h
          by_cases b60_2 : x2 = 2
          · replace h := zif_t b60_2 h
            refine lv_tableIn (tgt := 115) hx hb dX12_clock_60 (by rw [b60_2]; decide) (by rw [b60_2]; decide) (by rw [b60_2]; rfl) (by decide) ?_
            refine lv_aload_n hx hb dX12_clock_115 rfl (lv_at hl 0 rfl) ?_
            refine lv_iload_n hx hb dX12_clock_116 rfl (lv_at hl 1 rfl) ?_
            obtain ⟨z117, hz117, h⟩ := zcl_e h
            refine z_callV (As := [.int x1]) (rest := []) (st1 := [.int z117]) (ws' := (wd_X12_clock cy q_t q_t_tape q_t_s q_t_h q_t_read q_t_names q_t_reserved q_t_undone q_t_before q_t_comeRow q_t_shown q_t_text q_t_toldAt q_t_stack q_t_truths q_t_imaged q_t_namesKept q_t_areKept c_t_thrown t_length t_size t_p t_limit t_token t_at t_span t_number t_fault t_faultAt t_word t_got t_lines t_hasWait t_undoMany t_firstMinute t_lookClock t_hasTime t_latestMost t_textMany t_seed t_toldMany t_hasTold t_codes t_ones t_top t_deep t_isWhole t_s)) S hF hH (c_X12_isStopped l G cy E N q_t q_t_tape q_t_s q_t_h q_t_read q_t_names q_t_reserved q_t_undone q_t_before q_t_comeRow q_t_shown q_t_text q_t_toldAt q_t_stack q_t_truths q_t_imaged q_t_namesKept q_t_areKept c_t_thrown t_length t_size t_p t_limit t_token t_at t_span t_number t_fault t_faultAt t_word t_got t_lines t_hasWait t_undoMany t_firstMinute t_lookClock t_hasTime t_latestMost t_textMany t_seed t_toldMany t_hasTold t_codes t_ones t_top t_deep t_isWhole t_s x1 z117 hz117) (cwV 1 hts gX12_clock_X12_isStopped rfl rfl rfl (by decide +kernel) ⟨Nat.le_of_ble_eq_true rfl, Nat.le_of_ble_eq_true rfl⟩) 13 0 rfl rfl [0, 1] rfl (by decide) rfl rfl rfl rfl rfl hl.1 (Nat.le_of_ble_eq_true rfl) dX12_clock_117 ⟨Nat.le_of_ble_eq_true rfl, Nat.le_of_ble_eq_true rfl⟩ (fun H locs hH => ?_)
            refine lv_if_eq (tgt := 127) hx hb dX12_clock_120 (by decide) (fun b120 => ?_) (fun b120 => ?_)
            · replace h := zif_t b120 h
              refine lv_iconst (v := 0) hx hb dX12_clock_127 (by decide) ?_
              cases h
              exact z_iret S hr hlocks hH dX12_clock_128
            · replace h := zif_f b120 h
              refine lv_iconst (v := 1) hx hb dX12_clock_123 (by decide) ?_
              refine lv_goto (tgt := 128) hx hb dX12_clock_124 (by decide) ?_
              cases h
              exact z_iret S hr hlocks hH dX12_clock_128
          · replace h := zif_f b60_2 h
            by_cases b60_3 : x2 = 3
            · replace h := zif_t b60_3 h
              refine lv_tableIn (tgt := 129) hx hb dX12_clock_60 (by rw [b60_3]; decide) (by rw [b60_3]; decide) (by rw [b60_3]; rfl) (by decide) ?_
              refine lv_aload_n hx hb dX12_clock_129 rfl (lv_at hl 0 rfl) ?_
              refine lv_iload_n hx hb dX12_clock_130 rfl (lv_at hl 1 rfl) ?_
              refine lv_aload_n hx hb dX12_clock_131 rfl (lv_at hl 0 rfl) ?_
              refine z_get S hF hH iX12_clock_X12 0 rfl rfl 6 (by decide) (List.mem_of_getElem? (i := 2) rfl) rfl dX12_clock_132 ?_
              refine lv_bipush (v := 52) hx hb dX12_clock_135 (by decide) ?_
              refine z_iald (j := 52) S hF hH 1 rfl (by decide) rfl dX12_clock_137 ?_
              obtain ⟨z138, hz138, h⟩ := zcl_e h
              refine z_callV (As := [.int x1, .int (t_s 52)]) (rest := []) (st1 := [.int z138]) (ws' := (wd_X12_clock cy q_t q_t_tape q_t_s q_t_h q_t_read q_t_names q_t_reserved q_t_undone q_t_before q_t_comeRow q_t_shown q_t_text q_t_toldAt q_t_stack q_t_truths q_t_imaged q_t_namesKept q_t_areKept c_t_thrown t_length t_size t_p t_limit t_token t_at t_span t_number t_fault t_faultAt t_word t_got t_lines t_hasWait t_undoMany t_firstMinute t_lookClock t_hasTime t_latestMost t_textMany t_seed t_toldMany t_hasTold t_codes t_ones t_top t_deep t_isWhole t_s)) S hF hH (c_X12_showsAt l G cy E N q_t q_t_tape q_t_s q_t_h q_t_read q_t_names q_t_reserved q_t_undone q_t_before q_t_comeRow q_t_shown q_t_text q_t_toldAt q_t_stack q_t_truths q_t_imaged q_t_namesKept q_t_areKept c_t_thrown t_length t_size t_p t_limit t_token t_at t_span t_number t_fault t_faultAt t_word t_got t_lines t_hasWait t_undoMany t_firstMinute t_lookClock t_hasTime t_latestMost t_textMany t_seed t_toldMany t_hasTold t_codes t_ones t_top t_deep t_isWhole t_s x1 (t_s 52) z138 hz138) (cwV 2 hts gX12_clock_X12_showsAt rfl rfl rfl (by decide +kernel) ⟨Nat.le_of_ble_eq_true rfl, Nat.le_of_ble_eq_true rfl⟩) 13 0 rfl rfl [0, 1] rfl (by decide) rfl rfl rfl rfl rfl hl.1 (Nat.le_of_ble_eq_true rfl) dX12_clock_138 ⟨Nat.le_of_ble_eq_true rfl, Nat.le_of_ble_eq_true rfl⟩ (fun H locs hH => ?_)
              cases h
              exact z_iret S hr hlocks hH dX12_clock_141
            · replace h := zif_f b60_3 h
              by_cases b60_4 : x2 = 4
              · replace h := zif_t b60_4 h
                refine lv_tableIn (tgt := 142) hx hb dX12_clock_60 (by rw [b60_4]; decide) (by rw [b60_4]; decide) (by rw [b60_4]; rfl) (by decide) ?_
                refine lv_iload_n hx hb dX12_clock_142 rfl (lv_at hl 3 rfl) ?_
                cases h
                exact z_iret S hr hlocks hH dX12_clock_143
              · replace h := zif_f b60_4 h
                refine lv_tableOut (tgt := 144) hx hb dX12_clock_60 (z_sw (fun k h1 h2 => by rcases (show k = 0 ∨ k = 1 ∨ k = 2 ∨ k = 3 ∨ k = 4 by omega) with rfl | rfl | rfl | rfl | rfl <;> assumption)) (by decide) ?_
                refine lv_iconst (v := (-1)) hx hb dX12_clock_144 (by decide) ?_
                cases h
                exact z_iret S hr hlocks hH dX12_clock_145
    · replace h := zif_f b28 h
      refine lv_iload_n hx hb dX12_clock_31 rfl (lv_at hl 3 rfl) ?_
      refine lv_aload_n hx hb dX12_clock_32 rfl (lv_at hl 0 rfl) ?_
      refine z_get S hF hH iX12_clock_X12 0 rfl rfl 6 (by decide) (List.mem_of_getElem? (i := 2) rfl) rfl dX12_clock_33 ?_
      refine lv_bipush (v := 34) hx hb dX12_clock_36 (by decide) ?_
      refine lv_iload hx hb dX12_clock_38 (lv_at hl 4 rfl) ?_
      refine lv_iadd hx hb dX12_clock_40 ?_
      obtain ⟨h41, h⟩ := zck_e h
      refine z_iald S hF hH 1 rfl h41 rfl dX12_clock_41 ?_
      refine lv_iload_n hx hb dX12_clock_42 rfl (lv_at hl 1 rfl) ?_
      refine lv_icmp_ne (tgt := 50) hx hb dX12_clock_43 (by decide) (fun b43 => ?_) (fun b43 => ?_)
      · replace h := zif_f b43 h
        refine lv_iconst (v := 0) hx hb dX12_clock_50 (by decide) ?_
        exact w_X12_clock_51 S hr hlocks hF ih x1 x2 x4 0 x3 c_t_thrown _ _ _ hH (lv_sub hl [0, 1, 2, 4] rfl) h
      · replace h := zif_t b43 h
        refine lv_iconst (v := 1) hx hb dX12_clock_46 (by decide) ?_
        refine lv_goto (tgt := 51) hx hb dX12_clock_47 (by decide) ?_
        exact w_X12_clock_51 S hr hlocks hF ih x1 x2 x4 1 x3 c_t_thrown _ _ _ hH (lv_sub hl [0, 1, 2, 4] rfl) h
set_option maxHeartbeats 4000000 in
set_option maxRecDepth 100000 in
theorem c_X12_clock (l : Launch) (G : va_G) (cy : Nat → ClassId) (E : Nat → Nat) (N : Nat) (q_t q_t_tape q_t_s q_t_h q_t_read q_t_names q_t_reserved q_t_undone q_t_before q_t_comeRow q_t_shown q_t_text q_t_toldAt q_t_stack q_t_truths q_t_imaged q_t_namesKept q_t_areKept : Nat) (t_thrown : Int32) (t_length : Int32) (t_size : Int32) (t_p : Int32) (t_limit : Int32) (t_token : Int32) (t_at : Int32) (t_span : Int32) (t_number : Int32) (t_fault : Int32) (t_faultAt : Int32) (t_word : Int64) (t_got : Int32) (t_lines : Int32) (t_hasWait : Int32) (t_undoMany : Int32) (t_firstMinute : Int32) (t_lookClock : Int32) (t_hasTime : Int32) (t_latestMost : Int32) (t_textMany : Int32) (t_seed : Int32) (t_toldMany : Int32) (t_hasTold : Int32) (t_codes : Int32) (t_ones : Int32) (t_top : Int32) (t_deep : Int32) (t_isWhole : Int32) (t_s : Nat → Int32) (x0 : Int32) (x1 : Int32) (r : Int32) (r_t_thrown : Int32) (h : f_X12_clock N x0 x1 t_thrown t_s = some (r, r_t_thrown)) : zM l G cy E yX12_clock wsX12_clock rm_X12_clock [.ref q_t, .int x0, .int x1] (wd_X12_clock cy q_t q_t_tape q_t_s q_t_h q_t_read q_t_names q_t_reserved q_t_undone q_t_before q_t_comeRow q_t_shown q_t_text q_t_toldAt q_t_stack q_t_truths q_t_imaged q_t_namesKept q_t_areKept t_thrown t_length t_size t_p t_limit t_token t_at t_span t_number t_fault t_faultAt t_word t_got t_lines t_hasWait t_undoMany t_firstMinute t_lookClock t_hasTime t_latestMost t_textMany t_seed t_toldMany t_hasTold t_codes t_ones t_top t_deep t_isWhole t_s) (wd_X12_clock cy q_t q_t_tape q_t_s q_t_h q_t_read q_t_names q_t_reserved q_t_undone q_t_before q_t_comeRow q_t_shown q_t_text q_t_toldAt q_t_stack q_t_truths q_t_imaged q_t_namesKept q_t_areKept r_t_thrown t_length t_size t_p t_limit t_token t_at t_span t_number t_fault t_faultAt t_word t_got t_lines t_hasWait t_undoMany t_firstMinute t_lookClock t_hasTime t_latestMost t_textMany t_seed t_toldMany t_hasTold t_codes t_ones t_top t_deep t_isWhole t_s) (some (.int r)) 0 0 := by
  refine z_body (cc := cX12_clock) (maxL := 5) (ret := some .int) (by decide) rfl (Nat.le_of_ble_eq_true rfl) ?_
  intro p e s m below meth c ls S hr hlocks hnm hF hH hl
  have S : CallFix p m c cX12_clock 5 s ([.ref q_t, .int x0, .int x1] : List Value).toArray wsX12_clock RX12 := S
  obtain ⟨hx, hb, hml, hown, hts⟩ := id S
  have hl : lv_has ls 5 [(0, .ref q_t), (1, .int x0), (2, .int x1)] := hl
  rw [f_X12_clock] at h
  refine lv_aload_n hx hb dX12_clock_0 rfl (lv_at hl 0 rfl) ?_
  refine lv_iconst (v := 0) hx hb dX12_clock_1 (by decide) ?_
  refine z_put (ws' := (wd_X12_clock cy q_t q_t_tape q_t_s q_t_h q_t_read q_t_names q_t_reserved q_t_undone q_t_before q_t_comeRow q_t_shown q_t_text q_t_toldAt q_t_stack q_t_truths q_t_imaged q_t_namesKept q_t_areKept 0 t_length t_size t_p t_limit t_token t_at t_span t_number t_fault t_faultAt t_word t_got t_lines t_hasWait t_undoMany t_firstMinute t_lookClock t_hasTime t_latestMost t_textMany t_seed t_toldMany t_hasTold t_codes t_ones t_top t_deep t_isWhole t_s)) S hF hH iX12_clock_X12 tyX12 tyX12_ok nmX12 0 rfl rfl 0 (by decide) (List.mem_of_getElem? (i := 1) rfl) rfl rfl rfl (Nat.le_of_ble_eq_true rfl) rfl dX12_clock_2 (fun H locs hH => ?_)
  refine lv_aload_n hx hb dX12_clock_5 rfl (lv_at hl 0 rfl) ?_
  refine lv_iload_n hx hb dX12_clock_6 rfl (lv_at hl 1 rfl) ?_
  obtain ⟨z7, hz7, h⟩ := zcl_e h
  refine z_callV (As := [.int x0]) (rest := []) (st1 := [.int z7]) (ws' := (wd_X12_clock cy q_t q_t_tape q_t_s q_t_h q_t_read q_t_names q_t_reserved q_t_undone q_t_before q_t_comeRow q_t_shown q_t_text q_t_toldAt q_t_stack q_t_truths q_t_imaged q_t_namesKept q_t_areKept 0 t_length t_size t_p t_limit t_token t_at t_span t_number t_fault t_faultAt t_word t_got t_lines t_hasWait t_undoMany t_firstMinute t_lookClock t_hasTime t_latestMost t_textMany t_seed t_toldMany t_hasTold t_codes t_ones t_top t_deep t_isWhole t_s)) S hF hH (c_X12_isClock l G cy E N q_t q_t_tape q_t_s q_t_h q_t_read q_t_names q_t_reserved q_t_undone q_t_before q_t_comeRow q_t_shown q_t_text q_t_toldAt q_t_stack q_t_truths q_t_imaged q_t_namesKept q_t_areKept 0 t_length t_size t_p t_limit t_token t_at t_span t_number t_fault t_faultAt t_word t_got t_lines t_hasWait t_undoMany t_firstMinute t_lookClock t_hasTime t_latestMost t_textMany t_seed t_toldMany t_hasTold t_codes t_ones t_top t_deep t_isWhole t_s x0 z7 hz7) (cwV 1 hts gX12_clock_X12_isClock rfl rfl rfl (by decide +kernel) ⟨Nat.le_of_ble_eq_true rfl, Nat.le_of_ble_eq_true rfl⟩) 13 0 rfl rfl [0, 1] rfl (by decide) rfl rfl rfl rfl rfl hl.1 (Nat.le_of_ble_eq_true rfl) dX12_clock_7 ⟨Nat.le_of_ble_eq_true rfl, Nat.le_of_ble_eq_true rfl⟩ (fun H locs hH => ?_)
  refine lv_if_ne (tgt := 15) hx hb dX12_clock_10 (by decide) (fun b10 => ?_) (fun b10 => ?_)
  · replace h := zif_f b10 h
    refine lv_iconst (v := 0) hx hb dX12_clock_15 (by decide) ?_
    refine lv_istore_n (lv' := [(3, .int 0), (0, .ref q_t), (1, .int x0), (2, .int x1)]) hx hb dX12_clock_16 rfl hl (by decide) rfl (fun ls hl => ?_)
    refine lv_iconst (v := 0) hx hb dX12_clock_17 (by decide) ?_
    refine lv_istore (lv' := [(4, .int 0), (3, .int 0), (0, .ref q_t), (1, .int x0), (2, .int x1)]) hx hb dX12_clock_18 hl (by decide) rfl (fun ls hl => ?_)
    exact w_X12_clock_20 S hr hlocks hF N x0 x1 0 0 0 _ _ _ hH (lv_sub hl [2, 3, 4, 1, 0] rfl) h
  · replace h := zif_t b10 h
    refine lv_iconst (v := (-1)) hx hb dX12_clock_13 (by decide) ?_
    cases h
    exact z_iret S hr hlocks hH dX12_clock_14
abbrev wd_X12_wrong (cy : Nat → ClassId) (q_t q_t_tape q_t_s q_t_h q_t_read q_t_names q_t_reserved q_t_undone q_t_before q_t_comeRow q_t_shown q_t_text q_t_toldAt q_t_stack q_t_truths q_t_imaged q_t_namesKept q_t_areKept : Nat) (t_thrown : Int32) (t_length : Int32) (t_size : Int32) (t_p : Int32) (t_limit : Int32) (t_token : Int32) (t_at : Int32) (t_span : Int32) (t_number : Int32) (t_fault : Int32) (t_faultAt : Int32) (t_word : Int64) (t_got : Int32) (t_lines : Int32) (t_hasWait : Int32) (t_undoMany : Int32) (t_firstMinute : Int32) (t_lookClock : Int32) (t_hasTime : Int32) (t_latestMost : Int32) (t_textMany : Int32) (t_seed : Int32) (t_toldMany : Int32) (t_hasTold : Int32) (t_codes : Int32) (t_ones : Int32) (t_top : Int32) (t_deep : Int32) (t_isWhole : Int32) (t_s : Nat → Int32) : va_W := [(q_t, .inr (13, [.int t_thrown, .ref q_t_tape, .int t_length, .int t_size, .int t_p, .int t_limit, .ref q_t_s, .ref q_t_h, .ref q_t_read, .ref q_t_names, .ref q_t_reserved, .int t_token, .int t_at, .int t_span, .int t_number, .int t_fault, .int t_faultAt, .long t_word, .int t_got, .int t_lines, .int t_hasWait, .ref q_t_undone, .ref q_t_before, .int t_undoMany, .ref q_t_comeRow, .int t_firstMinute, .int t_lookClock, .int t_hasTime, .ref q_t_shown, .int t_latestMost, .ref q_t_text, .int t_textMany, .int t_seed, .int t_toldMany, .ref q_t_toldAt, .int t_hasTold, .ref q_t_stack, .int t_codes, .int t_ones, .int t_top, .int t_deep, .int t_isWhole, .ref q_t_truths, .ref q_t_imaged, .ref q_t_namesKept, .ref q_t_areKept])), (q_t_s, .inl (cy 1, 334, .inl t_s))]
abbrev rm_X12_wrong : Room := { frames := 4, cells := 0, slots := 0, locals := 85 }
set_option maxRecDepth 100000 in
def f_X12_wrong_14 (N : Nat) (t_s : Nat → Int32) (x1 : Int32) (sk0 : Int32) (c_t_thrown : Int32) : Option (Int32 × Int32) := zcl (f_X12_throwsIf N sk0 c_t_thrown) fun z14 => if z14.1 = 0 then (zcl (f_X12_wrongBy N x1 t_s) fun z24 => some (z24, z14.2)) else (some (0, z14.2))
set_option maxRecDepth 100000 in
def f_X12_wrong (N : Nat) (x0 : Int32) (t_thrown : Int32) (t_s : Nat → Int32) : Option (Int32 × Int32) := zcl (f_X12_isClock N x0 t_s) fun z3 => if z3 = 0 then (f_X12_wrong_14 N t_s x0 1 t_thrown) else (f_X12_wrong_14 N t_s x0 0 t_thrown)
set_option maxHeartbeats 4000000 in
set_option maxRecDepth 100000 in
theorem w_X12_wrong_14 {p : Program} {l : Launch} {e : Env} {s : State} {m : MethodId} {args : Array Value} {below : List Frame} {meth : Method} {c : Code} {G : va_G} {cy : Nat → ClassId} {E : Nat → Nat} {w0 : va_W} {N : Nat} {q_t q_t_tape q_t_s q_t_h q_t_read q_t_names q_t_reserved q_t_undone q_t_before q_t_comeRow q_t_shown q_t_text q_t_toldAt q_t_stack q_t_truths q_t_imaged q_t_namesKept q_t_areKept : Nat} {t_length : Int32} {t_size : Int32} {t_p : Int32} {t_limit : Int32} {t_token : Int32} {t_at : Int32} {t_span : Int32} {t_number : Int32} {t_fault : Int32} {t_faultAt : Int32} {t_word : Int64} {t_got : Int32} {t_lines : Int32} {t_hasWait : Int32} {t_undoMany : Int32} {t_firstMinute : Int32} {t_lookClock : Int32} {t_hasTime : Int32} {t_latestMost : Int32} {t_textMany : Int32} {t_seed : Int32} {t_toldMany : Int32} {t_hasTold : Int32} {t_codes : Int32} {t_ones : Int32} {t_top : Int32} {t_deep : Int32} {t_isWhole : Int32} {t_s : Nat → Int32} {r : Int32} {r_t_thrown : Int32} (S : CallFix p m c cX12_wrong 2 s args wsX12_wrong RX12) (hr : meth.sig.returnType = some .int) (hlocks : meth.locks = false) (hF : zF G cy E (va_A w0 s.heap.size) s) :
    ∀ (x1 : Int32) (sk0 : Int32) (c_t_thrown : Int32) (H : Heap) (locs : List Loc) (ls : Array Slot), zH G (va_A w0 s.heap.size) s H locs (wd_X12_wrong cy q_t q_t_tape q_t_s q_t_h q_t_read q_t_names q_t_reserved q_t_undone q_t_before q_t_comeRow q_t_shown q_t_text q_t_toldAt q_t_stack q_t_truths q_t_imaged q_t_namesKept q_t_areKept c_t_thrown t_length t_size t_p t_limit t_token t_at t_span t_number t_fault t_faultAt t_word t_got t_lines t_hasWait t_undoMany t_firstMinute t_lookClock t_hasTime t_latestMost t_textMany t_seed t_toldMany t_hasTold t_codes t_ones t_top t_deep t_isWhole t_s) → lv_has ls 2 [(0, .ref q_t), (1, .int x1)] → f_X12_wrong_14 N t_s x1 sk0 c_t_thrown = some (r, r_t_thrown) → W p l e rm_X12_wrong s m args below meth c H locs 0 0 (MQ below (zQ G w0 (wd_X12_wrong cy q_t q_t_tape q_t_s q_t_h q_t_read q_t_names q_t_reserved q_t_undone q_t_before q_t_comeRow q_t_shown q_t_text q_t_toldAt q_t_stack q_t_truths q_t_imaged q_t_namesKept q_t_areKept r_t_thrown t_length t_size t_p t_limit t_token t_at t_span t_number t_fault t_faultAt t_word t_got t_lines t_hasWait t_undoMany t_firstMinute t_lookClock t_hasTime t_latestMost t_textMany t_seed t_toldMany t_hasTold t_codes t_ones t_top t_deep t_isWhole t_s) s.heap.size (some (.int r))) args s 0 0 (va_A w0 s.heap.size)) (F0 m 14 ls [.int sk0, .ref q_t]) := by
  obtain ⟨hx, hb, hml, hown, hts⟩ := id S
  intro x1 sk0 c_t_thrown H locs ls hH hl h
  rw [f_X12_wrong_14] at h
  obtain ⟨z14, hz14, h⟩ := zcl_e h
  refine z_callV (As := [.int sk0]) (rest := []) (st1 := [.int z14.1]) (ws' := (wd_X12_wrong cy q_t q_t_tape q_t_s q_t_h q_t_read q_t_names q_t_reserved q_t_undone q_t_before q_t_comeRow q_t_shown q_t_text q_t_toldAt q_t_stack q_t_truths q_t_imaged q_t_namesKept q_t_areKept z14.2 t_length t_size t_p t_limit t_token t_at t_span t_number t_fault t_faultAt t_word t_got t_lines t_hasWait t_undoMany t_firstMinute t_lookClock t_hasTime t_latestMost t_textMany t_seed t_toldMany t_hasTold t_codes t_ones t_top t_deep t_isWhole t_s)) S hF hH (c_X12_throwsIf l G cy E N q_t q_t_tape q_t_s q_t_h q_t_read q_t_names q_t_reserved q_t_undone q_t_before q_t_comeRow q_t_shown q_t_text q_t_toldAt q_t_stack q_t_truths q_t_imaged q_t_namesKept q_t_areKept c_t_thrown t_length t_size t_p t_limit t_token t_at t_span t_number t_fault t_faultAt t_word t_got t_lines t_hasWait t_undoMany t_firstMinute t_lookClock t_hasTime t_latestMost t_textMany t_seed t_toldMany t_hasTold t_codes t_ones t_top t_deep t_isWhole sk0 z14.1 z14.2 hz14) (cwV 1 hts gX12_wrong_X12_throwsIf rfl rfl rfl (by decide +kernel) ⟨Nat.le_of_ble_eq_true rfl, Nat.le_of_ble_eq_true rfl⟩) 13 0 rfl rfl [0] rfl (by decide) rfl rfl rfl rfl rfl hl.1 (Nat.le_of_ble_eq_true rfl) dX12_wrong_14 ⟨Nat.le_of_ble_eq_true rfl, Nat.le_of_ble_eq_true rfl⟩ (fun H locs hH => ?_)
  refine lv_if_eq (tgt := 22) hx hb dX12_wrong_17 (by decide) (fun b17 => ?_) (fun b17 => ?_)
  · replace h := zif_t b17 h
    refine lv_aload_n hx hb dX12_wrong_22 rfl (lv_at hl 0 rfl) ?_
    refine lv_iload_n hx hb dX12_wrong_23 rfl (lv_at hl 1 rfl) ?_
    obtain ⟨z24, hz24, h⟩ := zcl_e h
    refine z_callV (As := [.int x1]) (rest := []) (st1 := [.int z24]) (ws' := (wd_X12_wrong cy q_t q_t_tape q_t_s q_t_h q_t_read q_t_names q_t_reserved q_t_undone q_t_before q_t_comeRow q_t_shown q_t_text q_t_toldAt q_t_stack q_t_truths q_t_imaged q_t_namesKept q_t_areKept z14.2 t_length t_size t_p t_limit t_token t_at t_span t_number t_fault t_faultAt t_word t_got t_lines t_hasWait t_undoMany t_firstMinute t_lookClock t_hasTime t_latestMost t_textMany t_seed t_toldMany t_hasTold t_codes t_ones t_top t_deep t_isWhole t_s)) S hF hH (c_X12_wrongBy l G cy E N q_t q_t_tape q_t_s q_t_h q_t_read q_t_names q_t_reserved q_t_undone q_t_before q_t_comeRow q_t_shown q_t_text q_t_toldAt q_t_stack q_t_truths q_t_imaged q_t_namesKept q_t_areKept z14.2 t_length t_size t_p t_limit t_token t_at t_span t_number t_fault t_faultAt t_word t_got t_lines t_hasWait t_undoMany t_firstMinute t_lookClock t_hasTime t_latestMost t_textMany t_seed t_toldMany t_hasTold t_codes t_ones t_top t_deep t_isWhole t_s x1 z24 hz24) (cwV 1 hts gX12_wrong_X12_wrongBy rfl rfl rfl (by decide +kernel) ⟨Nat.le_of_ble_eq_true rfl, Nat.le_of_ble_eq_true rfl⟩) 13 0 rfl rfl [0, 1] rfl (by decide) rfl rfl rfl rfl rfl hl.1 (Nat.le_of_ble_eq_true rfl) dX12_wrong_24 ⟨Nat.le_of_ble_eq_true rfl, Nat.le_of_ble_eq_true rfl⟩ (fun H locs hH => ?_)
    cases h
    exact z_iret S hr hlocks hH dX12_wrong_27
  · replace h := zif_f b17 h
    refine lv_iconst (v := 0) hx hb dX12_wrong_20 (by decide) ?_
    cases h
    exact z_iret S hr hlocks hH dX12_wrong_21
set_option maxHeartbeats 4000000 in
set_option maxRecDepth 100000 in
theorem c_X12_wrong (l : Launch) (G : va_G) (cy : Nat → ClassId) (E : Nat → Nat) (N : Nat) (q_t q_t_tape q_t_s q_t_h q_t_read q_t_names q_t_reserved q_t_undone q_t_before q_t_comeRow q_t_shown q_t_text q_t_toldAt q_t_stack q_t_truths q_t_imaged q_t_namesKept q_t_areKept : Nat) (t_thrown : Int32) (t_length : Int32) (t_size : Int32) (t_p : Int32) (t_limit : Int32) (t_token : Int32) (t_at : Int32) (t_span : Int32) (t_number : Int32) (t_fault : Int32) (t_faultAt : Int32) (t_word : Int64) (t_got : Int32) (t_lines : Int32) (t_hasWait : Int32) (t_undoMany : Int32) (t_firstMinute : Int32) (t_lookClock : Int32) (t_hasTime : Int32) (t_latestMost : Int32) (t_textMany : Int32) (t_seed : Int32) (t_toldMany : Int32) (t_hasTold : Int32) (t_codes : Int32) (t_ones : Int32) (t_top : Int32) (t_deep : Int32) (t_isWhole : Int32) (t_s : Nat → Int32) (x0 : Int32) (r : Int32) (r_t_thrown : Int32) (h : f_X12_wrong N x0 t_thrown t_s = some (r, r_t_thrown)) : zM l G cy E yX12_wrong wsX12_wrong rm_X12_wrong [.ref q_t, .int x0] (wd_X12_wrong cy q_t q_t_tape q_t_s q_t_h q_t_read q_t_names q_t_reserved q_t_undone q_t_before q_t_comeRow q_t_shown q_t_text q_t_toldAt q_t_stack q_t_truths q_t_imaged q_t_namesKept q_t_areKept t_thrown t_length t_size t_p t_limit t_token t_at t_span t_number t_fault t_faultAt t_word t_got t_lines t_hasWait t_undoMany t_firstMinute t_lookClock t_hasTime t_latestMost t_textMany t_seed t_toldMany t_hasTold t_codes t_ones t_top t_deep t_isWhole t_s) (wd_X12_wrong cy q_t q_t_tape q_t_s q_t_h q_t_read q_t_names q_t_reserved q_t_undone q_t_before q_t_comeRow q_t_shown q_t_text q_t_toldAt q_t_stack q_t_truths q_t_imaged q_t_namesKept q_t_areKept r_t_thrown t_length t_size t_p t_limit t_token t_at t_span t_number t_fault t_faultAt t_word t_got t_lines t_hasWait t_undoMany t_firstMinute t_lookClock t_hasTime t_latestMost t_textMany t_seed t_toldMany t_hasTold t_codes t_ones t_top t_deep t_isWhole t_s) (some (.int r)) 0 0 := by
  refine z_body (cc := cX12_wrong) (maxL := 2) (ret := some .int) (by decide) rfl (Nat.le_of_ble_eq_true rfl) ?_
  intro p e s m below meth c ls S hr hlocks hnm hF hH hl
  have S : CallFix p m c cX12_wrong 2 s ([.ref q_t, .int x0] : List Value).toArray wsX12_wrong RX12 := S
  obtain ⟨hx, hb, hml, hown, hts⟩ := id S
  have hl : lv_has ls 2 [(0, .ref q_t), (1, .int x0)] := hl
  rw [f_X12_wrong] at h
  refine lv_aload_n hx hb dX12_wrong_0 rfl (lv_at hl 0 rfl) ?_
  refine lv_aload_n hx hb dX12_wrong_1 rfl (lv_at hl 0 rfl) ?_
  refine lv_iload_n hx hb dX12_wrong_2 rfl (lv_at hl 1 rfl) ?_
  obtain ⟨z3, hz3, h⟩ := zcl_e h
  refine z_callV (As := [.int x0]) (rest := [.ref q_t]) (st1 := [.int z3, .ref q_t]) (ws' := (wd_X12_wrong cy q_t q_t_tape q_t_s q_t_h q_t_read q_t_names q_t_reserved q_t_undone q_t_before q_t_comeRow q_t_shown q_t_text q_t_toldAt q_t_stack q_t_truths q_t_imaged q_t_namesKept q_t_areKept t_thrown t_length t_size t_p t_limit t_token t_at t_span t_number t_fault t_faultAt t_word t_got t_lines t_hasWait t_undoMany t_firstMinute t_lookClock t_hasTime t_latestMost t_textMany t_seed t_toldMany t_hasTold t_codes t_ones t_top t_deep t_isWhole t_s)) S hF hH (c_X12_isClock l G cy E N q_t q_t_tape q_t_s q_t_h q_t_read q_t_names q_t_reserved q_t_undone q_t_before q_t_comeRow q_t_shown q_t_text q_t_toldAt q_t_stack q_t_truths q_t_imaged q_t_namesKept q_t_areKept t_thrown t_length t_size t_p t_limit t_token t_at t_span t_number t_fault t_faultAt t_word t_got t_lines t_hasWait t_undoMany t_firstMinute t_lookClock t_hasTime t_latestMost t_textMany t_seed t_toldMany t_hasTold t_codes t_ones t_top t_deep t_isWhole t_s x0 z3 hz3) (cwV 1 hts gX12_wrong_X12_isClock rfl rfl rfl (by decide +kernel) ⟨Nat.le_of_ble_eq_true rfl, Nat.le_of_ble_eq_true rfl⟩) 13 0 rfl rfl [0, 1] rfl (by decide) rfl rfl rfl rfl rfl hl.1 (Nat.le_of_ble_eq_true rfl) dX12_wrong_3 ⟨Nat.le_of_ble_eq_true rfl, Nat.le_of_ble_eq_true rfl⟩ (fun H locs hH => ?_)
  refine lv_if_ne (tgt := 13) hx hb dX12_wrong_6 (by decide) (fun b6 => ?_) (fun b6 => ?_)
  · replace h := zif_f b6 h
    refine lv_iconst (v := 0) hx hb dX12_wrong_13 (by decide) ?_
    exact w_X12_wrong_14 S hr hlocks hF x0 0 t_thrown _ _ _ hH (lv_sub hl [0, 1] rfl) h
  · replace h := zif_t b6 h
    refine lv_iconst (v := 1) hx hb dX12_wrong_9 (by decide) ?_
    refine lv_goto (tgt := 14) hx hb dX12_wrong_10 (by decide) ?_
    exact w_X12_wrong_14 S hr hlocks hF x0 1 t_thrown _ _ _ hH (lv_sub hl [0, 1] rfl) h
abbrev wd_X12_master (cy : Nat → ClassId) (q_t q_t_tape q_t_s q_t_h q_t_read q_t_names q_t_reserved q_t_undone q_t_before q_t_comeRow q_t_shown q_t_text q_t_toldAt q_t_stack q_t_truths q_t_imaged q_t_namesKept q_t_areKept : Nat) (t_thrown : Int32) (t_length : Int32) (t_size : Int32) (t_p : Int32) (t_limit : Int32) (t_token : Int32) (t_at : Int32) (t_span : Int32) (t_number : Int32) (t_fault : Int32) (t_faultAt : Int32) (t_word : Int64) (t_got : Int32) (t_lines : Int32) (t_hasWait : Int32) (t_undoMany : Int32) (t_firstMinute : Int32) (t_lookClock : Int32) (t_hasTime : Int32) (t_latestMost : Int32) (t_textMany : Int32) (t_seed : Int32) (t_toldMany : Int32) (t_hasTold : Int32) (t_codes : Int32) (t_ones : Int32) (t_top : Int32) (t_deep : Int32) (t_isWhole : Int32) (t_s : Nat → Int32) : va_W := [(q_t, .inr (13, [.int t_thrown, .ref q_t_tape, .int t_length, .int t_size, .int t_p, .int t_limit, .ref q_t_s, .ref q_t_h, .ref q_t_read, .ref q_t_names, .ref q_t_reserved, .int t_token, .int t_at, .int t_span, .int t_number, .int t_fault, .int t_faultAt, .long t_word, .int t_got, .int t_lines, .int t_hasWait, .ref q_t_undone, .ref q_t_before, .int t_undoMany, .ref q_t_comeRow, .int t_firstMinute, .int t_lookClock, .int t_hasTime, .ref q_t_shown, .int t_latestMost, .ref q_t_text, .int t_textMany, .int t_seed, .int t_toldMany, .ref q_t_toldAt, .int t_hasTold, .ref q_t_stack, .int t_codes, .int t_ones, .int t_top, .int t_deep, .int t_isWhole, .ref q_t_truths, .ref q_t_imaged, .ref q_t_namesKept, .ref q_t_areKept])), (q_t_s, .inl (cy 1, 334, .inl t_s))]
theorem iX12_master_X12 : ∀ w ∈ wsX120, w ∈ wsX12_master := fun _ h => List.mem_cons_of_mem _ (List.mem_append_right _ h)
abbrev rm_X12_master : Room := { frames := 3, cells := 0, slots := 0, locals := 66 }
set_option maxRecDepth 100000 in
def f_X12_master_19 (N : Nat) (t_s : Nat → Int32) (k_24 : Int32 → Int32 → Int32 → Int32 → Option (Int32 × Int32)) (x1 : Int32) (x2 : Int32) (c_t_thrown : Int32) : Option (Int32 × Int32) := k_24 x1 x2 1 c_t_thrown
set_option maxRecDepth 100000 in
def f_X12_master_24 (N : Nat) (t_s : Nat → Int32) (x1 : Int32) (x2 : Int32) (sk0 : Int32) (c_t_thrown : Int32) : Option (Int32 × Int32) := zcl (f_X12_throwsIf N sk0 c_t_thrown) fun z24 => if z24.1 = 0 then (if x2 = 0 then (zck (zin (22 + x1) 334) <| some ((t_s (Int32.toNatClampNeg (22 + x1))), z24.2)) else (if x2 = 1 then (zck (zin (28 + x1) 334) <| some ((t_s (Int32.toNatClampNeg (28 + x1))), z24.2)) else (if x2 = 2 then (zck (zin (34 + x1) 334) <| some ((t_s (Int32.toNatClampNeg (34 + x1))), z24.2)) else (if x2 = 3 then (zcl (f_X12_isOut N x1 t_s) fun z104 => if z104 = 0 then (some (0, z24.2)) else (some (1, z24.2))) else (if x2 = 4 then (zcl (f_X12_toCome N x1 t_s) fun z118 => some (z118, z24.2)) else (if x2 = 5 then (zcl (f_X12_meetsOf N 81 x1 t_s) fun z126 => some (z126, z24.2)) else (zcl (f_X12_meetsOf N 117 x1 t_s) fun z134 => some (z134, z24.2)))))))) else (some (0, z24.2))
set_option maxRecDepth 100000 in
def f_X12_master (N : Nat) (x0 : Int32) (x1 : Int32) (t_thrown : Int32) (t_s : Nat → Int32) : Option (Int32 × Int32) := zcl (f_X12_isMaster N x0 t_s) fun z3 => if z3 = 0 then (f_X12_master_19 N t_s (f_X12_master_24 N t_s) x0 x1 t_thrown) else (zcl (f_X12_isIn N x1 0 6) fun z13 => if z13 = 0 then (f_X12_master_19 N t_s (f_X12_master_24 N t_s) x0 x1 t_thrown) else (f_X12_master_24 N t_s x0 x1 0 t_thrown))
set_option maxHeartbeats 4000000 in
set_option maxRecDepth 100000 in
theorem w_X12_master_19 {p : Program} {l : Launch} {e : Env} {s : State} {m : MethodId} {args : Array Value} {below : List Frame} {meth : Method} {c : Code} {G : va_G} {cy : Nat → ClassId} {E : Nat → Nat} {w0 : va_W} {N : Nat} {q_t q_t_tape q_t_s q_t_h q_t_read q_t_names q_t_reserved q_t_undone q_t_before q_t_comeRow q_t_shown q_t_text q_t_toldAt q_t_stack q_t_truths q_t_imaged q_t_namesKept q_t_areKept : Nat} {t_length : Int32} {t_size : Int32} {t_p : Int32} {t_limit : Int32} {t_token : Int32} {t_at : Int32} {t_span : Int32} {t_number : Int32} {t_fault : Int32} {t_faultAt : Int32} {t_word : Int64} {t_got : Int32} {t_lines : Int32} {t_hasWait : Int32} {t_undoMany : Int32} {t_firstMinute : Int32} {t_lookClock : Int32} {t_hasTime : Int32} {t_latestMost : Int32} {t_textMany : Int32} {t_seed : Int32} {t_toldMany : Int32} {t_hasTold : Int32} {t_codes : Int32} {t_ones : Int32} {t_top : Int32} {t_deep : Int32} {t_isWhole : Int32} {t_s : Nat → Int32} {r : Int32} {r_t_thrown : Int32} {k_24 : Int32 → Int32 → Int32 → Int32 → Option (Int32 × Int32)} (S : CallFix p m c cX12_master 3 s args wsX12_master RX12) (hr : meth.sig.returnType = some .int) (hlocks : meth.locks = false) (hF : zF G cy E (va_A w0 s.heap.size) s) (hk_24 : ∀ (x1 : Int32) (x2 : Int32) (sk0 : Int32) (c_t_thrown : Int32) (H : Heap) (locs : List Loc) (ls : Array Slot), zH G (va_A w0 s.heap.size) s H locs (wd_X12_master cy q_t q_t_tape q_t_s q_t_h q_t_read q_t_names q_t_reserved q_t_undone q_t_before q_t_comeRow q_t_shown q_t_text q_t_toldAt q_t_stack q_t_truths q_t_imaged q_t_namesKept q_t_areKept c_t_thrown t_length t_size t_p t_limit t_token t_at t_span t_number t_fault t_faultAt t_word t_got t_lines t_hasWait t_undoMany t_firstMinute t_lookClock t_hasTime t_latestMost t_textMany t_seed t_toldMany t_hasTold t_codes t_ones t_top t_deep t_isWhole t_s) → lv_has ls 3 [(0, .ref q_t), (1, .int x1), (2, .int x2)] → k_24 x1 x2 sk0 c_t_thrown = some (r, r_t_thrown) → W p l e rm_X12_master s m args below meth c H locs 0 0 (MQ below (zQ G w0 (wd_X12_master cy q_t q_t_tape q_t_s q_t_h q_t_read q_t_names q_t_reserved q_t_undone q_t_before q_t_comeRow q_t_shown q_t_text q_t_toldAt q_t_stack q_t_truths q_t_imaged q_t_namesKept q_t_areKept r_t_thrown t_length t_size t_p t_limit t_token t_at t_span t_number t_fault t_faultAt t_word t_got t_lines t_hasWait t_undoMany t_firstMinute t_lookClock t_hasTime t_latestMost t_textMany t_seed t_toldMany t_hasTold t_codes t_ones t_top t_deep t_isWhole t_s) s.heap.size (some (.int r))) args s 0 0 (va_A w0 s.heap.size)) (F0 m 24 ls [.int sk0, .ref q_t])) :
    ∀ (x1 : Int32) (x2 : Int32) (c_t_thrown : Int32) (H : Heap) (locs : List Loc) (ls : Array Slot), zH G (va_A w0 s.heap.size) s H locs (wd_X12_master cy q_t q_t_tape q_t_s q_t_h q_t_read q_t_names q_t_reserved q_t_undone q_t_before q_t_comeRow q_t_shown q_t_text q_t_toldAt q_t_stack q_t_truths q_t_imaged q_t_namesKept q_t_areKept c_t_thrown t_length t_size t_p t_limit t_token t_at t_span t_number t_fault t_faultAt t_word t_got t_lines t_hasWait t_undoMany t_firstMinute t_lookClock t_hasTime t_latestMost t_textMany t_seed t_toldMany t_hasTold t_codes t_ones t_top t_deep t_isWhole t_s) → lv_has ls 3 [(0, .ref q_t), (1, .int x1), (2, .int x2)] → f_X12_master_19 N t_s k_24 x1 x2 c_t_thrown = some (r, r_t_thrown) → W p l e rm_X12_master s m args below meth c H locs 0 0 (MQ below (zQ G w0 (wd_X12_master cy q_t q_t_tape q_t_s q_t_h q_t_read q_t_names q_t_reserved q_t_undone q_t_before q_t_comeRow q_t_shown q_t_text q_t_toldAt q_t_stack q_t_truths q_t_imaged q_t_namesKept q_t_areKept r_t_thrown t_length t_size t_p t_limit t_token t_at t_span t_number t_fault t_faultAt t_word t_got t_lines t_hasWait t_undoMany t_firstMinute t_lookClock t_hasTime t_latestMost t_textMany t_seed t_toldMany t_hasTold t_codes t_ones t_top t_deep t_isWhole t_s) s.heap.size (some (.int r))) args s 0 0 (va_A w0 s.heap.size)) (F0 m 19 ls [.ref q_t]) := by
  obtain ⟨hx, hb, hml, hown, hts⟩ := id S
  intro x1 x2 c_t_thrown H locs ls hH hl h
  rw [f_X12_master_19] at h
  refine lv_iconst (v := 1) hx hb dX12_master_19 (by decide) ?_
  refine lv_goto (tgt := 24) hx hb dX12_master_20 (by decide) ?_
  exact hk_24 x1 x2 1 c_t_thrown _ _ _ hH (lv_sub hl [0, 1, 2] rfl) h
set_option maxHeartbeats 4000000 in
set_option maxRecDepth 100000 in
theorem w_X12_master_24 {p : Program} {l : Launch} {e : Env} {s : State} {m : MethodId} {args : Array Value} {below : List Frame} {meth : Method} {c : Code} {G : va_G} {cy : Nat → ClassId} {E : Nat → Nat} {w0 : va_W} {N : Nat} {q_t q_t_tape q_t_s q_t_h q_t_read q_t_names q_t_reserved q_t_undone q_t_before q_t_comeRow q_t_shown q_t_text q_t_toldAt q_t_stack q_t_truths q_t_imaged q_t_namesKept q_t_areKept : Nat} {t_length : Int32} {t_size : Int32} {t_p : Int32} {t_limit : Int32} {t_token : Int32} {t_at : Int32} {t_span : Int32} {t_number : Int32} {t_fault : Int32} {t_faultAt : Int32} {t_word : Int64} {t_got : Int32} {t_lines : Int32} {t_hasWait : Int32} {t_undoMany : Int32} {t_firstMinute : Int32} {t_lookClock : Int32} {t_hasTime : Int32} {t_latestMost : Int32} {t_textMany : Int32} {t_seed : Int32} {t_toldMany : Int32} {t_hasTold : Int32} {t_codes : Int32} {t_ones : Int32} {t_top : Int32} {t_deep : Int32} {t_isWhole : Int32} {t_s : Nat → Int32} {r : Int32} {r_t_thrown : Int32} (S : CallFix p m c cX12_master 3 s args wsX12_master RX12) (hr : meth.sig.returnType = some .int) (hlocks : meth.locks = false) (hF : zF G cy E (va_A w0 s.heap.size) s) :
    ∀ (x1 : Int32) (x2 : Int32) (sk0 : Int32) (c_t_thrown : Int32) (H : Heap) (locs : List Loc) (ls : Array Slot), zH G (va_A w0 s.heap.size) s H locs (wd_X12_master cy q_t q_t_tape q_t_s q_t_h q_t_read q_t_names q_t_reserved q_t_undone q_t_before q_t_comeRow q_t_shown q_t_text q_t_toldAt q_t_stack q_t_truths q_t_imaged q_t_namesKept q_t_areKept c_t_thrown t_length t_size t_p t_limit t_token t_at t_span t_number t_fault t_faultAt t_word t_got t_lines t_hasWait t_undoMany t_firstMinute t_lookClock t_hasTime t_latestMost t_textMany t_seed t_toldMany t_hasTold t_codes t_ones t_top t_deep t_isWhole t_s) → lv_has ls 3 [(0, .ref q_t), (1, .int x1), (2, .int x2)] → f_X12_master_24 N t_s x1 x2 sk0 c_t_thrown = some (r, r_t_thrown) → W p l e rm_X12_master s m args below meth c H locs 0 0 (MQ below (zQ G w0 (wd_X12_master cy q_t q_t_tape q_t_s q_t_h q_t_read q_t_names q_t_reserved q_t_undone q_t_before q_t_comeRow q_t_shown q_t_text q_t_toldAt q_t_stack q_t_truths q_t_imaged q_t_namesKept q_t_areKept r_t_thrown t_length t_size t_p t_limit t_token t_at t_span t_number t_fault t_faultAt t_word t_got t_lines t_hasWait t_undoMany t_firstMinute t_lookClock t_hasTime t_latestMost t_textMany t_seed t_toldMany t_hasTold t_codes t_ones t_top t_deep t_isWhole t_s) s.heap.size (some (.int r))) args s 0 0 (va_A w0 s.heap.size)) (F0 m 24 ls [.int sk0, .ref q_t]) := by
  obtain ⟨hx, hb, hml, hown, hts⟩ := id S
  intro x1 x2 sk0 c_t_thrown H locs ls hH hl h
  rw [f_X12_master_24] at h
  obtain ⟨z24, hz24, h⟩ := zcl_e h
  refine z_callV (As := [.int sk0]) (rest := []) (st1 := [.int z24.1]) (ws' := (wd_X12_master cy q_t q_t_tape q_t_s q_t_h q_t_read q_t_names q_t_reserved q_t_undone q_t_before q_t_comeRow q_t_shown q_t_text q_t_toldAt q_t_stack q_t_truths q_t_imaged q_t_namesKept q_t_areKept z24.2 t_length t_size t_p t_limit t_token t_at t_span t_number t_fault t_faultAt t_word t_got t_lines t_hasWait t_undoMany t_firstMinute t_lookClock t_hasTime t_latestMost t_textMany t_seed t_toldMany t_hasTold t_codes t_ones t_top t_deep t_isWhole t_s)) S hF hH (c_X12_throwsIf l G cy E N q_t q_t_tape q_t_s q_t_h q_t_read q_t_names q_t_reserved q_t_undone q_t_before q_t_comeRow q_t_shown q_t_text q_t_toldAt q_t_stack q_t_truths q_t_imaged q_t_namesKept q_t_areKept c_t_thrown t_length t_size t_p t_limit t_token t_at t_span t_number t_fault t_faultAt t_word t_got t_lines t_hasWait t_undoMany t_firstMinute t_lookClock t_hasTime t_latestMost t_textMany t_seed t_toldMany t_hasTold t_codes t_ones t_top t_deep t_isWhole sk0 z24.1 z24.2 hz24) (cwV 1 hts gX12_master_X12_throwsIf rfl rfl rfl (by decide +kernel) ⟨Nat.le_of_ble_eq_true rfl, Nat.le_of_ble_eq_true rfl⟩) 13 0 rfl rfl [0] rfl (by decide) rfl rfl rfl rfl rfl hl.1 (Nat.le_of_ble_eq_true rfl) dX12_master_24 ⟨Nat.le_of_ble_eq_true rfl, Nat.le_of_ble_eq_true rfl⟩ (fun H locs hH => ?_)
  refine lv_if_eq (tgt := 32) hx hb dX12_master_27 (by decide) (fun b27 => ?_) (fun b27 => ?_)
  · replace h := zif_t b27 h
    refine lv_iload_n hx hb dX12_master_32 rfl (lv_at hl 2 rfl) ?_
    by_cases b33_0 : x2 = 0
    · replace h := zif_t b33_0 h
      refine lv_tableIn (tgt := 72) hx hb dX12_master_33 (by rw [b33_0]; decide) (by rw [b33_0]; decide) (by rw [b33_0]; rfl) (by decide) ?_
      refine lv_aload_n hx hb dX12_master_72 rfl (lv_at hl 0 rfl) ?_
      refine z_get S hF hH iX12_master_X12 0 rfl rfl 6 (by decide) (List.mem_of_getElem? (i := 1) rfl) rfl dX12_master_73 ?_
      refine lv_bipush (v := 22) hx hb dX12_master_76 (by decide) ?_
      refine lv_iload_n hx hb dX12_master_78 rfl (lv_at hl 1 rfl) ?_
      refine lv_iadd hx hb dX12_master_79 ?_
      obtain ⟨h80, h⟩ := zck_e h
      refine z_iald S hF hH 1 rfl h80 rfl dX12_master_80 ?_
      cases h
      exact z_iret S hr hlocks hH dX12_master_81
    · replace h := zif_f b33_0 h
      by_cases b33_1 : x2 = 1
      · replace h := zif_t b33_1 h
        refine lv_tableIn (tgt := 82) hx hb dX12_master_33 (by rw [b33_1]; decide) (by rw [b33_1]; decide) (by rw [b33_1]; rfl) (by decide) ?_
        refine lv_aload_n hx hb dX12_master_82 rfl (lv_at hl 0 rfl) ?_
        refine z_get S hF hH iX12_master_X12 0 rfl rfl 6 (by decide) (List.mem_of_getElem? (i := 1) rfl) rfl dX12_master_83 ?_
        refine lv_bipush (v := 28) hx hb dX12_master_86 (by decide) ?_
        refine lv_iload_n hx hb dX12_master_88 rfl (lv_at hl 1 rfl) ?_
        refine lv_iadd hx hb dX12_master_89 ?_
        obtain ⟨h90, h⟩ := zck_e h
        refine z_iald S hF hH 1 rfl h90 rfl dX12_master_90 ?_
        cases h
        exact z_iret S hr hlocks hH dX12_master_91
      · replace h := zif_f b33_1 h
        by_cases b33_2 : x2 = 2
        · replace h := zif_t b33_2 h
          refine lv_tableIn (tgt := 92) hx hb dX12_master_33 (by rw [b33_2]; decide) (by rw [b33_2]; decide) (by rw [b33_2]; rfl) (by decide) ?_
          refine lv_aload_n hx hb dX12_master_92 rfl (lv_at hl 0 rfl) ?_
          refine z_get S hF hH iX12_master_X12 0 rfl rfl 6 (by decide) (List.mem_of_getElem? (i := 1) rfl) rfl dX12_master_93 ?_
          refine lv_bipush (v := 34) hx hb dX12_master_96 (by decide) ?_
          refine lv_iload_n hx hb dX12_master_98 rfl (lv_at hl 1 rfl) ?_
          refine lv_iadd hx hb dX12_master_99 ?_
          obtain ⟨h100, h⟩ := zck_e h
          refine z_iald S hF hH 1 rfl h100 rfl dX12_master_100 ?_
          cases h
          exact z_iret S hr hlocks hH dX12_master_101
        · replace h := zif_f b33_2 h
          by_cases b33_3 : x2 = 3
          · replace h := zif_t b33_3 h
            refine lv_tableIn (tgt := 102) hx hb dX12_master_33 (by rw [b33_3]; decide) (by rw [b33_3]; decide) (by rw [b33_3]; rfl) (by decide) ?_
            refine lv_aload_n hx hb dX12_master_102 rfl (lv_at hl 0 rfl) ?_
            refine lv_iload_n hx hb dX12_master_103 rfl (lv_at hl 1 rfl) ?_
            obtain ⟨z104, hz104, h⟩ := zcl_e h
            refine z_callV (As := [.int x1]) (rest := []) (st1 := [.int z104]) (ws' := (wd_X12_master cy q_t q_t_tape q_t_s q_t_h q_t_read q_t_names q_t_reserved q_t_undone q_t_before q_t_comeRow q_t_shown q_t_text q_t_toldAt q_t_stack q_t_truths q_t_imaged q_t_namesKept q_t_areKept z24.2 t_length t_size t_p t_limit t_token t_at t_span t_number t_fault t_faultAt t_word t_got t_lines t_hasWait t_undoMany t_firstMinute t_lookClock t_hasTime t_latestMost t_textMany t_seed t_toldMany t_hasTold t_codes t_ones t_top t_deep t_isWhole t_s)) S hF hH (c_X12_isOut l G cy E N q_t q_t_tape q_t_s q_t_h q_t_read q_t_names q_t_reserved q_t_undone q_t_before q_t_comeRow q_t_shown q_t_text q_t_toldAt q_t_stack q_t_truths q_t_imaged q_t_namesKept q_t_areKept z24.2 t_length t_size t_p t_limit t_token t_at t_span t_number t_fault t_faultAt t_word t_got t_lines t_hasWait t_undoMany t_firstMinute t_lookClock t_hasTime t_latestMost t_textMany t_seed t_toldMany t_hasTold t_codes t_ones t_top t_deep t_isWhole t_s x1 z104 hz104) (cwV 1 hts gX12_master_X12_isOut rfl rfl rfl (by decide +kernel) ⟨Nat.le_of_ble_eq_true rfl, Nat.le_of_ble_eq_true rfl⟩) 13 0 rfl rfl [0, 1] rfl (by decide) rfl rfl rfl rfl rfl hl.1 (Nat.le_of_ble_eq_true rfl) dX12_master_104 ⟨Nat.le_of_ble_eq_true rfl, Nat.le_of_ble_eq_true rfl⟩ (fun H locs hH => ?_)
            refine lv_if_eq (tgt := 114) hx hb dX12_master_107 (by decide) (fun b107 => ?_) (fun b107 => ?_)
            · replace h := zif_t b107 h
              refine lv_iconst (v := 0) hx hb dX12_master_114 (by decide) ?_
              cases h
              exact z_iret S hr hlocks hH dX12_master_115
            · replace h := zif_f b107 h
              refine lv_iconst (v := 1) hx hb dX12_master_110 (by decide) ?_
              refine lv_goto (tgt := 115) hx hb dX12_master_111 (by decide) ?_
              cases h
              exact z_iret S hr hlocks hH dX12_master_115
          · replace h := zif_f b33_3 h
            by_cases b33_4 : x2 = 4
            · replace h := zif_t b33_4 h
              refine lv_tableIn (tgt := 116) hx hb dX12_master_33 (by rw [b33_4]; decide) (by rw [b33_4]; decide) (by rw [b33_4]; rfl) (by decide) ?_
              refine lv_aload_n hx hb dX12_master_116 rfl (lv_at hl 0 rfl) ?_
              refine lv_iload_n hx hb dX12_master_117 rfl (lv_at hl 1 rfl) ?_
              obtain ⟨z118, hz118, h⟩ := zcl_e h
              refine z_callV (As := [.int x1]) (rest := []) (st1 := [.int z118]) (ws' := (wd_X12_master cy q_t q_t_tape q_t_s q_t_h q_t_read q_t_names q_t_reserved q_t_undone q_t_before q_t_comeRow q_t_shown q_t_text q_t_toldAt q_t_stack q_t_truths q_t_imaged q_t_namesKept q_t_areKept z24.2 t_length t_size t_p t_limit t_token t_at t_span t_number t_fault t_faultAt t_word t_got t_lines t_hasWait t_undoMany t_firstMinute t_lookClock t_hasTime t_latestMost t_textMany t_seed t_toldMany t_hasTold t_codes t_ones t_top t_deep t_isWhole t_s)) S hF hH (c_X12_toCome l G cy E N q_t q_t_tape q_t_s q_t_h q_t_read q_t_names q_t_reserved q_t_undone q_t_before q_t_comeRow q_t_shown q_t_text q_t_toldAt q_t_stack q_t_truths q_t_imaged q_t_namesKept q_t_areKept z24.2 t_length t_size t_p t_limit t_token t_at t_span t_number t_fault t_faultAt t_word t_got t_lines t_hasWait t_undoMany t_firstMinute t_lookClock t_hasTime t_latestMost t_textMany t_seed t_toldMany t_hasTold t_codes t_ones t_top t_deep t_isWhole t_s x1 z118 hz118) (cwV 1 hts gX12_master_X12_toCome rfl rfl rfl (by decide +kernel) ⟨Nat.le_of_ble_eq_true rfl, Nat.le_of_ble_eq_true rfl⟩) 13 0 rfl rfl [0, 1] rfl (by decide) rfl rfl rfl rfl rfl hl.1 (Nat.le_of_ble_eq_true rfl) dX12_master_118 ⟨Nat.le_of_ble_eq_true rfl, Nat.le_of_ble_eq_true rfl⟩ (fun H locs hH => ?_)
              cases h
              exact z_iret S hr hlocks hH dX12_master_121
            · replace h := zif_f b33_4 h
              by_cases b33_5 : x2 = 5
              · replace h := zif_t b33_5 h
                refine lv_tableIn (tgt := 122) hx hb dX12_master_33 (by rw [b33_5]; decide) (by rw [b33_5]; decide) (by rw [b33_5]; rfl) (by decide) ?_
                refine lv_aload_n hx hb dX12_master_122 rfl (lv_at hl 0 rfl) ?_
                refine lv_bipush (v := 81) hx hb dX12_master_123 (by decide) ?_
                refine lv_iload_n hx hb dX12_master_125 rfl (lv_at hl 1 rfl) ?_
                obtain ⟨z126, hz126, h⟩ := zcl_e h
                refine z_callV (As := [.int 81, .int x1]) (rest := []) (st1 := [.int z126]) (ws' := (wd_X12_master cy q_t q_t_tape q_t_s q_t_h q_t_read q_t_names q_t_reserved q_t_undone q_t_before q_t_comeRow q_t_shown q_t_text q_t_toldAt q_t_stack q_t_truths q_t_imaged q_t_namesKept q_t_areKept z24.2 t_length t_size t_p t_limit t_token t_at t_span t_number t_fault t_faultAt t_word t_got t_lines t_hasWait t_undoMany t_firstMinute t_lookClock t_hasTime t_latestMost t_textMany t_seed t_toldMany t_hasTold t_codes t_ones t_top t_deep t_isWhole t_s)) S hF hH (c_X12_meetsOf l G cy E N q_t q_t_tape q_t_s q_t_h q_t_read q_t_names q_t_reserved q_t_undone q_t_before q_t_comeRow q_t_shown q_t_text q_t_toldAt q_t_stack q_t_truths q_t_imaged q_t_namesKept q_t_areKept z24.2 t_length t_size t_p t_limit t_token t_at t_span t_number t_fault t_faultAt t_word t_got t_lines t_hasWait t_undoMany t_firstMinute t_lookClock t_hasTime t_latestMost t_textMany t_seed t_toldMany t_hasTold t_codes t_ones t_top t_deep t_isWhole t_s 81 x1 z126 hz126) (cwV 2 hts gX12_master_X12_meetsOf rfl rfl rfl (by decide +kernel) ⟨Nat.le_of_ble_eq_true rfl, Nat.le_of_ble_eq_true rfl⟩) 13 0 rfl rfl [0, 1] rfl (by decide) rfl rfl rfl rfl rfl hl.1 (Nat.le_of_ble_eq_true rfl) dX12_master_126 ⟨Nat.le_of_ble_eq_true rfl, Nat.le_of_ble_eq_true rfl⟩ (fun H locs hH => ?_)
                cases h
                exact z_iret S hr hlocks hH dX12_master_129
              · replace h := zif_f b33_5 h
                refine lv_tableOut (tgt := 130) hx hb dX12_master_33 (z_sw (fun k h1 h2 => by rcases (show k = 0 ∨ k = 1 ∨ k = 2 ∨ k = 3 ∨ k = 4 ∨ k = 5 by omega) with rfl | rfl | rfl | rfl | rfl | rfl <;> assumption)) (by decide) ?_
                refine lv_aload_n hx hb dX12_master_130 rfl (lv_at hl 0 rfl) ?_
                refine lv_bipush (v := 117) hx hb dX12_master_131 (by decide) ?_
                refine lv_iload_n hx hb dX12_master_133 rfl (lv_at hl 1 rfl) ?_
                obtain ⟨z134, hz134, h⟩ := zcl_e h
                refine z_callV (As := [.int 117, .int x1]) (rest := []) (st1 := [.int z134]) (ws' := (wd_X12_master cy q_t q_t_tape q_t_s q_t_h q_t_read q_t_names q_t_reserved q_t_undone q_t_before q_t_comeRow q_t_shown q_t_text q_t_toldAt q_t_stack q_t_truths q_t_imaged q_t_namesKept q_t_areKept z24.2 t_length t_size t_p t_limit t_token t_at t_span t_number t_fault t_faultAt t_word t_got t_lines t_hasWait t_undoMany t_firstMinute t_lookClock t_hasTime t_latestMost t_textMany t_seed t_toldMany t_hasTold t_codes t_ones t_top t_deep t_isWhole t_s)) S hF hH (c_X12_meetsOf l G cy E N q_t q_t_tape q_t_s q_t_h q_t_read q_t_names q_t_reserved q_t_undone q_t_before q_t_comeRow q_t_shown q_t_text q_t_toldAt q_t_stack q_t_truths q_t_imaged q_t_namesKept q_t_areKept z24.2 t_length t_size t_p t_limit t_token t_at t_span t_number t_fault t_faultAt t_word t_got t_lines t_hasWait t_undoMany t_firstMinute t_lookClock t_hasTime t_latestMost t_textMany t_seed t_toldMany t_hasTold t_codes t_ones t_top t_deep t_isWhole t_s 117 x1 z134 hz134) (cwV 2 hts gX12_master_X12_meetsOf rfl rfl rfl (by decide +kernel) ⟨Nat.le_of_ble_eq_true rfl, Nat.le_of_ble_eq_true rfl⟩) 13 0 rfl rfl [0, 1] rfl (by decide) rfl rfl rfl rfl rfl hl.1 (Nat.le_of_ble_eq_true rfl) dX12_master_134 ⟨Nat.le_of_ble_eq_true rfl, Nat.le_of_ble_eq_true rfl⟩ (fun H locs hH => ?_)
                cases h
                exact z_iret S hr hlocks hH dX12_master_137
  · replace h := zif_f b27 h
    refine lv_iconst (v := 0) hx hb dX12_master_30 (by decide) ?_
    cases h
    exact z_iret S hr hlocks hH dX12_master_31
set_option maxHeartbeats 4000000 in
set_option maxRecDepth 100000 in
theorem c_X12_master (l : Launch) (G : va_G) (cy : Nat → ClassId) (E : Nat → Nat) (N : Nat) (q_t q_t_tape q_t_s q_t_h q_t_read q_t_names q_t_reserved q_t_undone q_t_before q_t_comeRow q_t_shown q_t_text q_t_toldAt q_t_stack q_t_truths q_t_imaged q_t_namesKept q_t_areKept : Nat) (t_thrown : Int32) (t_length : Int32) (t_size : Int32) (t_p : Int32) (t_limit : Int32) (t_token : Int32) (t_at : Int32) (t_span : Int32) (t_number : Int32) (t_fault : Int32) (t_faultAt : Int32) (t_word : Int64) (t_got : Int32) (t_lines : Int32) (t_hasWait : Int32) (t_undoMany : Int32) (t_firstMinute : Int32) (t_lookClock : Int32) (t_hasTime : Int32) (t_latestMost : Int32) (t_textMany : Int32) (t_seed : Int32) (t_toldMany : Int32) (t_hasTold : Int32) (t_codes : Int32) (t_ones : Int32) (t_top : Int32) (t_deep : Int32) (t_isWhole : Int32) (t_s : Nat → Int32) (x0 : Int32) (x1 : Int32) (r : Int32) (r_t_thrown : Int32) (h : f_X12_master N x0 x1 t_thrown t_s = some (r, r_t_thrown)) : zM l G cy E yX12_master wsX12_master rm_X12_master [.ref q_t, .int x0, .int x1] (wd_X12_master cy q_t q_t_tape q_t_s q_t_h q_t_read q_t_names q_t_reserved q_t_undone q_t_before q_t_comeRow q_t_shown q_t_text q_t_toldAt q_t_stack q_t_truths q_t_imaged q_t_namesKept q_t_areKept t_thrown t_length t_size t_p t_limit t_token t_at t_span t_number t_fault t_faultAt t_word t_got t_lines t_hasWait t_undoMany t_firstMinute t_lookClock t_hasTime t_latestMost t_textMany t_seed t_toldMany t_hasTold t_codes t_ones t_top t_deep t_isWhole t_s) (wd_X12_master cy q_t q_t_tape q_t_s q_t_h q_t_read q_t_names q_t_reserved q_t_undone q_t_before q_t_comeRow q_t_shown q_t_text q_t_toldAt q_t_stack q_t_truths q_t_imaged q_t_namesKept q_t_areKept r_t_thrown t_length t_size t_p t_limit t_token t_at t_span t_number t_fault t_faultAt t_word t_got t_lines t_hasWait t_undoMany t_firstMinute t_lookClock t_hasTime t_latestMost t_textMany t_seed t_toldMany t_hasTold t_codes t_ones t_top t_deep t_isWhole t_s) (some (.int r)) 0 0 := by
  refine z_body (cc := cX12_master) (maxL := 3) (ret := some .int) (by decide) rfl (Nat.le_of_ble_eq_true rfl) ?_
  intro p e s m below meth c ls S hr hlocks hnm hF hH hl
  have S : CallFix p m c cX12_master 3 s ([.ref q_t, .int x0, .int x1] : List Value).toArray wsX12_master RX12 := S
  obtain ⟨hx, hb, hml, hown, hts⟩ := id S
  have hl : lv_has ls 3 [(0, .ref q_t), (1, .int x0), (2, .int x1)] := hl
  rw [f_X12_master] at h
  refine lv_aload_n hx hb dX12_master_0 rfl (lv_at hl 0 rfl) ?_
  refine lv_aload_n hx hb dX12_master_1 rfl (lv_at hl 0 rfl) ?_
  refine lv_iload_n hx hb dX12_master_2 rfl (lv_at hl 1 rfl) ?_
  obtain ⟨z3, hz3, h⟩ := zcl_e h
  refine z_callV (As := [.int x0]) (rest := [.ref q_t]) (st1 := [.int z3, .ref q_t]) (ws' := (wd_X12_master cy q_t q_t_tape q_t_s q_t_h q_t_read q_t_names q_t_reserved q_t_undone q_t_before q_t_comeRow q_t_shown q_t_text q_t_toldAt q_t_stack q_t_truths q_t_imaged q_t_namesKept q_t_areKept t_thrown t_length t_size t_p t_limit t_token t_at t_span t_number t_fault t_faultAt t_word t_got t_lines t_hasWait t_undoMany t_firstMinute t_lookClock t_hasTime t_latestMost t_textMany t_seed t_toldMany t_hasTold t_codes t_ones t_top t_deep t_isWhole t_s)) S hF hH (c_X12_isMaster l G cy E N q_t q_t_tape q_t_s q_t_h q_t_read q_t_names q_t_reserved q_t_undone q_t_before q_t_comeRow q_t_shown q_t_text q_t_toldAt q_t_stack q_t_truths q_t_imaged q_t_namesKept q_t_areKept t_thrown t_length t_size t_p t_limit t_token t_at t_span t_number t_fault t_faultAt t_word t_got t_lines t_hasWait t_undoMany t_firstMinute t_lookClock t_hasTime t_latestMost t_textMany t_seed t_toldMany t_hasTold t_codes t_ones t_top t_deep t_isWhole t_s x0 z3 hz3) (cwV 1 hts gX12_master_X12_isMaster rfl rfl rfl (by decide +kernel) ⟨Nat.le_of_ble_eq_true rfl, Nat.le_of_ble_eq_true rfl⟩) 13 0 rfl rfl [0, 1] rfl (by decide) rfl rfl rfl rfl rfl hl.1 (Nat.le_of_ble_eq_true rfl) dX12_master_3 ⟨Nat.le_of_ble_eq_true rfl, Nat.le_of_ble_eq_true rfl⟩ (fun H locs hH => ?_)
  refine lv_if_eq (tgt := 19) hx hb dX12_master_6 (by decide) (fun b6 => ?_) (fun b6 => ?_)
  · replace h := zif_t b6 h
    exact w_X12_master_19 S hr hlocks hF (w_X12_master_24 S hr hlocks hF) x0 x1 t_thrown _ _ _ hH (lv_sub hl [0, 1, 2] rfl) h
  · replace h := zif_f b6 h
    refine lv_iload_n hx hb dX12_master_9 rfl (lv_at hl 2 rfl) ?_
    refine lv_iconst (v := 0) hx hb dX12_master_10 (by decide) ?_
    refine lv_bipush (v := 6) hx hb dX12_master_11 (by decide) ?_
    obtain ⟨z13, hz13, h⟩ := zcl_e h
    refine z_callS (As := [.int x1, .int 0, .int 6]) (rest := [.ref q_t]) (st1 := [.int z13, .ref q_t]) (ws' := (wd_X12_master cy q_t q_t_tape q_t_s q_t_h q_t_read q_t_names q_t_reserved q_t_undone q_t_before q_t_comeRow q_t_shown q_t_text q_t_toldAt q_t_stack q_t_truths q_t_imaged q_t_namesKept q_t_areKept t_thrown t_length t_size t_p t_limit t_token t_at t_span t_number t_fault t_faultAt t_word t_got t_lines t_hasWait t_undoMany t_firstMinute t_lookClock t_hasTime t_latestMost t_textMany t_seed t_toldMany t_hasTold t_codes t_ones t_top t_deep t_isWhole t_s)) S hF hH (c_X12_isIn l G cy E N x1 0 6 z13 hz13) (cwS 3 hts gX12_master_X12_isIn rfl rfl rfl (by decide +kernel) ⟨Nat.le_of_ble_eq_true rfl, Nat.le_of_ble_eq_true rfl⟩) [] rfl (by decide) rfl rfl rfl rfl rfl hl.1 (Nat.le_of_ble_eq_true rfl) dX12_master_13 ⟨Nat.le_of_ble_eq_true rfl, Nat.le_of_ble_eq_true rfl⟩ (fun H locs hH => ?_)
    refine lv_if_ne (tgt := 23) hx hb dX12_master_16 (by decide) (fun b16 => ?_) (fun b16 => ?_)
    · replace h := zif_f b16 h
      refine lv_iconst (v := 0) hx hb dX12_master_23 (by decide) ?_
      exact w_X12_master_24 S hr hlocks hF x0 x1 0 t_thrown _ _ _ hH (lv_sub hl [0, 1, 2] rfl) h
    · replace h := zif_t b16 h
      exact w_X12_master_19 S hr hlocks hF (w_X12_master_24 S hr hlocks hF) x0 x1 t_thrown _ _ _ hH (lv_sub hl [0, 1, 2] rfl) h
abbrev wd_X12_meet (cy : Nat → ClassId) (q_t q_t_tape q_t_s q_t_h q_t_read q_t_names q_t_reserved q_t_undone q_t_before q_t_comeRow q_t_shown q_t_text q_t_toldAt q_t_stack q_t_truths q_t_imaged q_t_namesKept q_t_areKept : Nat) (t_thrown : Int32) (t_length : Int32) (t_size : Int32) (t_p : Int32) (t_limit : Int32) (t_token : Int32) (t_at : Int32) (t_span : Int32) (t_number : Int32) (t_fault : Int32) (t_faultAt : Int32) (t_word : Int64) (t_got : Int32) (t_lines : Int32) (t_hasWait : Int32) (t_undoMany : Int32) (t_firstMinute : Int32) (t_lookClock : Int32) (t_hasTime : Int32) (t_latestMost : Int32) (t_textMany : Int32) (t_seed : Int32) (t_toldMany : Int32) (t_hasTold : Int32) (t_codes : Int32) (t_ones : Int32) (t_top : Int32) (t_deep : Int32) (t_isWhole : Int32) (t_s : Nat → Int32) : va_W := [(q_t, .inr (13, [.int t_thrown, .ref q_t_tape, .int t_length, .int t_size, .int t_p, .int t_limit, .ref q_t_s, .ref q_t_h, .ref q_t_read, .ref q_t_names, .ref q_t_reserved, .int t_token, .int t_at, .int t_span, .int t_number, .int t_fault, .int t_faultAt, .long t_word, .int t_got, .int t_lines, .int t_hasWait, .ref q_t_undone, .ref q_t_before, .int t_undoMany, .ref q_t_comeRow, .int t_firstMinute, .int t_lookClock, .int t_hasTime, .ref q_t_shown, .int t_latestMost, .ref q_t_text, .int t_textMany, .int t_seed, .int t_toldMany, .ref q_t_toldAt, .int t_hasTold, .ref q_t_stack, .int t_codes, .int t_ones, .int t_top, .int t_deep, .int t_isWhole, .ref q_t_truths, .ref q_t_imaged, .ref q_t_namesKept, .ref q_t_areKept])), (q_t_s, .inl (cy 1, 334, .inl t_s))]
theorem iX12_meet_X12 : ∀ w ∈ wsX120, w ∈ wsX12_meet := fun _ h => List.mem_cons_of_mem _ (List.mem_append_right _ h)
abbrev rm_X12_meet : Room := { frames := 2, cells := 0, slots := 0, locals := 43 }
set_option maxRecDepth 100000 in
def f_X12_meet (N : Nat) (x0 : Int32) (x1 : Int32) (t_thrown : Int32) (t_s : Nat → Int32) : Option (Int32 × Int32) := zcl (f_X12_isMeet N x0 t_s) fun z7 => if z7 = 0 then (some ((-1), 0)) else (if x1 = 0 then (zck (zin (75 + x0) 334) <| some ((t_s (Int32.toNatClampNeg (75 + x0))), 0)) else (if x1 = 1 then (zck (zin (46 + x0) 334) <| some ((t_s (Int32.toNatClampNeg (46 + x0))), 0)) else (if x1 = 2 then (zcl (f_X12_rowOf N 81 x0 t_s) fun z57 => some (z57, 0)) else (if x1 = 3 then (zcl (f_X12_rowOf N 117 x0 t_s) fun z72 => some (z72, 0)) else (some ((-1), 0))))))
set_option maxHeartbeats 4000000 in
set_option maxRecDepth 100000 in
theorem c_X12_meet (l : Launch) (G : va_G) (cy : Nat → ClassId) (E : Nat → Nat) (N : Nat) (q_t q_t_tape q_t_s q_t_h q_t_read q_t_names q_t_reserved q_t_undone q_t_before q_t_comeRow q_t_shown q_t_text q_t_toldAt q_t_stack q_t_truths q_t_imaged q_t_namesKept q_t_areKept : Nat) (t_thrown : Int32) (t_length : Int32) (t_size : Int32) (t_p : Int32) (t_limit : Int32) (t_token : Int32) (t_at : Int32) (t_span : Int32) (t_number : Int32) (t_fault : Int32) (t_faultAt : Int32) (t_word : Int64) (t_got : Int32) (t_lines : Int32) (t_hasWait : Int32) (t_undoMany : Int32) (t_firstMinute : Int32) (t_lookClock : Int32) (t_hasTime : Int32) (t_latestMost : Int32) (t_textMany : Int32) (t_seed : Int32) (t_toldMany : Int32) (t_hasTold : Int32) (t_codes : Int32) (t_ones : Int32) (t_top : Int32) (t_deep : Int32) (t_isWhole : Int32) (t_s : Nat → Int32) (x0 : Int32) (x1 : Int32) (r : Int32) (r_t_thrown : Int32) (h : f_X12_meet N x0 x1 t_thrown t_s = some (r, r_t_thrown)) : zM l G cy E yX12_meet wsX12_meet rm_X12_meet [.ref q_t, .int x0, .int x1] (wd_X12_meet cy q_t q_t_tape q_t_s q_t_h q_t_read q_t_names q_t_reserved q_t_undone q_t_before q_t_comeRow q_t_shown q_t_text q_t_toldAt q_t_stack q_t_truths q_t_imaged q_t_namesKept q_t_areKept t_thrown t_length t_size t_p t_limit t_token t_at t_span t_number t_fault t_faultAt t_word t_got t_lines t_hasWait t_undoMany t_firstMinute t_lookClock t_hasTime t_latestMost t_textMany t_seed t_toldMany t_hasTold t_codes t_ones t_top t_deep t_isWhole t_s) (wd_X12_meet cy q_t q_t_tape q_t_s q_t_h q_t_read q_t_names q_t_reserved q_t_undone q_t_before q_t_comeRow q_t_shown q_t_text q_t_toldAt q_t_stack q_t_truths q_t_imaged q_t_namesKept q_t_areKept r_t_thrown t_length t_size t_p t_limit t_token t_at t_span t_number t_fault t_faultAt t_word t_got t_lines t_hasWait t_undoMany t_firstMinute t_lookClock t_hasTime t_latestMost t_textMany t_seed t_toldMany t_hasTold t_codes t_ones t_top t_deep t_isWhole t_s) (some (.int r)) 0 0 := by
  refine z_body (cc := cX12_meet) (maxL := 3) (ret := some .int) (by decide) rfl (Nat.le_of_ble_eq_true rfl) ?_
  intro p e s m below meth c ls S hr hlocks hnm hF hH hl
  have S : CallFix p m c cX12_meet 3 s ([.ref q_t, .int x0, .int x1] : List Value).toArray wsX12_meet RX12 := S
  obtain ⟨hx, hb, hml, hown, hts⟩ := id S
  have hl : lv_has ls 3 [(0, .ref q_t), (1, .int x0), (2, .int x1)] := hl
  rw [f_X12_meet] at h
  refine lv_aload_n hx hb dX12_meet_0 rfl (lv_at hl 0 rfl) ?_
  refine lv_iconst (v := 0) hx hb dX12_meet_1 (by decide) ?_
  refine z_put (ws' := (wd_X12_meet cy q_t q_t_tape q_t_s q_t_h q_t_read q_t_names q_t_reserved q_t_undone q_t_before q_t_comeRow q_t_shown q_t_text q_t_toldAt q_t_stack q_t_truths q_t_imaged q_t_namesKept q_t_areKept 0 t_length t_size t_p t_limit t_token t_at t_span t_number t_fault t_faultAt t_word t_got t_lines t_hasWait t_undoMany t_firstMinute t_lookClock t_hasTime t_latestMost t_textMany t_seed t_toldMany t_hasTold t_codes t_ones t_top t_deep t_isWhole t_s)) S hF hH iX12_meet_X12 tyX12 tyX12_ok nmX12 0 rfl rfl 0 (by decide) (List.mem_of_getElem? (i := 1) rfl) rfl rfl rfl (Nat.le_of_ble_eq_true rfl) rfl dX12_meet_2 (fun H locs hH => ?_)
  refine lv_aload_n hx hb dX12_meet_5 rfl (lv_at hl 0 rfl) ?_
  refine lv_iload_n hx hb dX12_meet_6 rfl (lv_at hl 1 rfl) ?_
  obtain ⟨z7, hz7, h⟩ := zcl_e h
  refine z_callV (As := [.int x0]) (rest := []) (st1 := [.int z7]) (ws' := (wd_X12_meet cy q_t q_t_tape q_t_s q_t_h q_t_read q_t_names q_t_reserved q_t_undone q_t_before q_t_comeRow q_t_shown q_t_text q_t_toldAt q_t_stack q_t_truths q_t_imaged q_t_namesKept q_t_areKept 0 t_length t_size t_p t_limit t_token t_at t_span t_number t_fault t_faultAt t_word t_got t_lines t_hasWait t_undoMany t_firstMinute t_lookClock t_hasTime t_latestMost t_textMany t_seed t_toldMany t_hasTold t_codes t_ones t_top t_deep t_isWhole t_s)) S hF hH (c_X12_isMeet l G cy E N q_t q_t_tape q_t_s q_t_h q_t_read q_t_names q_t_reserved q_t_undone q_t_before q_t_comeRow q_t_shown q_t_text q_t_toldAt q_t_stack q_t_truths q_t_imaged q_t_namesKept q_t_areKept 0 t_length t_size t_p t_limit t_token t_at t_span t_number t_fault t_faultAt t_word t_got t_lines t_hasWait t_undoMany t_firstMinute t_lookClock t_hasTime t_latestMost t_textMany t_seed t_toldMany t_hasTold t_codes t_ones t_top t_deep t_isWhole t_s x0 z7 hz7) (cwV 1 hts gX12_meet_X12_isMeet rfl rfl rfl (by decide +kernel) ⟨Nat.le_of_ble_eq_true rfl, Nat.le_of_ble_eq_true rfl⟩) 13 0 rfl rfl [0, 1] rfl (by decide) rfl rfl rfl rfl rfl hl.1 (Nat.le_of_ble_eq_true rfl) dX12_meet_7 ⟨Nat.le_of_ble_eq_true rfl, Nat.le_of_ble_eq_true rfl⟩ (fun H locs hH => ?_)
  refine lv_if_ne (tgt := 15) hx hb dX12_meet_10 (by decide) (fun b10 => ?_) (fun b10 => ?_)
  · replace h := zif_f b10 h
    refine lv_iload_n hx hb dX12_meet_15 rfl (lv_at hl 2 rfl) ?_
    refine lv_if_ne (tgt := 31) hx hb dX12_meet_16 (by decide) (fun b16 => ?_) (fun b16 => ?_)
    · replace h := zif_f b16 h
      refine lv_iload_n hx hb dX12_meet_31 rfl (lv_at hl 2 rfl) ?_
      refine lv_iconst (v := 1) hx hb dX12_meet_32 (by decide) ?_
      refine lv_icmp_ne (tgt := 48) hx hb dX12_meet_33 (by decide) (fun b33 => ?_) (fun b33 => ?_)
      · replace h := zif_f b33 h
        refine lv_iload_n hx hb dX12_meet_48 rfl (lv_at hl 2 rfl) ?_
        refine lv_iconst (v := 2) hx hb dX12_meet_49 (by decide) ?_
        refine lv_icmp_ne (tgt := 63) hx hb dX12_meet_50 (by decide) (fun b50 => ?_) (fun b50 => ?_)
        · replace h := zif_f b50 h
          refine lv_iload_n hx hb dX12_meet_63 rfl (lv_at hl 2 rfl) ?_
          refine lv_iconst (v := 3) hx hb dX12_meet_64 (by decide) ?_
          refine lv_icmp_ne (tgt := 78) hx hb dX12_meet_65 (by decide) (fun b65 => ?_) (fun b65 => ?_)
          · replace h := zif_f b65 h
            refine lv_iconst (v := (-1)) hx hb dX12_meet_78 (by decide) ?_
            cases h
            exact z_iret S hr hlocks hH dX12_meet_79
          · replace h := zif_t b65 h
            refine lv_aload_n hx hb dX12_meet_68 rfl (lv_at hl 0 rfl) ?_
            refine lv_bipush (v := 117) hx hb dX12_meet_69 (by decide) ?_
            refine lv_iload_n hx hb dX12_meet_71 rfl (lv_at hl 1 rfl) ?_
            obtain ⟨z72, hz72, h⟩ := zcl_e h
            refine z_callV (As := [.int 117, .int x0]) (rest := []) (st1 := [.int z72]) (ws' := (wd_X12_meet cy q_t q_t_tape q_t_s q_t_h q_t_read q_t_names q_t_reserved q_t_undone q_t_before q_t_comeRow q_t_shown q_t_text q_t_toldAt q_t_stack q_t_truths q_t_imaged q_t_namesKept q_t_areKept 0 t_length t_size t_p t_limit t_token t_at t_span t_number t_fault t_faultAt t_word t_got t_lines t_hasWait t_undoMany t_firstMinute t_lookClock t_hasTime t_latestMost t_textMany t_seed t_toldMany t_hasTold t_codes t_ones t_top t_deep t_isWhole t_s)) S hF hH (c_X12_rowOf l G cy E N q_t q_t_tape q_t_s q_t_h q_t_read q_t_names q_t_reserved q_t_undone q_t_before q_t_comeRow q_t_shown q_t_text q_t_toldAt q_t_stack q_t_truths q_t_imaged q_t_namesKept q_t_areKept 0 t_length t_size t_p t_limit t_token t_at t_span t_number t_fault t_faultAt t_word t_got t_lines t_hasWait t_undoMany t_firstMinute t_lookClock t_hasTime t_latestMost t_textMany t_seed t_toldMany t_hasTold t_codes t_ones t_top t_deep t_isWhole t_s 117 x0 z72 hz72) (cwV 2 hts gX12_meet_X12_rowOf rfl rfl rfl (by decide +kernel) ⟨Nat.le_of_ble_eq_true rfl, Nat.le_of_ble_eq_true rfl⟩) 13 0 rfl rfl [0, 1] rfl (by decide) rfl rfl rfl rfl rfl hl.1 (Nat.le_of_ble_eq_true rfl) dX12_meet_72 ⟨Nat.le_of_ble_eq_true rfl, Nat.le_of_ble_eq_true rfl⟩ (fun H locs hH => ?_)
            refine lv_goto (tgt := 79) hx hb dX12_meet_75 (by decide) ?_
            cases h
            exact z_iret S hr hlocks hH dX12_meet_79
        · replace h := zif_t b50 h
          refine lv_aload_n hx hb dX12_meet_53 rfl (lv_at hl 0 rfl) ?_
          refine lv_bipush (v := 81) hx hb dX12_meet_54 (by decide) ?_
          refine lv_iload_n hx hb dX12_meet_56 rfl (lv_at hl 1 rfl) ?_
          obtain ⟨z57, hz57, h⟩ := zcl_e h
          refine z_callV (As := [.int 81, .int x0]) (rest := []) (st1 := [.int z57]) (ws' := (wd_X12_meet cy q_t q_t_tape q_t_s q_t_h q_t_read q_t_names q_t_reserved q_t_undone q_t_before q_t_comeRow q_t_shown q_t_text q_t_toldAt q_t_stack q_t_truths q_t_imaged q_t_namesKept q_t_areKept 0 t_length t_size t_p t_limit t_token t_at t_span t_number t_fault t_faultAt t_word t_got t_lines t_hasWait t_undoMany t_firstMinute t_lookClock t_hasTime t_latestMost t_textMany t_seed t_toldMany t_hasTold t_codes t_ones t_top t_deep t_isWhole t_s)) S hF hH (c_X12_rowOf l G cy E N q_t q_t_tape q_t_s q_t_h q_t_read q_t_names q_t_reserved q_t_undone q_t_before q_t_comeRow q_t_shown q_t_text q_t_toldAt q_t_stack q_t_truths q_t_imaged q_t_namesKept q_t_areKept 0 t_length t_size t_p t_limit t_token t_at t_span t_number t_fault t_faultAt t_word t_got t_lines t_hasWait t_undoMany t_firstMinute t_lookClock t_hasTime t_latestMost t_textMany t_seed t_toldMany t_hasTold t_codes t_ones t_top t_deep t_isWhole t_s 81 x0 z57 hz57) (cwV 2 hts gX12_meet_X12_rowOf rfl rfl rfl (by decide +kernel) ⟨Nat.le_of_ble_eq_true rfl, Nat.le_of_ble_eq_true rfl⟩) 13 0 rfl rfl [0, 1] rfl (by decide) rfl rfl rfl rfl rfl hl.1 (Nat.le_of_ble_eq_true rfl) dX12_meet_57 ⟨Nat.le_of_ble_eq_true rfl, Nat.le_of_ble_eq_true rfl⟩ (fun H locs hH => ?_)
          refine lv_goto (tgt := 79) hx hb dX12_meet_60 (by decide) ?_
          cases h
          exact z_iret S hr hlocks hH dX12_meet_79
      · replace h := zif_t b33 h
        refine lv_aload_n hx hb dX12_meet_36 rfl (lv_at hl 0 rfl) ?_
        refine z_get S hF hH iX12_meet_X12 0 rfl rfl 6 (by decide) (List.mem_of_getElem? (i := 2) rfl) rfl dX12_meet_37 ?_
        refine lv_bipush (v := 46) hx hb dX12_meet_40 (by decide) ?_
        refine lv_iload_n hx hb dX12_meet_42 rfl (lv_at hl 1 rfl) ?_
        refine lv_iadd hx hb dX12_meet_43 ?_
        obtain ⟨h44, h⟩ := zck_e h
        refine z_iald S hF hH 1 rfl h44 rfl dX12_meet_44 ?_
        refine lv_goto (tgt := 79) hx hb dX12_meet_45 (by decide) ?_
        cases h
        exact z_iret S hr hlocks hH dX12_meet_79
    · replace h := zif_t b16 h
      refine lv_aload_n hx hb dX12_meet_19 rfl (lv_at hl 0 rfl) ?_
      refine z_get S hF hH iX12_meet_X12 0 rfl rfl 6 (by decide) (List.mem_of_getElem? (i := 2) rfl) rfl dX12_meet_20 ?_
      refine lv_bipush (v := 75) hx hb dX12_meet_23 (by decide) ?_
      refine lv_iload_n hx hb dX12_meet_25 rfl (lv_at hl 1 rfl) ?_
      refine lv_iadd hx hb dX12_meet_26 ?_
      obtain ⟨h27, h⟩ := zck_e h
      refine z_iald S hF hH 1 rfl h27 rfl dX12_meet_27 ?_
      refine lv_goto (tgt := 79) hx hb dX12_meet_28 (by decide) ?_
      cases h
      exact z_iret S hr hlocks hH dX12_meet_79
  · replace h := zif_t b10 h
    refine lv_iconst (v := (-1)) hx hb dX12_meet_13 (by decide) ?_
    cases h
    exact z_iret S hr hlocks hH dX12_meet_14
abbrev wd_X12_now (cy : Nat → ClassId) (q_t q_t_tape q_t_s q_t_h q_t_read q_t_names q_t_reserved q_t_undone q_t_before q_t_comeRow q_t_shown q_t_text q_t_toldAt q_t_stack q_t_truths q_t_imaged q_t_namesKept q_t_areKept : Nat) (t_thrown : Int32) (t_length : Int32) (t_size : Int32) (t_p : Int32) (t_limit : Int32) (t_token : Int32) (t_at : Int32) (t_span : Int32) (t_number : Int32) (t_fault : Int32) (t_faultAt : Int32) (t_word : Int64) (t_got : Int32) (t_lines : Int32) (t_hasWait : Int32) (t_undoMany : Int32) (t_firstMinute : Int32) (t_lookClock : Int32) (t_hasTime : Int32) (t_latestMost : Int32) (t_textMany : Int32) (t_seed : Int32) (t_toldMany : Int32) (t_hasTold : Int32) (t_codes : Int32) (t_ones : Int32) (t_top : Int32) (t_deep : Int32) (t_isWhole : Int32) (t_s : Nat → Int32) : va_W := [(q_t, .inr (13, [.int t_thrown, .ref q_t_tape, .int t_length, .int t_size, .int t_p, .int t_limit, .ref q_t_s, .ref q_t_h, .ref q_t_read, .ref q_t_names, .ref q_t_reserved, .int t_token, .int t_at, .int t_span, .int t_number, .int t_fault, .int t_faultAt, .long t_word, .int t_got, .int t_lines, .int t_hasWait, .ref q_t_undone, .ref q_t_before, .int t_undoMany, .ref q_t_comeRow, .int t_firstMinute, .int t_lookClock, .int t_hasTime, .ref q_t_shown, .int t_latestMost, .ref q_t_text, .int t_textMany, .int t_seed, .int t_toldMany, .ref q_t_toldAt, .int t_hasTold, .ref q_t_stack, .int t_codes, .int t_ones, .int t_top, .int t_deep, .int t_isWhole, .ref q_t_truths, .ref q_t_imaged, .ref q_t_namesKept, .ref q_t_areKept])), (q_t_s, .inl (cy 1, 334, .inl t_s))]
theorem iX12_now_X12 : ∀ w ∈ wsX120, w ∈ wsX12_now := fun _ h => List.mem_cons_of_mem _ (List.mem_append_right _ h)
abbrev rm_X12_now : Room := { frames := 4, cells := 0, slots := 0, locals := 85 }
set_option maxRecDepth 100000 in
def f_X12_now_35 (N : Nat) (t_s : Nat → Int32) (k_9 : Int32 → Int32 → Int32 → Int32 → Option (Int32 × Int32)) (x1 : Int32) (x3 : Int32) (sk0 : Int32) (sk1 : Int32) (c_t_thrown : Int32) : Option (Int32 × Int32) := zbn ((sk1 ||| sk0)) fun y1 => zbn (x3 + 1) fun y2 => k_9 x1 y1 y2 c_t_thrown
set_option maxRecDepth 100000 in
def f_X12_now_9 (N : Nat) (t_s : Nat → Int32) : Nat → Int32 → Int32 → Int32 → Int32 → Option (Int32 × Int32)
  | 0, _, _, _, _ => none
  | n + 1, x1, x2, x3, c_t_thrown => if (t_s 0) ≤ x3 then (if x1 = 0 then (some ((t_s 52), c_t_thrown)) else (if x1 = 1 then (some ((t_s 53), c_t_thrown)) else (if x1 = 2 then (some ((t_s 54), c_t_thrown)) else (if x1 = 3 then (some (x2, c_t_thrown)) else (if x1 = 4 then (some ((t_s 55), c_t_thrown)) else (if x1 = 5 then (some ((t_s 56), c_t_thrown)) else (some ((-1), c_t_thrown)))))))) else (zcl (f_X12_wrongBy N x3 t_s) fun z22 => if z22 = 0 then (f_X12_now_35 N t_s (f_X12_now_9 N t_s n) x1 x3 (1 <<< (x3 &&& 31)) x2 c_t_thrown) else (f_X12_now_35 N t_s (f_X12_now_9 N t_s n) x1 x3 0 x2 c_t_thrown))
set_option maxRecDepth 100000 in
def f_X12_now (N : Nat) (x0 : Int32) (t_thrown : Int32) (t_s : Nat → Int32) : Option (Int32 × Int32) := f_X12_now_9 N t_s N x0 0 0 0
set_option maxHeartbeats 4000000 in
set_option maxRecDepth 100000 in
theorem w_X12_now_35 {p : Program} {l : Launch} {e : Env} {s : State} {m : MethodId} {args : Array Value} {below : List Frame} {meth : Method} {c : Code} {G : va_G} {cy : Nat → ClassId} {E : Nat → Nat} {w0 : va_W} {N : Nat} {q_t q_t_tape q_t_s q_t_h q_t_read q_t_names q_t_reserved q_t_undone q_t_before q_t_comeRow q_t_shown q_t_text q_t_toldAt q_t_stack q_t_truths q_t_imaged q_t_namesKept q_t_areKept : Nat} {t_length : Int32} {t_size : Int32} {t_p : Int32} {t_limit : Int32} {t_token : Int32} {t_at : Int32} {t_span : Int32} {t_number : Int32} {t_fault : Int32} {t_faultAt : Int32} {t_word : Int64} {t_got : Int32} {t_lines : Int32} {t_hasWait : Int32} {t_undoMany : Int32} {t_firstMinute : Int32} {t_lookClock : Int32} {t_hasTime : Int32} {t_latestMost : Int32} {t_textMany : Int32} {t_seed : Int32} {t_toldMany : Int32} {t_hasTold : Int32} {t_codes : Int32} {t_ones : Int32} {t_top : Int32} {t_deep : Int32} {t_isWhole : Int32} {t_s : Nat → Int32} {r : Int32} {r_t_thrown : Int32} {k_9 : Int32 → Int32 → Int32 → Int32 → Option (Int32 × Int32)} (S : CallFix p m c cX12_now 4 s args wsX12_now RX12) (hr : meth.sig.returnType = some .int) (hlocks : meth.locks = false) (hF : zF G cy E (va_A w0 s.heap.size) s) (hk_9 : ∀ (x1 : Int32) (x2 : Int32) (x3 : Int32) (c_t_thrown : Int32) (H : Heap) (locs : List Loc) (ls : Array Slot), zH G (va_A w0 s.heap.size) s H locs (wd_X12_now cy q_t q_t_tape q_t_s q_t_h q_t_read q_t_names q_t_reserved q_t_undone q_t_before q_t_comeRow q_t_shown q_t_text q_t_toldAt q_t_stack q_t_truths q_t_imaged q_t_namesKept q_t_areKept c_t_thrown t_length t_size t_p t_limit t_token t_at t_span t_number t_fault t_faultAt t_word t_got t_lines t_hasWait t_undoMany t_firstMinute t_lookClock t_hasTime t_latestMost t_textMany t_seed t_toldMany t_hasTold t_codes t_ones t_top t_deep t_isWhole t_s) → lv_has ls 4 [(0, .ref q_t), (1, .int x1), (2, .int x2), (3, .int x3)] → k_9 x1 x2 x3 c_t_thrown = some (r, r_t_thrown) → W p l e rm_X12_now s m args below meth c H locs 0 0 (MQ below (zQ G w0 (wd_X12_now cy q_t q_t_tape q_t_s q_t_h q_t_read q_t_names q_t_reserved q_t_undone q_t_before q_t_comeRow q_t_shown q_t_text q_t_toldAt q_t_stack q_t_truths q_t_imaged q_t_namesKept q_t_areKept r_t_thrown t_length t_size t_p t_limit t_token t_at t_span t_number t_fault t_faultAt t_word t_got t_lines t_hasWait t_undoMany t_firstMinute t_lookClock t_hasTime t_latestMost t_textMany t_seed t_toldMany t_hasTold t_codes t_ones t_top t_deep t_isWhole t_s) s.heap.size (some (.int r))) args s 0 0 (va_A w0 s.heap.size)) (F0 m 9 ls [])) :
    ∀ (x1 : Int32) (x3 : Int32) (sk0 : Int32) (sk1 : Int32) (c_t_thrown : Int32) (H : Heap) (locs : List Loc) (ls : Array Slot), zH G (va_A w0 s.heap.size) s H locs (wd_X12_now cy q_t q_t_tape q_t_s q_t_h q_t_read q_t_names q_t_reserved q_t_undone q_t_before q_t_comeRow q_t_shown q_t_text q_t_toldAt q_t_stack q_t_truths q_t_imaged q_t_namesKept q_t_areKept c_t_thrown t_length t_size t_p t_limit t_token t_at t_span t_number t_fault t_faultAt t_word t_got t_lines t_hasWait t_undoMany t_firstMinute t_lookClock t_hasTime t_latestMost t_textMany t_seed t_toldMany t_hasTold t_codes t_ones t_top t_deep t_isWhole t_s) → lv_has ls 4 [(0, .ref q_t), (1, .int x1), (3, .int x3)] → f_X12_now_35 N t_s k_9 x1 x3 sk0 sk1 c_t_thrown = some (r, r_t_thrown) → W p l e rm_X12_now s m args below meth c H locs 0 0 (MQ below (zQ G w0 (wd_X12_now cy q_t q_t_tape q_t_s q_t_h q_t_read q_t_names q_t_reserved q_t_undone q_t_before q_t_comeRow q_t_shown q_t_text q_t_toldAt q_t_stack q_t_truths q_t_imaged q_t_namesKept q_t_areKept r_t_thrown t_length t_size t_p t_limit t_token t_at t_span t_number t_fault t_faultAt t_word t_got t_lines t_hasWait t_undoMany t_firstMinute t_lookClock t_hasTime t_latestMost t_textMany t_seed t_toldMany t_hasTold t_codes t_ones t_top t_deep t_isWhole t_s) s.heap.size (some (.int r))) args s 0 0 (va_A w0 s.heap.size)) (F0 m 35 ls [.int sk0, .int sk1]) := by
  obtain ⟨hx, hb, hml, hown, hts⟩ := id S
  intro x1 x3 sk0 sk1 c_t_thrown H locs ls hH hl h
  rw [f_X12_now_35] at h
  refine lv_ior hx hb dX12_now_35 ?_
  obtain ⟨y1, ey1, h⟩ := zbn_e h
  refine z_top ey1 ?_
  clear ey1
  refine lv_istore_n (lv' := [(2, .int y1), (0, .ref q_t), (1, .int x1), (3, .int x3)]) hx hb dX12_now_36 rfl hl (by decide) rfl (fun ls hl => ?_)
  obtain ⟨y2, ey2, h⟩ := zbn_e h
  refine lv_iinc (v := y2) (lv' := [(3, .int y2), (2, .int y1), (0, .ref q_t), (1, .int x1)]) hx hb dX12_now_37 hl (k := 3) rfl (by rw [ey2]; exact congrArg (fun z => x3 + z) (by decide)) (by decide) rfl (fun ls hl => ?_)
  clear ey2
  refine lv_goto (tgt := 9) hx hb dX12_now_40 (by decide) ?_
  exact hk_9 x1 y1 y2 c_t_thrown _ _ _ hH (lv_sub hl [2, 3, 1, 0] rfl) h
set_option maxHeartbeats 4000000 in
set_option maxRecDepth 100000 in
theorem w_X12_now_9 {p : Program} {l : Launch} {e : Env} {s : State} {m : MethodId} {args : Array Value} {below : List Frame} {meth : Method} {c : Code} {G : va_G} {cy : Nat → ClassId} {E : Nat → Nat} {w0 : va_W} {N : Nat} {q_t q_t_tape q_t_s q_t_h q_t_read q_t_names q_t_reserved q_t_undone q_t_before q_t_comeRow q_t_shown q_t_text q_t_toldAt q_t_stack q_t_truths q_t_imaged q_t_namesKept q_t_areKept : Nat} {t_length : Int32} {t_size : Int32} {t_p : Int32} {t_limit : Int32} {t_token : Int32} {t_at : Int32} {t_span : Int32} {t_number : Int32} {t_fault : Int32} {t_faultAt : Int32} {t_word : Int64} {t_got : Int32} {t_lines : Int32} {t_hasWait : Int32} {t_undoMany : Int32} {t_firstMinute : Int32} {t_lookClock : Int32} {t_hasTime : Int32} {t_latestMost : Int32} {t_textMany : Int32} {t_seed : Int32} {t_toldMany : Int32} {t_hasTold : Int32} {t_codes : Int32} {t_ones : Int32} {t_top : Int32} {t_deep : Int32} {t_isWhole : Int32} {t_s : Nat → Int32} {r : Int32} {r_t_thrown : Int32} (S : CallFix p m c cX12_now 4 s args wsX12_now RX12) (hr : meth.sig.returnType = some .int) (hlocks : meth.locks = false) (hF : zF G cy E (va_A w0 s.heap.size) s) :
    ∀ (n : Nat) (x1 : Int32) (x2 : Int32) (x3 : Int32) (c_t_thrown : Int32) (H : Heap) (locs : List Loc) (ls : Array Slot), zH G (va_A w0 s.heap.size) s H locs (wd_X12_now cy q_t q_t_tape q_t_s q_t_h q_t_read q_t_names q_t_reserved q_t_undone q_t_before q_t_comeRow q_t_shown q_t_text q_t_toldAt q_t_stack q_t_truths q_t_imaged q_t_namesKept q_t_areKept c_t_thrown t_length t_size t_p t_limit t_token t_at t_span t_number t_fault t_faultAt t_word t_got t_lines t_hasWait t_undoMany t_firstMinute t_lookClock t_hasTime t_latestMost t_textMany t_seed t_toldMany t_hasTold t_codes t_ones t_top t_deep t_isWhole t_s) → lv_has ls 4 [(0, .ref q_t), (1, .int x1), (2, .int x2), (3, .int x3)] → f_X12_now_9 N t_s n x1 x2 x3 c_t_thrown = some (r, r_t_thrown) → W p l e rm_X12_now s m args below meth c H locs 0 0 (MQ below (zQ G w0 (wd_X12_now cy q_t q_t_tape q_t_s q_t_h q_t_read q_t_names q_t_reserved q_t_undone q_t_before q_t_comeRow q_t_shown q_t_text q_t_toldAt q_t_stack q_t_truths q_t_imaged q_t_namesKept q_t_areKept r_t_thrown t_length t_size t_p t_limit t_token t_at t_span t_number t_fault t_faultAt t_word t_got t_lines t_hasWait t_undoMany t_firstMinute t_lookClock t_hasTime t_latestMost t_textMany t_seed t_toldMany t_hasTold t_codes t_ones t_top t_deep t_isWhole t_s) s.heap.size (some (.int r))) args s 0 0 (va_A w0 s.heap.size)) (F0 m 9 ls []) := by
  obtain ⟨hx, hb, hml, hown, hts⟩ := id S
  intro n
  induction n with
  | zero =>
    intro x1 x2 x3 c_t_thrown H locs ls hH hl h
    rw [f_X12_now_9] at h
    cases h
  | succ n ih =>
    intro x1 x2 x3 c_t_thrown H locs ls hH hl h
    rw [f_X12_now_9] at h
    refine lv_iload_n hx hb dX12_now_9 rfl (lv_at hl 3 rfl) ?_
    refine lv_aload_n hx hb dX12_now_10 rfl (lv_at hl 0 rfl) ?_
    refine z_get S hF hH iX12_now_X12 0 rfl rfl 6 (by decide) (List.mem_of_getElem? (i := 2) rfl) rfl dX12_now_11 ?_
    refine lv_iconst (v := 0) hx hb dX12_now_14 (by decide) ?_
    refine z_iald (j := 0) S hF hH 1 rfl (by decide) rfl dX12_now_15 ?_
    refine lv_icmp_ge (tgt := 43) hx hb dX12_now_16 (by decide) (fun b16 => ?_) (fun b16 => ?_)
    · replace h := zif_t b16 h
      refine lv_iload_n hx hb dX12_now_43 rfl (lv_at hl 1 rfl) ?_
      by_cases b44_0 : x1 = 0
      · replace h := zif_t b44_0 h
        refine lv_tableIn (tgt := 84) hx hb dX12_now_44 (by rw [b44_0]; decide) (by rw [b44_0]; decide) (by rw [b44_0]; rfl) (by decide) ?_
        refine lv_aload_n hx hb dX12_now_84 rfl (lv_at hl 0 rfl) ?_
        refine z_get S hF hH iX12_now_X12 0 rfl rfl 6 (by decide) (List.mem_of_getElem? (i := 2) rfl) rfl dX12_now_85 ?_
        refine lv_bipush (v := 52) hx hb dX12_now_88 (by decide) ?_
        refine z_iald (j := 52) S hF hH 1 rfl (by decide) rfl dX12_now_90 ?_
        cases h
        exact z_iret S hr hlocks hH dX12_now_91
      · replace h := zif_f b44_0 h
        by_cases b44_1 : x1 = 1
        · replace h := zif_t b44_1 h
          refine lv_tableIn (tgt := 92) hx hb dX12_now_44 (by rw [b44_1]; decide) (by rw [b44_1]; decide) (by rw [b44_1]; rfl) (by decide) ?_
          refine lv_aload_n hx hb dX12_now_92 rfl (lv_at hl 0 rfl) ?_
          refine z_get S hF hH iX12_now_X12 0 rfl rfl 6 (by decide) (List.mem_of_getElem? (i := 2) rfl) rfl dX12_now_93 ?_
          refine lv_bipush (v := 53) hx hb dX12_now_96 (by decide) ?_
          refine z_iald (j := 53) S hF hH 1 rfl (by decide) rfl dX12_now_98 ?_
          cases h
          exact z_iret S hr hlocks hH dX12_now_99
        · replace h := zif_f b44_1 h
          by_cases b44_2 : x1 = 2
          · replace h := zif_t b44_2 h
            refine lv_tableIn (tgt := 100) hx hb dX12_now_44 (by rw [b44_2]; decide) (by rw [b44_2]; decide) (by rw [b44_2]; rfl) (by decide) ?_
            refine lv_aload_n hx hb dX12_now_100 rfl (lv_at hl 0 rfl) ?_
            refine z_get S hF hH iX12_now_X12 0 rfl rfl 6 (by decide) (List.mem_of_getElem? (i := 2) rfl) rfl dX12_now_101 ?_
            refine lv_bipush (v := 54) hx hb dX12_now_104 (by decide) ?_
            refine z_iald (j := 54) S hF hH 1 rfl (by decide) rfl dX12_now_106 ?_
            cases h
            exact z_iret S hr hlocks hH dX12_now_107
          · replace h := zif_f b44_2 h
            by_cases b44_3 : x1 = 3
            · replace h := zif_t b44_3 h
              refine lv_tableIn (tgt := 108) hx hb dX12_now_44 (by rw [b44_3]; decide) (by rw [b44_3]; decide) (by rw [b44_3]; rfl) (by decide) ?_
              refine lv_iload_n hx hb dX12_now_108 rfl (lv_at hl 2 rfl) ?_
              cases h
              exact z_iret S hr hlocks hH dX12_now_109
            · replace h := zif_f b44_3 h
              by_cases b44_4 : x1 = 4
              · replace h := zif_t b44_4 h
                refine lv_tableIn (tgt := 110) hx hb dX12_now_44 (by rw [b44_4]; decide) (by rw [b44_4]; decide) (by rw [b44_4]; rfl) (by decide) ?_
                refine lv_aload_n hx hb dX12_now_110 rfl (lv_at hl 0 rfl) ?_
                refine z_get S hF hH iX12_now_X12 0 rfl rfl 6 (by decide) (List.mem_of_getElem? (i := 2) rfl) rfl dX12_now_111 ?_
                refine lv_bipush (v := 55) hx hb dX12_now_114 (by decide) ?_
                refine z_iald (j := 55) S hF hH 1 rfl (by decide) rfl dX12_now_116 ?_
                cases h
                exact z_iret S hr hlocks hH dX12_now_117
              · replace h := zif_f b44_4 h
                by_cases b44_5 : x1 = 5
                · replace h := zif_t b44_5 h
                  refine lv_tableIn (tgt := 118) hx hb dX12_now_44 (by rw [b44_5]; decide) (by rw [b44_5]; decide) (by rw [b44_5]; rfl) (by decide) ?_
                  refine lv_aload_n hx hb dX12_now_118 rfl (lv_at hl 0 rfl) ?_
                  refine z_get S hF hH iX12_now_X12 0 rfl rfl 6 (by decide) (List.mem_of_getElem? (i := 2) rfl) rfl dX12_now_119 ?_
                  refine lv_bipush (v := 56) hx hb dX12_now_122 (by decide) ?_
                  refine z_iald (j := 56) S hF hH 1 rfl (by decide) rfl dX12_now_124 ?_
                  cases h
                  exact z_iret S hr hlocks hH dX12_now_125
                · replace h := zif_f b44_5 h
                  refine lv_tableOut (tgt := 126) hx hb dX12_now_44 (z_sw (fun k h1 h2 => by rcases (show k = 0 ∨ k = 1 ∨ k = 2 ∨ k = 3 ∨ k = 4 ∨ k = 5 by omega) with rfl | rfl | rfl | rfl | rfl | rfl <;> assumption)) (by decide) ?_
                  refine lv_iconst (v := (-1)) hx hb dX12_now_126 (by decide) ?_
                  cases h
                  exact z_iret S hr hlocks hH dX12_now_127
    · replace h := zif_f b16 h
      refine lv_iload_n hx hb dX12_now_19 rfl (lv_at hl 2 rfl) ?_
      refine lv_aload_n hx hb dX12_now_20 rfl (lv_at hl 0 rfl) ?_
      refine lv_iload_n hx hb dX12_now_21 rfl (lv_at hl 3 rfl) ?_
      obtain ⟨z22, hz22, h⟩ := zcl_e h
      refine z_callV (As := [.int x3]) (rest := [.int x2]) (st1 := [.int z22, .int x2]) (ws' := (wd_X12_now cy q_t q_t_tape q_t_s q_t_h q_t_read q_t_names q_t_reserved q_t_undone q_t_before q_t_comeRow q_t_shown q_t_text q_t_toldAt q_t_stack q_t_truths q_t_imaged q_t_namesKept q_t_areKept c_t_thrown t_length t_size t_p t_limit t_token t_at t_span t_number t_fault t_faultAt t_word t_got t_lines t_hasWait t_undoMany t_firstMinute t_lookClock t_hasTime t_latestMost t_textMany t_seed t_toldMany t_hasTold t_codes t_ones t_top t_deep t_isWhole t_s)) S hF hH (c_X12_wrongBy l G cy E N q_t q_t_tape q_t_s q_t_h q_t_read q_t_names q_t_reserved q_t_undone q_t_before q_t_comeRow q_t_shown q_t_text q_t_toldAt q_t_stack q_t_truths q_t_imaged q_t_namesKept q_t_areKept c_t_thrown t_length t_size t_p t_limit t_token t_at t_span t_number t_fault t_faultAt t_word t_got t_lines t_hasWait t_undoMany t_firstMinute t_lookClock t_hasTime t_latestMost t_textMany t_seed t_toldMany t_hasTold t_codes t_ones t_top t_deep t_isWhole t_s x3 z22 hz22) (cwV 1 hts gX12_now_X12_wrongBy rfl rfl rfl (by decide +kernel) ⟨Nat.le_of_ble_eq_true rfl, Nat.le_of_ble_eq_true rfl⟩) 13 0 rfl rfl [0, 1] rfl (by decide) rfl rfl rfl rfl rfl hl.1 (Nat.le_of_ble_eq_true rfl) dX12_now_22 ⟨Nat.le_of_ble_eq_true rfl, Nat.le_of_ble_eq_true rfl⟩ (fun H locs hH => ?_)
      refine lv_if_ne (tgt := 34) hx hb dX12_now_25 (by decide) (fun b25 => ?_) (fun b25 => ?_)
      · replace h := zif_f b25 h
        refine lv_iconst (v := 0) hx hb dX12_now_34 (by decide) ?_
        exact w_X12_now_35 S hr hlocks hF ih x1 x3 0 x2 c_t_thrown _ _ _ hH (lv_sub hl [0, 1, 3] rfl) h
      · replace h := zif_t b25 h
        refine lv_iconst (v := 1) hx hb dX12_now_28 (by decide) ?_
        refine lv_iload_n hx hb dX12_now_29 rfl (lv_at hl 3 rfl) ?_
        refine lv_ishl hx hb dX12_now_30 ?_
        refine lv_goto (tgt := 35) hx hb dX12_now_31 (by decide) ?_
        exact w_X12_now_35 S hr hlocks hF ih x1 x3 (1 <<< (x3 &&& 31)) x2 c_t_thrown _ _ _ hH (lv_sub hl [0, 1, 3] rfl) h
set_option maxHeartbeats 4000000 in
set_option maxRecDepth 100000 in
theorem c_X12_now (l : Launch) (G : va_G) (cy : Nat → ClassId) (E : Nat → Nat) (N : Nat) (q_t q_t_tape q_t_s q_t_h q_t_read q_t_names q_t_reserved q_t_undone q_t_before q_t_comeRow q_t_shown q_t_text q_t_toldAt q_t_stack q_t_truths q_t_imaged q_t_namesKept q_t_areKept : Nat) (t_thrown : Int32) (t_length : Int32) (t_size : Int32) (t_p : Int32) (t_limit : Int32) (t_token : Int32) (t_at : Int32) (t_span : Int32) (t_number : Int32) (t_fault : Int32) (t_faultAt : Int32) (t_word : Int64) (t_got : Int32) (t_lines : Int32) (t_hasWait : Int32) (t_undoMany : Int32) (t_firstMinute : Int32) (t_lookClock : Int32) (t_hasTime : Int32) (t_latestMost : Int32) (t_textMany : Int32) (t_seed : Int32) (t_toldMany : Int32) (t_hasTold : Int32) (t_codes : Int32) (t_ones : Int32) (t_top : Int32) (t_deep : Int32) (t_isWhole : Int32) (t_s : Nat → Int32) (x0 : Int32) (r : Int32) (r_t_thrown : Int32) (h : f_X12_now N x0 t_thrown t_s = some (r, r_t_thrown)) : zM l G cy E yX12_now wsX12_now rm_X12_now [.ref q_t, .int x0] (wd_X12_now cy q_t q_t_tape q_t_s q_t_h q_t_read q_t_names q_t_reserved q_t_undone q_t_before q_t_comeRow q_t_shown q_t_text q_t_toldAt q_t_stack q_t_truths q_t_imaged q_t_namesKept q_t_areKept t_thrown t_length t_size t_p t_limit t_token t_at t_span t_number t_fault t_faultAt t_word t_got t_lines t_hasWait t_undoMany t_firstMinute t_lookClock t_hasTime t_latestMost t_textMany t_seed t_toldMany t_hasTold t_codes t_ones t_top t_deep t_isWhole t_s) (wd_X12_now cy q_t q_t_tape q_t_s q_t_h q_t_read q_t_names q_t_reserved q_t_undone q_t_before q_t_comeRow q_t_shown q_t_text q_t_toldAt q_t_stack q_t_truths q_t_imaged q_t_namesKept q_t_areKept r_t_thrown t_length t_size t_p t_limit t_token t_at t_span t_number t_fault t_faultAt t_word t_got t_lines t_hasWait t_undoMany t_firstMinute t_lookClock t_hasTime t_latestMost t_textMany t_seed t_toldMany t_hasTold t_codes t_ones t_top t_deep t_isWhole t_s) (some (.int r)) 0 0 := by
  refine z_body (cc := cX12_now) (maxL := 4) (ret := some .int) (by decide) rfl (Nat.le_of_ble_eq_true rfl) ?_
  intro p e s m below meth c ls S hr hlocks hnm hF hH hl
  have S : CallFix p m c cX12_now 4 s ([.ref q_t, .int x0] : List Value).toArray wsX12_now RX12 := S
  obtain ⟨hx, hb, hml, hown, hts⟩ := id S
  have hl : lv_has ls 4 [(0, .ref q_t), (1, .int x0)] := hl
  rw [f_X12_now] at h
  refine lv_aload_n hx hb dX12_now_0 rfl (lv_at hl 0 rfl) ?_
  refine lv_iconst (v := 0) hx hb dX12_now_1 (by decide) ?_
  refine z_put (ws' := (wd_X12_now cy q_t q_t_tape q_t_s q_t_h q_t_read q_t_names q_t_reserved q_t_undone q_t_before q_t_comeRow q_t_shown q_t_text q_t_toldAt q_t_stack q_t_truths q_t_imaged q_t_namesKept q_t_areKept 0 t_length t_size t_p t_limit t_token t_at t_span t_number t_fault t_faultAt t_word t_got t_lines t_hasWait t_undoMany t_firstMinute t_lookClock t_hasTime t_latestMost t_textMany t_seed t_toldMany t_hasTold t_codes t_ones t_top t_deep t_isWhole t_s)) S hF hH iX12_now_X12 tyX12 tyX12_ok nmX12 0 rfl rfl 0 (by decide) (List.mem_of_getElem? (i := 1) rfl) rfl rfl rfl (Nat.le_of_ble_eq_true rfl) rfl dX12_now_2 (fun H locs hH => ?_)
  refine lv_iconst (v := 0) hx hb dX12_now_5 (by decide) ?_
  refine lv_istore_n (lv' := [(2, .int 0), (0, .ref q_t), (1, .int x0)]) hx hb dX12_now_6 rfl hl (by decide) rfl (fun ls hl => ?_)
  refine lv_iconst (v := 0) hx hb dX12_now_7 (by decide) ?_
  refine lv_istore_n (lv' := [(3, .int 0), (2, .int 0), (0, .ref q_t), (1, .int x0)]) hx hb dX12_now_8 rfl hl (by decide) rfl (fun ls hl => ?_)
  exact w_X12_now_9 S hr hlocks hF N x0 0 0 0 _ _ _ hH (lv_sub hl [2, 3, 1, 0] rfl) h
abbrev wd_X12_whySet (cy : Nat → ClassId) (q_t q_t_tape q_t_s q_t_h q_t_read q_t_names q_t_reserved q_t_undone q_t_before q_t_comeRow q_t_shown q_t_text q_t_toldAt q_t_stack q_t_truths q_t_imaged q_t_namesKept q_t_areKept : Nat) (t_thrown : Int32) (t_length : Int32) (t_size : Int32) (t_p : Int32) (t_limit : Int32) (t_token : Int32) (t_at : Int32) (t_span : Int32) (t_number : Int32) (t_fault : Int32) (t_faultAt : Int32) (t_word : Int64) (t_got : Int32) (t_lines : Int32) (t_hasWait : Int32) (t_undoMany : Int32) (t_firstMinute : Int32) (t_lookClock : Int32) (t_hasTime : Int32) (t_latestMost : Int32) (t_textMany : Int32) (t_seed : Int32) (t_toldMany : Int32) (t_hasTold : Int32) (t_codes : Int32) (t_ones : Int32) (t_top : Int32) (t_deep : Int32) (t_isWhole : Int32) (t_s : Nat → Int32) : va_W := [(q_t, .inr (13, [.int t_thrown, .ref q_t_tape, .int t_length, .int t_size, .int t_p, .int t_limit, .ref q_t_s, .ref q_t_h, .ref q_t_read, .ref q_t_names, .ref q_t_reserved, .int t_token, .int t_at, .int t_span, .int t_number, .int t_fault, .int t_faultAt, .long t_word, .int t_got, .int t_lines, .int t_hasWait, .ref q_t_undone, .ref q_t_before, .int t_undoMany, .ref q_t_comeRow, .int t_firstMinute, .int t_lookClock, .int t_hasTime, .ref q_t_shown, .int t_latestMost, .ref q_t_text, .int t_textMany, .int t_seed, .int t_toldMany, .ref q_t_toldAt, .int t_hasTold, .ref q_t_stack, .int t_codes, .int t_ones, .int t_top, .int t_deep, .int t_isWhole, .ref q_t_truths, .ref q_t_imaged, .ref q_t_namesKept, .ref q_t_areKept])), (q_t_s, .inl (cy 1, 334, .inl t_s))]
abbrev rm_X12_whySet : Room := { frames := 2, cells := 0, slots := 0, locals := 42 }
set_option maxRecDepth 100000 in
def f_X12_whySet (N : Nat) (x0 : Int32) (x1 : Int32) (t_s : Nat → Int32) : Option (Int32) := zcl (f_X12_isOut N x0 t_s) fun z2 => if z2 = 0 then (zcl (f_X12_isStopped N x1 t_s) fun z14 => if z14 = 0 then (some 0) else (some 2)) else (some 1)
set_option maxHeartbeats 4000000 in
set_option maxRecDepth 100000 in
theorem c_X12_whySet (l : Launch) (G : va_G) (cy : Nat → ClassId) (E : Nat → Nat) (N : Nat) (q_t q_t_tape q_t_s q_t_h q_t_read q_t_names q_t_reserved q_t_undone q_t_before q_t_comeRow q_t_shown q_t_text q_t_toldAt q_t_stack q_t_truths q_t_imaged q_t_namesKept q_t_areKept : Nat) (t_thrown : Int32) (t_length : Int32) (t_size : Int32) (t_p : Int32) (t_limit : Int32) (t_token : Int32) (t_at : Int32) (t_span : Int32) (t_number : Int32) (t_fault : Int32) (t_faultAt : Int32) (t_word : Int64) (t_got : Int32) (t_lines : Int32) (t_hasWait : Int32) (t_undoMany : Int32) (t_firstMinute : Int32) (t_lookClock : Int32) (t_hasTime : Int32) (t_latestMost : Int32) (t_textMany : Int32) (t_seed : Int32) (t_toldMany : Int32) (t_hasTold : Int32) (t_codes : Int32) (t_ones : Int32) (t_top : Int32) (t_deep : Int32) (t_isWhole : Int32) (t_s : Nat → Int32) (x0 : Int32) (x1 : Int32) (r : Int32) (h : f_X12_whySet N x0 x1 t_s = some r) : zM l G cy E yX12_whySet wsX12_whySet rm_X12_whySet [.ref q_t, .int x0, .int x1] (wd_X12_whySet cy q_t q_t_tape q_t_s q_t_h q_t_read q_t_names q_t_reserved q_t_undone q_t_before q_t_comeRow q_t_shown q_t_text q_t_toldAt q_t_stack q_t_truths q_t_imaged q_t_namesKept q_t_areKept t_thrown t_length t_size t_p t_limit t_token t_at t_span t_number t_fault t_faultAt t_word t_got t_lines t_hasWait t_undoMany t_firstMinute t_lookClock t_hasTime t_latestMost t_textMany t_seed t_toldMany t_hasTold t_codes t_ones t_top t_deep t_isWhole t_s) (wd_X12_whySet cy q_t q_t_tape q_t_s q_t_h q_t_read q_t_names q_t_reserved q_t_undone q_t_before q_t_comeRow q_t_shown q_t_text q_t_toldAt q_t_stack q_t_truths q_t_imaged q_t_namesKept q_t_areKept t_thrown t_length t_size t_p t_limit t_token t_at t_span t_number t_fault t_faultAt t_word t_got t_lines t_hasWait t_undoMany t_firstMinute t_lookClock t_hasTime t_latestMost t_textMany t_seed t_toldMany t_hasTold t_codes t_ones t_top t_deep t_isWhole t_s) (some (.int r)) 0 0 := by
  refine z_body (cc := cX12_whySet) (maxL := 3) (ret := some .int) (by decide) rfl (Nat.le_of_ble_eq_true rfl) ?_
  intro p e s m below meth c ls S hr hlocks hnm hF hH hl
  have S : CallFix p m c cX12_whySet 3 s ([.ref q_t, .int x0, .int x1] : List Value).toArray wsX12_whySet RX12 := S
  obtain ⟨hx, hb, hml, hown, hts⟩ := id S
  have hl : lv_has ls 3 [(0, .ref q_t), (1, .int x0), (2, .int x1)] := hl
  rw [f_X12_whySet] at h
  refine lv_aload_n hx hb dX12_whySet_0 rfl (lv_at hl 0 rfl) ?_
  refine lv_iload_n hx hb dX12_whySet_1 rfl (lv_at hl 1 rfl) ?_
  obtain ⟨z2, hz2, h⟩ := zcl_e h
  refine z_callV (As := [.int x0]) (rest := []) (st1 := [.int z2]) (ws' := (wd_X12_whySet cy q_t q_t_tape q_t_s q_t_h q_t_read q_t_names q_t_reserved q_t_undone q_t_before q_t_comeRow q_t_shown q_t_text q_t_toldAt q_t_stack q_t_truths q_t_imaged q_t_namesKept q_t_areKept t_thrown t_length t_size t_p t_limit t_token t_at t_span t_number t_fault t_faultAt t_word t_got t_lines t_hasWait t_undoMany t_firstMinute t_lookClock t_hasTime t_latestMost t_textMany t_seed t_toldMany t_hasTold t_codes t_ones t_top t_deep t_isWhole t_s)) S hF hH (c_X12_isOut l G cy E N q_t q_t_tape q_t_s q_t_h q_t_read q_t_names q_t_reserved q_t_undone q_t_before q_t_comeRow q_t_shown q_t_text q_t_toldAt q_t_stack q_t_truths q_t_imaged q_t_namesKept q_t_areKept t_thrown t_length t_size t_p t_limit t_token t_at t_span t_number t_fault t_faultAt t_word t_got t_lines t_hasWait t_undoMany t_firstMinute t_lookClock t_hasTime t_latestMost t_textMany t_seed t_toldMany t_hasTold t_codes t_ones t_top t_deep t_isWhole t_s x0 z2 hz2) (cwV 1 hts gX12_whySet_X12_isOut rfl rfl rfl (by decide +kernel) ⟨Nat.le_of_ble_eq_true rfl, Nat.le_of_ble_eq_true rfl⟩) 13 0 rfl rfl [0, 1] rfl (by decide) rfl rfl rfl rfl rfl hl.1 (Nat.le_of_ble_eq_true rfl) dX12_whySet_2 ⟨Nat.le_of_ble_eq_true rfl, Nat.le_of_ble_eq_true rfl⟩ (fun H locs hH => ?_)
  refine lv_if_eq (tgt := 12) hx hb dX12_whySet_5 (by decide) (fun b5 => ?_) (fun b5 => ?_)
  · replace h := zif_t b5 h
    refine lv_aload_n hx hb dX12_whySet_12 rfl (lv_at hl 0 rfl) ?_
    refine lv_iload_n hx hb dX12_whySet_13 rfl (lv_at hl 2 rfl) ?_
    obtain ⟨z14, hz14, h⟩ := zcl_e h
    refine z_callV (As := [.int x1]) (rest := []) (st1 := [.int z14]) (ws' := (wd_X12_whySet cy q_t q_t_tape q_t_s q_t_h q_t_read q_t_names q_t_reserved q_t_undone q_t_before q_t_comeRow q_t_shown q_t_text q_t_toldAt q_t_stack q_t_truths q_t_imaged q_t_namesKept q_t_areKept t_thrown t_length t_size t_p t_limit t_token t_at t_span t_number t_fault t_faultAt t_word t_got t_lines t_hasWait t_undoMany t_firstMinute t_lookClock t_hasTime t_latestMost t_textMany t_seed t_toldMany t_hasTold t_codes t_ones t_top t_deep t_isWhole t_s)) S hF hH (c_X12_isStopped l G cy E N q_t q_t_tape q_t_s q_t_h q_t_read q_t_names q_t_reserved q_t_undone q_t_before q_t_comeRow q_t_shown q_t_text q_t_toldAt q_t_stack q_t_truths q_t_imaged q_t_namesKept q_t_areKept t_thrown t_length t_size t_p t_limit t_token t_at t_span t_number t_fault t_faultAt t_word t_got t_lines t_hasWait t_undoMany t_firstMinute t_lookClock t_hasTime t_latestMost t_textMany t_seed t_toldMany t_hasTold t_codes t_ones t_top t_deep t_isWhole t_s x1 z14 hz14) (cwV 1 hts gX12_whySet_X12_isStopped rfl rfl rfl (by decide +kernel) ⟨Nat.le_of_ble_eq_true rfl, Nat.le_of_ble_eq_true rfl⟩) 13 0 rfl rfl [0, 1] rfl (by decide) rfl rfl rfl rfl rfl hl.1 (Nat.le_of_ble_eq_true rfl) dX12_whySet_14 ⟨Nat.le_of_ble_eq_true rfl, Nat.le_of_ble_eq_true rfl⟩ (fun H locs hH => ?_)
    refine lv_if_eq (tgt := 24) hx hb dX12_whySet_17 (by decide) (fun b17 => ?_) (fun b17 => ?_)
    · replace h := zif_t b17 h
      refine lv_iconst (v := 0) hx hb dX12_whySet_24 (by decide) ?_
      cases h
      exact z_iret S hr hlocks hH dX12_whySet_25
    · replace h := zif_f b17 h
      refine lv_iconst (v := 2) hx hb dX12_whySet_20 (by decide) ?_
      refine lv_goto (tgt := 25) hx hb dX12_whySet_21 (by decide) ?_
      cases h
      exact z_iret S hr hlocks hH dX12_whySet_25
  · replace h := zif_f b5 h
    refine lv_iconst (v := 1) hx hb dX12_whySet_8 (by decide) ?_
    refine lv_goto (tgt := 25) hx hb dX12_whySet_9 (by decide) ?_
    cases h
    exact z_iret S hr hlocks hH dX12_whySet_25
abbrev wd_X12_runsFrom (cy : Nat → ClassId) (q_t q_t_tape q_t_s q_t_h q_t_read q_t_names q_t_reserved q_t_undone q_t_before q_t_comeRow q_t_shown q_t_text q_t_toldAt q_t_stack q_t_truths q_t_imaged q_t_namesKept q_t_areKept : Nat) (t_thrown : Int32) (t_length : Int32) (t_size : Int32) (t_p : Int32) (t_limit : Int32) (t_token : Int32) (t_at : Int32) (t_span : Int32) (t_number : Int32) (t_fault : Int32) (t_faultAt : Int32) (t_word : Int64) (t_got : Int32) (t_lines : Int32) (t_hasWait : Int32) (t_undoMany : Int32) (t_firstMinute : Int32) (t_lookClock : Int32) (t_hasTime : Int32) (t_latestMost : Int32) (t_textMany : Int32) (t_seed : Int32) (t_toldMany : Int32) (t_hasTold : Int32) (t_codes : Int32) (t_ones : Int32) (t_top : Int32) (t_deep : Int32) (t_isWhole : Int32) (t_s : Nat → Int32) : va_W := [(q_t, .inr (13, [.int t_thrown, .ref q_t_tape, .int t_length, .int t_size, .int t_p, .int t_limit, .ref q_t_s, .ref q_t_h, .ref q_t_read, .ref q_t_names, .ref q_t_reserved, .int t_token, .int t_at, .int t_span, .int t_number, .int t_fault, .int t_faultAt, .long t_word, .int t_got, .int t_lines, .int t_hasWait, .ref q_t_undone, .ref q_t_before, .int t_undoMany, .ref q_t_comeRow, .int t_firstMinute, .int t_lookClock, .int t_hasTime, .ref q_t_shown, .int t_latestMost, .ref q_t_text, .int t_textMany, .int t_seed, .int t_toldMany, .ref q_t_toldAt, .int t_hasTold, .ref q_t_stack, .int t_codes, .int t_ones, .int t_top, .int t_deep, .int t_isWhole, .ref q_t_truths, .ref q_t_imaged, .ref q_t_namesKept, .ref q_t_areKept])), (q_t_s, .inl (cy 1, 334, .inl t_s))]
theorem iX12_runsFrom_X12 : ∀ w ∈ wsX120, w ∈ wsX12_runsFrom := fun _ h => List.mem_cons_of_mem _ (List.mem_append_right _ h)
abbrev rm_X12_runsFrom : Room := { frames := 0, cells := 0, slots := 0, locals := 0 }
set_option maxRecDepth 100000 in
def f_X12_runsFrom (N : Nat) (x0 : Int32) (x1 : Int32) (t_s : Nat → Int32) : Option ((Nat → Int32)) := zck (zin (57 + x0) 334) <| zbn (upd t_s (Int32.toNatClampNeg (57 + x0)) x1) fun f1 => zbn ((f1 52)) fun y2 => zck (zin (63 + x0) 334) <| zbn (upd f1 (Int32.toNatClampNeg (63 + x0)) y2) fun f3 => zbn (((f3 54) &&& ((1 <<< (x0 &&& 31)) ^^^ (-1)))) fun y4 => zbn (upd f3 54 y4) fun f5 => zck (zin (69 + x0) 334) <| zbn (upd f5 (Int32.toNatClampNeg (69 + x0)) 0) fun f6 => some f6
set_option maxHeartbeats 4000000 in
set_option maxRecDepth 100000 in
theorem c_X12_runsFrom (l : Launch) (G : va_G) (cy : Nat → ClassId) (E : Nat → Nat) (N : Nat) (q_t q_t_tape q_t_s q_t_h q_t_read q_t_names q_t_reserved q_t_undone q_t_before q_t_comeRow q_t_shown q_t_text q_t_toldAt q_t_stack q_t_truths q_t_imaged q_t_namesKept q_t_areKept : Nat) (t_thrown : Int32) (t_length : Int32) (t_size : Int32) (t_p : Int32) (t_limit : Int32) (t_token : Int32) (t_at : Int32) (t_span : Int32) (t_number : Int32) (t_fault : Int32) (t_faultAt : Int32) (t_word : Int64) (t_got : Int32) (t_lines : Int32) (t_hasWait : Int32) (t_undoMany : Int32) (t_firstMinute : Int32) (t_lookClock : Int32) (t_hasTime : Int32) (t_latestMost : Int32) (t_textMany : Int32) (t_seed : Int32) (t_toldMany : Int32) (t_hasTold : Int32) (t_codes : Int32) (t_ones : Int32) (t_top : Int32) (t_deep : Int32) (t_isWhole : Int32) (t_s : Nat → Int32) (x0 : Int32) (x1 : Int32) (r_t_s : Nat → Int32) (h : f_X12_runsFrom N x0 x1 t_s = some r_t_s) : zM l G cy E yX12_runsFrom wsX12_runsFrom rm_X12_runsFrom [.ref q_t, .int x0, .int x1] (wd_X12_runsFrom cy q_t q_t_tape q_t_s q_t_h q_t_read q_t_names q_t_reserved q_t_undone q_t_before q_t_comeRow q_t_shown q_t_text q_t_toldAt q_t_stack q_t_truths q_t_imaged q_t_namesKept q_t_areKept t_thrown t_length t_size t_p t_limit t_token t_at t_span t_number t_fault t_faultAt t_word t_got t_lines t_hasWait t_undoMany t_firstMinute t_lookClock t_hasTime t_latestMost t_textMany t_seed t_toldMany t_hasTold t_codes t_ones t_top t_deep t_isWhole t_s) (wd_X12_runsFrom cy q_t q_t_tape q_t_s q_t_h q_t_read q_t_names q_t_reserved q_t_undone q_t_before q_t_comeRow q_t_shown q_t_text q_t_toldAt q_t_stack q_t_truths q_t_imaged q_t_namesKept q_t_areKept t_thrown t_length t_size t_p t_limit t_token t_at t_span t_number t_fault t_faultAt t_word t_got t_lines t_hasWait t_undoMany t_firstMinute t_lookClock t_hasTime t_latestMost t_textMany t_seed t_toldMany t_hasTold t_codes t_ones t_top t_deep t_isWhole r_t_s) none 0 0 := by
  refine z_body (cc := cX12_runsFrom) (maxL := 3) (ret := none) (by decide) rfl (Nat.le_of_ble_eq_true rfl) ?_
  intro p e s m below meth c ls S hr hlocks hnm hF hH hl
  have S : CallFix p m c cX12_runsFrom 3 s ([.ref q_t, .int x0, .int x1] : List Value).toArray wsX12_runsFrom RX12 := S
  obtain ⟨hx, hb, hml, hown, hts⟩ := id S
  have hl : lv_has ls 3 [(0, .ref q_t), (1, .int x0), (2, .int x1)] := hl
  rw [f_X12_runsFrom] at h
  refine lv_aload_n hx hb dX12_runsFrom_0 rfl (lv_at hl 0 rfl) ?_
  refine z_get S hF hH iX12_runsFrom_X12 0 rfl rfl 6 (by decide) (List.mem_of_getElem? (i := 1) rfl) rfl dX12_runsFrom_1 ?_
  refine lv_bipush (v := 57) hx hb dX12_runsFrom_4 (by decide) ?_
  refine lv_iload_n hx hb dX12_runsFrom_6 rfl (lv_at hl 1 rfl) ?_
  refine lv_iadd hx hb dX12_runsFrom_7 ?_
  refine lv_iload_n hx hb dX12_runsFrom_8 rfl (lv_at hl 2 rfl) ?_
  obtain ⟨h9, h⟩ := zck_e h
  obtain ⟨f1, ef1, h⟩ := zbn_e h
  refine z_iast (ws' := (wd_X12_runsFrom cy q_t q_t_tape q_t_s q_t_h q_t_read q_t_names q_t_reserved q_t_undone q_t_before q_t_comeRow q_t_shown q_t_text q_t_toldAt q_t_stack q_t_truths q_t_imaged q_t_namesKept q_t_areKept t_thrown t_length t_size t_p t_limit t_token t_at t_span t_number t_fault t_faultAt t_word t_got t_lines t_hasWait t_undoMany t_firstMinute t_lookClock t_hasTime t_latestMost t_textMany t_seed t_toldMany t_hasTold t_codes t_ones t_top t_deep t_isWhole f1)) (j := (Int32.toNatClampNeg (57 + x0))) S hF hH 1 rfl h9 rfl (by rw [ef1]; rfl) dX12_runsFrom_9 (fun H locs hH => ?_)
  clear ef1
  refine lv_aload_n hx hb dX12_runsFrom_10 rfl (lv_at hl 0 rfl) ?_
  refine z_get S hF hH iX12_runsFrom_X12 0 rfl rfl 6 (by decide) (List.mem_of_getElem? (i := 1) rfl) rfl dX12_runsFrom_11 ?_
  refine lv_bipush (v := 63) hx hb dX12_runsFrom_14 (by decide) ?_
  refine lv_iload_n hx hb dX12_runsFrom_16 rfl (lv_at hl 1 rfl) ?_
  refine lv_iadd hx hb dX12_runsFrom_17 ?_
  refine lv_aload_n hx hb dX12_runsFrom_18 rfl (lv_at hl 0 rfl) ?_
  refine z_get S hF hH iX12_runsFrom_X12 0 rfl rfl 6 (by decide) (List.mem_of_getElem? (i := 1) rfl) rfl dX12_runsFrom_19 ?_
  refine lv_bipush (v := 52) hx hb dX12_runsFrom_22 (by decide) ?_
  refine z_iald (j := 52) S hF hH 1 rfl (by decide) rfl dX12_runsFrom_24 ?_
  obtain ⟨y2, ey2, h⟩ := zbn_e h
  refine z_top ey2 ?_
  clear ey2
  obtain ⟨h25, h⟩ := zck_e h
  obtain ⟨f3, ef3, h⟩ := zbn_e h
  refine z_iast (ws' := (wd_X12_runsFrom cy q_t q_t_tape q_t_s q_t_h q_t_read q_t_names q_t_reserved q_t_undone q_t_before q_t_comeRow q_t_shown q_t_text q_t_toldAt q_t_stack q_t_truths q_t_imaged q_t_namesKept q_t_areKept t_thrown t_length t_size t_p t_limit t_token t_at t_span t_number t_fault t_faultAt t_word t_got t_lines t_hasWait t_undoMany t_firstMinute t_lookClock t_hasTime t_latestMost t_textMany t_seed t_toldMany t_hasTold t_codes t_ones t_top t_deep t_isWhole f3)) (j := (Int32.toNatClampNeg (63 + x0))) S hF hH 1 rfl h25 rfl (by rw [ef3]; rfl) dX12_runsFrom_25 (fun H locs hH => ?_)
  clear ef3
  refine lv_aload_n hx hb dX12_runsFrom_26 rfl (lv_at hl 0 rfl) ?_
  refine z_get S hF hH iX12_runsFrom_X12 0 rfl rfl 6 (by decide) (List.mem_of_getElem? (i := 1) rfl) rfl dX12_runsFrom_27 ?_
  refine lv_bipush (v := 54) hx hb dX12_runsFrom_30 (by decide) ?_
  refine lv_dup2_11 hx hb dX12_runsFrom_32 rfl rfl ?_
  refine z_iald (j := 54) S hF hH 1 rfl (by decide) rfl dX12_runsFrom_33 ?_
  refine lv_iconst (v := 1) hx hb dX12_runsFrom_34 (by decide) ?_
  refine lv_iload_n hx hb dX12_runsFrom_35 rfl (lv_at hl 1 rfl) ?_
  refine lv_ishl hx hb dX12_runsFrom_36 ?_
  refine lv_iconst (v := (-1)) hx hb dX12_runsFrom_37 (by decide) ?_
  refine lv_ixor hx hb dX12_runsFrom_38 ?_
  refine lv_iand hx hb dX12_runsFrom_39 ?_
  obtain ⟨y4, ey4, h⟩ := zbn_e h
  refine z_top ey4 ?_
  clear ey4
  obtain ⟨f5, ef5, h⟩ := zbn_e h
  refine z_iast (ws' := (wd_X12_runsFrom cy q_t q_t_tape q_t_s q_t_h q_t_read q_t_names q_t_reserved q_t_undone q_t_before q_t_comeRow q_t_shown q_t_text q_t_toldAt q_t_stack q_t_truths q_t_imaged q_t_namesKept q_t_areKept t_thrown t_length t_size t_p t_limit t_token t_at t_span t_number t_fault t_faultAt t_word t_got t_lines t_hasWait t_undoMany t_firstMinute t_lookClock t_hasTime t_latestMost t_textMany t_seed t_toldMany t_hasTold t_codes t_ones t_top t_deep t_isWhole f5)) (j := 54) S hF hH 1 rfl (by decide) rfl (by rw [ef5]; rfl) dX12_runsFrom_40 (fun H locs hH => ?_)
  clear ef5
  refine lv_aload_n hx hb dX12_runsFrom_41 rfl (lv_at hl 0 rfl) ?_
  refine z_get S hF hH iX12_runsFrom_X12 0 rfl rfl 6 (by decide) (List.mem_of_getElem? (i := 1) rfl) rfl dX12_runsFrom_42 ?_
  refine lv_bipush (v := 69) hx hb dX12_runsFrom_45 (by decide) ?_
  refine lv_iload_n hx hb dX12_runsFrom_47 rfl (lv_at hl 1 rfl) ?_
  refine lv_iadd hx hb dX12_runsFrom_48 ?_
  refine lv_iconst (v := 0) hx hb dX12_runsFrom_49 (by decide) ?_
  obtain ⟨h50, h⟩ := zck_e h
  obtain ⟨f6, ef6, h⟩ := zbn_e h
  refine z_iast (ws' := (wd_X12_runsFrom cy q_t q_t_tape q_t_s q_t_h q_t_read q_t_names q_t_reserved q_t_undone q_t_before q_t_comeRow q_t_shown q_t_text q_t_toldAt q_t_stack q_t_truths q_t_imaged q_t_namesKept q_t_areKept t_thrown t_length t_size t_p t_limit t_token t_at t_span t_number t_fault t_faultAt t_word t_got t_lines t_hasWait t_undoMany t_firstMinute t_lookClock t_hasTime t_latestMost t_textMany t_seed t_toldMany t_hasTold t_codes t_ones t_top t_deep t_isWhole f6)) (j := (Int32.toNatClampNeg (69 + x0))) S hF hH 1 rfl h50 rfl (by rw [ef6]; rfl) dX12_runsFrom_50 (fun H locs hH => ?_)
  clear ef6
  cases h
  exact z_vret S hr hlocks hH dX12_runsFrom_51
abbrev wd_X12_stops (cy : Nat → ClassId) (q_t q_t_tape q_t_s q_t_h q_t_read q_t_names q_t_reserved q_t_undone q_t_before q_t_comeRow q_t_shown q_t_text q_t_toldAt q_t_stack q_t_truths q_t_imaged q_t_namesKept q_t_areKept : Nat) (t_thrown : Int32) (t_length : Int32) (t_size : Int32) (t_p : Int32) (t_limit : Int32) (t_token : Int32) (t_at : Int32) (t_span : Int32) (t_number : Int32) (t_fault : Int32) (t_faultAt : Int32) (t_word : Int64) (t_got : Int32) (t_lines : Int32) (t_hasWait : Int32) (t_undoMany : Int32) (t_firstMinute : Int32) (t_lookClock : Int32) (t_hasTime : Int32) (t_latestMost : Int32) (t_textMany : Int32) (t_seed : Int32) (t_toldMany : Int32) (t_hasTold : Int32) (t_codes : Int32) (t_ones : Int32) (t_top : Int32) (t_deep : Int32) (t_isWhole : Int32) (t_s : Nat → Int32) : va_W := [(q_t, .inr (13, [.int t_thrown, .ref q_t_tape, .int t_length, .int t_size, .int t_p, .int t_limit, .ref q_t_s, .ref q_t_h, .ref q_t_read, .ref q_t_names, .ref q_t_reserved, .int t_token, .int t_at, .int t_span, .int t_number, .int t_fault, .int t_faultAt, .long t_word, .int t_got, .int t_lines, .int t_hasWait, .ref q_t_undone, .ref q_t_before, .int t_undoMany, .ref q_t_comeRow, .int t_firstMinute, .int t_lookClock, .int t_hasTime, .ref q_t_shown, .int t_latestMost, .ref q_t_text, .int t_textMany, .int t_seed, .int t_toldMany, .ref q_t_toldAt, .int t_hasTold, .ref q_t_stack, .int t_codes, .int t_ones, .int t_top, .int t_deep, .int t_isWhole, .ref q_t_truths, .ref q_t_imaged, .ref q_t_namesKept, .ref q_t_areKept])), (q_t_s, .inl (cy 1, 334, .inl t_s))]
theorem iX12_stops_X12 : ∀ w ∈ wsX120, w ∈ wsX12_stops := fun _ h => List.mem_cons_of_mem _ (List.mem_append_right _ h)
abbrev rm_X12_stops : Room := { frames := 3, cells := 0, slots := 0, locals := 64 }
set_option maxRecDepth 100000 in
def f_X12_stops (N : Nat) (x0 : Int32) (t_s : Nat → Int32) : Option ((Nat → Int32)) := zcl (f_X12_readsAt N x0 (t_s 52) t_s) fun z17 => zck (zin (69 + x0) 334) <| zbn (upd t_s (Int32.toNatClampNeg (69 + x0)) z17) fun f1 => zbn (((f1 54) ||| (1 <<< (x0 &&& 31)))) fun y2 => zbn (upd f1 54 y2) fun f3 => some f3
set_option maxHeartbeats 4000000 in
set_option maxRecDepth 100000 in
theorem c_X12_stops (l : Launch) (G : va_G) (cy : Nat → ClassId) (E : Nat → Nat) (N : Nat) (q_t q_t_tape q_t_s q_t_h q_t_read q_t_names q_t_reserved q_t_undone q_t_before q_t_comeRow q_t_shown q_t_text q_t_toldAt q_t_stack q_t_truths q_t_imaged q_t_namesKept q_t_areKept : Nat) (t_thrown : Int32) (t_length : Int32) (t_size : Int32) (t_p : Int32) (t_limit : Int32) (t_token : Int32) (t_at : Int32) (t_span : Int32) (t_number : Int32) (t_fault : Int32) (t_faultAt : Int32) (t_word : Int64) (t_got : Int32) (t_lines : Int32) (t_hasWait : Int32) (t_undoMany : Int32) (t_firstMinute : Int32) (t_lookClock : Int32) (t_hasTime : Int32) (t_latestMost : Int32) (t_textMany : Int32) (t_seed : Int32) (t_toldMany : Int32) (t_hasTold : Int32) (t_codes : Int32) (t_ones : Int32) (t_top : Int32) (t_deep : Int32) (t_isWhole : Int32) (t_s : Nat → Int32) (x0 : Int32) (r_t_s : Nat → Int32) (h : f_X12_stops N x0 t_s = some r_t_s) : zM l G cy E yX12_stops wsX12_stops rm_X12_stops [.ref q_t, .int x0] (wd_X12_stops cy q_t q_t_tape q_t_s q_t_h q_t_read q_t_names q_t_reserved q_t_undone q_t_before q_t_comeRow q_t_shown q_t_text q_t_toldAt q_t_stack q_t_truths q_t_imaged q_t_namesKept q_t_areKept t_thrown t_length t_size t_p t_limit t_token t_at t_span t_number t_fault t_faultAt t_word t_got t_lines t_hasWait t_undoMany t_firstMinute t_lookClock t_hasTime t_latestMost t_textMany t_seed t_toldMany t_hasTold t_codes t_ones t_top t_deep t_isWhole t_s) (wd_X12_stops cy q_t q_t_tape q_t_s q_t_h q_t_read q_t_names q_t_reserved q_t_undone q_t_before q_t_comeRow q_t_shown q_t_text q_t_toldAt q_t_stack q_t_truths q_t_imaged q_t_namesKept q_t_areKept t_thrown t_length t_size t_p t_limit t_token t_at t_span t_number t_fault t_faultAt t_word t_got t_lines t_hasWait t_undoMany t_firstMinute t_lookClock t_hasTime t_latestMost t_textMany t_seed t_toldMany t_hasTold t_codes t_ones t_top t_deep t_isWhole r_t_s) none 0 0 := by
  refine z_body (cc := cX12_stops) (maxL := 2) (ret := none) (by decide) rfl (Nat.le_of_ble_eq_true rfl) ?_
  intro p e s m below meth c ls S hr hlocks hnm hF hH hl
  have S : CallFix p m c cX12_stops 2 s ([.ref q_t, .int x0] : List Value).toArray wsX12_stops RX12 := S
  obtain ⟨hx, hb, hml, hown, hts⟩ := id S
  have hl : lv_has ls 2 [(0, .ref q_t), (1, .int x0)] := hl
  rw [f_X12_stops] at h
  refine lv_aload_n hx hb dX12_stops_0 rfl (lv_at hl 0 rfl) ?_
  refine z_get S hF hH iX12_stops_X12 0 rfl rfl 6 (by decide) (List.mem_of_getElem? (i := 1) rfl) rfl dX12_stops_1 ?_
  refine lv_bipush (v := 69) hx hb dX12_stops_4 (by decide) ?_
  refine lv_iload_n hx hb dX12_stops_6 rfl (lv_at hl 1 rfl) ?_
  refine lv_iadd hx hb dX12_stops_7 ?_
  refine lv_aload_n hx hb dX12_stops_8 rfl (lv_at hl 0 rfl) ?_
  refine lv_iload_n hx hb dX12_stops_9 rfl (lv_at hl 1 rfl) ?_
  refine lv_aload_n hx hb dX12_stops_10 rfl (lv_at hl 0 rfl) ?_
  refine z_get S hF hH iX12_stops_X12 0 rfl rfl 6 (by decide) (List.mem_of_getElem? (i := 1) rfl) rfl dX12_stops_11 ?_
  refine lv_bipush (v := 52) hx hb dX12_stops_14 (by decide) ?_
  refine z_iald (j := 52) S hF hH 1 rfl (by decide) rfl dX12_stops_16 ?_
  obtain ⟨z17, hz17, h⟩ := zcl_e h
  refine z_callV (As := [.int x0, .int (t_s 52)]) (rest := [.int (69 + x0), .ref q_t_s]) (st1 := [.int z17, .int (69 + x0), .ref q_t_s]) (ws' := (wd_X12_stops cy q_t q_t_tape q_t_s q_t_h q_t_read q_t_names q_t_reserved q_t_undone q_t_before q_t_comeRow q_t_shown q_t_text q_t_toldAt q_t_stack q_t_truths q_t_imaged q_t_namesKept q_t_areKept t_thrown t_length t_size t_p t_limit t_token t_at t_span t_number t_fault t_faultAt t_word t_got t_lines t_hasWait t_undoMany t_firstMinute t_lookClock t_hasTime t_latestMost t_textMany t_seed t_toldMany t_hasTold t_codes t_ones t_top t_deep t_isWhole t_s)) S hF hH (c_X12_readsAt l G cy E N q_t q_t_tape q_t_s q_t_h q_t_read q_t_names q_t_reserved q_t_undone q_t_before q_t_comeRow q_t_shown q_t_text q_t_toldAt q_t_stack q_t_truths q_t_imaged q_t_namesKept q_t_areKept t_thrown t_length t_size t_p t_limit t_token t_at t_span t_number t_fault t_faultAt t_word t_got t_lines t_hasWait t_undoMany t_firstMinute t_lookClock t_hasTime t_latestMost t_textMany t_seed t_toldMany t_hasTold t_codes t_ones t_top t_deep t_isWhole t_s x0 (t_s 52) z17 hz17) (cwV 2 hts gX12_stops_X12_readsAt rfl rfl rfl (by decide +kernel) ⟨Nat.le_of_ble_eq_true rfl, Nat.le_of_ble_eq_true rfl⟩) 13 0 rfl rfl [0, 1] rfl (by decide) rfl rfl rfl rfl rfl hl.1 (Nat.le_of_ble_eq_true rfl) dX12_stops_17 ⟨Nat.le_of_ble_eq_true rfl, Nat.le_of_ble_eq_true rfl⟩ (fun H locs hH => ?_)
  obtain ⟨h20, h⟩ := zck_e h
  obtain ⟨f1, ef1, h⟩ := zbn_e h
  refine z_iast (ws' := (wd_X12_stops cy q_t q_t_tape q_t_s q_t_h q_t_read q_t_names q_t_reserved q_t_undone q_t_before q_t_comeRow q_t_shown q_t_text q_t_toldAt q_t_stack q_t_truths q_t_imaged q_t_namesKept q_t_areKept t_thrown t_length t_size t_p t_limit t_token t_at t_span t_number t_fault t_faultAt t_word t_got t_lines t_hasWait t_undoMany t_firstMinute t_lookClock t_hasTime t_latestMost t_textMany t_seed t_toldMany t_hasTold t_codes t_ones t_top t_deep t_isWhole f1)) (j := (Int32.toNatClampNeg (69 + x0))) S hF hH 1 rfl h20 rfl (by rw [ef1]; rfl) dX12_stops_20 (fun H locs hH => ?_)
  clear ef1
  refine lv_aload_n hx hb dX12_stops_21 rfl (lv_at hl 0 rfl) ?_
  refine z_get S hF hH iX12_stops_X12 0 rfl rfl 6 (by decide) (List.mem_of_getElem? (i := 1) rfl) rfl dX12_stops_22 ?_
  refine lv_bipush (v := 54) hx hb dX12_stops_25 (by decide) ?_
  refine lv_dup2_11 hx hb dX12_stops_27 rfl rfl ?_
  refine z_iald (j := 54) S hF hH 1 rfl (by decide) rfl dX12_stops_28 ?_
  refine lv_iconst (v := 1) hx hb dX12_stops_29 (by decide) ?_
  refine lv_iload_n hx hb dX12_stops_30 rfl (lv_at hl 1 rfl) ?_
  refine lv_ishl hx hb dX12_stops_31 ?_
  refine lv_ior hx hb dX12_stops_32 ?_
  obtain ⟨y2, ey2, h⟩ := zbn_e h
  refine z_top ey2 ?_
  clear ey2
  obtain ⟨f3, ef3, h⟩ := zbn_e h
  refine z_iast (ws' := (wd_X12_stops cy q_t q_t_tape q_t_s q_t_h q_t_read q_t_names q_t_reserved q_t_undone q_t_before q_t_comeRow q_t_shown q_t_text q_t_toldAt q_t_stack q_t_truths q_t_imaged q_t_namesKept q_t_areKept t_thrown t_length t_size t_p t_limit t_token t_at t_span t_number t_fault t_faultAt t_word t_got t_lines t_hasWait t_undoMany t_firstMinute t_lookClock t_hasTime t_latestMost t_textMany t_seed t_toldMany t_hasTold t_codes t_ones t_top t_deep t_isWhole f3)) (j := 54) S hF hH 1 rfl (by decide) rfl (by rw [ef3]; rfl) dX12_stops_33 (fun H locs hH => ?_)
  clear ef3
  cases h
  exact z_vret S hr hlocks hH dX12_stops_34
abbrev wd_X12_whyMove (cy : Nat → ClassId) (q_t q_t_tape q_t_s q_t_h q_t_read q_t_names q_t_reserved q_t_undone q_t_before q_t_comeRow q_t_shown q_t_text q_t_toldAt q_t_stack q_t_truths q_t_imaged q_t_namesKept q_t_areKept : Nat) (t_thrown : Int32) (t_length : Int32) (t_size : Int32) (t_p : Int32) (t_limit : Int32) (t_token : Int32) (t_at : Int32) (t_span : Int32) (t_number : Int32) (t_fault : Int32) (t_faultAt : Int32) (t_word : Int64) (t_got : Int32) (t_lines : Int32) (t_hasWait : Int32) (t_undoMany : Int32) (t_firstMinute : Int32) (t_lookClock : Int32) (t_hasTime : Int32) (t_latestMost : Int32) (t_textMany : Int32) (t_seed : Int32) (t_toldMany : Int32) (t_hasTold : Int32) (t_codes : Int32) (t_ones : Int32) (t_top : Int32) (t_deep : Int32) (t_isWhole : Int32) (t_s : Nat → Int32) : va_W := [(q_t, .inr (13, [.int t_thrown, .ref q_t_tape, .int t_length, .int t_size, .int t_p, .int t_limit, .ref q_t_s, .ref q_t_h, .ref q_t_read, .ref q_t_names, .ref q_t_reserved, .int t_token, .int t_at, .int t_span, .int t_number, .int t_fault, .int t_faultAt, .long t_word, .int t_got, .int t_lines, .int t_hasWait, .ref q_t_undone, .ref q_t_before, .int t_undoMany, .ref q_t_comeRow, .int t_firstMinute, .int t_lookClock, .int t_hasTime, .ref q_t_shown, .int t_latestMost, .ref q_t_text, .int t_textMany, .int t_seed, .int t_toldMany, .ref q_t_toldAt, .int t_hasTold, .ref q_t_stack, .int t_codes, .int t_ones, .int t_top, .int t_deep, .int t_isWhole, .ref q_t_truths, .ref q_t_imaged, .ref q_t_namesKept, .ref q_t_areKept])), (q_t_s, .inl (cy 1, 334, .inl t_s))]
theorem iX12_whyMove_X12 : ∀ w ∈ wsX120, w ∈ wsX12_whyMove := fun _ h => List.mem_cons_of_mem _ (List.mem_append_right _ h)
abbrev rm_X12_whyMove : Room := { frames := 1, cells := 0, slots := 0, locals := 24 }
set_option maxRecDepth 100000 in
def f_X12_whyMove (N : Nat) (x0 : Int32) (x1 : Int32) (t_s : Nat → Int32) : Option (Int32) := zcl (f_X12_rowOf N 81 x0 t_s) fun z4 => if z4 = 0 then (if (t_s 52) < x1 then (some 0) else (some 2)) else (some 1)
set_option maxHeartbeats 4000000 in
set_option maxRecDepth 100000 in
theorem c_X12_whyMove (l : Launch) (G : va_G) (cy : Nat → ClassId) (E : Nat → Nat) (N : Nat) (q_t q_t_tape q_t_s q_t_h q_t_read q_t_names q_t_reserved q_t_undone q_t_before q_t_comeRow q_t_shown q_t_text q_t_toldAt q_t_stack q_t_truths q_t_imaged q_t_namesKept q_t_areKept : Nat) (t_thrown : Int32) (t_length : Int32) (t_size : Int32) (t_p : Int32) (t_limit : Int32) (t_token : Int32) (t_at : Int32) (t_span : Int32) (t_number : Int32) (t_fault : Int32) (t_faultAt : Int32) (t_word : Int64) (t_got : Int32) (t_lines : Int32) (t_hasWait : Int32) (t_undoMany : Int32) (t_firstMinute : Int32) (t_lookClock : Int32) (t_hasTime : Int32) (t_latestMost : Int32) (t_textMany : Int32) (t_seed : Int32) (t_toldMany : Int32) (t_hasTold : Int32) (t_codes : Int32) (t_ones : Int32) (t_top : Int32) (t_deep : Int32) (t_isWhole : Int32) (t_s : Nat → Int32) (x0 : Int32) (x1 : Int32) (r : Int32) (h : f_X12_whyMove N x0 x1 t_s = some r) : zM l G cy E yX12_whyMove wsX12_whyMove rm_X12_whyMove [.ref q_t, .int x0, .int x1] (wd_X12_whyMove cy q_t q_t_tape q_t_s q_t_h q_t_read q_t_names q_t_reserved q_t_undone q_t_before q_t_comeRow q_t_shown q_t_text q_t_toldAt q_t_stack q_t_truths q_t_imaged q_t_namesKept q_t_areKept t_thrown t_length t_size t_p t_limit t_token t_at t_span t_number t_fault t_faultAt t_word t_got t_lines t_hasWait t_undoMany t_firstMinute t_lookClock t_hasTime t_latestMost t_textMany t_seed t_toldMany t_hasTold t_codes t_ones t_top t_deep t_isWhole t_s) (wd_X12_whyMove cy q_t q_t_tape q_t_s q_t_h q_t_read q_t_names q_t_reserved q_t_undone q_t_before q_t_comeRow q_t_shown q_t_text q_t_toldAt q_t_stack q_t_truths q_t_imaged q_t_namesKept q_t_areKept t_thrown t_length t_size t_p t_limit t_token t_at t_span t_number t_fault t_faultAt t_word t_got t_lines t_hasWait t_undoMany t_firstMinute t_lookClock t_hasTime t_latestMost t_textMany t_seed t_toldMany t_hasTold t_codes t_ones t_top t_deep t_isWhole t_s) (some (.int r)) 0 0 := by
  refine z_body (cc := cX12_whyMove) (maxL := 3) (ret := some .int) (by decide) rfl (Nat.le_of_ble_eq_true rfl) ?_
  intro p e s m below meth c ls S hr hlocks hnm hF hH hl
  have S : CallFix p m c cX12_whyMove 3 s ([.ref q_t, .int x0, .int x1] : List Value).toArray wsX12_whyMove RX12 := S
  obtain ⟨hx, hb, hml, hown, hts⟩ := id S
  have hl : lv_has ls 3 [(0, .ref q_t), (1, .int x0), (2, .int x1)] := hl
  rw [f_X12_whyMove] at h
  refine lv_aload_n hx hb dX12_whyMove_0 rfl (lv_at hl 0 rfl) ?_
  refine lv_bipush (v := 81) hx hb dX12_whyMove_1 (by decide) ?_
  refine lv_iload_n hx hb dX12_whyMove_3 rfl (lv_at hl 1 rfl) ?_
  obtain ⟨z4, hz4, h⟩ := zcl_e h
  refine z_callV (As := [.int 81, .int x0]) (rest := []) (st1 := [.int z4]) (ws' := (wd_X12_whyMove cy q_t q_t_tape q_t_s q_t_h q_t_read q_t_names q_t_reserved q_t_undone q_t_before q_t_comeRow q_t_shown q_t_text q_t_toldAt q_t_stack q_t_truths q_t_imaged q_t_namesKept q_t_areKept t_thrown t_length t_size t_p t_limit t_token t_at t_span t_number t_fault t_faultAt t_word t_got t_lines t_hasWait t_undoMany t_firstMinute t_lookClock t_hasTime t_latestMost t_textMany t_seed t_toldMany t_hasTold t_codes t_ones t_top t_deep t_isWhole t_s)) S hF hH (c_X12_rowOf l G cy E N q_t q_t_tape q_t_s q_t_h q_t_read q_t_names q_t_reserved q_t_undone q_t_before q_t_comeRow q_t_shown q_t_text q_t_toldAt q_t_stack q_t_truths q_t_imaged q_t_namesKept q_t_areKept t_thrown t_length t_size t_p t_limit t_token t_at t_span t_number t_fault t_faultAt t_word t_got t_lines t_hasWait t_undoMany t_firstMinute t_lookClock t_hasTime t_latestMost t_textMany t_seed t_toldMany t_hasTold t_codes t_ones t_top t_deep t_isWhole t_s 81 x0 z4 hz4) (cwV 2 hts gX12_whyMove_X12_rowOf rfl rfl rfl (by decide +kernel) ⟨Nat.le_of_ble_eq_true rfl, Nat.le_of_ble_eq_true rfl⟩) 13 0 rfl rfl [0, 1] rfl (by decide) rfl rfl rfl rfl rfl hl.1 (Nat.le_of_ble_eq_true rfl) dX12_whyMove_4 ⟨Nat.le_of_ble_eq_true rfl, Nat.le_of_ble_eq_true rfl⟩ (fun H locs hH => ?_)
  refine lv_if_eq (tgt := 14) hx hb dX12_whyMove_7 (by decide) (fun b7 => ?_) (fun b7 => ?_)
  · replace h := zif_t b7 h
    refine lv_iload_n hx hb dX12_whyMove_14 rfl (lv_at hl 2 rfl) ?_
    refine lv_aload_n hx hb dX12_whyMove_15 rfl (lv_at hl 0 rfl) ?_
    refine z_get S hF hH iX12_whyMove_X12 0 rfl rfl 6 (by decide) (List.mem_of_getElem? (i := 1) rfl) rfl dX12_whyMove_16 ?_
    refine lv_bipush (v := 52) hx hb dX12_whyMove_19 (by decide) ?_
    refine z_iald (j := 52) S hF hH 1 rfl (by decide) rfl dX12_whyMove_21 ?_
    refine lv_icmp_gt (tgt := 29) hx hb dX12_whyMove_22 (by decide) (fun b22 => ?_) (fun b22 => ?_)
    · replace h := zif_t b22 h
      refine lv_iconst (v := 0) hx hb dX12_whyMove_29 (by decide) ?_
      cases h
      exact z_iret S hr hlocks hH dX12_whyMove_30
    · replace h := zif_f b22 h
      refine lv_iconst (v := 2) hx hb dX12_whyMove_25 (by decide) ?_
      refine lv_goto (tgt := 30) hx hb dX12_whyMove_26 (by decide) ?_
      cases h
      exact z_iret S hr hlocks hH dX12_whyMove_30
  · replace h := zif_f b7 h
    refine lv_iconst (v := 1) hx hb dX12_whyMove_10 (by decide) ?_
    refine lv_goto (tgt := 30) hx hb dX12_whyMove_11 (by decide) ?_
    cases h
    exact z_iret S hr hlocks hH dX12_whyMove_30
abbrev wd_X12_goesTo (cy : Nat → ClassId) (q_t q_t_tape q_t_s q_t_h q_t_read q_t_names q_t_reserved q_t_undone q_t_before q_t_comeRow q_t_shown q_t_text q_t_toldAt q_t_stack q_t_truths q_t_imaged q_t_namesKept q_t_areKept : Nat) (t_thrown : Int32) (t_length : Int32) (t_size : Int32) (t_p : Int32) (t_limit : Int32) (t_token : Int32) (t_at : Int32) (t_span : Int32) (t_number : Int32) (t_fault : Int32) (t_faultAt : Int32) (t_word : Int64) (t_got : Int32) (t_lines : Int32) (t_hasWait : Int32) (t_undoMany : Int32) (t_firstMinute : Int32) (t_lookClock : Int32) (t_hasTime : Int32) (t_latestMost : Int32) (t_textMany : Int32) (t_seed : Int32) (t_toldMany : Int32) (t_hasTold : Int32) (t_codes : Int32) (t_ones : Int32) (t_top : Int32) (t_deep : Int32) (t_isWhole : Int32) (t_s : Nat → Int32) : va_W := [(q_t, .inr (13, [.int t_thrown, .ref q_t_tape, .int t_length, .int t_size, .int t_p, .int t_limit, .ref q_t_s, .ref q_t_h, .ref q_t_read, .ref q_t_names, .ref q_t_reserved, .int t_token, .int t_at, .int t_span, .int t_number, .int t_fault, .int t_faultAt, .long t_word, .int t_got, .int t_lines, .int t_hasWait, .ref q_t_undone, .ref q_t_before, .int t_undoMany, .ref q_t_comeRow, .int t_firstMinute, .int t_lookClock, .int t_hasTime, .ref q_t_shown, .int t_latestMost, .ref q_t_text, .int t_textMany, .int t_seed, .int t_toldMany, .ref q_t_toldAt, .int t_hasTold, .ref q_t_stack, .int t_codes, .int t_ones, .int t_top, .int t_deep, .int t_isWhole, .ref q_t_truths, .ref q_t_imaged, .ref q_t_namesKept, .ref q_t_areKept])), (q_t_s, .inl (cy 1, 334, .inl t_s))]
theorem iX12_goesTo_X12 : ∀ w ∈ wsX120, w ∈ wsX12_goesTo := fun _ h => List.mem_cons_of_mem _ (List.mem_append_right _ h)
abbrev rm_X12_goesTo : Room := { frames := 3, cells := 0, slots := 0, locals := 64 }
set_option maxRecDepth 100000 in
def f_X12_goesTo_86 (N : Nat) (x1 : Int32) (x2 : Int32) (x3 : Int32) (x4 : Int32) (c_t_s : Nat → Int32) : Option ((Nat → Int32)) := zck (zin (81 + x3) 334) <| if (c_t_s (Int32.toNatClampNeg (81 + x3))) = 0 then (some c_t_s) else (zck (zin (22 + x1) 334) <| if ((c_t_s (Int32.toNatClampNeg (81 + x3))) + (c_t_s (Int32.toNatClampNeg (22 + x1)))) = (x4 + 1) then (zbn ((x4 + 1)) fun y1 => zck (zin (117 + x3) 334) <| zbn (upd c_t_s (Int32.toNatClampNeg (117 + x3)) y1) fun f2 => zbn (((f2 55) + 1)) fun y3 => zbn (upd f2 55 y3) fun f4 => zck (zin (75 + x2) 334) <| zcl (f_X12_greater N 0 (x4 - (f4 (Int32.toNatClampNeg (75 + x2))))) fun z170 => zbn (((f4 56) + z170)) fun y5 => zbn (upd f4 56 y5) fun f6 => if (f6 (Int32.toNatClampNeg (75 + x2))) < x4 then (some f6) else (zbn (((f6 53) ||| (1 <<< (x1 &&& 31)))) fun y7 => zbn (upd f6 53 y7) fun f8 => some f8)) else (some c_t_s))
set_option maxRecDepth 100000 in
def f_X12_goesTo (N : Nat) (x0 : Int32) (x1 : Int32) (t_s : Nat → Int32) : Option ((Nat → Int32)) := zbn (((6 * x1) + x0)) fun y1 => zbn ((t_s 52)) fun y2 => zcl (f_X12_isOut N x0 t_s) fun z18 => if z18 = 0 then (zck (zin (81 + y1) 334) <| if (t_s (Int32.toNatClampNeg (81 + y1))) = 0 then (zck (zin (34 + x0) 334) <| zcl (f_X12_readsAt N (t_s (Int32.toNatClampNeg (34 + x0))) y2 t_s) fun z48 => zck (zin (75 + x1) 334) <| zck (zin (28 + x0) 334) <| if z48 < ((t_s (Int32.toNatClampNeg (75 + x1))) + (t_s (Int32.toNatClampNeg (28 + x0)))) then (f_X12_goesTo_86 N x0 x1 y1 y2 t_s) else (zbn ((y2 + 1)) fun y3 => zbn (upd t_s (Int32.toNatClampNeg (81 + y1)) y3) fun f4 => f_X12_goesTo_86 N x0 x1 y1 y2 f4)) else (f_X12_goesTo_86 N x0 x1 y1 y2 t_s)) else (f_X12_goesTo_86 N x0 x1 y1 y2 t_s)
set_option maxHeartbeats 4000000 in
set_option maxRecDepth 100000 in
theorem w_X12_goesTo_86 {p : Program} {l : Launch} {e : Env} {s : State} {m : MethodId} {args : Array Value} {below : List Frame} {meth : Method} {c : Code} {G : va_G} {cy : Nat → ClassId} {E : Nat → Nat} {w0 : va_W} {N : Nat} {q_t q_t_tape q_t_s q_t_h q_t_read q_t_names q_t_reserved q_t_undone q_t_before q_t_comeRow q_t_shown q_t_text q_t_toldAt q_t_stack q_t_truths q_t_imaged q_t_namesKept q_t_areKept : Nat} {t_thrown : Int32} {t_length : Int32} {t_size : Int32} {t_p : Int32} {t_limit : Int32} {t_token : Int32} {t_at : Int32} {t_span : Int32} {t_number : Int32} {t_fault : Int32} {t_faultAt : Int32} {t_word : Int64} {t_got : Int32} {t_lines : Int32} {t_hasWait : Int32} {t_undoMany : Int32} {t_firstMinute : Int32} {t_lookClock : Int32} {t_hasTime : Int32} {t_latestMost : Int32} {t_textMany : Int32} {t_seed : Int32} {t_toldMany : Int32} {t_hasTold : Int32} {t_codes : Int32} {t_ones : Int32} {t_top : Int32} {t_deep : Int32} {t_isWhole : Int32} {r_t_s : Nat → Int32} (S : CallFix p m c cX12_goesTo 5 s args wsX12_goesTo RX12) (hr : meth.sig.returnType = none) (hlocks : meth.locks = false) (hF : zF G cy E (va_A w0 s.heap.size) s) :
    ∀ (x1 : Int32) (x2 : Int32) (x3 : Int32) (x4 : Int32) (c_t_s : Nat → Int32) (H : Heap) (locs : List Loc) (ls : Array Slot), zH G (va_A w0 s.heap.size) s H locs (wd_X12_goesTo cy q_t q_t_tape q_t_s q_t_h q_t_read q_t_names q_t_reserved q_t_undone q_t_before q_t_comeRow q_t_shown q_t_text q_t_toldAt q_t_stack q_t_truths q_t_imaged q_t_namesKept q_t_areKept t_thrown t_length t_size t_p t_limit t_token t_at t_span t_number t_fault t_faultAt t_word t_got t_lines t_hasWait t_undoMany t_firstMinute t_lookClock t_hasTime t_latestMost t_textMany t_seed t_toldMany t_hasTold t_codes t_ones t_top t_deep t_isWhole c_t_s) → lv_has ls 5 [(0, .ref q_t), (1, .int x1), (2, .int x2), (3, .int x3), (4, .int x4)] → f_X12_goesTo_86 N x1 x2 x3 x4 c_t_s = some r_t_s → W p l e rm_X12_goesTo s m args below meth c H locs 0 0 (MQ below (zQ G w0 (wd_X12_goesTo cy q_t q_t_tape q_t_s q_t_h q_t_read q_t_names q_t_reserved q_t_undone q_t_before q_t_comeRow q_t_shown q_t_text q_t_toldAt q_t_stack q_t_truths q_t_imaged q_t_namesKept q_t_areKept t_thrown t_length t_size t_p t_limit t_token t_at t_span t_number t_fault t_faultAt t_word t_got t_lines t_hasWait t_undoMany t_firstMinute t_lookClock t_hasTime t_latestMost t_textMany t_seed t_toldMany t_hasTold t_codes t_ones t_top t_deep t_isWhole r_t_s) s.heap.size none) args s 0 0 (va_A w0 s.heap.size)) (F0 m 86 ls []) := by
  obtain ⟨hx, hb, hml, hown, hts⟩ := id S
  intro x1 x2 x3 x4 c_t_s H locs ls hH hl h
  rw [f_X12_goesTo_86] at h
  refine lv_aload_n hx hb dX12_goesTo_86 rfl (lv_at hl 0 rfl) ?_
  refine z_get S hF hH iX12_goesTo_X12 0 rfl rfl 6 (by decide) (List.mem_of_getElem? (i := 1) rfl) rfl dX12_goesTo_87 ?_
  refine lv_bipush (v := 81) hx hb dX12_goesTo_90 (by decide) ?_
  refine lv_iload_n hx hb dX12_goesTo_92 rfl (lv_at hl 3 rfl) ?_
  refine lv_iadd hx hb dX12_goesTo_93 ?_
  obtain ⟨h94, h⟩ := zck_e h
  refine z_iald S hF hH 1 rfl h94 rfl dX12_goesTo_94 ?_
  refine lv_if_eq (tgt := 124) hx hb dX12_goesTo_95 (by decide) (fun b95 => ?_) (fun b95 => ?_)
  · replace h := zif_t b95 h
    cases h
    exact z_vret S hr hlocks hH dX12_goesTo_124
  · replace h := zif_f b95 h
    refine lv_aload_n hx hb dX12_goesTo_98 rfl (lv_at hl 0 rfl) ?_
    refine z_get S hF hH iX12_goesTo_X12 0 rfl rfl 6 (by decide) (List.mem_of_getElem? (i := 1) rfl) rfl dX12_goesTo_99 ?_
    refine lv_bipush (v := 81) hx hb dX12_goesTo_102 (by decide) ?_
    refine lv_iload_n hx hb dX12_goesTo_104 rfl (lv_at hl 3 rfl) ?_
    refine lv_iadd hx hb dX12_goesTo_105 ?_
    refine z_iald S hF hH 1 rfl h94 rfl dX12_goesTo_106 ?_
    refine lv_aload_n hx hb dX12_goesTo_107 rfl (lv_at hl 0 rfl) ?_
    refine z_get S hF hH iX12_goesTo_X12 0 rfl rfl 6 (by decide) (List.mem_of_getElem? (i := 1) rfl) rfl dX12_goesTo_108 ?_
    refine lv_bipush (v := 22) hx hb dX12_goesTo_111 (by decide) ?_
    refine lv_iload_n hx hb dX12_goesTo_113 rfl (lv_at hl 1 rfl) ?_
    refine lv_iadd hx hb dX12_goesTo_114 ?_
    obtain ⟨h115, h⟩ := zck_e h
    refine z_iald S hF hH 1 rfl h115 rfl dX12_goesTo_115 ?_
    refine lv_iadd hx hb dX12_goesTo_116 ?_
    refine lv_iload hx hb dX12_goesTo_117 (lv_at hl 4 rfl) ?_
    refine lv_iconst (v := 1) hx hb dX12_goesTo_119 (by decide) ?_
    refine lv_iadd hx hb dX12_goesTo_120 ?_
    refine lv_icmp_eq (tgt := 125) hx hb dX12_goesTo_121 (by decide) (fun b121 => ?_) (fun b121 => ?_)
    · replace h := zif_t b121 h
      refine lv_aload_n hx hb dX12_goesTo_125 rfl (lv_at hl 0 rfl) ?_
      refine z_get S hF hH iX12_goesTo_X12 0 rfl rfl 6 (by decide) (List.mem_of_getElem? (i := 1) rfl) rfl dX12_goesTo_126 ?_
      refine lv_bipush (v := 117) hx hb dX12_goesTo_129 (by decide) ?_
      refine lv_iload_n hx hb dX12_goesTo_131 rfl (lv_at hl 3 rfl) ?_
      refine lv_iadd hx hb dX12_goesTo_132 ?_
      refine lv_iload hx hb dX12_goesTo_133 (lv_at hl 4 rfl) ?_
      refine lv_iconst (v := 1) hx hb dX12_goesTo_135 (by decide) ?_
      refine lv_iadd hx hb dX12_goesTo_136 ?_
      obtain ⟨y1, ey1, h⟩ := zbn_e h
      refine z_top ey1 ?_
      clear ey1
      obtain ⟨h137, h⟩ := zck_e h
      obtain ⟨f2, ef2, h⟩ := zbn_e h
      refine z_iast (ws' := (wd_X12_goesTo cy q_t q_t_tape q_t_s q_t_h q_t_read q_t_names q_t_reserved q_t_undone q_t_before q_t_comeRow q_t_shown q_t_text q_t_toldAt q_t_stack q_t_truths q_t_imaged q_t_namesKept q_t_areKept t_thrown t_length t_size t_p t_limit t_token t_at t_span t_number t_fault t_faultAt t_word t_got t_lines t_hasWait t_undoMany t_firstMinute t_lookClock t_hasTime t_latestMost t_textMany t_seed t_toldMany t_hasTold t_codes t_ones t_top t_deep t_isWhole f2)) (j := (Int32.toNatClampNeg (117 + x3))) S hF hH 1 rfl h137 rfl (by rw [ef2]; rfl) dX12_goesTo_137 (fun H locs hH => ?_)
      clear ef2
      refine lv_aload_n hx hb dX12_goesTo_138 rfl (lv_at hl 0 rfl) ?_
      refine z_get S hF hH iX12_goesTo_X12 0 rfl rfl 6 (by decide) (List.mem_of_getElem? (i := 1) rfl) rfl dX12_goesTo_139 ?_
      refine lv_bipush (v := 55) hx hb dX12_goesTo_142 (by decide) ?_
      refine lv_dup2_11 hx hb dX12_goesTo_144 rfl rfl ?_
      refine z_iald (j := 55) S hF hH 1 rfl (by decide) rfl dX12_goesTo_145 ?_
      refine lv_iconst (v := 1) hx hb dX12_goesTo_146 (by decide) ?_
      refine lv_iadd hx hb dX12_goesTo_147 ?_
      obtain ⟨y3, ey3, h⟩ := zbn_e h
      refine z_top ey3 ?_
      clear ey3
      obtain ⟨f4, ef4, h⟩ := zbn_e h
      refine z_iast (ws' := (wd_X12_goesTo cy q_t q_t_tape q_t_s q_t_h q_t_read q_t_names q_t_reserved q_t_undone q_t_before q_t_comeRow q_t_shown q_t_text q_t_toldAt q_t_stack q_t_truths q_t_imaged q_t_namesKept q_t_areKept t_thrown t_length t_size t_p t_limit t_token t_at t_span t_number t_fault t_faultAt t_word t_got t_lines t_hasWait t_undoMany t_firstMinute t_lookClock t_hasTime t_latestMost t_textMany t_seed t_toldMany t_hasTold t_codes t_ones t_top t_deep t_isWhole f4)) (j := 55) S hF hH 1 rfl (by decide) rfl (by rw [ef4]; rfl) dX12_goesTo_148 (fun H locs hH => ?_)
      clear ef4
      refine lv_aload_n hx hb dX12_goesTo_149 rfl (lv_at hl 0 rfl) ?_
      refine z_get S hF hH iX12_goesTo_X12 0 rfl rfl 6 (by decide) (List.mem_of_getElem? (i := 1) rfl) rfl dX12_goesTo_150 ?_
      refine lv_bipush (v := 56) hx hb dX12_goesTo_153 (by decide) ?_
      refine lv_dup2_11 hx hb dX12_goesTo_155 rfl rfl ?_
      refine z_iald (j := 56) S hF hH 1 rfl (by decide) rfl dX12_goesTo_156 ?_
      refine lv_iconst (v := 0) hx hb dX12_goesTo_157 (by decide) ?_
      refine lv_iload hx hb dX12_goesTo_158 (lv_at hl 4 rfl) ?_
      refine lv_aload_n hx hb dX12_goesTo_160 rfl (lv_at hl 0 rfl) ?_
      refine z_get S hF hH iX12_goesTo_X12 0 rfl rfl 6 (by decide) (List.mem_of_getElem? (i := 1) rfl) rfl dX12_goesTo_161 ?_
      refine lv_bipush (v := 75) hx hb dX12_goesTo_164 (by decide) ?_
      refine lv_iload_n hx hb dX12_goesTo_166 rfl (lv_at hl 2 rfl) ?_
      refine lv_iadd hx hb dX12_goesTo_167 ?_
      obtain ⟨h168, h⟩ := zck_e h
      refine z_iald S hF hH 1 rfl h168 rfl dX12_goesTo_168 ?_
      refine lv_isub hx hb dX12_goesTo_169 ?_
      obtain ⟨z170, hz170, h⟩ := zcl_e h
      refine z_callS (As := [.int 0, .int (x4 - (f4 (Int32.toNatClampNeg (75 + x2))))]) (rest := [.int (f4 56), .int 56, .ref q_t_s]) (st1 := [.int z170, .int (f4 56), .int 56, .ref q_t_s]) (ws' := (wd_X12_goesTo cy q_t q_t_tape q_t_s q_t_h q_t_read q_t_names q_t_reserved q_t_undone q_t_before q_t_comeRow q_t_shown q_t_text q_t_toldAt q_t_stack q_t_truths q_t_imaged q_t_namesKept q_t_areKept t_thrown t_length t_size t_p t_limit t_token t_at t_span t_number t_fault t_faultAt t_word t_got t_lines t_hasWait t_undoMany t_firstMinute t_lookClock t_hasTime t_latestMost t_textMany t_seed t_toldMany t_hasTold t_codes t_ones t_top t_deep t_isWhole f4)) S hF hH (c_X12_greater l G cy E N 0 (x4 - (f4 (Int32.toNatClampNeg (75 + x2)))) z170 hz170) (cwS 2 hts gX12_goesTo_X12_greater rfl rfl rfl (by decide +kernel) ⟨Nat.le_of_ble_eq_true rfl, Nat.le_of_ble_eq_true rfl⟩) [] rfl (by decide) rfl rfl rfl rfl rfl hl.1 (Nat.le_of_ble_eq_true rfl) dX12_goesTo_170 ⟨Nat.le_of_ble_eq_true rfl, Nat.le_of_ble_eq_true rfl⟩ (fun H locs hH => ?_)
      refine lv_iadd hx hb dX12_goesTo_173 ?_
      obtain ⟨y5, ey5, h⟩ := zbn_e h
      refine z_top ey5 ?_
      clear ey5
      obtain ⟨f6, ef6, h⟩ := zbn_e h
      refine z_iast (ws' := (wd_X12_goesTo cy q_t q_t_tape q_t_s q_t_h q_t_read q_t_names q_t_reserved q_t_undone q_t_before q_t_comeRow q_t_shown q_t_text q_t_toldAt q_t_stack q_t_truths q_t_imaged q_t_namesKept q_t_areKept t_thrown t_length t_size t_p t_limit t_token t_at t_span t_number t_fault t_faultAt t_word t_got t_lines t_hasWait t_undoMany t_firstMinute t_lookClock t_hasTime t_latestMost t_textMany t_seed t_toldMany t_hasTold t_codes t_ones t_top t_deep t_isWhole f6)) (j := 56) S hF hH 1 rfl (by decide) rfl (by rw [ef6]; rfl) dX12_goesTo_174 (fun H locs hH => ?_)
      clear ef6
      refine lv_iload hx hb dX12_goesTo_175 (lv_at hl 4 rfl) ?_
      refine lv_aload_n hx hb dX12_goesTo_177 rfl (lv_at hl 0 rfl) ?_
      refine z_get S hF hH iX12_goesTo_X12 0 rfl rfl 6 (by decide) (List.mem_of_getElem? (i := 1) rfl) rfl dX12_goesTo_178 ?_
      refine lv_bipush (v := 75) hx hb dX12_goesTo_181 (by decide) ?_
      refine lv_iload_n hx hb dX12_goesTo_183 rfl (lv_at hl 2 rfl) ?_
      refine lv_iadd hx hb dX12_goesTo_184 ?_
      refine z_iald S hF hH 1 rfl h168 rfl dX12_goesTo_185 ?_
      refine lv_icmp_gt (tgt := 202) hx hb dX12_goesTo_186 (by decide) (fun b186 => ?_) (fun b186 => ?_)
      · replace h := zif_t b186 h
        cases h
        exact z_vret S hr hlocks hH dX12_goesTo_202
      · replace h := zif_f b186 h
        refine lv_aload_n hx hb dX12_goesTo_189 rfl (lv_at hl 0 rfl) ?_
        refine z_get S hF hH iX12_goesTo_X12 0 rfl rfl 6 (by decide) (List.mem_of_getElem? (i := 1) rfl) rfl dX12_goesTo_190 ?_
        refine lv_bipush (v := 53) hx hb dX12_goesTo_193 (by decide) ?_
        refine lv_dup2_11 hx hb dX12_goesTo_195 rfl rfl ?_
        refine z_iald (j := 53) S hF hH 1 rfl (by decide) rfl dX12_goesTo_196 ?_
        refine lv_iconst (v := 1) hx hb dX12_goesTo_197 (by decide) ?_
        refine lv_iload_n hx hb dX12_goesTo_198 rfl (lv_at hl 1 rfl) ?_
        refine lv_ishl hx hb dX12_goesTo_199 ?_
        refine lv_ior hx hb dX12_goesTo_200 ?_
        obtain ⟨y7, ey7, h⟩ := zbn_e h
        refine z_top ey7 ?_
        clear ey7
        obtain ⟨f8, ef8, h⟩ := zbn_e h
        refine z_iast (ws' := (wd_X12_goesTo cy q_t q_t_tape q_t_s q_t_h q_t_read q_t_names q_t_reserved q_t_undone q_t_before q_t_comeRow q_t_shown q_t_text q_t_toldAt q_t_stack q_t_truths q_t_imaged q_t_namesKept q_t_areKept t_thrown t_length t_size t_p t_limit t_token t_at t_span t_number t_fault t_faultAt t_word t_got t_lines t_hasWait t_undoMany t_firstMinute t_lookClock t_hasTime t_latestMost t_textMany t_seed t_toldMany t_hasTold t_codes t_ones t_top t_deep t_isWhole f8)) (j := 53) S hF hH 1 rfl (by decide) rfl (by rw [ef8]; rfl) dX12_goesTo_201 (fun H locs hH => ?_)
        clear ef8
        cases h
        exact z_vret S hr hlocks hH dX12_goesTo_202
    · replace h := zif_f b121 h
      cases h
      exact z_vret S hr hlocks hH dX12_goesTo_124
set_option maxHeartbeats 4000000 in
set_option maxRecDepth 100000 in
theorem c_X12_goesTo (l : Launch) (G : va_G) (cy : Nat → ClassId) (E : Nat → Nat) (N : Nat) (q_t q_t_tape q_t_s q_t_h q_t_read q_t_names q_t_reserved q_t_undone q_t_before q_t_comeRow q_t_shown q_t_text q_t_toldAt q_t_stack q_t_truths q_t_imaged q_t_namesKept q_t_areKept : Nat) (t_thrown : Int32) (t_length : Int32) (t_size : Int32) (t_p : Int32) (t_limit : Int32) (t_token : Int32) (t_at : Int32) (t_span : Int32) (t_number : Int32) (t_fault : Int32) (t_faultAt : Int32) (t_word : Int64) (t_got : Int32) (t_lines : Int32) (t_hasWait : Int32) (t_undoMany : Int32) (t_firstMinute : Int32) (t_lookClock : Int32) (t_hasTime : Int32) (t_latestMost : Int32) (t_textMany : Int32) (t_seed : Int32) (t_toldMany : Int32) (t_hasTold : Int32) (t_codes : Int32) (t_ones : Int32) (t_top : Int32) (t_deep : Int32) (t_isWhole : Int32) (t_s : Nat → Int32) (x0 : Int32) (x1 : Int32) (r_t_s : Nat → Int32) (h : f_X12_goesTo N x0 x1 t_s = some r_t_s) : zM l G cy E yX12_goesTo wsX12_goesTo rm_X12_goesTo [.ref q_t, .int x0, .int x1] (wd_X12_goesTo cy q_t q_t_tape q_t_s q_t_h q_t_read q_t_names q_t_reserved q_t_undone q_t_before q_t_comeRow q_t_shown q_t_text q_t_toldAt q_t_stack q_t_truths q_t_imaged q_t_namesKept q_t_areKept t_thrown t_length t_size t_p t_limit t_token t_at t_span t_number t_fault t_faultAt t_word t_got t_lines t_hasWait t_undoMany t_firstMinute t_lookClock t_hasTime t_latestMost t_textMany t_seed t_toldMany t_hasTold t_codes t_ones t_top t_deep t_isWhole t_s) (wd_X12_goesTo cy q_t q_t_tape q_t_s q_t_h q_t_read q_t_names q_t_reserved q_t_undone q_t_before q_t_comeRow q_t_shown q_t_text q_t_toldAt q_t_stack q_t_truths q_t_imaged q_t_namesKept q_t_areKept t_thrown t_length t_size t_p t_limit t_token t_at t_span t_number t_fault t_faultAt t_word t_got t_lines t_hasWait t_undoMany t_firstMinute t_lookClock t_hasTime t_latestMost t_textMany t_seed t_toldMany t_hasTold t_codes t_ones t_top t_deep t_isWhole r_t_s) none 0 0 := by
  refine z_body (cc := cX12_goesTo) (maxL := 5) (ret := none) (by decide) rfl (Nat.le_of_ble_eq_true rfl) ?_
  intro p e s m below meth c ls S hr hlocks hnm hF hH hl
  have S : CallFix p m c cX12_goesTo 5 s ([.ref q_t, .int x0, .int x1] : List Value).toArray wsX12_goesTo RX12 := S
  obtain ⟨hx, hb, hml, hown, hts⟩ := id S
  have hl : lv_has ls 5 [(0, .ref q_t), (1, .int x0), (2, .int x1)] := hl
  rw [f_X12_goesTo] at h
  refine lv_bipush (v := 6) hx hb dX12_goesTo_0 (by decide) ?_
  refine lv_iload_n hx hb dX12_goesTo_2 rfl (lv_at hl 2 rfl) ?_
  refine lv_imul hx hb dX12_goesTo_3 ?_
  refine lv_iload_n hx hb dX12_goesTo_4 rfl (lv_at hl 1 rfl) ?_
  refine lv_iadd hx hb dX12_goesTo_5 ?_
  obtain ⟨y1, ey1, h⟩ := zbn_e h
  refine z_top ey1 ?_
  clear ey1
  refine lv_istore_n (lv' := [(3, .int y1), (0, .ref q_t), (1, .int x0), (2, .int x1)]) hx hb dX12_goesTo_6 rfl hl (by decide) rfl (fun ls hl => ?_)
  refine lv_aload_n hx hb dX12_goesTo_7 rfl (lv_at hl 1 rfl) ?_
  refine z_get S hF hH iX12_goesTo_X12 0 rfl rfl 6 (by decide) (List.mem_of_getElem? (i := 1) rfl) rfl dX12_goesTo_8 ?_
  refine lv_bipush (v := 52) hx hb dX12_goesTo_11 (by decide) ?_
  refine z_iald (j := 52) S hF hH 1 rfl (by decide) rfl dX12_goesTo_13 ?_
  obtain ⟨y2, ey2, h⟩ := zbn_e h
  refine z_top ey2 ?_
  clear ey2
  refine lv_istore (lv' := [(4, .int y2), (3, .int y1), (0, .ref q_t), (1, .int x0), (2, .int x1)]) hx hb dX12_goesTo_14 hl (by decide) rfl (fun ls hl => ?_)
  refine lv_aload_n hx hb dX12_goesTo_16 rfl (lv_at hl 2 rfl) ?_
  refine lv_iload_n hx hb dX12_goesTo_17 rfl (lv_at hl 3 rfl) ?_
  obtain ⟨z18, hz18, h⟩ := zcl_e h
  refine z_callV (As := [.int x0]) (rest := []) (st1 := [.int z18]) (ws' := (wd_X12_goesTo cy q_t q_t_tape q_t_s q_t_h q_t_read q_t_names q_t_reserved q_t_undone q_t_before q_t_comeRow q_t_shown q_t_text q_t_toldAt q_t_stack q_t_truths q_t_imaged q_t_namesKept q_t_areKept t_thrown t_length t_size t_p t_limit t_token t_at t_span t_number t_fault t_faultAt t_word t_got t_lines t_hasWait t_undoMany t_firstMinute t_lookClock t_hasTime t_latestMost t_textMany t_seed t_toldMany t_hasTold t_codes t_ones t_top t_deep t_isWhole t_s)) S hF hH (c_X12_isOut l G cy E N q_t q_t_tape q_t_s q_t_h q_t_read q_t_names q_t_reserved q_t_undone q_t_before q_t_comeRow q_t_shown q_t_text q_t_toldAt q_t_stack q_t_truths q_t_imaged q_t_namesKept q_t_areKept t_thrown t_length t_size t_p t_limit t_token t_at t_span t_number t_fault t_faultAt t_word t_got t_lines t_hasWait t_undoMany t_firstMinute t_lookClock t_hasTime t_latestMost t_textMany t_seed t_toldMany t_hasTold t_codes t_ones t_top t_deep t_isWhole t_s x0 z18 hz18) (cwV 1 hts gX12_goesTo_X12_isOut rfl rfl rfl (by decide +kernel) ⟨Nat.le_of_ble_eq_true rfl, Nat.le_of_ble_eq_true rfl⟩) 13 0 rfl rfl [0, 1] rfl (by decide) rfl rfl rfl rfl rfl hl.1 (Nat.le_of_ble_eq_true rfl) dX12_goesTo_18 ⟨Nat.le_of_ble_eq_true rfl, Nat.le_of_ble_eq_true rfl⟩ (fun H locs hH => ?_)
  refine lv_if_ne (tgt := 86) hx hb dX12_goesTo_21 (by decide) (fun b21 => ?_) (fun b21 => ?_)
  · replace h := zif_f b21 h
    exact w_X12_goesTo_86 S hr hlocks hF x0 x1 y1 y2 t_s _ _ _ hH (lv_sub hl [2, 3, 4, 1, 0] rfl) h
  · replace h := zif_t b21 h
    refine lv_aload_n hx hb dX12_goesTo_24 rfl (lv_at hl 2 rfl) ?_
    refine z_get S hF hH iX12_goesTo_X12 0 rfl rfl 6 (by decide) (List.mem_of_getElem? (i := 1) rfl) rfl dX12_goesTo_25 ?_
    refine lv_bipush (v := 81) hx hb dX12_goesTo_28 (by decide) ?_
    refine lv_iload_n hx hb dX12_goesTo_30 rfl (lv_at hl 1 rfl) ?_
    refine lv_iadd hx hb dX12_goesTo_31 ?_
    obtain ⟨h32, h⟩ := zck_e h
    refine z_iald S hF hH 1 rfl h32 rfl dX12_goesTo_32 ?_
    refine lv_if_ne (tgt := 86) hx hb dX12_goesTo_33 (by decide) (fun b33 => ?_) (fun b33 => ?_)
    · replace h := zif_f b33 h
      exact w_X12_goesTo_86 S hr hlocks hF x0 x1 y1 y2 t_s _ _ _ hH (lv_sub hl [2, 3, 4, 1, 0] rfl) h
    · replace h := zif_t b33 h
      refine lv_aload_n hx hb dX12_goesTo_36 rfl (lv_at hl 2 rfl) ?_
      refine lv_aload_n hx hb dX12_goesTo_37 rfl (lv_at hl 2 rfl) ?_
      refine z_get S hF hH iX12_goesTo_X12 0 rfl rfl 6 (by decide) (List.mem_of_getElem? (i := 1) rfl) rfl dX12_goesTo_38 ?_
      refine lv_bipush (v := 34) hx hb dX12_goesTo_41 (by decide) ?_
      refine lv_iload_n hx hb dX12_goesTo_43 rfl (lv_at hl 3 rfl) ?_
      refine lv_iadd hx hb dX12_goesTo_44 ?_
      obtain ⟨h45, h⟩ := zck_e h
      refine z_iald S hF hH 1 rfl h45 rfl dX12_goesTo_45 ?_
      refine lv_iload hx hb dX12_goesTo_46 (lv_at hl 0 rfl) ?_
      obtain ⟨z48, hz48, h⟩ := zcl_e h
      refine z_callV (As := [.int (t_s (Int32.toNatClampNeg (34 + x0))), .int y2]) (rest := []) (st1 := [.int z48]) (ws' := (wd_X12_goesTo cy q_t q_t_tape q_t_s q_t_h q_t_read q_t_names q_t_reserved q_t_undone q_t_before q_t_comeRow q_t_shown q_t_text q_t_toldAt q_t_stack q_t_truths q_t_imaged q_t_namesKept q_t_areKept t_thrown t_length t_size t_p t_limit t_token t_at t_span t_number t_fault t_faultAt t_word t_got t_lines t_hasWait t_undoMany t_firstMinute t_lookClock t_hasTime t_latestMost t_textMany t_seed t_toldMany t_hasTold t_codes t_ones t_top t_deep t_isWhole t_s)) S hF hH (c_X12_readsAt l G cy E N q_t q_t_tape q_t_s q_t_h q_t_read q_t_names q_t_reserved q_t_undone q_t_before q_t_comeRow q_t_shown q_t_text q_t_toldAt q_t_stack q_t_truths q_t_imaged q_t_namesKept q_t_areKept t_thrown t_length t_size t_p t_limit t_token t_at t_span t_number t_fault t_faultAt t_word t_got t_lines t_hasWait t_undoMany t_firstMinute t_lookClock t_hasTime t_latestMost t_textMany t_seed t_toldMany t_hasTold t_codes t_ones t_top t_deep t_isWhole t_s (t_s (Int32.toNatClampNeg (34 + x0))) y2 z48 hz48) (cwV 2 hts gX12_goesTo_X12_readsAt rfl rfl rfl (by decide +kernel) ⟨Nat.le_of_ble_eq_true rfl, Nat.le_of_ble_eq_true rfl⟩) 13 0 rfl rfl [0, 1] rfl (by decide) rfl rfl rfl rfl rfl hl.1 (Nat.le_of_ble_eq_true rfl) dX12_goesTo_48 ⟨Nat.le_of_ble_eq_true rfl, Nat.le_of_ble_eq_true rfl⟩ (fun H locs hH => ?_)
      refine lv_aload_n hx hb dX12_goesTo_51 rfl (lv_at hl 2 rfl) ?_
      refine z_get S hF hH iX12_goesTo_X12 0 rfl rfl 6 (by decide) (List.mem_of_getElem? (i := 1) rfl) rfl dX12_goesTo_52 ?_
      refine lv_bipush (v := 75) hx hb dX12_goesTo_55 (by decide) ?_
      refine lv_iload_n hx hb dX12_goesTo_57 rfl (lv_at hl 4 rfl) ?_
      refine lv_iadd hx hb dX12_goesTo_58 ?_
      obtain ⟨h59, h⟩ := zck_e h
      refine z_iald S hF hH 1 rfl h59 rfl dX12_goesTo_59 ?_
      refine lv_aload_n hx hb dX12_goesTo_60 rfl (lv_at hl 2 rfl) ?_
      refine z_get S hF hH iX12_goesTo_X12 0 rfl rfl 6 (by decide) (List.mem_of_getElem? (i := 1) rfl) rfl dX12_goesTo_61 ?_
      refine lv_bipush (v := 28) hx hb dX12_goesTo_64 (by decide) ?_
      refine lv_iload_n hx hb dX12_goesTo_66 rfl (lv_at hl 3 rfl) ?_
      refine lv_iadd hx hb dX12_goesTo_67 ?_
      obtain ⟨h68, h⟩ := zck_e h
      refine z_iald S hF hH 1 rfl h68 rfl dX12_goesTo_68 ?_
      refine lv_iadd hx hb dX12_goesTo_69 ?_
      refine lv_icmp_lt (tgt := 86) hx hb dX12_goesTo_70 (by decide) (fun b70 => ?_) (fun b70 => ?_)
      · replace h := zif_t b70 h
        exact w_X12_goesTo_86 S hr hlocks hF x0 x1 y1 y2 t_s _ _ _ hH (lv_sub hl [2, 3, 4, 1, 0] rfl) h
      · replace h := zif_f b70 h
        refine lv_aload_n hx hb dX12_goesTo_73 rfl (lv_at hl 2 rfl) ?_
        refine z_get S hF hH iX12_goesTo_X12 0 rfl rfl 6 (by decide) (List.mem_of_getElem? (i := 1) rfl) rfl dX12_goesTo_74 ?_
        refine lv_bipush (v := 81) hx hb dX12_goesTo_77 (by decide) ?_
        refine lv_iload_n hx hb dX12_goesTo_79 rfl (lv_at hl 1 rfl) ?_
        refine lv_iadd hx hb dX12_goesTo_80 ?_
        refine lv_iload hx hb dX12_goesTo_81 (lv_at hl 0 rfl) ?_
        refine lv_iconst (v := 1) hx hb dX12_goesTo_83 (by decide) ?_
        refine lv_iadd hx hb dX12_goesTo_84 ?_
        obtain ⟨y3, ey3, h⟩ := zbn_e h
        refine z_top ey3 ?_
        clear ey3
        obtain ⟨f4, ef4, h⟩ := zbn_e h
        refine z_iast (ws' := (wd_X12_goesTo cy q_t q_t_tape q_t_s q_t_h q_t_read q_t_names q_t_reserved q_t_undone q_t_before q_t_comeRow q_t_shown q_t_text q_t_toldAt q_t_stack q_t_truths q_t_imaged q_t_namesKept q_t_areKept t_thrown t_length t_size t_p t_limit t_token t_at t_span t_number t_fault t_faultAt t_word t_got t_lines t_hasWait t_undoMany t_firstMinute t_lookClock t_hasTime t_latestMost t_textMany t_seed t_toldMany t_hasTold t_codes t_ones t_top t_deep t_isWhole f4)) (j := (Int32.toNatClampNeg (81 + y1))) S hF hH 1 rfl h32 rfl (by rw [ef4]; rfl) dX12_goesTo_85 (fun H locs hH => ?_)
        clear ef4
        exact w_X12_goesTo_86 S hr hlocks hF x0 x1 y1 y2 f4 _ _ _ hH (lv_sub hl [2, 3, 4, 1, 0] rfl) h
abbrev wd_X12_minute (cy : Nat → ClassId) (q_t q_t_tape q_t_s q_t_h q_t_read q_t_names q_t_reserved q_t_undone q_t_before q_t_comeRow q_t_shown q_t_text q_t_toldAt q_t_stack q_t_truths q_t_imaged q_t_namesKept q_t_areKept : Nat) (t_thrown : Int32) (t_length : Int32) (t_size : Int32) (t_p : Int32) (t_limit : Int32) (t_token : Int32) (t_at : Int32) (t_span : Int32) (t_number : Int32) (t_fault : Int32) (t_faultAt : Int32) (t_word : Int64) (t_got : Int32) (t_lines : Int32) (t_hasWait : Int32) (t_undoMany : Int32) (t_firstMinute : Int32) (t_lookClock : Int32) (t_hasTime : Int32) (t_latestMost : Int32) (t_textMany : Int32) (t_seed : Int32) (t_toldMany : Int32) (t_hasTold : Int32) (t_codes : Int32) (t_ones : Int32) (t_top : Int32) (t_deep : Int32) (t_isWhole : Int32) (t_s : Nat → Int32) : va_W := [(q_t, .inr (13, [.int t_thrown, .ref q_t_tape, .int t_length, .int t_size, .int t_p, .int t_limit, .ref q_t_s, .ref q_t_h, .ref q_t_read, .ref q_t_names, .ref q_t_reserved, .int t_token, .int t_at, .int t_span, .int t_number, .int t_fault, .int t_faultAt, .long t_word, .int t_got, .int t_lines, .int t_hasWait, .ref q_t_undone, .ref q_t_before, .int t_undoMany, .ref q_t_comeRow, .int t_firstMinute, .int t_lookClock, .int t_hasTime, .ref q_t_shown, .int t_latestMost, .ref q_t_text, .int t_textMany, .int t_seed, .int t_toldMany, .ref q_t_toldAt, .int t_hasTold, .ref q_t_stack, .int t_codes, .int t_ones, .int t_top, .int t_deep, .int t_isWhole, .ref q_t_truths, .ref q_t_imaged, .ref q_t_namesKept, .ref q_t_areKept])), (q_t_s, .inl (cy 1, 334, .inl t_s))]
theorem iX12_minute_X12 : ∀ w ∈ wsX120, w ∈ wsX12_minute := fun _ h => List.mem_cons_of_mem _ (List.mem_append_right _ h)
abbrev rm_X12_minute : Room := { frames := 4, cells := 0, slots := 0, locals := 88 }
set_option maxRecDepth 100000 in
def f_X12_minute_14 (N : Nat) (k_2 : Int32 → (Nat → Int32) → (Option ((Nat → Int32)))) : Nat → Int32 → Int32 → (Nat → Int32) → (Option ((Nat → Int32)))
  | 0, _, _, _ => none
  | n + 1, x1, x2, c_t_s => if (c_t_s 1) ≤ x2 then (zbn (x1 + 1) fun y1 => k_2 y1 c_t_s) else (zcl (f_X12_isDueTo N x2 x1 c_t_s) fun z27 => if z27 = 0 then (zbn (x2 + 1) fun y2 => f_X12_minute_14 N k_2 n x1 y2 c_t_s) else (zcl (f_X12_goesTo N x2 x1 c_t_s) fun z36 => zbn (x2 + 1) fun y3 => f_X12_minute_14 N k_2 n x1 y3 z36))
set_option maxRecDepth 100000 in
def f_X12_minute_2 (N : Nat) : Nat → Int32 → (Nat → Int32) → (Option ((Nat → Int32)))
  | 0, _, _ => none
  | n + 1, x1, c_t_s => if (c_t_s 2) ≤ x1 then (zbn (((c_t_s 52) + 1)) fun y1 => zbn (upd c_t_s 52 y1) fun f2 => some f2) else (f_X12_minute_14 N (f_X12_minute_2 N n) N x1 0 c_t_s)
set_option maxRecDepth 100000 in
def f_X12_minute (N : Nat) (t_s : Nat → Int32) : Option ((Nat → Int32)) := f_X12_minute_2 N N 0 t_s
set_option maxHeartbeats 4000000 in
set_option maxRecDepth 100000 in
theorem w_X12_minute_14 {p : Program} {l : Launch} {e : Env} {s : State} {m : MethodId} {args : Array Value} {below : List Frame} {meth : Method} {c : Code} {G : va_G} {cy : Nat → ClassId} {E : Nat → Nat} {w0 : va_W} {N : Nat} {q_t q_t_tape q_t_s q_t_h q_t_read q_t_names q_t_reserved q_t_undone q_t_before q_t_comeRow q_t_shown q_t_text q_t_toldAt q_t_stack q_t_truths q_t_imaged q_t_namesKept q_t_areKept : Nat} {t_thrown : Int32} {t_length : Int32} {t_size : Int32} {t_p : Int32} {t_limit : Int32} {t_token : Int32} {t_at : Int32} {t_span : Int32} {t_number : Int32} {t_fault : Int32} {t_faultAt : Int32} {t_word : Int64} {t_got : Int32} {t_lines : Int32} {t_hasWait : Int32} {t_undoMany : Int32} {t_firstMinute : Int32} {t_lookClock : Int32} {t_hasTime : Int32} {t_latestMost : Int32} {t_textMany : Int32} {t_seed : Int32} {t_toldMany : Int32} {t_hasTold : Int32} {t_codes : Int32} {t_ones : Int32} {t_top : Int32} {t_deep : Int32} {t_isWhole : Int32} {r_t_s : Nat → Int32} {k_2 : Int32 → (Nat → Int32) → (Option ((Nat → Int32)))} (S : CallFix p m c cX12_minute 3 s args wsX12_minute RX12) (hr : meth.sig.returnType = none) (hlocks : meth.locks = false) (hF : zF G cy E (va_A w0 s.heap.size) s) (hk_2 : ∀ (x1 : Int32) (c_t_s : Nat → Int32) (H : Heap) (locs : List Loc) (ls : Array Slot), zH G (va_A w0 s.heap.size) s H locs (wd_X12_minute cy q_t q_t_tape q_t_s q_t_h q_t_read q_t_names q_t_reserved q_t_undone q_t_before q_t_comeRow q_t_shown q_t_text q_t_toldAt q_t_stack q_t_truths q_t_imaged q_t_namesKept q_t_areKept t_thrown t_length t_size t_p t_limit t_token t_at t_span t_number t_fault t_faultAt t_word t_got t_lines t_hasWait t_undoMany t_firstMinute t_lookClock t_hasTime t_latestMost t_textMany t_seed t_toldMany t_hasTold t_codes t_ones t_top t_deep t_isWhole c_t_s) → lv_has ls 3 [(0, .ref q_t), (1, .int x1)] → k_2 x1 c_t_s = some r_t_s → W p l e rm_X12_minute s m args below meth c H locs 0 0 (MQ below (zQ G w0 (wd_X12_minute cy q_t q_t_tape q_t_s q_t_h q_t_read q_t_names q_t_reserved q_t_undone q_t_before q_t_comeRow q_t_shown q_t_text q_t_toldAt q_t_stack q_t_truths q_t_imaged q_t_namesKept q_t_areKept t_thrown t_length t_size t_p t_limit t_token t_at t_span t_number t_fault t_faultAt t_word t_got t_lines t_hasWait t_undoMany t_firstMinute t_lookClock t_hasTime t_latestMost t_textMany t_seed t_toldMany t_hasTold t_codes t_ones t_top t_deep t_isWhole r_t_s) s.heap.size none) args s 0 0 (va_A w0 s.heap.size)) (F0 m 2 ls [])) :
    ∀ (n : Nat) (x1 : Int32) (x2 : Int32) (c_t_s : Nat → Int32) (H : Heap) (locs : List Loc) (ls : Array Slot), zH G (va_A w0 s.heap.size) s H locs (wd_X12_minute cy q_t q_t_tape q_t_s q_t_h q_t_read q_t_names q_t_reserved q_t_undone q_t_before q_t_comeRow q_t_shown q_t_text q_t_toldAt q_t_stack q_t_truths q_t_imaged q_t_namesKept q_t_areKept t_thrown t_length t_size t_p t_limit t_token t_at t_span t_number t_fault t_faultAt t_word t_got t_lines t_hasWait t_undoMany t_firstMinute t_lookClock t_hasTime t_latestMost t_textMany t_seed t_toldMany t_hasTold t_codes t_ones t_top t_deep t_isWhole c_t_s) → lv_has ls 3 [(0, .ref q_t), (1, .int x1), (2, .int x2)] → f_X12_minute_14 N k_2 n x1 x2 c_t_s = some r_t_s → W p l e rm_X12_minute s m args below meth c H locs 0 0 (MQ below (zQ G w0 (wd_X12_minute cy q_t q_t_tape q_t_s q_t_h q_t_read q_t_names q_t_reserved q_t_undone q_t_before q_t_comeRow q_t_shown q_t_text q_t_toldAt q_t_stack q_t_truths q_t_imaged q_t_namesKept q_t_areKept t_thrown t_length t_size t_p t_limit t_token t_at t_span t_number t_fault t_faultAt t_word t_got t_lines t_hasWait t_undoMany t_firstMinute t_lookClock t_hasTime t_latestMost t_textMany t_seed t_toldMany t_hasTold t_codes t_ones t_top t_deep t_isWhole r_t_s) s.heap.size none) args s 0 0 (va_A w0 s.heap.size)) (F0 m 14 ls []) := by
  obtain ⟨hx, hb, hml, hown, hts⟩ := id S
  intro n
  induction n with
  | zero =>
    intro x1 x2 c_t_s H locs ls hH hl h
    rw [f_X12_minute_14] at h
    cases h
  | succ n ih =>
    intro x1 x2 c_t_s H locs ls hH hl h
    rw [f_X12_minute_14] at h
    refine lv_iload_n hx hb dX12_minute_14 rfl (lv_at hl 2 rfl) ?_
    refine lv_aload_n hx hb dX12_minute_15 rfl (lv_at hl 0 rfl) ?_
    refine z_get S hF hH iX12_minute_X12 0 rfl rfl 6 (by decide) (List.mem_of_getElem? (i := 1) rfl) rfl dX12_minute_16 ?_
    refine lv_iconst (v := 1) hx hb dX12_minute_19 (by decide) ?_
    refine z_iald (j := 1) S hF hH 1 rfl (by decide) rfl dX12_minute_20 ?_
    refine lv_icmp_ge (tgt := 45) hx hb dX12_minute_21 (by decide) (fun b21 => ?_) (fun b21 => ?_)
    · replace h := zif_t b21 h
      obtain ⟨y1, ey1, h⟩ := zbn_e h
      refine lv_iinc (v := y1) (lv' := [(1, .int y1), (0, .ref q_t), (2, .int x2)]) hx hb dX12_minute_45 hl (k := 1) rfl (by rw [ey1]; exact congrArg (fun z => x1 + z) (by decide)) (by decide) rfl (fun ls hl => ?_)
      clear ey1
      refine lv_goto (tgt := 2) hx hb dX12_minute_48 (by decide) ?_
      exact hk_2 y1 c_t_s _ _ _ hH (lv_sub hl [1, 0] rfl) h
    · replace h := zif_f b21 h
      refine lv_aload_n hx hb dX12_minute_24 rfl (lv_at hl 0 rfl) ?_
      refine lv_iload_n hx hb dX12_minute_25 rfl (lv_at hl 2 rfl) ?_
      refine lv_iload_n hx hb dX12_minute_26 rfl (lv_at hl 1 rfl) ?_
      obtain ⟨z27, hz27, h⟩ := zcl_e h
      refine z_callV (As := [.int x2, .int x1]) (rest := []) (st1 := [.int z27]) (ws' := (wd_X12_minute cy q_t q_t_tape q_t_s q_t_h q_t_read q_t_names q_t_reserved q_t_undone q_t_before q_t_comeRow q_t_shown q_t_text q_t_toldAt q_t_stack q_t_truths q_t_imaged q_t_namesKept q_t_areKept t_thrown t_length t_size t_p t_limit t_token t_at t_span t_number t_fault t_faultAt t_word t_got t_lines t_hasWait t_undoMany t_firstMinute t_lookClock t_hasTime t_latestMost t_textMany t_seed t_toldMany t_hasTold t_codes t_ones t_top t_deep t_isWhole c_t_s)) S hF hH (c_X12_isDueTo l G cy E N q_t q_t_tape q_t_s q_t_h q_t_read q_t_names q_t_reserved q_t_undone q_t_before q_t_comeRow q_t_shown q_t_text q_t_toldAt q_t_stack q_t_truths q_t_imaged q_t_namesKept q_t_areKept t_thrown t_length t_size t_p t_limit t_token t_at t_span t_number t_fault t_faultAt t_word t_got t_lines t_hasWait t_undoMany t_firstMinute t_lookClock t_hasTime t_latestMost t_textMany t_seed t_toldMany t_hasTold t_codes t_ones t_top t_deep t_isWhole c_t_s x2 x1 z27 hz27) (cwV 2 hts gX12_minute_X12_isDueTo rfl rfl rfl (by decide +kernel) ⟨Nat.le_of_ble_eq_true rfl, Nat.le_of_ble_eq_true rfl⟩) 13 0 rfl rfl [0, 1] rfl (by decide) rfl rfl rfl rfl rfl hl.1 (Nat.le_of_ble_eq_true rfl) dX12_minute_27 ⟨Nat.le_of_ble_eq_true rfl, Nat.le_of_ble_eq_true rfl⟩ (fun H locs hH => ?_)
      refine lv_if_eq (tgt := 39) hx hb dX12_minute_30 (by decide) (fun b30 => ?_) (fun b30 => ?_)
      · replace h := zif_t b30 h
        obtain ⟨y2, ey2, h⟩ := zbn_e h
        refine lv_iinc (v := y2) (lv' := [(2, .int y2), (0, .ref q_t), (1, .int x1)]) hx hb dX12_minute_39 hl (k := 2) rfl (by rw [ey2]; exact congrArg (fun z => x2 + z) (by decide)) (by decide) rfl (fun ls hl => ?_)
        clear ey2
        refine lv_goto (tgt := 14) hx hb dX12_minute_42 (by decide) ?_
        exact ih x1 y2 c_t_s _ _ _ hH (lv_sub hl [1, 2, 0] rfl) h
      · replace h := zif_f b30 h
        refine lv_aload_n hx hb dX12_minute_33 rfl (lv_at hl 0 rfl) ?_
        refine lv_iload_n hx hb dX12_minute_34 rfl (lv_at hl 2 rfl) ?_
        refine lv_iload_n hx hb dX12_minute_35 rfl (lv_at hl 1 rfl) ?_
        obtain ⟨z36, hz36, h⟩ := zcl_e h
        refine z_callV (As := [.int x2, .int x1]) (rest := []) (st1 := []) (ws' := (wd_X12_minute cy q_t q_t_tape q_t_s q_t_h q_t_read q_t_names q_t_reserved q_t_undone q_t_before q_t_comeRow q_t_shown q_t_text q_t_toldAt q_t_stack q_t_truths q_t_imaged q_t_namesKept q_t_areKept t_thrown t_length t_size t_p t_limit t_token t_at t_span t_number t_fault t_faultAt t_word t_got t_lines t_hasWait t_undoMany t_firstMinute t_lookClock t_hasTime t_latestMost t_textMany t_seed t_toldMany t_hasTold t_codes t_ones t_top t_deep t_isWhole z36)) S hF hH (c_X12_goesTo l G cy E N q_t q_t_tape q_t_s q_t_h q_t_read q_t_names q_t_reserved q_t_undone q_t_before q_t_comeRow q_t_shown q_t_text q_t_toldAt q_t_stack q_t_truths q_t_imaged q_t_namesKept q_t_areKept t_thrown t_length t_size t_p t_limit t_token t_at t_span t_number t_fault t_faultAt t_word t_got t_lines t_hasWait t_undoMany t_firstMinute t_lookClock t_hasTime t_latestMost t_textMany t_seed t_toldMany t_hasTold t_codes t_ones t_top t_deep t_isWhole c_t_s x2 x1 z36 hz36) (cwV 2 hts gX12_minute_X12_goesTo rfl rfl rfl (by decide +kernel) ⟨Nat.le_of_ble_eq_true rfl, Nat.le_of_ble_eq_true rfl⟩) 13 0 rfl rfl [0, 1] rfl (by decide) rfl rfl rfl rfl rfl hl.1 (Nat.le_of_ble_eq_true rfl) dX12_minute_36 ⟨Nat.le_of_ble_eq_true rfl, Nat.le_of_ble_eq_true rfl⟩ (fun H locs hH => ?_)
        obtain ⟨y3, ey3, h⟩ := zbn_e h
        refine lv_iinc (v := y3) (lv' := [(2, .int y3), (0, .ref q_t), (1, .int x1)]) hx hb dX12_minute_39 hl (k := 2) rfl (by rw [ey3]; exact congrArg (fun z => x2 + z) (by decide)) (by decide) rfl (fun ls hl => ?_)
        clear ey3
        refine lv_goto (tgt := 14) hx hb dX12_minute_42 (by decide) ?_
        exact ih x1 y3 z36 _ _ _ hH (lv_sub hl [1, 2, 0] rfl) h
set_option maxHeartbeats 4000000 in
set_option maxRecDepth 100000 in
theorem w_X12_minute_2 {p : Program} {l : Launch} {e : Env} {s : State} {m : MethodId} {args : Array Value} {below : List Frame} {meth : Method} {c : Code} {G : va_G} {cy : Nat → ClassId} {E : Nat → Nat} {w0 : va_W} {N : Nat} {q_t q_t_tape q_t_s q_t_h q_t_read q_t_names q_t_reserved q_t_undone q_t_before q_t_comeRow q_t_shown q_t_text q_t_toldAt q_t_stack q_t_truths q_t_imaged q_t_namesKept q_t_areKept : Nat} {t_thrown : Int32} {t_length : Int32} {t_size : Int32} {t_p : Int32} {t_limit : Int32} {t_token : Int32} {t_at : Int32} {t_span : Int32} {t_number : Int32} {t_fault : Int32} {t_faultAt : Int32} {t_word : Int64} {t_got : Int32} {t_lines : Int32} {t_hasWait : Int32} {t_undoMany : Int32} {t_firstMinute : Int32} {t_lookClock : Int32} {t_hasTime : Int32} {t_latestMost : Int32} {t_textMany : Int32} {t_seed : Int32} {t_toldMany : Int32} {t_hasTold : Int32} {t_codes : Int32} {t_ones : Int32} {t_top : Int32} {t_deep : Int32} {t_isWhole : Int32} {r_t_s : Nat → Int32} (S : CallFix p m c cX12_minute 3 s args wsX12_minute RX12) (hr : meth.sig.returnType = none) (hlocks : meth.locks = false) (hF : zF G cy E (va_A w0 s.heap.size) s) :
    ∀ (n : Nat) (x1 : Int32) (c_t_s : Nat → Int32) (H : Heap) (locs : List Loc) (ls : Array Slot), zH G (va_A w0 s.heap.size) s H locs (wd_X12_minute cy q_t q_t_tape q_t_s q_t_h q_t_read q_t_names q_t_reserved q_t_undone q_t_before q_t_comeRow q_t_shown q_t_text q_t_toldAt q_t_stack q_t_truths q_t_imaged q_t_namesKept q_t_areKept t_thrown t_length t_size t_p t_limit t_token t_at t_span t_number t_fault t_faultAt t_word t_got t_lines t_hasWait t_undoMany t_firstMinute t_lookClock t_hasTime t_latestMost t_textMany t_seed t_toldMany t_hasTold t_codes t_ones t_top t_deep t_isWhole c_t_s) → lv_has ls 3 [(0, .ref q_t), (1, .int x1)] → f_X12_minute_2 N n x1 c_t_s = some r_t_s → W p l e rm_X12_minute s m args below meth c H locs 0 0 (MQ below (zQ G w0 (wd_X12_minute cy q_t q_t_tape q_t_s q_t_h q_t_read q_t_names q_t_reserved q_t_undone q_t_before q_t_comeRow q_t_shown q_t_text q_t_toldAt q_t_stack q_t_truths q_t_imaged q_t_namesKept q_t_areKept t_thrown t_length t_size t_p t_limit t_token t_at t_span t_number t_fault t_faultAt t_word t_got t_lines t_hasWait t_undoMany t_firstMinute t_lookClock t_hasTime t_latestMost t_textMany t_seed t_toldMany t_hasTold t_codes t_ones t_top t_deep t_isWhole r_t_s) s.heap.size none) args s 0 0 (va_A w0 s.heap.size)) (F0 m 2 ls []) := by
  obtain ⟨hx, hb, hml, hown, hts⟩ := id S
  intro n
  induction n with
  | zero =>
    intro x1 c_t_s H locs ls hH hl h
    rw [f_X12_minute_2] at h
    cases h
  | succ n ih =>
    intro x1 c_t_s H locs ls hH hl h
    rw [f_X12_minute_2] at h
    refine lv_iload_n hx hb dX12_minute_2 rfl (lv_at hl 1 rfl) ?_
    refine lv_aload_n hx hb dX12_minute_3 rfl (lv_at hl 0 rfl) ?_
    refine z_get S hF hH iX12_minute_X12 0 rfl rfl 6 (by decide) (List.mem_of_getElem? (i := 1) rfl) rfl dX12_minute_4 ?_
    refine lv_iconst (v := 2) hx hb dX12_minute_7 (by decide) ?_
    refine z_iald (j := 2) S hF hH 1 rfl (by decide) rfl dX12_minute_8 ?_
    refine lv_icmp_ge (tgt := 51) hx hb dX12_minute_9 (by decide) (fun b9 => ?_) (fun b9 => ?_)
    · replace h := zif_t b9 h
      refine lv_aload_n hx hb dX12_minute_51 rfl (lv_at hl 0 rfl) ?_
      refine z_get S hF hH iX12_minute_X12 0 rfl rfl 6 (by decide) (List.mem_of_getElem? (i := 1) rfl) rfl dX12_minute_52 ?_
      refine lv_bipush (v := 52) hx hb dX12_minute_55 (by decide) ?_
      refine lv_dup2_11 hx hb dX12_minute_57 rfl rfl ?_
      refine z_iald (j := 52) S hF hH 1 rfl (by decide) rfl dX12_minute_58 ?_
      refine lv_iconst (v := 1) hx hb dX12_minute_59 (by decide) ?_
      refine lv_iadd hx hb dX12_minute_60 ?_
      obtain ⟨y1, ey1, h⟩ := zbn_e h
      refine z_top ey1 ?_
      clear ey1
      obtain ⟨f2, ef2, h⟩ := zbn_e h
      refine z_iast (ws' := (wd_X12_minute cy q_t q_t_tape q_t_s q_t_h q_t_read q_t_names q_t_reserved q_t_undone q_t_before q_t_comeRow q_t_shown q_t_text q_t_toldAt q_t_stack q_t_truths q_t_imaged q_t_namesKept q_t_areKept t_thrown t_length t_size t_p t_limit t_token t_at t_span t_number t_fault t_faultAt t_word t_got t_lines t_hasWait t_undoMany t_firstMinute t_lookClock t_hasTime t_latestMost t_textMany t_seed t_toldMany t_hasTold t_codes t_ones t_top t_deep t_isWhole f2)) (j := 52) S hF hH 1 rfl (by decide) rfl (by rw [ef2]; rfl) dX12_minute_61 (fun H locs hH => ?_)
      clear ef2
      cases h
      exact z_vret S hr hlocks hH dX12_minute_62
    · replace h := zif_f b9 h
      refine lv_iconst (v := 0) hx hb dX12_minute_12 (by decide) ?_
      refine lv_istore_n (lv' := [(2, .int 0), (0, .ref q_t), (1, .int x1)]) hx hb dX12_minute_13 rfl hl (by decide) rfl (fun ls hl => ?_)
      exact w_X12_minute_14 S hr hlocks hF ih N x1 0 c_t_s _ _ _ hH (lv_sub hl [1, 2, 0] rfl) h
set_option maxHeartbeats 4000000 in
set_option maxRecDepth 100000 in
theorem c_X12_minute (l : Launch) (G : va_G) (cy : Nat → ClassId) (E : Nat → Nat) (N : Nat) (q_t q_t_tape q_t_s q_t_h q_t_read q_t_names q_t_reserved q_t_undone q_t_before q_t_comeRow q_t_shown q_t_text q_t_toldAt q_t_stack q_t_truths q_t_imaged q_t_namesKept q_t_areKept : Nat) (t_thrown : Int32) (t_length : Int32) (t_size : Int32) (t_p : Int32) (t_limit : Int32) (t_token : Int32) (t_at : Int32) (t_span : Int32) (t_number : Int32) (t_fault : Int32) (t_faultAt : Int32) (t_word : Int64) (t_got : Int32) (t_lines : Int32) (t_hasWait : Int32) (t_undoMany : Int32) (t_firstMinute : Int32) (t_lookClock : Int32) (t_hasTime : Int32) (t_latestMost : Int32) (t_textMany : Int32) (t_seed : Int32) (t_toldMany : Int32) (t_hasTold : Int32) (t_codes : Int32) (t_ones : Int32) (t_top : Int32) (t_deep : Int32) (t_isWhole : Int32) (t_s : Nat → Int32) (r_t_s : Nat → Int32) (h : f_X12_minute N t_s = some r_t_s) : zM l G cy E yX12_minute wsX12_minute rm_X12_minute [.ref q_t] (wd_X12_minute cy q_t q_t_tape q_t_s q_t_h q_t_read q_t_names q_t_reserved q_t_undone q_t_before q_t_comeRow q_t_shown q_t_text q_t_toldAt q_t_stack q_t_truths q_t_imaged q_t_namesKept q_t_areKept t_thrown t_length t_size t_p t_limit t_token t_at t_span t_number t_fault t_faultAt t_word t_got t_lines t_hasWait t_undoMany t_firstMinute t_lookClock t_hasTime t_latestMost t_textMany t_seed t_toldMany t_hasTold t_codes t_ones t_top t_deep t_isWhole t_s) (wd_X12_minute cy q_t q_t_tape q_t_s q_t_h q_t_read q_t_names q_t_reserved q_t_undone q_t_before q_t_comeRow q_t_shown q_t_text q_t_toldAt q_t_stack q_t_truths q_t_imaged q_t_namesKept q_t_areKept t_thrown t_length t_size t_p t_limit t_token t_at t_span t_number t_fault t_faultAt t_word t_got t_lines t_hasWait t_undoMany t_firstMinute t_lookClock t_hasTime t_latestMost t_textMany t_seed t_toldMany t_hasTold t_codes t_ones t_top t_deep t_isWhole r_t_s) none 0 0 := by
  refine z_body (cc := cX12_minute) (maxL := 3) (ret := none) (by decide) rfl (Nat.le_of_ble_eq_true rfl) ?_
  intro p e s m below meth c ls S hr hlocks hnm hF hH hl
  have S : CallFix p m c cX12_minute 3 s ([.ref q_t] : List Value).toArray wsX12_minute RX12 := S
  obtain ⟨hx, hb, hml, hown, hts⟩ := id S
  have hl : lv_has ls 3 [(0, .ref q_t)] := hl
  rw [f_X12_minute] at h
  refine lv_iconst (v := 0) hx hb dX12_minute_0 (by decide) ?_
  refine lv_istore_n (lv' := [(1, .int 0), (0, .ref q_t)]) hx hb dX12_minute_1 rfl hl (by decide) rfl (fun ls hl => ?_)
  exact w_X12_minute_2 S hr hlocks hF N 0 t_s _ _ _ hH (lv_sub hl [1, 0] rfl) h
abbrev wd_X12_goesOn (cy : Nat → ClassId) (q_t q_t_tape q_t_s q_t_h q_t_read q_t_names q_t_reserved q_t_undone q_t_before q_t_comeRow q_t_shown q_t_text q_t_toldAt q_t_stack q_t_truths q_t_imaged q_t_namesKept q_t_areKept : Nat) (t_thrown : Int32) (t_length : Int32) (t_size : Int32) (t_p : Int32) (t_limit : Int32) (t_token : Int32) (t_at : Int32) (t_span : Int32) (t_number : Int32) (t_fault : Int32) (t_faultAt : Int32) (t_word : Int64) (t_got : Int32) (t_lines : Int32) (t_hasWait : Int32) (t_undoMany : Int32) (t_firstMinute : Int32) (t_lookClock : Int32) (t_hasTime : Int32) (t_latestMost : Int32) (t_textMany : Int32) (t_seed : Int32) (t_toldMany : Int32) (t_hasTold : Int32) (t_codes : Int32) (t_ones : Int32) (t_top : Int32) (t_deep : Int32) (t_isWhole : Int32) (t_s : Nat → Int32) : va_W := [(q_t, .inr (13, [.int t_thrown, .ref q_t_tape, .int t_length, .int t_size, .int t_p, .int t_limit, .ref q_t_s, .ref q_t_h, .ref q_t_read, .ref q_t_names, .ref q_t_reserved, .int t_token, .int t_at, .int t_span, .int t_number, .int t_fault, .int t_faultAt, .long t_word, .int t_got, .int t_lines, .int t_hasWait, .ref q_t_undone, .ref q_t_before, .int t_undoMany, .ref q_t_comeRow, .int t_firstMinute, .int t_lookClock, .int t_hasTime, .ref q_t_shown, .int t_latestMost, .ref q_t_text, .int t_textMany, .int t_seed, .int t_toldMany, .ref q_t_toldAt, .int t_hasTold, .ref q_t_stack, .int t_codes, .int t_ones, .int t_top, .int t_deep, .int t_isWhole, .ref q_t_truths, .ref q_t_imaged, .ref q_t_namesKept, .ref q_t_areKept])), (q_t_s, .inl (cy 1, 334, .inl t_s))]
theorem iX12_goesOn_X12 : ∀ w ∈ wsX120, w ∈ wsX12_goesOn := fun _ h => List.mem_cons_of_mem _ (List.mem_append_right _ h)
abbrev rm_X12_goesOn : Room := { frames := 5, cells := 0, slots := 0, locals := 110 }
set_option maxRecDepth 100000 in
def f_X12_goesOn_2 (N : Nat) : Nat → Int32 → Int32 → (Nat → Int32) → (Option (Int32 × (Nat → Int32)))
  | 0, _, _, _ => none
  | n + 1, x1, x2, c_t_s => if x1 ≤ x2 then (some (x2, c_t_s)) else (if 2000 ≤ (c_t_s 52) then (some (x2, c_t_s)) else (zcl (f_X12_minute N c_t_s) fun z21 => zbn (x2 + 1) fun y1 => f_X12_goesOn_2 N n x1 y1 z21))
set_option maxRecDepth 100000 in
def f_X12_goesOn (N : Nat) (x0 : Int32) (t_s : Nat → Int32) : Option (Int32 × (Nat → Int32)) := f_X12_goesOn_2 N N x0 0 t_s
set_option maxHeartbeats 4000000 in
set_option maxRecDepth 100000 in
theorem w_X12_goesOn_2 {p : Program} {l : Launch} {e : Env} {s : State} {m : MethodId} {args : Array Value} {below : List Frame} {meth : Method} {c : Code} {G : va_G} {cy : Nat → ClassId} {E : Nat → Nat} {w0 : va_W} {N : Nat} {q_t q_t_tape q_t_s q_t_h q_t_read q_t_names q_t_reserved q_t_undone q_t_before q_t_comeRow q_t_shown q_t_text q_t_toldAt q_t_stack q_t_truths q_t_imaged q_t_namesKept q_t_areKept : Nat} {t_thrown : Int32} {t_length : Int32} {t_size : Int32} {t_p : Int32} {t_limit : Int32} {t_token : Int32} {t_at : Int32} {t_span : Int32} {t_number : Int32} {t_fault : Int32} {t_faultAt : Int32} {t_word : Int64} {t_got : Int32} {t_lines : Int32} {t_hasWait : Int32} {t_undoMany : Int32} {t_firstMinute : Int32} {t_lookClock : Int32} {t_hasTime : Int32} {t_latestMost : Int32} {t_textMany : Int32} {t_seed : Int32} {t_toldMany : Int32} {t_hasTold : Int32} {t_codes : Int32} {t_ones : Int32} {t_top : Int32} {t_deep : Int32} {t_isWhole : Int32} {r : Int32} {r_t_s : Nat → Int32} (S : CallFix p m c cX12_goesOn 3 s args wsX12_goesOn RX12) (hr : meth.sig.returnType = some .int) (hlocks : meth.locks = false) (hF : zF G cy E (va_A w0 s.heap.size) s) :
    ∀ (n : Nat) (x1 : Int32) (x2 : Int32) (c_t_s : Nat → Int32) (H : Heap) (locs : List Loc) (ls : Array Slot), zH G (va_A w0 s.heap.size) s H locs (wd_X12_goesOn cy q_t q_t_tape q_t_s q_t_h q_t_read q_t_names q_t_reserved q_t_undone q_t_before q_t_comeRow q_t_shown q_t_text q_t_toldAt q_t_stack q_t_truths q_t_imaged q_t_namesKept q_t_areKept t_thrown t_length t_size t_p t_limit t_token t_at t_span t_number t_fault t_faultAt t_word t_got t_lines t_hasWait t_undoMany t_firstMinute t_lookClock t_hasTime t_latestMost t_textMany t_seed t_toldMany t_hasTold t_codes t_ones t_top t_deep t_isWhole c_t_s) → lv_has ls 3 [(0, .ref q_t), (1, .int x1), (2, .int x2)] → f_X12_goesOn_2 N n x1 x2 c_t_s = some (r, r_t_s) → W p l e rm_X12_goesOn s m args below meth c H locs 0 0 (MQ below (zQ G w0 (wd_X12_goesOn cy q_t q_t_tape q_t_s q_t_h q_t_read q_t_names q_t_reserved q_t_undone q_t_before q_t_comeRow q_t_shown q_t_text q_t_toldAt q_t_stack q_t_truths q_t_imaged q_t_namesKept q_t_areKept t_thrown t_length t_size t_p t_limit t_token t_at t_span t_number t_fault t_faultAt t_word t_got t_lines t_hasWait t_undoMany t_firstMinute t_lookClock t_hasTime t_latestMost t_textMany t_seed t_toldMany t_hasTold t_codes t_ones t_top t_deep t_isWhole r_t_s) s.heap.size (some (.int r))) args s 0 0 (va_A w0 s.heap.size)) (F0 m 2 ls []) := by
  obtain ⟨hx, hb, hml, hown, hts⟩ := id S
  intro n
  induction n with
  | zero =>
    intro x1 x2 c_t_s H locs ls hH hl h
    rw [f_X12_goesOn_2] at h
    cases h
  | succ n ih =>
    intro x1 x2 c_t_s H locs ls hH hl h
    rw [f_X12_goesOn_2] at h
    refine lv_iload_n hx hb dX12_goesOn_2 rfl (lv_at hl 2 rfl) ?_
    refine lv_iload_n hx hb dX12_goesOn_3 rfl (lv_at hl 1 rfl) ?_
    refine lv_icmp_ge (tgt := 30) hx hb dX12_goesOn_4 (by decide) (fun b4 => ?_) (fun b4 => ?_)
    · replace h := zif_t b4 h
      refine lv_iload_n hx hb dX12_goesOn_30 rfl (lv_at hl 2 rfl) ?_
      cases h
      exact z_iret S hr hlocks hH dX12_goesOn_31
    · replace h := zif_f b4 h
      refine lv_aload_n hx hb dX12_goesOn_7 rfl (lv_at hl 0 rfl) ?_
      refine z_get S hF hH iX12_goesOn_X12 0 rfl rfl 6 (by decide) (List.mem_of_getElem? (i := 1) rfl) rfl dX12_goesOn_8 ?_
      refine lv_bipush (v := 52) hx hb dX12_goesOn_11 (by decide) ?_
      refine z_iald (j := 52) S hF hH 1 rfl (by decide) rfl dX12_goesOn_13 ?_
      refine lv_sipush (v := 2000) hx hb dX12_goesOn_14 (by decide) ?_
      refine lv_icmp_ge (tgt := 30) hx hb dX12_goesOn_17 (by decide) (fun b17 => ?_) (fun b17 => ?_)
      · replace h := zif_t b17 h
        refine lv_iload_n hx hb dX12_goesOn_30 rfl (lv_at hl 2 rfl) ?_
        cases h
        exact z_iret S hr hlocks hH dX12_goesOn_31
      · replace h := zif_f b17 h
        refine lv_aload_n hx hb dX12_goesOn_20 rfl (lv_at hl 0 rfl) ?_
        obtain ⟨z21, hz21, h⟩ := zcl_e h
        refine z_callV (As := []) (rest := []) (st1 := []) (ws' := (wd_X12_goesOn cy q_t q_t_tape q_t_s q_t_h q_t_read q_t_names q_t_reserved q_t_undone q_t_before q_t_comeRow q_t_shown q_t_text q_t_toldAt q_t_stack q_t_truths q_t_imaged q_t_namesKept q_t_areKept t_thrown t_length t_size t_p t_limit t_token t_at t_span t_number t_fault t_faultAt t_word t_got t_lines t_hasWait t_undoMany t_firstMinute t_lookClock t_hasTime t_latestMost t_textMany t_seed t_toldMany t_hasTold t_codes t_ones t_top t_deep t_isWhole z21)) S hF hH (c_X12_minute l G cy E N q_t q_t_tape q_t_s q_t_h q_t_read q_t_names q_t_reserved q_t_undone q_t_before q_t_comeRow q_t_shown q_t_text q_t_toldAt q_t_stack q_t_truths q_t_imaged q_t_namesKept q_t_areKept t_thrown t_length t_size t_p t_limit t_token t_at t_span t_number t_fault t_faultAt t_word t_got t_lines t_hasWait t_undoMany t_firstMinute t_lookClock t_hasTime t_latestMost t_textMany t_seed t_toldMany t_hasTold t_codes t_ones t_top t_deep t_isWhole c_t_s z21 hz21) (cwV 0 hts gX12_goesOn_X12_minute rfl rfl rfl (by decide +kernel) ⟨Nat.le_of_ble_eq_true rfl, Nat.le_of_ble_eq_true rfl⟩) 13 0 rfl rfl [0, 1] rfl (by decide) rfl rfl rfl rfl rfl hl.1 (Nat.le_of_ble_eq_true rfl) dX12_goesOn_21 ⟨Nat.le_of_ble_eq_true rfl, Nat.le_of_ble_eq_true rfl⟩ (fun H locs hH => ?_)
        obtain ⟨y1, ey1, h⟩ := zbn_e h
        refine lv_iinc (v := y1) (lv' := [(2, .int y1), (0, .ref q_t), (1, .int x1)]) hx hb dX12_goesOn_24 hl (k := 2) rfl (by rw [ey1]; exact congrArg (fun z => x2 + z) (by decide)) (by decide) rfl (fun ls hl => ?_)
        clear ey1
        refine lv_goto (tgt := 2) hx hb dX12_goesOn_27 (by decide) ?_
        exact ih x1 y1 z21 _ _ _ hH (lv_sub hl [1, 2, 0] rfl) h
set_option maxHeartbeats 4000000 in
set_option maxRecDepth 100000 in
theorem c_X12_goesOn (l : Launch) (G : va_G) (cy : Nat → ClassId) (E : Nat → Nat) (N : Nat) (q_t q_t_tape q_t_s q_t_h q_t_read q_t_names q_t_reserved q_t_undone q_t_before q_t_comeRow q_t_shown q_t_text q_t_toldAt q_t_stack q_t_truths q_t_imaged q_t_namesKept q_t_areKept : Nat) (t_thrown : Int32) (t_length : Int32) (t_size : Int32) (t_p : Int32) (t_limit : Int32) (t_token : Int32) (t_at : Int32) (t_span : Int32) (t_number : Int32) (t_fault : Int32) (t_faultAt : Int32) (t_word : Int64) (t_got : Int32) (t_lines : Int32) (t_hasWait : Int32) (t_undoMany : Int32) (t_firstMinute : Int32) (t_lookClock : Int32) (t_hasTime : Int32) (t_latestMost : Int32) (t_textMany : Int32) (t_seed : Int32) (t_toldMany : Int32) (t_hasTold : Int32) (t_codes : Int32) (t_ones : Int32) (t_top : Int32) (t_deep : Int32) (t_isWhole : Int32) (t_s : Nat → Int32) (x0 : Int32) (r : Int32) (r_t_s : Nat → Int32) (h : f_X12_goesOn N x0 t_s = some (r, r_t_s)) : zM l G cy E yX12_goesOn wsX12_goesOn rm_X12_goesOn [.ref q_t, .int x0] (wd_X12_goesOn cy q_t q_t_tape q_t_s q_t_h q_t_read q_t_names q_t_reserved q_t_undone q_t_before q_t_comeRow q_t_shown q_t_text q_t_toldAt q_t_stack q_t_truths q_t_imaged q_t_namesKept q_t_areKept t_thrown t_length t_size t_p t_limit t_token t_at t_span t_number t_fault t_faultAt t_word t_got t_lines t_hasWait t_undoMany t_firstMinute t_lookClock t_hasTime t_latestMost t_textMany t_seed t_toldMany t_hasTold t_codes t_ones t_top t_deep t_isWhole t_s) (wd_X12_goesOn cy q_t q_t_tape q_t_s q_t_h q_t_read q_t_names q_t_reserved q_t_undone q_t_before q_t_comeRow q_t_shown q_t_text q_t_toldAt q_t_stack q_t_truths q_t_imaged q_t_namesKept q_t_areKept t_thrown t_length t_size t_p t_limit t_token t_at t_span t_number t_fault t_faultAt t_word t_got t_lines t_hasWait t_undoMany t_firstMinute t_lookClock t_hasTime t_latestMost t_textMany t_seed t_toldMany t_hasTold t_codes t_ones t_top t_deep t_isWhole r_t_s) (some (.int r)) 0 0 := by
  refine z_body (cc := cX12_goesOn) (maxL := 3) (ret := some .int) (by decide) rfl (Nat.le_of_ble_eq_true rfl) ?_
  intro p e s m below meth c ls S hr hlocks hnm hF hH hl
  have S : CallFix p m c cX12_goesOn 3 s ([.ref q_t, .int x0] : List Value).toArray wsX12_goesOn RX12 := S
  obtain ⟨hx, hb, hml, hown, hts⟩ := id S
  have hl : lv_has ls 3 [(0, .ref q_t), (1, .int x0)] := hl
  rw [f_X12_goesOn] at h
  refine lv_iconst (v := 0) hx hb dX12_goesOn_0 (by decide) ?_
  refine lv_istore_n (lv' := [(2, .int 0), (0, .ref q_t), (1, .int x0)]) hx hb dX12_goesOn_1 rfl hl (by decide) rfl (fun ls hl => ?_)
  exact w_X12_goesOn_2 S hr hlocks hF N x0 0 t_s _ _ _ hH (lv_sub hl [1, 2, 0] rfl) h
abbrev wd_X12_keep (cy : Nat → ClassId) (q_t q_t_tape q_t_s q_t_h q_t_read q_t_names q_t_reserved q_t_undone q_t_before q_t_comeRow q_t_shown q_t_text q_t_toldAt q_t_stack q_t_truths q_t_imaged q_t_namesKept q_t_areKept : Nat) (t_thrown : Int32) (t_length : Int32) (t_size : Int32) (t_p : Int32) (t_limit : Int32) (t_token : Int32) (t_at : Int32) (t_span : Int32) (t_number : Int32) (t_fault : Int32) (t_faultAt : Int32) (t_word : Int64) (t_got : Int32) (t_lines : Int32) (t_hasWait : Int32) (t_undoMany : Int32) (t_firstMinute : Int32) (t_lookClock : Int32) (t_hasTime : Int32) (t_latestMost : Int32) (t_textMany : Int32) (t_seed : Int32) (t_toldMany : Int32) (t_hasTold : Int32) (t_codes : Int32) (t_ones : Int32) (t_top : Int32) (t_deep : Int32) (t_isWhole : Int32) (t_undone : Nat → Int32) (t_s : Nat → Int32) : va_W := [(q_t, .inr (13, [.int t_thrown, .ref q_t_tape, .int t_length, .int t_size, .int t_p, .int t_limit, .ref q_t_s, .ref q_t_h, .ref q_t_read, .ref q_t_names, .ref q_t_reserved, .int t_token, .int t_at, .int t_span, .int t_number, .int t_fault, .int t_faultAt, .long t_word, .int t_got, .int t_lines, .int t_hasWait, .ref q_t_undone, .ref q_t_before, .int t_undoMany, .ref q_t_comeRow, .int t_firstMinute, .int t_lookClock, .int t_hasTime, .ref q_t_shown, .int t_latestMost, .ref q_t_text, .int t_textMany, .int t_seed, .int t_toldMany, .ref q_t_toldAt, .int t_hasTold, .ref q_t_stack, .int t_codes, .int t_ones, .int t_top, .int t_deep, .int t_isWhole, .ref q_t_truths, .ref q_t_imaged, .ref q_t_namesKept, .ref q_t_areKept])), (q_t_undone, .inl (cy 1, 808, .inl t_undone)), (q_t_s, .inl (cy 1, 334, .inl t_s))]
theorem iX12_keep_X12 : ∀ w ∈ wsX120, w ∈ wsX12_keep := fun _ h => List.mem_cons_of_mem _ (List.mem_append_right _ h)
abbrev rm_X12_keep : Room := { frames := 0, cells := 0, slots := 0, locals := 0 }
set_option maxRecDepth 100000 in
def f_X12_keep_11 (N : Nat) (t_s : Nat → Int32) (k_45 : Int32 → (Nat → Int32) → (Option (Int32 × (Nat → Int32)))) : Nat → Int32 → Int32 → (Nat → Int32) → (Option (Int32 × (Nat → Int32)))
  | 0, _, _, _ => none
  | n + 1, x1, c_t_undoMany, c_t_undone => if 707 ≤ x1 then (k_45 7 c_t_undone) else (zck (zin (x1 + 101) 808) <| zbn ((c_t_undone (Int32.toNatClampNeg (x1 + 101)))) fun y1 => zck (zin x1 808) <| zbn (upd c_t_undone (Int32.toNatClampNeg x1) y1) fun f2 => zbn (x1 + 1) fun y3 => f_X12_keep_11 N t_s k_45 n y3 c_t_undoMany f2)
set_option maxRecDepth 100000 in
def f_X12_keep_47 (N : Nat) (t_s : Nat → Int32) : Nat → Int32 → Int32 → (Nat → Int32) → (Option (Int32 × (Nat → Int32)))
  | 0, _, _, _ => none
  | n + 1, x1, c_t_undoMany, c_t_undone => if 101 ≤ x1 then (zbn ((c_t_undoMany + 1)) fun y1 => some (y1, c_t_undone)) else (zck (zin (52 + x1) 334) <| zbn ((t_s (Int32.toNatClampNeg (52 + x1)))) fun y2 => zck (zin ((101 * c_t_undoMany) + x1) 808) <| zbn (upd c_t_undone (Int32.toNatClampNeg ((101 * c_t_undoMany) + x1)) y2) fun f3 => zbn (x1 + 1) fun y4 => f_X12_keep_47 N t_s n y4 c_t_undoMany f3)
set_option maxRecDepth 100000 in
def f_X12_keep_45 (N : Nat) (t_s : Nat → Int32) (c_t_undoMany : Int32) (c_t_undone : Nat → Int32) : Option (Int32 × (Nat → Int32)) := f_X12_keep_47 N t_s N 0 c_t_undoMany c_t_undone
set_option maxRecDepth 100000 in
def f_X12_keep (N : Nat) (t_undoMany : Int32) (t_undone : Nat → Int32) (t_s : Nat → Int32) : Option (Int32 × (Nat → Int32)) := if t_undoMany = 8 then (f_X12_keep_11 N t_s (f_X12_keep_45 N t_s) N 0 t_undoMany t_undone) else (f_X12_keep_45 N t_s t_undoMany t_undone)
set_option maxHeartbeats 4000000 in
set_option maxRecDepth 100000 in
theorem w_X12_keep_11 {p : Program} {l : Launch} {e : Env} {s : State} {m : MethodId} {args : Array Value} {below : List Frame} {meth : Method} {c : Code} {G : va_G} {cy : Nat → ClassId} {E : Nat → Nat} {w0 : va_W} {N : Nat} {q_t q_t_tape q_t_s q_t_h q_t_read q_t_names q_t_reserved q_t_undone q_t_before q_t_comeRow q_t_shown q_t_text q_t_toldAt q_t_stack q_t_truths q_t_imaged q_t_namesKept q_t_areKept : Nat} {t_thrown : Int32} {t_length : Int32} {t_size : Int32} {t_p : Int32} {t_limit : Int32} {t_token : Int32} {t_at : Int32} {t_span : Int32} {t_number : Int32} {t_fault : Int32} {t_faultAt : Int32} {t_word : Int64} {t_got : Int32} {t_lines : Int32} {t_hasWait : Int32} {t_firstMinute : Int32} {t_lookClock : Int32} {t_hasTime : Int32} {t_latestMost : Int32} {t_textMany : Int32} {t_seed : Int32} {t_toldMany : Int32} {t_hasTold : Int32} {t_codes : Int32} {t_ones : Int32} {t_top : Int32} {t_deep : Int32} {t_isWhole : Int32} {t_s : Nat → Int32} {r_t_undoMany : Int32} {r_t_undone : Nat → Int32} {k_45 : Int32 → (Nat → Int32) → (Option (Int32 × (Nat → Int32)))} (S : CallFix p m c cX12_keep 2 s args wsX12_keep RX12) (hr : meth.sig.returnType = none) (hlocks : meth.locks = false) (hF : zF G cy E (va_A w0 s.heap.size) s) (hk_45 : ∀ (c_t_undoMany : Int32) (c_t_undone : Nat → Int32) (H : Heap) (locs : List Loc) (ls : Array Slot), zH G (va_A w0 s.heap.size) s H locs (wd_X12_keep cy q_t q_t_tape q_t_s q_t_h q_t_read q_t_names q_t_reserved q_t_undone q_t_before q_t_comeRow q_t_shown q_t_text q_t_toldAt q_t_stack q_t_truths q_t_imaged q_t_namesKept q_t_areKept t_thrown t_length t_size t_p t_limit t_token t_at t_span t_number t_fault t_faultAt t_word t_got t_lines t_hasWait c_t_undoMany t_firstMinute t_lookClock t_hasTime t_latestMost t_textMany t_seed t_toldMany t_hasTold t_codes t_ones t_top t_deep t_isWhole c_t_undone t_s) → lv_has ls 2 [(0, .ref q_t)] → k_45 c_t_undoMany c_t_undone = some (r_t_undoMany, r_t_undone) → W p l e rm_X12_keep s m args below meth c H locs 0 0 (MQ below (zQ G w0 (wd_X12_keep cy q_t q_t_tape q_t_s q_t_h q_t_read q_t_names q_t_reserved q_t_undone q_t_before q_t_comeRow q_t_shown q_t_text q_t_toldAt q_t_stack q_t_truths q_t_imaged q_t_namesKept q_t_areKept t_thrown t_length t_size t_p t_limit t_token t_at t_span t_number t_fault t_faultAt t_word t_got t_lines t_hasWait r_t_undoMany t_firstMinute t_lookClock t_hasTime t_latestMost t_textMany t_seed t_toldMany t_hasTold t_codes t_ones t_top t_deep t_isWhole r_t_undone t_s) s.heap.size none) args s 0 0 (va_A w0 s.heap.size)) (F0 m 45 ls [])) :
    ∀ (n : Nat) (x1 : Int32) (c_t_undoMany : Int32) (c_t_undone : Nat → Int32) (H : Heap) (locs : List Loc) (ls : Array Slot), zH G (va_A w0 s.heap.size) s H locs (wd_X12_keep cy q_t q_t_tape q_t_s q_t_h q_t_read q_t_names q_t_reserved q_t_undone q_t_before q_t_comeRow q_t_shown q_t_text q_t_toldAt q_t_stack q_t_truths q_t_imaged q_t_namesKept q_t_areKept t_thrown t_length t_size t_p t_limit t_token t_at t_span t_number t_fault t_faultAt t_word t_got t_lines t_hasWait c_t_undoMany t_firstMinute t_lookClock t_hasTime t_latestMost t_textMany t_seed t_toldMany t_hasTold t_codes t_ones t_top t_deep t_isWhole c_t_undone t_s) → lv_has ls 2 [(0, .ref q_t), (1, .int x1)] → f_X12_keep_11 N t_s k_45 n x1 c_t_undoMany c_t_undone = some (r_t_undoMany, r_t_undone) → W p l e rm_X12_keep s m args below meth c H locs 0 0 (MQ below (zQ G w0 (wd_X12_keep cy q_t q_t_tape q_t_s q_t_h q_t_read q_t_names q_t_reserved q_t_undone q_t_before q_t_comeRow q_t_shown q_t_text q_t_toldAt q_t_stack q_t_truths q_t_imaged q_t_namesKept q_t_areKept t_thrown t_length t_size t_p t_limit t_token t_at t_span t_number t_fault t_faultAt t_word t_got t_lines t_hasWait r_t_undoMany t_firstMinute t_lookClock t_hasTime t_latestMost t_textMany t_seed t_toldMany t_hasTold t_codes t_ones t_top t_deep t_isWhole r_t_undone t_s) s.heap.size none) args s 0 0 (va_A w0 s.heap.size)) (F0 m 11 ls []) := by
  obtain ⟨hx, hb, hml, hown, hts⟩ := id S
  intro n
  induction n with
  | zero =>
    intro x1 c_t_undoMany c_t_undone H locs ls hH hl h
    rw [f_X12_keep_11] at h
    cases h
  | succ n ih =>
    intro x1 c_t_undoMany c_t_undone H locs ls hH hl h
    rw [f_X12_keep_11] at h
    refine lv_iload_n hx hb dX12_keep_11 rfl (lv_at hl 1 rfl) ?_
    refine lv_sipush (v := 707) hx hb dX12_keep_12 (by decide) ?_
    refine lv_icmp_ge (tgt := 39) hx hb dX12_keep_15 (by decide) (fun b15 => ?_) (fun b15 => ?_)
    · replace h := zif_t b15 h
      refine lv_aload_n hx hb dX12_keep_39 rfl (lv_at hl 0 rfl) ?_
      refine lv_bipush (v := 7) hx hb dX12_keep_40 (by decide) ?_
      refine z_put (ws' := (wd_X12_keep cy q_t q_t_tape q_t_s q_t_h q_t_read q_t_names q_t_reserved q_t_undone q_t_before q_t_comeRow q_t_shown q_t_text q_t_toldAt q_t_stack q_t_truths q_t_imaged q_t_namesKept q_t_areKept t_thrown t_length t_size t_p t_limit t_token t_at t_span t_number t_fault t_faultAt t_word t_got t_lines t_hasWait 7 t_firstMinute t_lookClock t_hasTime t_latestMost t_textMany t_seed t_toldMany t_hasTold t_codes t_ones t_top t_deep t_isWhole c_t_undone t_s)) S hF hH iX12_keep_X12 tyX12 tyX12_ok nmX12 0 rfl rfl 23 (by decide) (List.mem_of_getElem? (i := 1) rfl) rfl rfl rfl (Nat.le_of_ble_eq_true rfl) rfl dX12_keep_42 (fun H locs hH => ?_)
      exact hk_45 7 c_t_undone _ _ _ hH (lv_sub hl [0] rfl) h
    · replace h := zif_f b15 h
      refine lv_aload_n hx hb dX12_keep_18 rfl (lv_at hl 0 rfl) ?_
      refine z_get S hF hH iX12_keep_X12 0 rfl rfl 21 (by decide) (List.mem_of_getElem? (i := 2) rfl) rfl dX12_keep_19 ?_
      refine lv_iload_n hx hb dX12_keep_22 rfl (lv_at hl 1 rfl) ?_
      refine lv_aload_n hx hb dX12_keep_23 rfl (lv_at hl 0 rfl) ?_
      refine z_get S hF hH iX12_keep_X12 0 rfl rfl 21 (by decide) (List.mem_of_getElem? (i := 2) rfl) rfl dX12_keep_24 ?_
      refine lv_iload_n hx hb dX12_keep_27 rfl (lv_at hl 1 rfl) ?_
      refine lv_bipush (v := 101) hx hb dX12_keep_28 (by decide) ?_
      refine lv_iadd hx hb dX12_keep_30 ?_
      obtain ⟨h31, h⟩ := zck_e h
      refine z_iald S hF hH 1 rfl h31 rfl dX12_keep_31 ?_
      obtain ⟨y1, ey1, h⟩ := zbn_e h
      refine z_top ey1 ?_
      clear ey1
      obtain ⟨h32, h⟩ := zck_e h
      obtain ⟨f2, ef2, h⟩ := zbn_e h
      refine z_iast (ws' := (wd_X12_keep cy q_t q_t_tape q_t_s q_t_h q_t_read q_t_names q_t_reserved q_t_undone q_t_before q_t_comeRow q_t_shown q_t_text q_t_toldAt q_t_stack q_t_truths q_t_imaged q_t_namesKept q_t_areKept t_thrown t_length t_size t_p t_limit t_token t_at t_span t_number t_fault t_faultAt t_word t_got t_lines t_hasWait c_t_undoMany t_firstMinute t_lookClock t_hasTime t_latestMost t_textMany t_seed t_toldMany t_hasTold t_codes t_ones t_top t_deep t_isWhole f2 t_s)) (j := (Int32.toNatClampNeg x1)) S hF hH 1 rfl h32 rfl (by rw [ef2]; rfl) dX12_keep_32 (fun H locs hH => ?_)
      clear ef2
      obtain ⟨y3, ey3, h⟩ := zbn_e h
      refine lv_iinc (v := y3) (lv' := [(1, .int y3), (0, .ref q_t)]) hx hb dX12_keep_33 hl (k := 1) rfl (by rw [ey3]; exact congrArg (fun z => x1 + z) (by decide)) (by decide) rfl (fun ls hl => ?_)
      clear ey3
      refine lv_goto (tgt := 11) hx hb dX12_keep_36 (by decide) ?_
      exact ih y3 c_t_undoMany f2 _ _ _ hH (lv_sub hl [1, 0] rfl) h
set_option maxHeartbeats 4000000 in
set_option maxRecDepth 100000 in
theorem w_X12_keep_47 {p : Program} {l : Launch} {e : Env} {s : State} {m : MethodId} {args : Array Value} {below : List Frame} {meth : Method} {c : Code} {G : va_G} {cy : Nat → ClassId} {E : Nat → Nat} {w0 : va_W} {N : Nat} {q_t q_t_tape q_t_s q_t_h q_t_read q_t_names q_t_reserved q_t_undone q_t_before q_t_comeRow q_t_shown q_t_text q_t_toldAt q_t_stack q_t_truths q_t_imaged q_t_namesKept q_t_areKept : Nat} {t_thrown : Int32} {t_length : Int32} {t_size : Int32} {t_p : Int32} {t_limit : Int32} {t_token : Int32} {t_at : Int32} {t_span : Int32} {t_number : Int32} {t_fault : Int32} {t_faultAt : Int32} {t_word : Int64} {t_got : Int32} {t_lines : Int32} {t_hasWait : Int32} {t_firstMinute : Int32} {t_lookClock : Int32} {t_hasTime : Int32} {t_latestMost : Int32} {t_textMany : Int32} {t_seed : Int32} {t_toldMany : Int32} {t_hasTold : Int32} {t_codes : Int32} {t_ones : Int32} {t_top : Int32} {t_deep : Int32} {t_isWhole : Int32} {t_s : Nat → Int32} {r_t_undoMany : Int32} {r_t_undone : Nat → Int32} (S : CallFix p m c cX12_keep 2 s args wsX12_keep RX12) (hr : meth.sig.returnType = none) (hlocks : meth.locks = false) (hF : zF G cy E (va_A w0 s.heap.size) s) :
    ∀ (n : Nat) (x1 : Int32) (c_t_undoMany : Int32) (c_t_undone : Nat → Int32) (H : Heap) (locs : List Loc) (ls : Array Slot), zH G (va_A w0 s.heap.size) s H locs (wd_X12_keep cy q_t q_t_tape q_t_s q_t_h q_t_read q_t_names q_t_reserved q_t_undone q_t_before q_t_comeRow q_t_shown q_t_text q_t_toldAt q_t_stack q_t_truths q_t_imaged q_t_namesKept q_t_areKept t_thrown t_length t_size t_p t_limit t_token t_at t_span t_number t_fault t_faultAt t_word t_got t_lines t_hasWait c_t_undoMany t_firstMinute t_lookClock t_hasTime t_latestMost t_textMany t_seed t_toldMany t_hasTold t_codes t_ones t_top t_deep t_isWhole c_t_undone t_s) → lv_has ls 2 [(0, .ref q_t), (1, .int x1)] → f_X12_keep_47 N t_s n x1 c_t_undoMany c_t_undone = some (r_t_undoMany, r_t_undone) → W p l e rm_X12_keep s m args below meth c H locs 0 0 (MQ below (zQ G w0 (wd_X12_keep cy q_t q_t_tape q_t_s q_t_h q_t_read q_t_names q_t_reserved q_t_undone q_t_before q_t_comeRow q_t_shown q_t_text q_t_toldAt q_t_stack q_t_truths q_t_imaged q_t_namesKept q_t_areKept t_thrown t_length t_size t_p t_limit t_token t_at t_span t_number t_fault t_faultAt t_word t_got t_lines t_hasWait r_t_undoMany t_firstMinute t_lookClock t_hasTime t_latestMost t_textMany t_seed t_toldMany t_hasTold t_codes t_ones t_top t_deep t_isWhole r_t_undone t_s) s.heap.size none) args s 0 0 (va_A w0 s.heap.size)) (F0 m 47 ls []) := by
  obtain ⟨hx, hb, hml, hown, hts⟩ := id S
  intro n
  induction n with
  | zero =>
    intro x1 c_t_undoMany c_t_undone H locs ls hH hl h
    rw [f_X12_keep_47] at h
    cases h
  | succ n ih =>
    intro x1 c_t_undoMany c_t_undone H locs ls hH hl h
    rw [f_X12_keep_47] at h
    refine lv_iload_n hx hb dX12_keep_47 rfl (lv_at hl 1 rfl) ?_
    refine lv_bipush (v := 101) hx hb dX12_keep_48 (by decide) ?_
    refine lv_icmp_ge (tgt := 82) hx hb dX12_keep_50 (by decide) (fun b50 => ?_) (fun b50 => ?_)
    · replace h := zif_t b50 h
      refine lv_aload_n hx hb dX12_keep_82 rfl (lv_at hl 0 rfl) ?_
      refine lv_dup hx hb dX12_keep_83 rfl ?_
      refine z_get S hF hH iX12_keep_X12 0 rfl rfl 23 (by decide) (List.mem_of_getElem? (i := 1) rfl) rfl dX12_keep_84 ?_
      refine lv_iconst (v := 1) hx hb dX12_keep_87 (by decide) ?_
      refine lv_iadd hx hb dX12_keep_88 ?_
      obtain ⟨y1, ey1, h⟩ := zbn_e h
      refine z_top ey1 ?_
      clear ey1
      refine z_put (ws' := (wd_X12_keep cy q_t q_t_tape q_t_s q_t_h q_t_read q_t_names q_t_reserved q_t_undone q_t_before q_t_comeRow q_t_shown q_t_text q_t_toldAt q_t_stack q_t_truths q_t_imaged q_t_namesKept q_t_areKept t_thrown t_length t_size t_p t_limit t_token t_at t_span t_number t_fault t_faultAt t_word t_got t_lines t_hasWait y1 t_firstMinute t_lookClock t_hasTime t_latestMost t_textMany t_seed t_toldMany t_hasTold t_codes t_ones t_top t_deep t_isWhole c_t_undone t_s)) S hF hH iX12_keep_X12 tyX12 tyX12_ok nmX12 0 rfl rfl 23 (by decide) (List.mem_of_getElem? (i := 1) rfl) rfl rfl rfl (Nat.le_of_ble_eq_true rfl) rfl dX12_keep_89 (fun H locs hH => ?_)
      cases h
      exact z_vret S hr hlocks hH dX12_keep_92
    · replace h := zif_f b50 h
      refine lv_aload_n hx hb dX12_keep_53 rfl (lv_at hl 0 rfl) ?_
      refine z_get S hF hH iX12_keep_X12 0 rfl rfl 21 (by decide) (List.mem_of_getElem? (i := 2) rfl) rfl dX12_keep_54 ?_
      refine lv_bipush (v := 101) hx hb dX12_keep_57 (by decide) ?_
      refine lv_aload_n hx hb dX12_keep_59 rfl (lv_at hl 0 rfl) ?_
      refine z_get S hF hH iX12_keep_X12 0 rfl rfl 23 (by decide) (List.mem_of_getElem? (i := 1) rfl) rfl dX12_keep_60 ?_
      refine lv_imul hx hb dX12_keep_63 ?_
      refine lv_iload_n hx hb dX12_keep_64 rfl (lv_at hl 1 rfl) ?_
      refine lv_iadd hx hb dX12_keep_65 ?_
      refine lv_aload_n hx hb dX12_keep_66 rfl (lv_at hl 0 rfl) ?_
      refine z_get S hF hH iX12_keep_X12 0 rfl rfl 6 (by decide) (List.mem_of_getElem? (i := 3) rfl) rfl dX12_keep_67 ?_
      refine lv_bipush (v := 52) hx hb dX12_keep_70 (by decide) ?_
      refine lv_iload_n hx hb dX12_keep_72 rfl (lv_at hl 1 rfl) ?_
      refine lv_iadd hx hb dX12_keep_73 ?_
      obtain ⟨h74, h⟩ := zck_e h
      refine z_iald S hF hH 2 rfl h74 rfl dX12_keep_74 ?_
      obtain ⟨y2, ey2, h⟩ := zbn_e h
      refine z_top ey2 ?_
      clear ey2
      obtain ⟨h75, h⟩ := zck_e h
      obtain ⟨f3, ef3, h⟩ := zbn_e h
      refine z_iast (ws' := (wd_X12_keep cy q_t q_t_tape q_t_s q_t_h q_t_read q_t_names q_t_reserved q_t_undone q_t_before q_t_comeRow q_t_shown q_t_text q_t_toldAt q_t_stack q_t_truths q_t_imaged q_t_namesKept q_t_areKept t_thrown t_length t_size t_p t_limit t_token t_at t_span t_number t_fault t_faultAt t_word t_got t_lines t_hasWait c_t_undoMany t_firstMinute t_lookClock t_hasTime t_latestMost t_textMany t_seed t_toldMany t_hasTold t_codes t_ones t_top t_deep t_isWhole f3 t_s)) (j := (Int32.toNatClampNeg ((101 * c_t_undoMany) + x1))) S hF hH 1 rfl h75 rfl (by rw [ef3]; rfl) dX12_keep_75 (fun H locs hH => ?_)
      clear ef3
      obtain ⟨y4, ey4, h⟩ := zbn_e h
      refine lv_iinc (v := y4) (lv' := [(1, .int y4), (0, .ref q_t)]) hx hb dX12_keep_76 hl (k := 1) rfl (by rw [ey4]; exact congrArg (fun z => x1 + z) (by decide)) (by decide) rfl (fun ls hl => ?_)
      clear ey4
      refine lv_goto (tgt := 47) hx hb dX12_keep_79 (by decide) ?_
      exact ih y4 c_t_undoMany f3 _ _ _ hH (lv_sub hl [1, 0] rfl) h
set_option maxHeartbeats 4000000 in
set_option maxRecDepth 100000 in
theorem w_X12_keep_45 {p : Program} {l : Launch} {e : Env} {s : State} {m : MethodId} {args : Array Value} {below : List Frame} {meth : Method} {c : Code} {G : va_G} {cy : Nat → ClassId} {E : Nat → Nat} {w0 : va_W} {N : Nat} {q_t q_t_tape q_t_s q_t_h q_t_read q_t_names q_t_reserved q_t_undone q_t_before q_t_comeRow q_t_shown q_t_text q_t_toldAt q_t_stack q_t_truths q_t_imaged q_t_namesKept q_t_areKept : Nat} {t_thrown : Int32} {t_length : Int32} {t_size : Int32} {t_p : Int32} {t_limit : Int32} {t_token : Int32} {t_at : Int32} {t_span : Int32} {t_number : Int32} {t_fault : Int32} {t_faultAt : Int32} {t_word : Int64} {t_got : Int32} {t_lines : Int32} {t_hasWait : Int32} {t_firstMinute : Int32} {t_lookClock : Int32} {t_hasTime : Int32} {t_latestMost : Int32} {t_textMany : Int32} {t_seed : Int32} {t_toldMany : Int32} {t_hasTold : Int32} {t_codes : Int32} {t_ones : Int32} {t_top : Int32} {t_deep : Int32} {t_isWhole : Int32} {t_s : Nat → Int32} {r_t_undoMany : Int32} {r_t_undone : Nat → Int32} (S : CallFix p m c cX12_keep 2 s args wsX12_keep RX12) (hr : meth.sig.returnType = none) (hlocks : meth.locks = false) (hF : zF G cy E (va_A w0 s.heap.size) s) :
    ∀ (c_t_undoMany : Int32) (c_t_undone : Nat → Int32) (H : Heap) (locs : List Loc) (ls : Array Slot), zH G (va_A w0 s.heap.size) s H locs (wd_X12_keep cy q_t q_t_tape q_t_s q_t_h q_t_read q_t_names q_t_reserved q_t_undone q_t_before q_t_comeRow q_t_shown q_t_text q_t_toldAt q_t_stack q_t_truths q_t_imaged q_t_namesKept q_t_areKept t_thrown t_length t_size t_p t_limit t_token t_at t_span t_number t_fault t_faultAt t_word t_got t_lines t_hasWait c_t_undoMany t_firstMinute t_lookClock t_hasTime t_latestMost t_textMany t_seed t_toldMany t_hasTold t_codes t_ones t_top t_deep t_isWhole c_t_undone t_s) → lv_has ls 2 [(0, .ref q_t)] → f_X12_keep_45 N t_s c_t_undoMany c_t_undone = some (r_t_undoMany, r_t_undone) → W p l e rm_X12_keep s m args below meth c H locs 0 0 (MQ below (zQ G w0 (wd_X12_keep cy q_t q_t_tape q_t_s q_t_h q_t_read q_t_names q_t_reserved q_t_undone q_t_before q_t_comeRow q_t_shown q_t_text q_t_toldAt q_t_stack q_t_truths q_t_imaged q_t_namesKept q_t_areKept t_thrown t_length t_size t_p t_limit t_token t_at t_span t_number t_fault t_faultAt t_word t_got t_lines t_hasWait r_t_undoMany t_firstMinute t_lookClock t_hasTime t_latestMost t_textMany t_seed t_toldMany t_hasTold t_codes t_ones t_top t_deep t_isWhole r_t_undone t_s) s.heap.size none) args s 0 0 (va_A w0 s.heap.size)) (F0 m 45 ls []) := by
  obtain ⟨hx, hb, hml, hown, hts⟩ := id S
  intro c_t_undoMany c_t_undone H locs ls hH hl h
  rw [f_X12_keep_45] at h
  refine lv_iconst (v := 0) hx hb dX12_keep_45 (by decide) ?_
  refine lv_istore_n (lv' := [(1, .int 0), (0, .ref q_t)]) hx hb dX12_keep_46 rfl hl (by decide) rfl (fun ls hl => ?_)
  exact w_X12_keep_47 S hr hlocks hF N 0 c_t_undoMany c_t_undone _ _ _ hH (lv_sub hl [1, 0] rfl) h
set_option maxHeartbeats 4000000 in
set_option maxRecDepth 100000 in
theorem c_X12_keep (l : Launch) (G : va_G) (cy : Nat → ClassId) (E : Nat → Nat) (N : Nat) (q_t q_t_tape q_t_s q_t_h q_t_read q_t_names q_t_reserved q_t_undone q_t_before q_t_comeRow q_t_shown q_t_text q_t_toldAt q_t_stack q_t_truths q_t_imaged q_t_namesKept q_t_areKept : Nat) (t_thrown : Int32) (t_length : Int32) (t_size : Int32) (t_p : Int32) (t_limit : Int32) (t_token : Int32) (t_at : Int32) (t_span : Int32) (t_number : Int32) (t_fault : Int32) (t_faultAt : Int32) (t_word : Int64) (t_got : Int32) (t_lines : Int32) (t_hasWait : Int32) (t_undoMany : Int32) (t_firstMinute : Int32) (t_lookClock : Int32) (t_hasTime : Int32) (t_latestMost : Int32) (t_textMany : Int32) (t_seed : Int32) (t_toldMany : Int32) (t_hasTold : Int32) (t_codes : Int32) (t_ones : Int32) (t_top : Int32) (t_deep : Int32) (t_isWhole : Int32) (t_undone : Nat → Int32) (t_s : Nat → Int32) (r_t_undoMany : Int32) (r_t_undone : Nat → Int32) (h : f_X12_keep N t_undoMany t_undone t_s = some (r_t_undoMany, r_t_undone)) : zM l G cy E yX12_keep wsX12_keep rm_X12_keep [.ref q_t] (wd_X12_keep cy q_t q_t_tape q_t_s q_t_h q_t_read q_t_names q_t_reserved q_t_undone q_t_before q_t_comeRow q_t_shown q_t_text q_t_toldAt q_t_stack q_t_truths q_t_imaged q_t_namesKept q_t_areKept t_thrown t_length t_size t_p t_limit t_token t_at t_span t_number t_fault t_faultAt t_word t_got t_lines t_hasWait t_undoMany t_firstMinute t_lookClock t_hasTime t_latestMost t_textMany t_seed t_toldMany t_hasTold t_codes t_ones t_top t_deep t_isWhole t_undone t_s) (wd_X12_keep cy q_t q_t_tape q_t_s q_t_h q_t_read q_t_names q_t_reserved q_t_undone q_t_before q_t_comeRow q_t_shown q_t_text q_t_toldAt q_t_stack q_t_truths q_t_imaged q_t_namesKept q_t_areKept t_thrown t_length t_size t_p t_limit t_token t_at t_span t_number t_fault t_faultAt t_word t_got t_lines t_hasWait r_t_undoMany t_firstMinute t_lookClock t_hasTime t_latestMost t_textMany t_seed t_toldMany t_hasTold t_codes t_ones t_top t_deep t_isWhole r_t_undone t_s) none 0 0 := by
  refine z_body (cc := cX12_keep) (maxL := 2) (ret := none) (by decide) rfl (Nat.le_of_ble_eq_true rfl) ?_
  intro p e s m below meth c ls S hr hlocks hnm hF hH hl
  have S : CallFix p m c cX12_keep 2 s ([.ref q_t] : List Value).toArray wsX12_keep RX12 := S
  obtain ⟨hx, hb, hml, hown, hts⟩ := id S
  have hl : lv_has ls 2 [(0, .ref q_t)] := hl
  rw [f_X12_keep] at h
  refine lv_aload_n hx hb dX12_keep_0 rfl (lv_at hl 0 rfl) ?_
  refine z_get S hF hH iX12_keep_X12 0 rfl rfl 23 (by decide) (List.mem_of_getElem? (i := 1) rfl) rfl dX12_keep_1 ?_
  refine lv_bipush (v := 8) hx hb dX12_keep_4 (by decide) ?_
  refine lv_icmp_ne (tgt := 45) hx hb dX12_keep_6 (by decide) (fun b6 => ?_) (fun b6 => ?_)
  · replace h := zif_f b6 h
    exact w_X12_keep_45 S hr hlocks hF t_undoMany t_undone _ _ _ hH (lv_sub hl [0] rfl) h
  · replace h := zif_t b6 h
    refine lv_iconst (v := 0) hx hb dX12_keep_9 (by decide) ?_
    refine lv_istore_n (lv' := [(1, .int 0), (0, .ref q_t)]) hx hb dX12_keep_10 rfl hl (by decide) rfl (fun ls hl => ?_)
    exact w_X12_keep_11 S hr hlocks hF (w_X12_keep_45 S hr hlocks hF) N 0 t_undoMany t_undone _ _ _ hH (lv_sub hl [1, 0] rfl) h
abbrev wd_X12_set (cy : Nat → ClassId) (q_t q_t_tape q_t_s q_t_h q_t_read q_t_names q_t_reserved q_t_undone q_t_before q_t_comeRow q_t_shown q_t_text q_t_toldAt q_t_stack q_t_truths q_t_imaged q_t_namesKept q_t_areKept : Nat) (t_thrown : Int32) (t_length : Int32) (t_size : Int32) (t_p : Int32) (t_limit : Int32) (t_token : Int32) (t_at : Int32) (t_span : Int32) (t_number : Int32) (t_fault : Int32) (t_faultAt : Int32) (t_word : Int64) (t_got : Int32) (t_lines : Int32) (t_hasWait : Int32) (t_undoMany : Int32) (t_firstMinute : Int32) (t_lookClock : Int32) (t_hasTime : Int32) (t_latestMost : Int32) (t_textMany : Int32) (t_seed : Int32) (t_toldMany : Int32) (t_hasTold : Int32) (t_codes : Int32) (t_ones : Int32) (t_top : Int32) (t_deep : Int32) (t_isWhole : Int32) (t_s : Nat → Int32) (t_undone : Nat → Int32) : va_W := [(q_t, .inr (13, [.int t_thrown, .ref q_t_tape, .int t_length, .int t_size, .int t_p, .int t_limit, .ref q_t_s, .ref q_t_h, .ref q_t_read, .ref q_t_names, .ref q_t_reserved, .int t_token, .int t_at, .int t_span, .int t_number, .int t_fault, .int t_faultAt, .long t_word, .int t_got, .int t_lines, .int t_hasWait, .ref q_t_undone, .ref q_t_before, .int t_undoMany, .ref q_t_comeRow, .int t_firstMinute, .int t_lookClock, .int t_hasTime, .ref q_t_shown, .int t_latestMost, .ref q_t_text, .int t_textMany, .int t_seed, .int t_toldMany, .ref q_t_toldAt, .int t_hasTold, .ref q_t_stack, .int t_codes, .int t_ones, .int t_top, .int t_deep, .int t_isWhole, .ref q_t_truths, .ref q_t_imaged, .ref q_t_namesKept, .ref q_t_areKept])), (q_t_s, .inl (cy 1, 334, .inl t_s)), (q_t_undone, .inl (cy 1, 808, .inl t_undone))]
theorem iX12_set_X12 : ∀ w ∈ wsX120, w ∈ wsX12_set := fun _ h => List.mem_cons_of_mem _ (List.mem_append_right _ h)
abbrev rm_X12_set : Room := { frames := 3, cells := 0, slots := 0, locals := 64 }
set_option maxRecDepth 100000 in
def f_X12_set (N : Nat) (x0 : Int32) (x1 : Int32) (t_thrown : Int32) (t_undoMany : Int32) (t_s : Nat → Int32) (t_undone : Nat → Int32) : Option (Int32 × Int32 × Int32 × (Nat → Int32) × (Nat → Int32)) := zcl (f_X12_isMaster N x0 t_s) fun z7 => if z7 = 0 then (some ((-1), 0, t_undoMany, t_s, t_undone)) else (zcl (f_X12_isClock N x1 t_s) fun z15 => if z15 = 0 then (some ((-1), 0, t_undoMany, t_s, t_undone)) else (zcl (f_X12_whySet N x0 x1 t_s) fun z26 => if z26 ≤ 0 then (zcl (f_X12_keep N t_undoMany t_undone t_s) fun z37 => zck (zin (28 + x0) 334) <| zcl (f_X12_runsFrom N x1 (-(t_s (Int32.toNatClampNeg (28 + x0)))) t_s) fun z52 => some (0, 0, z37.1, z52, z37.2)) else (some (z26, 0, t_undoMany, t_s, t_undone))))
set_option maxHeartbeats 4000000 in
set_option maxRecDepth 100000 in
theorem c_X12_set (l : Launch) (G : va_G) (cy : Nat → ClassId) (E : Nat → Nat) (N : Nat) (q_t q_t_tape q_t_s q_t_h q_t_read q_t_names q_t_reserved q_t_undone q_t_before q_t_comeRow q_t_shown q_t_text q_t_toldAt q_t_stack q_t_truths q_t_imaged q_t_namesKept q_t_areKept : Nat) (t_thrown : Int32) (t_length : Int32) (t_size : Int32) (t_p : Int32) (t_limit : Int32) (t_token : Int32) (t_at : Int32) (t_span : Int32) (t_number : Int32) (t_fault : Int32) (t_faultAt : Int32) (t_word : Int64) (t_got : Int32) (t_lines : Int32) (t_hasWait : Int32) (t_undoMany : Int32) (t_firstMinute : Int32) (t_lookClock : Int32) (t_hasTime : Int32) (t_latestMost : Int32) (t_textMany : Int32) (t_seed : Int32) (t_toldMany : Int32) (t_hasTold : Int32) (t_codes : Int32) (t_ones : Int32) (t_top : Int32) (t_deep : Int32) (t_isWhole : Int32) (t_s : Nat → Int32) (t_undone : Nat → Int32) (x0 : Int32) (x1 : Int32) (r : Int32) (r_t_thrown : Int32) (r_t_undoMany : Int32) (r_t_s : Nat → Int32) (r_t_undone : Nat → Int32) (h : f_X12_set N x0 x1 t_thrown t_undoMany t_s t_undone = some (r, r_t_thrown, r_t_undoMany, r_t_s, r_t_undone)) : zM l G cy E yX12_set wsX12_set rm_X12_set [.ref q_t, .int x0, .int x1] (wd_X12_set cy q_t q_t_tape q_t_s q_t_h q_t_read q_t_names q_t_reserved q_t_undone q_t_before q_t_comeRow q_t_shown q_t_text q_t_toldAt q_t_stack q_t_truths q_t_imaged q_t_namesKept q_t_areKept t_thrown t_length t_size t_p t_limit t_token t_at t_span t_number t_fault t_faultAt t_word t_got t_lines t_hasWait t_undoMany t_firstMinute t_lookClock t_hasTime t_latestMost t_textMany t_seed t_toldMany t_hasTold t_codes t_ones t_top t_deep t_isWhole t_s t_undone) (wd_X12_set cy q_t q_t_tape q_t_s q_t_h q_t_read q_t_names q_t_reserved q_t_undone q_t_before q_t_comeRow q_t_shown q_t_text q_t_toldAt q_t_stack q_t_truths q_t_imaged q_t_namesKept q_t_areKept r_t_thrown t_length t_size t_p t_limit t_token t_at t_span t_number t_fault t_faultAt t_word t_got t_lines t_hasWait r_t_undoMany t_firstMinute t_lookClock t_hasTime t_latestMost t_textMany t_seed t_toldMany t_hasTold t_codes t_ones t_top t_deep t_isWhole r_t_s r_t_undone) (some (.int r)) 0 0 := by
  refine z_body (cc := cX12_set) (maxL := 4) (ret := some .int) (by decide) rfl (Nat.le_of_ble_eq_true rfl) ?_
  intro p e s m below meth c ls S hr hlocks hnm hF hH hl
  have S : CallFix p m c cX12_set 4 s ([.ref q_t, .int x0, .int x1] : List Value).toArray wsX12_set RX12 := S
  obtain ⟨hx, hb, hml, hown, hts⟩ := id S
  have hl : lv_has ls 4 [(0, .ref q_t), (1, .int x0), (2, .int x1)] := hl
  rw [f_X12_set] at h
  refine lv_aload_n hx hb dX12_set_0 rfl (lv_at hl 0 rfl) ?_
  refine lv_iconst (v := 0) hx hb dX12_set_1 (by decide) ?_
  refine z_put (ws' := (wd_X12_set cy q_t q_t_tape q_t_s q_t_h q_t_read q_t_names q_t_reserved q_t_undone q_t_before q_t_comeRow q_t_shown q_t_text q_t_toldAt q_t_stack q_t_truths q_t_imaged q_t_namesKept q_t_areKept 0 t_length t_size t_p t_limit t_token t_at t_span t_number t_fault t_faultAt t_word t_got t_lines t_hasWait t_undoMany t_firstMinute t_lookClock t_hasTime t_latestMost t_textMany t_seed t_toldMany t_hasTold t_codes t_ones t_top t_deep t_isWhole t_s t_undone)) S hF hH iX12_set_X12 tyX12 tyX12_ok nmX12 0 rfl rfl 0 (by decide) (List.mem_of_getElem? (i := 1) rfl) rfl rfl rfl (Nat.le_of_ble_eq_true rfl) rfl dX12_set_2 (fun H locs hH => ?_)
  refine lv_aload_n hx hb dX12_set_5 rfl (lv_at hl 0 rfl) ?_
  refine lv_iload_n hx hb dX12_set_6 rfl (lv_at hl 1 rfl) ?_
  obtain ⟨z7, hz7, h⟩ := zcl_e h
  refine z_callV (As := [.int x0]) (rest := []) (st1 := [.int z7]) (ws' := (wd_X12_set cy q_t q_t_tape q_t_s q_t_h q_t_read q_t_names q_t_reserved q_t_undone q_t_before q_t_comeRow q_t_shown q_t_text q_t_toldAt q_t_stack q_t_truths q_t_imaged q_t_namesKept q_t_areKept 0 t_length t_size t_p t_limit t_token t_at t_span t_number t_fault t_faultAt t_word t_got t_lines t_hasWait t_undoMany t_firstMinute t_lookClock t_hasTime t_latestMost t_textMany t_seed t_toldMany t_hasTold t_codes t_ones t_top t_deep t_isWhole t_s t_undone)) S hF hH (c_X12_isMaster l G cy E N q_t q_t_tape q_t_s q_t_h q_t_read q_t_names q_t_reserved q_t_undone q_t_before q_t_comeRow q_t_shown q_t_text q_t_toldAt q_t_stack q_t_truths q_t_imaged q_t_namesKept q_t_areKept 0 t_length t_size t_p t_limit t_token t_at t_span t_number t_fault t_faultAt t_word t_got t_lines t_hasWait t_undoMany t_firstMinute t_lookClock t_hasTime t_latestMost t_textMany t_seed t_toldMany t_hasTold t_codes t_ones t_top t_deep t_isWhole t_s x0 z7 hz7) (cwV 1 hts gX12_set_X12_isMaster rfl rfl rfl (by decide +kernel) ⟨Nat.le_of_ble_eq_true rfl, Nat.le_of_ble_eq_true rfl⟩) 13 0 rfl rfl [0, 1] rfl (by decide) rfl rfl rfl rfl rfl hl.1 (Nat.le_of_ble_eq_true rfl) dX12_set_7 ⟨Nat.le_of_ble_eq_true rfl, Nat.le_of_ble_eq_true rfl⟩ (fun H locs hH => ?_)
  refine lv_if_eq (tgt := 21) hx hb dX12_set_10 (by decide) (fun b10 => ?_) (fun b10 => ?_)
  · replace h := zif_t b10 h
    refine lv_iconst (v := (-1)) hx hb dX12_set_21 (by decide) ?_
    cases h
    exact z_iret S hr hlocks hH dX12_set_22
  · replace h := zif_f b10 h
    refine lv_aload_n hx hb dX12_set_13 rfl (lv_at hl 0 rfl) ?_
    refine lv_iload_n hx hb dX12_set_14 rfl (lv_at hl 2 rfl) ?_
    obtain ⟨z15, hz15, h⟩ := zcl_e h
    refine z_callV (As := [.int x1]) (rest := []) (st1 := [.int z15]) (ws' := (wd_X12_set cy q_t q_t_tape q_t_s q_t_h q_t_read q_t_names q_t_reserved q_t_undone q_t_before q_t_comeRow q_t_shown q_t_text q_t_toldAt q_t_stack q_t_truths q_t_imaged q_t_namesKept q_t_areKept 0 t_length t_size t_p t_limit t_token t_at t_span t_number t_fault t_faultAt t_word t_got t_lines t_hasWait t_undoMany t_firstMinute t_lookClock t_hasTime t_latestMost t_textMany t_seed t_toldMany t_hasTold t_codes t_ones t_top t_deep t_isWhole t_s t_undone)) S hF hH (c_X12_isClock l G cy E N q_t q_t_tape q_t_s q_t_h q_t_read q_t_names q_t_reserved q_t_undone q_t_before q_t_comeRow q_t_shown q_t_text q_t_toldAt q_t_stack q_t_truths q_t_imaged q_t_namesKept q_t_areKept 0 t_length t_size t_p t_limit t_token t_at t_span t_number t_fault t_faultAt t_word t_got t_lines t_hasWait t_undoMany t_firstMinute t_lookClock t_hasTime t_latestMost t_textMany t_seed t_toldMany t_hasTold t_codes t_ones t_top t_deep t_isWhole t_s x1 z15 hz15) (cwV 1 hts gX12_set_X12_isClock rfl rfl rfl (by decide +kernel) ⟨Nat.le_of_ble_eq_true rfl, Nat.le_of_ble_eq_true rfl⟩) 13 0 rfl rfl [0, 1] rfl (by decide) rfl rfl rfl rfl rfl hl.1 (Nat.le_of_ble_eq_true rfl) dX12_set_15 ⟨Nat.le_of_ble_eq_true rfl, Nat.le_of_ble_eq_true rfl⟩ (fun H locs hH => ?_)
    refine lv_if_ne (tgt := 23) hx hb dX12_set_18 (by decide) (fun b18 => ?_) (fun b18 => ?_)
    · replace h := zif_f b18 h
      refine lv_aload_n hx hb dX12_set_23 rfl (lv_at hl 0 rfl) ?_
      refine lv_iload_n hx hb dX12_set_24 rfl (lv_at hl 1 rfl) ?_
      refine lv_iload_n hx hb dX12_set_25 rfl (lv_at hl 2 rfl) ?_
      obtain ⟨z26, hz26, h⟩ := zcl_e h
      refine z_callV (As := [.int x0, .int x1]) (rest := []) (st1 := [.int z26]) (ws' := (wd_X12_set cy q_t q_t_tape q_t_s q_t_h q_t_read q_t_names q_t_reserved q_t_undone q_t_before q_t_comeRow q_t_shown q_t_text q_t_toldAt q_t_stack q_t_truths q_t_imaged q_t_namesKept q_t_areKept 0 t_length t_size t_p t_limit t_token t_at t_span t_number t_fault t_faultAt t_word t_got t_lines t_hasWait t_undoMany t_firstMinute t_lookClock t_hasTime t_latestMost t_textMany t_seed t_toldMany t_hasTold t_codes t_ones t_top t_deep t_isWhole t_s t_undone)) S hF hH (c_X12_whySet l G cy E N q_t q_t_tape q_t_s q_t_h q_t_read q_t_names q_t_reserved q_t_undone q_t_before q_t_comeRow q_t_shown q_t_text q_t_toldAt q_t_stack q_t_truths q_t_imaged q_t_namesKept q_t_areKept 0 t_length t_size t_p t_limit t_token t_at t_span t_number t_fault t_faultAt t_word t_got t_lines t_hasWait t_undoMany t_firstMinute t_lookClock t_hasTime t_latestMost t_textMany t_seed t_toldMany t_hasTold t_codes t_ones t_top t_deep t_isWhole t_s x0 x1 z26 hz26) (cwV 2 hts gX12_set_X12_whySet rfl rfl rfl (by decide +kernel) ⟨Nat.le_of_ble_eq_true rfl, Nat.le_of_ble_eq_true rfl⟩) 13 0 rfl rfl [0, 1] rfl (by decide) rfl rfl rfl rfl rfl hl.1 (Nat.le_of_ble_eq_true rfl) dX12_set_26 ⟨Nat.le_of_ble_eq_true rfl, Nat.le_of_ble_eq_true rfl⟩ (fun H locs hH => ?_)
      refine lv_istore_n (lv' := [(3, .int z26), (0, .ref q_t), (1, .int x0), (2, .int x1)]) hx hb dX12_set_29 rfl hl (by decide) rfl (fun ls hl => ?_)
      refine lv_iload_n hx hb dX12_set_30 rfl (lv_at hl 0 rfl) ?_
      refine lv_if_le (tgt := 36) hx hb dX12_set_31 (by decide) (fun b31 => ?_) (fun b31 => ?_)
      · replace h := zif_t b31 h
        refine lv_aload_n hx hb dX12_set_36 rfl (lv_at hl 1 rfl) ?_
        obtain ⟨z37, hz37, h⟩ := zcl_e h
        refine z_callV (As := []) (rest := []) (st1 := []) (ws' := (wd_X12_set cy q_t q_t_tape q_t_s q_t_h q_t_read q_t_names q_t_reserved q_t_undone q_t_before q_t_comeRow q_t_shown q_t_text q_t_toldAt q_t_stack q_t_truths q_t_imaged q_t_namesKept q_t_areKept 0 t_length t_size t_p t_limit t_token t_at t_span t_number t_fault t_faultAt t_word t_got t_lines t_hasWait z37.1 t_firstMinute t_lookClock t_hasTime t_latestMost t_textMany t_seed t_toldMany t_hasTold t_codes t_ones t_top t_deep t_isWhole t_s z37.2)) S hF hH (c_X12_keep l G cy E N q_t q_t_tape q_t_s q_t_h q_t_read q_t_names q_t_reserved q_t_undone q_t_before q_t_comeRow q_t_shown q_t_text q_t_toldAt q_t_stack q_t_truths q_t_imaged q_t_namesKept q_t_areKept 0 t_length t_size t_p t_limit t_token t_at t_span t_number t_fault t_faultAt t_word t_got t_lines t_hasWait t_undoMany t_firstMinute t_lookClock t_hasTime t_latestMost t_textMany t_seed t_toldMany t_hasTold t_codes t_ones t_top t_deep t_isWhole t_undone t_s z37.1 z37.2 hz37) (cwV 0 hts gX12_set_X12_keep rfl rfl rfl (by decide +kernel) ⟨Nat.le_of_ble_eq_true rfl, Nat.le_of_ble_eq_true rfl⟩) 13 0 rfl rfl [0, 2, 1] rfl (by decide) rfl rfl rfl rfl rfl hl.1 (Nat.le_of_ble_eq_true rfl) dX12_set_37 ⟨Nat.le_of_ble_eq_true rfl, Nat.le_of_ble_eq_true rfl⟩ (fun H locs hH => ?_)
        refine lv_aload_n hx hb dX12_set_40 rfl (lv_at hl 1 rfl) ?_
        refine lv_iload_n hx hb dX12_set_41 rfl (lv_at hl 3 rfl) ?_
        refine lv_aload_n hx hb dX12_set_42 rfl (lv_at hl 1 rfl) ?_
        refine z_get S hF hH iX12_set_X12 0 rfl rfl 6 (by decide) (List.mem_of_getElem? (i := 2) rfl) rfl dX12_set_43 ?_
        refine lv_bipush (v := 28) hx hb dX12_set_46 (by decide) ?_
        refine lv_iload_n hx hb dX12_set_48 rfl (lv_at hl 2 rfl) ?_
        refine lv_iadd hx hb dX12_set_49 ?_
        obtain ⟨h50, h⟩ := zck_e h
        refine z_iald S hF hH 1 rfl h50 rfl dX12_set_50 ?_
        refine lv_ineg hx hb dX12_set_51 ?_
        obtain ⟨z52, hz52, h⟩ := zcl_e h
        refine z_callV (As := [.int x1, .int (-(t_s (Int32.toNatClampNeg (28 + x0))))]) (rest := []) (st1 := []) (ws' := (wd_X12_set cy q_t q_t_tape q_t_s q_t_h q_t_read q_t_names q_t_reserved q_t_undone q_t_before q_t_comeRow q_t_shown q_t_text q_t_toldAt q_t_stack q_t_truths q_t_imaged q_t_namesKept q_t_areKept 0 t_length t_size t_p t_limit t_token t_at t_span t_number t_fault t_faultAt t_word t_got t_lines t_hasWait z37.1 t_firstMinute t_lookClock t_hasTime t_latestMost t_textMany t_seed t_toldMany t_hasTold t_codes t_ones t_top t_deep t_isWhole z52 z37.2)) S hF hH (c_X12_runsFrom l G cy E N q_t q_t_tape q_t_s q_t_h q_t_read q_t_names q_t_reserved q_t_undone q_t_before q_t_comeRow q_t_shown q_t_text q_t_toldAt q_t_stack q_t_truths q_t_imaged q_t_namesKept q_t_areKept 0 t_length t_size t_p t_limit t_token t_at t_span t_number t_fault t_faultAt t_word t_got t_lines t_hasWait z37.1 t_firstMinute t_lookClock t_hasTime t_latestMost t_textMany t_seed t_toldMany t_hasTold t_codes t_ones t_top t_deep t_isWhole t_s x1 (-(t_s (Int32.toNatClampNeg (28 + x0)))) z52 hz52) (cwV 2 hts gX12_set_X12_runsFrom rfl rfl rfl (by decide +kernel) ⟨Nat.le_of_ble_eq_true rfl, Nat.le_of_ble_eq_true rfl⟩) 13 0 rfl rfl [0, 1] rfl (by decide) rfl rfl rfl rfl rfl hl.1 (Nat.le_of_ble_eq_true rfl) dX12_set_52 ⟨Nat.le_of_ble_eq_true rfl, Nat.le_of_ble_eq_true rfl⟩ (fun H locs hH => ?_)
        refine lv_iconst (v := 0) hx hb dX12_set_55 (by decide) ?_
        cases h
        exact z_iret S hr hlocks hH dX12_set_56
      · replace h := zif_f b31 h
        refine lv_iload_n hx hb dX12_set_34 rfl (lv_at hl 0 rfl) ?_
        cases h
        exact z_iret S hr hlocks hH dX12_set_35
    · replace h := zif_t b18 h
      refine lv_iconst (v := (-1)) hx hb dX12_set_21 (by decide) ?_
      cases h
      exact z_iret S hr hlocks hH dX12_set_22
abbrev wd_X12_stop (cy : Nat → ClassId) (q_t q_t_tape q_t_s q_t_h q_t_read q_t_names q_t_reserved q_t_undone q_t_before q_t_comeRow q_t_shown q_t_text q_t_toldAt q_t_stack q_t_truths q_t_imaged q_t_namesKept q_t_areKept : Nat) (t_thrown : Int32) (t_length : Int32) (t_size : Int32) (t_p : Int32) (t_limit : Int32) (t_token : Int32) (t_at : Int32) (t_span : Int32) (t_number : Int32) (t_fault : Int32) (t_faultAt : Int32) (t_word : Int64) (t_got : Int32) (t_lines : Int32) (t_hasWait : Int32) (t_undoMany : Int32) (t_firstMinute : Int32) (t_lookClock : Int32) (t_hasTime : Int32) (t_latestMost : Int32) (t_textMany : Int32) (t_seed : Int32) (t_toldMany : Int32) (t_hasTold : Int32) (t_codes : Int32) (t_ones : Int32) (t_top : Int32) (t_deep : Int32) (t_isWhole : Int32) (t_s : Nat → Int32) (t_undone : Nat → Int32) : va_W := [(q_t, .inr (13, [.int t_thrown, .ref q_t_tape, .int t_length, .int t_size, .int t_p, .int t_limit, .ref q_t_s, .ref q_t_h, .ref q_t_read, .ref q_t_names, .ref q_t_reserved, .int t_token, .int t_at, .int t_span, .int t_number, .int t_fault, .int t_faultAt, .long t_word, .int t_got, .int t_lines, .int t_hasWait, .ref q_t_undone, .ref q_t_before, .int t_undoMany, .ref q_t_comeRow, .int t_firstMinute, .int t_lookClock, .int t_hasTime, .ref q_t_shown, .int t_latestMost, .ref q_t_text, .int t_textMany, .int t_seed, .int t_toldMany, .ref q_t_toldAt, .int t_hasTold, .ref q_t_stack, .int t_codes, .int t_ones, .int t_top, .int t_deep, .int t_isWhole, .ref q_t_truths, .ref q_t_imaged, .ref q_t_namesKept, .ref q_t_areKept])), (q_t_s, .inl (cy 1, 334, .inl t_s)), (q_t_undone, .inl (cy 1, 808, .inl t_undone))]
theorem iX12_stop_X12 : ∀ w ∈ wsX120, w ∈ wsX12_stop := fun _ h => List.mem_cons_of_mem _ (List.mem_append_right _ h)
abbrev rm_X12_stop : Room := { frames := 4, cells := 0, slots := 0, locals := 85 }
set_option maxRecDepth 100000 in
def f_X12_stop (N : Nat) (x0 : Int32) (t_thrown : Int32) (t_undoMany : Int32) (t_s : Nat → Int32) (t_undone : Nat → Int32) : Option (Int32 × Int32 × Int32 × (Nat → Int32) × (Nat → Int32)) := zcl (f_X12_isClock N x0 t_s) fun z7 => if z7 = 0 then (some ((-1), 0, t_undoMany, t_s, t_undone)) else (zcl (f_X12_isStopped N x0 t_s) fun z17 => if z17 = 0 then (zcl (f_X12_keep N t_undoMany t_undone t_s) fun z26 => zcl (f_X12_stops N x0 t_s) fun z31 => some (0, 0, z26.1, z31, z26.2)) else (some (1, 0, t_undoMany, t_s, t_undone)))
set_option maxHeartbeats 4000000 in
set_option maxRecDepth 100000 in
theorem c_X12_stop (l : Launch) (G : va_G) (cy : Nat → ClassId) (E : Nat → Nat) (N : Nat) (q_t q_t_tape q_t_s q_t_h q_t_read q_t_names q_t_reserved q_t_undone q_t_before q_t_comeRow q_t_shown q_t_text q_t_toldAt q_t_stack q_t_truths q_t_imaged q_t_namesKept q_t_areKept : Nat) (t_thrown : Int32) (t_length : Int32) (t_size : Int32) (t_p : Int32) (t_limit : Int32) (t_token : Int32) (t_at : Int32) (t_span : Int32) (t_number : Int32) (t_fault : Int32) (t_faultAt : Int32) (t_word : Int64) (t_got : Int32) (t_lines : Int32) (t_hasWait : Int32) (t_undoMany : Int32) (t_firstMinute : Int32) (t_lookClock : Int32) (t_hasTime : Int32) (t_latestMost : Int32) (t_textMany : Int32) (t_seed : Int32) (t_toldMany : Int32) (t_hasTold : Int32) (t_codes : Int32) (t_ones : Int32) (t_top : Int32) (t_deep : Int32) (t_isWhole : Int32) (t_s : Nat → Int32) (t_undone : Nat → Int32) (x0 : Int32) (r : Int32) (r_t_thrown : Int32) (r_t_undoMany : Int32) (r_t_s : Nat → Int32) (r_t_undone : Nat → Int32) (h : f_X12_stop N x0 t_thrown t_undoMany t_s t_undone = some (r, r_t_thrown, r_t_undoMany, r_t_s, r_t_undone)) : zM l G cy E yX12_stop wsX12_stop rm_X12_stop [.ref q_t, .int x0] (wd_X12_stop cy q_t q_t_tape q_t_s q_t_h q_t_read q_t_names q_t_reserved q_t_undone q_t_before q_t_comeRow q_t_shown q_t_text q_t_toldAt q_t_stack q_t_truths q_t_imaged q_t_namesKept q_t_areKept t_thrown t_length t_size t_p t_limit t_token t_at t_span t_number t_fault t_faultAt t_word t_got t_lines t_hasWait t_undoMany t_firstMinute t_lookClock t_hasTime t_latestMost t_textMany t_seed t_toldMany t_hasTold t_codes t_ones t_top t_deep t_isWhole t_s t_undone) (wd_X12_stop cy q_t q_t_tape q_t_s q_t_h q_t_read q_t_names q_t_reserved q_t_undone q_t_before q_t_comeRow q_t_shown q_t_text q_t_toldAt q_t_stack q_t_truths q_t_imaged q_t_namesKept q_t_areKept r_t_thrown t_length t_size t_p t_limit t_token t_at t_span t_number t_fault t_faultAt t_word t_got t_lines t_hasWait r_t_undoMany t_firstMinute t_lookClock t_hasTime t_latestMost t_textMany t_seed t_toldMany t_hasTold t_codes t_ones t_top t_deep t_isWhole r_t_s r_t_undone) (some (.int r)) 0 0 := by
  refine z_body (cc := cX12_stop) (maxL := 2) (ret := some .int) (by decide) rfl (Nat.le_of_ble_eq_true rfl) ?_
  intro p e s m below meth c ls S hr hlocks hnm hF hH hl
  have S : CallFix p m c cX12_stop 2 s ([.ref q_t, .int x0] : List Value).toArray wsX12_stop RX12 := S
  obtain ⟨hx, hb, hml, hown, hts⟩ := id S
  have hl : lv_has ls 2 [(0, .ref q_t), (1, .int x0)] := hl
  rw [f_X12_stop] at h
  refine lv_aload_n hx hb dX12_stop_0 rfl (lv_at hl 0 rfl) ?_
  refine lv_iconst (v := 0) hx hb dX12_stop_1 (by decide) ?_
  refine z_put (ws' := (wd_X12_stop cy q_t q_t_tape q_t_s q_t_h q_t_read q_t_names q_t_reserved q_t_undone q_t_before q_t_comeRow q_t_shown q_t_text q_t_toldAt q_t_stack q_t_truths q_t_imaged q_t_namesKept q_t_areKept 0 t_length t_size t_p t_limit t_token t_at t_span t_number t_fault t_faultAt t_word t_got t_lines t_hasWait t_undoMany t_firstMinute t_lookClock t_hasTime t_latestMost t_textMany t_seed t_toldMany t_hasTold t_codes t_ones t_top t_deep t_isWhole t_s t_undone)) S hF hH iX12_stop_X12 tyX12 tyX12_ok nmX12 0 rfl rfl 0 (by decide) (List.mem_of_getElem? (i := 1) rfl) rfl rfl rfl (Nat.le_of_ble_eq_true rfl) rfl dX12_stop_2 (fun H locs hH => ?_)
  refine lv_aload_n hx hb dX12_stop_5 rfl (lv_at hl 0 rfl) ?_
  refine lv_iload_n hx hb dX12_stop_6 rfl (lv_at hl 1 rfl) ?_
  obtain ⟨z7, hz7, h⟩ := zcl_e h
  refine z_callV (As := [.int x0]) (rest := []) (st1 := [.int z7]) (ws' := (wd_X12_stop cy q_t q_t_tape q_t_s q_t_h q_t_read q_t_names q_t_reserved q_t_undone q_t_before q_t_comeRow q_t_shown q_t_text q_t_toldAt q_t_stack q_t_truths q_t_imaged q_t_namesKept q_t_areKept 0 t_length t_size t_p t_limit t_token t_at t_span t_number t_fault t_faultAt t_word t_got t_lines t_hasWait t_undoMany t_firstMinute t_lookClock t_hasTime t_latestMost t_textMany t_seed t_toldMany t_hasTold t_codes t_ones t_top t_deep t_isWhole t_s t_undone)) S hF hH (c_X12_isClock l G cy E N q_t q_t_tape q_t_s q_t_h q_t_read q_t_names q_t_reserved q_t_undone q_t_before q_t_comeRow q_t_shown q_t_text q_t_toldAt q_t_stack q_t_truths q_t_imaged q_t_namesKept q_t_areKept 0 t_length t_size t_p t_limit t_token t_at t_span t_number t_fault t_faultAt t_word t_got t_lines t_hasWait t_undoMany t_firstMinute t_lookClock t_hasTime t_latestMost t_textMany t_seed t_toldMany t_hasTold t_codes t_ones t_top t_deep t_isWhole t_s x0 z7 hz7) (cwV 1 hts gX12_stop_X12_isClock rfl rfl rfl (by decide +kernel) ⟨Nat.le_of_ble_eq_true rfl, Nat.le_of_ble_eq_true rfl⟩) 13 0 rfl rfl [0, 1] rfl (by decide) rfl rfl rfl rfl rfl hl.1 (Nat.le_of_ble_eq_true rfl) dX12_stop_7 ⟨Nat.le_of_ble_eq_true rfl, Nat.le_of_ble_eq_true rfl⟩ (fun H locs hH => ?_)
  refine lv_if_ne (tgt := 15) hx hb dX12_stop_10 (by decide) (fun b10 => ?_) (fun b10 => ?_)
  · replace h := zif_f b10 h
    refine lv_aload_n hx hb dX12_stop_15 rfl (lv_at hl 0 rfl) ?_
    refine lv_iload_n hx hb dX12_stop_16 rfl (lv_at hl 1 rfl) ?_
    obtain ⟨z17, hz17, h⟩ := zcl_e h
    refine z_callV (As := [.int x0]) (rest := []) (st1 := [.int z17]) (ws' := (wd_X12_stop cy q_t q_t_tape q_t_s q_t_h q_t_read q_t_names q_t_reserved q_t_undone q_t_before q_t_comeRow q_t_shown q_t_text q_t_toldAt q_t_stack q_t_truths q_t_imaged q_t_namesKept q_t_areKept 0 t_length t_size t_p t_limit t_token t_at t_span t_number t_fault t_faultAt t_word t_got t_lines t_hasWait t_undoMany t_firstMinute t_lookClock t_hasTime t_latestMost t_textMany t_seed t_toldMany t_hasTold t_codes t_ones t_top t_deep t_isWhole t_s t_undone)) S hF hH (c_X12_isStopped l G cy E N q_t q_t_tape q_t_s q_t_h q_t_read q_t_names q_t_reserved q_t_undone q_t_before q_t_comeRow q_t_shown q_t_text q_t_toldAt q_t_stack q_t_truths q_t_imaged q_t_namesKept q_t_areKept 0 t_length t_size t_p t_limit t_token t_at t_span t_number t_fault t_faultAt t_word t_got t_lines t_hasWait t_undoMany t_firstMinute t_lookClock t_hasTime t_latestMost t_textMany t_seed t_toldMany t_hasTold t_codes t_ones t_top t_deep t_isWhole t_s x0 z17 hz17) (cwV 1 hts gX12_stop_X12_isStopped rfl rfl rfl (by decide +kernel) ⟨Nat.le_of_ble_eq_true rfl, Nat.le_of_ble_eq_true rfl⟩) 13 0 rfl rfl [0, 1] rfl (by decide) rfl rfl rfl rfl rfl hl.1 (Nat.le_of_ble_eq_true rfl) dX12_stop_17 ⟨Nat.le_of_ble_eq_true rfl, Nat.le_of_ble_eq_true rfl⟩ (fun H locs hH => ?_)
    refine lv_if_eq (tgt := 25) hx hb dX12_stop_20 (by decide) (fun b20 => ?_) (fun b20 => ?_)
    · replace h := zif_t b20 h
      refine lv_aload_n hx hb dX12_stop_25 rfl (lv_at hl 0 rfl) ?_
      obtain ⟨z26, hz26, h⟩ := zcl_e h
      refine z_callV (As := []) (rest := []) (st1 := []) (ws' := (wd_X12_stop cy q_t q_t_tape q_t_s q_t_h q_t_read q_t_names q_t_reserved q_t_undone q_t_before q_t_comeRow q_t_shown q_t_text q_t_toldAt q_t_stack q_t_truths q_t_imaged q_t_namesKept q_t_areKept 0 t_length t_size t_p t_limit t_token t_at t_span t_number t_fault t_faultAt t_word t_got t_lines t_hasWait z26.1 t_firstMinute t_lookClock t_hasTime t_latestMost t_textMany t_seed t_toldMany t_hasTold t_codes t_ones t_top t_deep t_isWhole t_s z26.2)) S hF hH (c_X12_keep l G cy E N q_t q_t_tape q_t_s q_t_h q_t_read q_t_names q_t_reserved q_t_undone q_t_before q_t_comeRow q_t_shown q_t_text q_t_toldAt q_t_stack q_t_truths q_t_imaged q_t_namesKept q_t_areKept 0 t_length t_size t_p t_limit t_token t_at t_span t_number t_fault t_faultAt t_word t_got t_lines t_hasWait t_undoMany t_firstMinute t_lookClock t_hasTime t_latestMost t_textMany t_seed t_toldMany t_hasTold t_codes t_ones t_top t_deep t_isWhole t_undone t_s z26.1 z26.2 hz26) (cwV 0 hts gX12_stop_X12_keep rfl rfl rfl (by decide +kernel) ⟨Nat.le_of_ble_eq_true rfl, Nat.le_of_ble_eq_true rfl⟩) 13 0 rfl rfl [0, 2, 1] rfl (by decide) rfl rfl rfl rfl rfl hl.1 (Nat.le_of_ble_eq_true rfl) dX12_stop_26 ⟨Nat.le_of_ble_eq_true rfl, Nat.le_of_ble_eq_true rfl⟩ (fun H locs hH => ?_)
      refine lv_aload_n hx hb dX12_stop_29 rfl (lv_at hl 0 rfl) ?_
      refine lv_iload_n hx hb dX12_stop_30 rfl (lv_at hl 1 rfl) ?_
      obtain ⟨z31, hz31, h⟩ := zcl_e h
      refine z_callV (As := [.int x0]) (rest := []) (st1 := []) (ws' := (wd_X12_stop cy q_t q_t_tape q_t_s q_t_h q_t_read q_t_names q_t_reserved q_t_undone q_t_before q_t_comeRow q_t_shown q_t_text q_t_toldAt q_t_stack q_t_truths q_t_imaged q_t_namesKept q_t_areKept 0 t_length t_size t_p t_limit t_token t_at t_span t_number t_fault t_faultAt t_word t_got t_lines t_hasWait z26.1 t_firstMinute t_lookClock t_hasTime t_latestMost t_textMany t_seed t_toldMany t_hasTold t_codes t_ones t_top t_deep t_isWhole z31 z26.2)) S hF hH (c_X12_stops l G cy E N q_t q_t_tape q_t_s q_t_h q_t_read q_t_names q_t_reserved q_t_undone q_t_before q_t_comeRow q_t_shown q_t_text q_t_toldAt q_t_stack q_t_truths q_t_imaged q_t_namesKept q_t_areKept 0 t_length t_size t_p t_limit t_token t_at t_span t_number t_fault t_faultAt t_word t_got t_lines t_hasWait z26.1 t_firstMinute t_lookClock t_hasTime t_latestMost t_textMany t_seed t_toldMany t_hasTold t_codes t_ones t_top t_deep t_isWhole t_s x0 z31 hz31) (cwV 1 hts gX12_stop_X12_stops rfl rfl rfl (by decide +kernel) ⟨Nat.le_of_ble_eq_true rfl, Nat.le_of_ble_eq_true rfl⟩) 13 0 rfl rfl [0, 1] rfl (by decide) rfl rfl rfl rfl rfl hl.1 (Nat.le_of_ble_eq_true rfl) dX12_stop_31 ⟨Nat.le_of_ble_eq_true rfl, Nat.le_of_ble_eq_true rfl⟩ (fun H locs hH => ?_)
      refine lv_iconst (v := 0) hx hb dX12_stop_34 (by decide) ?_
      cases h
      exact z_iret S hr hlocks hH dX12_stop_35
    · replace h := zif_f b20 h
      refine lv_iconst (v := 1) hx hb dX12_stop_23 (by decide) ?_
      cases h
      exact z_iret S hr hlocks hH dX12_stop_24
  · replace h := zif_t b10 h
    refine lv_iconst (v := (-1)) hx hb dX12_stop_13 (by decide) ?_
    cases h
    exact z_iret S hr hlocks hH dX12_stop_14
abbrev wd_X12_start (cy : Nat → ClassId) (q_t q_t_tape q_t_s q_t_h q_t_read q_t_names q_t_reserved q_t_undone q_t_before q_t_comeRow q_t_shown q_t_text q_t_toldAt q_t_stack q_t_truths q_t_imaged q_t_namesKept q_t_areKept : Nat) (t_thrown : Int32) (t_length : Int32) (t_size : Int32) (t_p : Int32) (t_limit : Int32) (t_token : Int32) (t_at : Int32) (t_span : Int32) (t_number : Int32) (t_fault : Int32) (t_faultAt : Int32) (t_word : Int64) (t_got : Int32) (t_lines : Int32) (t_hasWait : Int32) (t_undoMany : Int32) (t_firstMinute : Int32) (t_lookClock : Int32) (t_hasTime : Int32) (t_latestMost : Int32) (t_textMany : Int32) (t_seed : Int32) (t_toldMany : Int32) (t_hasTold : Int32) (t_codes : Int32) (t_ones : Int32) (t_top : Int32) (t_deep : Int32) (t_isWhole : Int32) (t_s : Nat → Int32) (t_undone : Nat → Int32) : va_W := [(q_t, .inr (13, [.int t_thrown, .ref q_t_tape, .int t_length, .int t_size, .int t_p, .int t_limit, .ref q_t_s, .ref q_t_h, .ref q_t_read, .ref q_t_names, .ref q_t_reserved, .int t_token, .int t_at, .int t_span, .int t_number, .int t_fault, .int t_faultAt, .long t_word, .int t_got, .int t_lines, .int t_hasWait, .ref q_t_undone, .ref q_t_before, .int t_undoMany, .ref q_t_comeRow, .int t_firstMinute, .int t_lookClock, .int t_hasTime, .ref q_t_shown, .int t_latestMost, .ref q_t_text, .int t_textMany, .int t_seed, .int t_toldMany, .ref q_t_toldAt, .int t_hasTold, .ref q_t_stack, .int t_codes, .int t_ones, .int t_top, .int t_deep, .int t_isWhole, .ref q_t_truths, .ref q_t_imaged, .ref q_t_namesKept, .ref q_t_areKept])), (q_t_s, .inl (cy 1, 334, .inl t_s)), (q_t_undone, .inl (cy 1, 808, .inl t_undone))]
theorem iX12_start_X12 : ∀ w ∈ wsX120, w ∈ wsX12_start := fun _ h => List.mem_cons_of_mem _ (List.mem_append_right _ h)
abbrev rm_X12_start : Room := { frames := 4, cells := 0, slots := 0, locals := 85 }
set_option maxRecDepth 100000 in
def f_X12_start (N : Nat) (x0 : Int32) (t_thrown : Int32) (t_undoMany : Int32) (t_s : Nat → Int32) (t_undone : Nat → Int32) : Option (Int32 × Int32 × Int32 × (Nat → Int32) × (Nat → Int32)) := zcl (f_X12_isClock N x0 t_s) fun z7 => if z7 = 0 then (some ((-1), 0, t_undoMany, t_s, t_undone)) else (zcl (f_X12_isStopped N x0 t_s) fun z17 => if z17 = 0 then (some (1, 0, t_undoMany, t_s, t_undone)) else (zcl (f_X12_keep N t_undoMany t_undone t_s) fun z26 => zcl (f_X12_wrongBy N x0 t_s) fun z33 => zcl (f_X12_runsFrom N x0 z33 t_s) fun z36 => some (0, 0, z26.1, z36, z26.2)))
set_option maxHeartbeats 4000000 in
set_option maxRecDepth 100000 in
theorem c_X12_start (l : Launch) (G : va_G) (cy : Nat → ClassId) (E : Nat → Nat) (N : Nat) (q_t q_t_tape q_t_s q_t_h q_t_read q_t_names q_t_reserved q_t_undone q_t_before q_t_comeRow q_t_shown q_t_text q_t_toldAt q_t_stack q_t_truths q_t_imaged q_t_namesKept q_t_areKept : Nat) (t_thrown : Int32) (t_length : Int32) (t_size : Int32) (t_p : Int32) (t_limit : Int32) (t_token : Int32) (t_at : Int32) (t_span : Int32) (t_number : Int32) (t_fault : Int32) (t_faultAt : Int32) (t_word : Int64) (t_got : Int32) (t_lines : Int32) (t_hasWait : Int32) (t_undoMany : Int32) (t_firstMinute : Int32) (t_lookClock : Int32) (t_hasTime : Int32) (t_latestMost : Int32) (t_textMany : Int32) (t_seed : Int32) (t_toldMany : Int32) (t_hasTold : Int32) (t_codes : Int32) (t_ones : Int32) (t_top : Int32) (t_deep : Int32) (t_isWhole : Int32) (t_s : Nat → Int32) (t_undone : Nat → Int32) (x0 : Int32) (r : Int32) (r_t_thrown : Int32) (r_t_undoMany : Int32) (r_t_s : Nat → Int32) (r_t_undone : Nat → Int32) (h : f_X12_start N x0 t_thrown t_undoMany t_s t_undone = some (r, r_t_thrown, r_t_undoMany, r_t_s, r_t_undone)) : zM l G cy E yX12_start wsX12_start rm_X12_start [.ref q_t, .int x0] (wd_X12_start cy q_t q_t_tape q_t_s q_t_h q_t_read q_t_names q_t_reserved q_t_undone q_t_before q_t_comeRow q_t_shown q_t_text q_t_toldAt q_t_stack q_t_truths q_t_imaged q_t_namesKept q_t_areKept t_thrown t_length t_size t_p t_limit t_token t_at t_span t_number t_fault t_faultAt t_word t_got t_lines t_hasWait t_undoMany t_firstMinute t_lookClock t_hasTime t_latestMost t_textMany t_seed t_toldMany t_hasTold t_codes t_ones t_top t_deep t_isWhole t_s t_undone) (wd_X12_start cy q_t q_t_tape q_t_s q_t_h q_t_read q_t_names q_t_reserved q_t_undone q_t_before q_t_comeRow q_t_shown q_t_text q_t_toldAt q_t_stack q_t_truths q_t_imaged q_t_namesKept q_t_areKept r_t_thrown t_length t_size t_p t_limit t_token t_at t_span t_number t_fault t_faultAt t_word t_got t_lines t_hasWait r_t_undoMany t_firstMinute t_lookClock t_hasTime t_latestMost t_textMany t_seed t_toldMany t_hasTold t_codes t_ones t_top t_deep t_isWhole r_t_s r_t_undone) (some (.int r)) 0 0 := by
  refine z_body (cc := cX12_start) (maxL := 2) (ret := some .int) (by decide) rfl (Nat.le_of_ble_eq_true rfl) ?_
  intro p e s m below meth c ls S hr hlocks hnm hF hH hl
  have S : CallFix p m c cX12_start 2 s ([.ref q_t, .int x0] : List Value).toArray wsX12_start RX12 := S
  obtain ⟨hx, hb, hml, hown, hts⟩ := id S
  have hl : lv_has ls 2 [(0, .ref q_t), (1, .int x0)] := hl
  rw [f_X12_start] at h
  refine lv_aload_n hx hb dX12_start_0 rfl (lv_at hl 0 rfl) ?_
  refine lv_iconst (v := 0) hx hb dX12_start_1 (by decide) ?_
  refine z_put (ws' := (wd_X12_start cy q_t q_t_tape q_t_s q_t_h q_t_read q_t_names q_t_reserved q_t_undone q_t_before q_t_comeRow q_t_shown q_t_text q_t_toldAt q_t_stack q_t_truths q_t_imaged q_t_namesKept q_t_areKept 0 t_length t_size t_p t_limit t_token t_at t_span t_number t_fault t_faultAt t_word t_got t_lines t_hasWait t_undoMany t_firstMinute t_lookClock t_hasTime t_latestMost t_textMany t_seed t_toldMany t_hasTold t_codes t_ones t_top t_deep t_isWhole t_s t_undone)) S hF hH iX12_start_X12 tyX12 tyX12_ok nmX12 0 rfl rfl 0 (by decide) (List.mem_of_getElem? (i := 1) rfl) rfl rfl rfl (Nat.le_of_ble_eq_true rfl) rfl dX12_start_2 (fun H locs hH => ?_)
  refine lv_aload_n hx hb dX12_start_5 rfl (lv_at hl 0 rfl) ?_
  refine lv_iload_n hx hb dX12_start_6 rfl (lv_at hl 1 rfl) ?_
  obtain ⟨z7, hz7, h⟩ := zcl_e h
  refine z_callV (As := [.int x0]) (rest := []) (st1 := [.int z7]) (ws' := (wd_X12_start cy q_t q_t_tape q_t_s q_t_h q_t_read q_t_names q_t_reserved q_t_undone q_t_before q_t_comeRow q_t_shown q_t_text q_t_toldAt q_t_stack q_t_truths q_t_imaged q_t_namesKept q_t_areKept 0 t_length t_size t_p t_limit t_token t_at t_span t_number t_fault t_faultAt t_word t_got t_lines t_hasWait t_undoMany t_firstMinute t_lookClock t_hasTime t_latestMost t_textMany t_seed t_toldMany t_hasTold t_codes t_ones t_top t_deep t_isWhole t_s t_undone)) S hF hH (c_X12_isClock l G cy E N q_t q_t_tape q_t_s q_t_h q_t_read q_t_names q_t_reserved q_t_undone q_t_before q_t_comeRow q_t_shown q_t_text q_t_toldAt q_t_stack q_t_truths q_t_imaged q_t_namesKept q_t_areKept 0 t_length t_size t_p t_limit t_token t_at t_span t_number t_fault t_faultAt t_word t_got t_lines t_hasWait t_undoMany t_firstMinute t_lookClock t_hasTime t_latestMost t_textMany t_seed t_toldMany t_hasTold t_codes t_ones t_top t_deep t_isWhole t_s x0 z7 hz7) (cwV 1 hts gX12_start_X12_isClock rfl rfl rfl (by decide +kernel) ⟨Nat.le_of_ble_eq_true rfl, Nat.le_of_ble_eq_true rfl⟩) 13 0 rfl rfl [0, 1] rfl (by decide) rfl rfl rfl rfl rfl hl.1 (Nat.le_of_ble_eq_true rfl) dX12_start_7 ⟨Nat.le_of_ble_eq_true rfl, Nat.le_of_ble_eq_true rfl⟩ (fun H locs hH => ?_)
  refine lv_if_ne (tgt := 15) hx hb dX12_start_10 (by decide) (fun b10 => ?_) (fun b10 => ?_)
  · replace h := zif_f b10 h
    refine lv_aload_n hx hb dX12_start_15 rfl (lv_at hl 0 rfl) ?_
    refine lv_iload_n hx hb dX12_start_16 rfl (lv_at hl 1 rfl) ?_
    obtain ⟨z17, hz17, h⟩ := zcl_e h
    refine z_callV (As := [.int x0]) (rest := []) (st1 := [.int z17]) (ws' := (wd_X12_start cy q_t q_t_tape q_t_s q_t_h q_t_read q_t_names q_t_reserved q_t_undone q_t_before q_t_comeRow q_t_shown q_t_text q_t_toldAt q_t_stack q_t_truths q_t_imaged q_t_namesKept q_t_areKept 0 t_length t_size t_p t_limit t_token t_at t_span t_number t_fault t_faultAt t_word t_got t_lines t_hasWait t_undoMany t_firstMinute t_lookClock t_hasTime t_latestMost t_textMany t_seed t_toldMany t_hasTold t_codes t_ones t_top t_deep t_isWhole t_s t_undone)) S hF hH (c_X12_isStopped l G cy E N q_t q_t_tape q_t_s q_t_h q_t_read q_t_names q_t_reserved q_t_undone q_t_before q_t_comeRow q_t_shown q_t_text q_t_toldAt q_t_stack q_t_truths q_t_imaged q_t_namesKept q_t_areKept 0 t_length t_size t_p t_limit t_token t_at t_span t_number t_fault t_faultAt t_word t_got t_lines t_hasWait t_undoMany t_firstMinute t_lookClock t_hasTime t_latestMost t_textMany t_seed t_toldMany t_hasTold t_codes t_ones t_top t_deep t_isWhole t_s x0 z17 hz17) (cwV 1 hts gX12_start_X12_isStopped rfl rfl rfl (by decide +kernel) ⟨Nat.le_of_ble_eq_true rfl, Nat.le_of_ble_eq_true rfl⟩) 13 0 rfl rfl [0, 1] rfl (by decide) rfl rfl rfl rfl rfl hl.1 (Nat.le_of_ble_eq_true rfl) dX12_start_17 ⟨Nat.le_of_ble_eq_true rfl, Nat.le_of_ble_eq_true rfl⟩ (fun H locs hH => ?_)
    refine lv_if_ne (tgt := 25) hx hb dX12_start_20 (by decide) (fun b20 => ?_) (fun b20 => ?_)
    · replace h := zif_f b20 h
      refine lv_aload_n hx hb dX12_start_25 rfl (lv_at hl 0 rfl) ?_
      obtain ⟨z26, hz26, h⟩ := zcl_e h
      refine z_callV (As := []) (rest := []) (st1 := []) (ws' := (wd_X12_start cy q_t q_t_tape q_t_s q_t_h q_t_read q_t_names q_t_reserved q_t_undone q_t_before q_t_comeRow q_t_shown q_t_text q_t_toldAt q_t_stack q_t_truths q_t_imaged q_t_namesKept q_t_areKept 0 t_length t_size t_p t_limit t_token t_at t_span t_number t_fault t_faultAt t_word t_got t_lines t_hasWait z26.1 t_firstMinute t_lookClock t_hasTime t_latestMost t_textMany t_seed t_toldMany t_hasTold t_codes t_ones t_top t_deep t_isWhole t_s z26.2)) S hF hH (c_X12_keep l G cy E N q_t q_t_tape q_t_s q_t_h q_t_read q_t_names q_t_reserved q_t_undone q_t_before q_t_comeRow q_t_shown q_t_text q_t_toldAt q_t_stack q_t_truths q_t_imaged q_t_namesKept q_t_areKept 0 t_length t_size t_p t_limit t_token t_at t_span t_number t_fault t_faultAt t_word t_got t_lines t_hasWait t_undoMany t_firstMinute t_lookClock t_hasTime t_latestMost t_textMany t_seed t_toldMany t_hasTold t_codes t_ones t_top t_deep t_isWhole t_undone t_s z26.1 z26.2 hz26) (cwV 0 hts gX12_start_X12_keep rfl rfl rfl (by decide +kernel) ⟨Nat.le_of_ble_eq_true rfl, Nat.le_of_ble_eq_true rfl⟩) 13 0 rfl rfl [0, 2, 1] rfl (by decide) rfl rfl rfl rfl rfl hl.1 (Nat.le_of_ble_eq_true rfl) dX12_start_26 ⟨Nat.le_of_ble_eq_true rfl, Nat.le_of_ble_eq_true rfl⟩ (fun H locs hH => ?_)
      refine lv_aload_n hx hb dX12_start_29 rfl (lv_at hl 0 rfl) ?_
      refine lv_iload_n hx hb dX12_start_30 rfl (lv_at hl 1 rfl) ?_
      refine lv_aload_n hx hb dX12_start_31 rfl (lv_at hl 0 rfl) ?_
      refine lv_iload_n hx hb dX12_start_32 rfl (lv_at hl 1 rfl) ?_
      obtain ⟨z33, hz33, h⟩ := zcl_e h
      refine z_callV (As := [.int x0]) (rest := [.int x0, .ref q_t]) (st1 := [.int z33, .int x0, .ref q_t]) (ws' := (wd_X12_start cy q_t q_t_tape q_t_s q_t_h q_t_read q_t_names q_t_reserved q_t_undone q_t_before q_t_comeRow q_t_shown q_t_text q_t_toldAt q_t_stack q_t_truths q_t_imaged q_t_namesKept q_t_areKept 0 t_length t_size t_p t_limit t_token t_at t_span t_number t_fault t_faultAt t_word t_got t_lines t_hasWait z26.1 t_firstMinute t_lookClock t_hasTime t_latestMost t_textMany t_seed t_toldMany t_hasTold t_codes t_ones t_top t_deep t_isWhole t_s z26.2)) S hF hH (c_X12_wrongBy l G cy E N q_t q_t_tape q_t_s q_t_h q_t_read q_t_names q_t_reserved q_t_undone q_t_before q_t_comeRow q_t_shown q_t_text q_t_toldAt q_t_stack q_t_truths q_t_imaged q_t_namesKept q_t_areKept 0 t_length t_size t_p t_limit t_token t_at t_span t_number t_fault t_faultAt t_word t_got t_lines t_hasWait z26.1 t_firstMinute t_lookClock t_hasTime t_latestMost t_textMany t_seed t_toldMany t_hasTold t_codes t_ones t_top t_deep t_isWhole t_s x0 z33 hz33) (cwV 1 hts gX12_start_X12_wrongBy rfl rfl rfl (by decide +kernel) ⟨Nat.le_of_ble_eq_true rfl, Nat.le_of_ble_eq_true rfl⟩) 13 0 rfl rfl [0, 1] rfl (by decide) rfl rfl rfl rfl rfl hl.1 (Nat.le_of_ble_eq_true rfl) dX12_start_33 ⟨Nat.le_of_ble_eq_true rfl, Nat.le_of_ble_eq_true rfl⟩ (fun H locs hH => ?_)
      obtain ⟨z36, hz36, h⟩ := zcl_e h
      refine z_callV (As := [.int x0, .int z33]) (rest := []) (st1 := []) (ws' := (wd_X12_start cy q_t q_t_tape q_t_s q_t_h q_t_read q_t_names q_t_reserved q_t_undone q_t_before q_t_comeRow q_t_shown q_t_text q_t_toldAt q_t_stack q_t_truths q_t_imaged q_t_namesKept q_t_areKept 0 t_length t_size t_p t_limit t_token t_at t_span t_number t_fault t_faultAt t_word t_got t_lines t_hasWait z26.1 t_firstMinute t_lookClock t_hasTime t_latestMost t_textMany t_seed t_toldMany t_hasTold t_codes t_ones t_top t_deep t_isWhole z36 z26.2)) S hF hH (c_X12_runsFrom l G cy E N q_t q_t_tape q_t_s q_t_h q_t_read q_t_names q_t_reserved q_t_undone q_t_before q_t_comeRow q_t_shown q_t_text q_t_toldAt q_t_stack q_t_truths q_t_imaged q_t_namesKept q_t_areKept 0 t_length t_size t_p t_limit t_token t_at t_span t_number t_fault t_faultAt t_word t_got t_lines t_hasWait z26.1 t_firstMinute t_lookClock t_hasTime t_latestMost t_textMany t_seed t_toldMany t_hasTold t_codes t_ones t_top t_deep t_isWhole t_s x0 z33 z36 hz36) (cwV 2 hts gX12_start_X12_runsFrom rfl rfl rfl (by decide +kernel) ⟨Nat.le_of_ble_eq_true rfl, Nat.le_of_ble_eq_true rfl⟩) 13 0 rfl rfl [0, 1] rfl (by decide) rfl rfl rfl rfl rfl hl.1 (Nat.le_of_ble_eq_true rfl) dX12_start_36 ⟨Nat.le_of_ble_eq_true rfl, Nat.le_of_ble_eq_true rfl⟩ (fun H locs hH => ?_)
      refine lv_iconst (v := 0) hx hb dX12_start_39 (by decide) ?_
      cases h
      exact z_iret S hr hlocks hH dX12_start_40
    · replace h := zif_t b20 h
      refine lv_iconst (v := 1) hx hb dX12_start_23 (by decide) ?_
      cases h
      exact z_iret S hr hlocks hH dX12_start_24
  · replace h := zif_t b10 h
    refine lv_iconst (v := (-1)) hx hb dX12_start_13 (by decide) ?_
    cases h
    exact z_iret S hr hlocks hH dX12_start_14
abbrev wd_X12_move (cy : Nat → ClassId) (q_t q_t_tape q_t_s q_t_h q_t_read q_t_names q_t_reserved q_t_undone q_t_before q_t_comeRow q_t_shown q_t_text q_t_toldAt q_t_stack q_t_truths q_t_imaged q_t_namesKept q_t_areKept : Nat) (t_thrown : Int32) (t_length : Int32) (t_size : Int32) (t_p : Int32) (t_limit : Int32) (t_token : Int32) (t_at : Int32) (t_span : Int32) (t_number : Int32) (t_fault : Int32) (t_faultAt : Int32) (t_word : Int64) (t_got : Int32) (t_lines : Int32) (t_hasWait : Int32) (t_undoMany : Int32) (t_firstMinute : Int32) (t_lookClock : Int32) (t_hasTime : Int32) (t_latestMost : Int32) (t_textMany : Int32) (t_seed : Int32) (t_toldMany : Int32) (t_hasTold : Int32) (t_codes : Int32) (t_ones : Int32) (t_top : Int32) (t_deep : Int32) (t_isWhole : Int32) (t_s : Nat → Int32) (t_undone : Nat → Int32) : va_W := [(q_t, .inr (13, [.int t_thrown, .ref q_t_tape, .int t_length, .int t_size, .int t_p, .int t_limit, .ref q_t_s, .ref q_t_h, .ref q_t_read, .ref q_t_names, .ref q_t_reserved, .int t_token, .int t_at, .int t_span, .int t_number, .int t_fault, .int t_faultAt, .long t_word, .int t_got, .int t_lines, .int t_hasWait, .ref q_t_undone, .ref q_t_before, .int t_undoMany, .ref q_t_comeRow, .int t_firstMinute, .int t_lookClock, .int t_hasTime, .ref q_t_shown, .int t_latestMost, .ref q_t_text, .int t_textMany, .int t_seed, .int t_toldMany, .ref q_t_toldAt, .int t_hasTold, .ref q_t_stack, .int t_codes, .int t_ones, .int t_top, .int t_deep, .int t_isWhole, .ref q_t_truths, .ref q_t_imaged, .ref q_t_namesKept, .ref q_t_areKept])), (q_t_s, .inl (cy 1, 334, .inl t_s)), (q_t_undone, .inl (cy 1, 808, .inl t_undone))]
theorem iX12_move_X12 : ∀ w ∈ wsX120, w ∈ wsX12_move := fun _ h => List.mem_cons_of_mem _ (List.mem_append_right _ h)
abbrev rm_X12_move : Room := { frames := 2, cells := 0, slots := 0, locals := 46 }
set_option maxRecDepth 100000 in
def f_X12_move (N : Nat) (x0 : Int32) (x1 : Int32) (t_thrown : Int32) (t_undoMany : Int32) (t_s : Nat → Int32) (t_undone : Nat → Int32) : Option (Int32 × Int32 × Int32 × (Nat → Int32) × (Nat → Int32)) := zcl (f_X12_isMeet N x0 t_s) fun z7 => if z7 = 0 then (some ((-1), 0, t_undoMany, t_s, t_undone)) else (zcl (f_X12_isIn N x1 0 1999) fun z18 => if z18 = 0 then (some ((-1), 0, t_undoMany, t_s, t_undone)) else (zcl (f_X12_whyMove N x0 x1 t_s) fun z29 => if z29 ≤ 0 then (zcl (f_X12_keep N t_undoMany t_undone t_s) fun z40 => zck (zin (75 + x0) 334) <| zbn (upd t_s (Int32.toNatClampNeg (75 + x0)) x1) fun f1 => some (0, 0, z40.1, f1, z40.2)) else (some (z29, 0, t_undoMany, t_s, t_undone))))
set_option maxHeartbeats 4000000 in
set_option maxRecDepth 100000 in
theorem c_X12_move (l : Launch) (G : va_G) (cy : Nat → ClassId) (E : Nat → Nat) (N : Nat) (q_t q_t_tape q_t_s q_t_h q_t_read q_t_names q_t_reserved q_t_undone q_t_before q_t_comeRow q_t_shown q_t_text q_t_toldAt q_t_stack q_t_truths q_t_imaged q_t_namesKept q_t_areKept : Nat) (t_thrown : Int32) (t_length : Int32) (t_size : Int32) (t_p : Int32) (t_limit : Int32) (t_token : Int32) (t_at : Int32) (t_span : Int32) (t_number : Int32) (t_fault : Int32) (t_faultAt : Int32) (t_word : Int64) (t_got : Int32) (t_lines : Int32) (t_hasWait : Int32) (t_undoMany : Int32) (t_firstMinute : Int32) (t_lookClock : Int32) (t_hasTime : Int32) (t_latestMost : Int32) (t_textMany : Int32) (t_seed : Int32) (t_toldMany : Int32) (t_hasTold : Int32) (t_codes : Int32) (t_ones : Int32) (t_top : Int32) (t_deep : Int32) (t_isWhole : Int32) (t_s : Nat → Int32) (t_undone : Nat → Int32) (x0 : Int32) (x1 : Int32) (r : Int32) (r_t_thrown : Int32) (r_t_undoMany : Int32) (r_t_s : Nat → Int32) (r_t_undone : Nat → Int32) (h : f_X12_move N x0 x1 t_thrown t_undoMany t_s t_undone = some (r, r_t_thrown, r_t_undoMany, r_t_s, r_t_undone)) : zM l G cy E yX12_move wsX12_move rm_X12_move [.ref q_t, .int x0, .int x1] (wd_X12_move cy q_t q_t_tape q_t_s q_t_h q_t_read q_t_names q_t_reserved q_t_undone q_t_before q_t_comeRow q_t_shown q_t_text q_t_toldAt q_t_stack q_t_truths q_t_imaged q_t_namesKept q_t_areKept t_thrown t_length t_size t_p t_limit t_token t_at t_span t_number t_fault t_faultAt t_word t_got t_lines t_hasWait t_undoMany t_firstMinute t_lookClock t_hasTime t_latestMost t_textMany t_seed t_toldMany t_hasTold t_codes t_ones t_top t_deep t_isWhole t_s t_undone) (wd_X12_move cy q_t q_t_tape q_t_s q_t_h q_t_read q_t_names q_t_reserved q_t_undone q_t_before q_t_comeRow q_t_shown q_t_text q_t_toldAt q_t_stack q_t_truths q_t_imaged q_t_namesKept q_t_areKept r_t_thrown t_length t_size t_p t_limit t_token t_at t_span t_number t_fault t_faultAt t_word t_got t_lines t_hasWait r_t_undoMany t_firstMinute t_lookClock t_hasTime t_latestMost t_textMany t_seed t_toldMany t_hasTold t_codes t_ones t_top t_deep t_isWhole r_t_s r_t_undone) (some (.int r)) 0 0 := by
  refine z_body (cc := cX12_move) (maxL := 4) (ret := some .int) (by decide) rfl (Nat.le_of_ble_eq_true rfl) ?_
  intro p e s m below meth c ls S hr hlocks hnm hF hH hl
  have S : CallFix p m c cX12_move 4 s ([.ref q_t, .int x0, .int x1] : List Value).toArray wsX12_move RX12 := S
  obtain ⟨hx, hb, hml, hown, hts⟩ := id S
  have hl : lv_has ls 4 [(0, .ref q_t), (1, .int x0), (2, .int x1)] := hl
  rw [f_X12_move] at h
  refine lv_aload_n hx hb dX12_move_0 rfl (lv_at hl 0 rfl) ?_
  refine lv_iconst (v := 0) hx hb dX12_move_1 (by decide) ?_
  refine z_put (ws' := (wd_X12_move cy q_t q_t_tape q_t_s q_t_h q_t_read q_t_names q_t_reserved q_t_undone q_t_before q_t_comeRow q_t_shown q_t_text q_t_toldAt q_t_stack q_t_truths q_t_imaged q_t_namesKept q_t_areKept 0 t_length t_size t_p t_limit t_token t_at t_span t_number t_fault t_faultAt t_word t_got t_lines t_hasWait t_undoMany t_firstMinute t_lookClock t_hasTime t_latestMost t_textMany t_seed t_toldMany t_hasTold t_codes t_ones t_top t_deep t_isWhole t_s t_undone)) S hF hH iX12_move_X12 tyX12 tyX12_ok nmX12 0 rfl rfl 0 (by decide) (List.mem_of_getElem? (i := 1) rfl) rfl rfl rfl (Nat.le_of_ble_eq_true rfl) rfl dX12_move_2 (fun H locs hH => ?_)
  refine lv_aload_n hx hb dX12_move_5 rfl (lv_at hl 0 rfl) ?_
  refine lv_iload_n hx hb dX12_move_6 rfl (lv_at hl 1 rfl) ?_
  obtain ⟨z7, hz7, h⟩ := zcl_e h
  refine z_callV (As := [.int x0]) (rest := []) (st1 := [.int z7]) (ws' := (wd_X12_move cy q_t q_t_tape q_t_s q_t_h q_t_read q_t_names q_t_reserved q_t_undone q_t_before q_t_comeRow q_t_shown q_t_text q_t_toldAt q_t_stack q_t_truths q_t_imaged q_t_namesKept q_t_areKept 0 t_length t_size t_p t_limit t_token t_at t_span t_number t_fault t_faultAt t_word t_got t_lines t_hasWait t_undoMany t_firstMinute t_lookClock t_hasTime t_latestMost t_textMany t_seed t_toldMany t_hasTold t_codes t_ones t_top t_deep t_isWhole t_s t_undone)) S hF hH (c_X12_isMeet l G cy E N q_t q_t_tape q_t_s q_t_h q_t_read q_t_names q_t_reserved q_t_undone q_t_before q_t_comeRow q_t_shown q_t_text q_t_toldAt q_t_stack q_t_truths q_t_imaged q_t_namesKept q_t_areKept 0 t_length t_size t_p t_limit t_token t_at t_span t_number t_fault t_faultAt t_word t_got t_lines t_hasWait t_undoMany t_firstMinute t_lookClock t_hasTime t_latestMost t_textMany t_seed t_toldMany t_hasTold t_codes t_ones t_top t_deep t_isWhole t_s x0 z7 hz7) (cwV 1 hts gX12_move_X12_isMeet rfl rfl rfl (by decide +kernel) ⟨Nat.le_of_ble_eq_true rfl, Nat.le_of_ble_eq_true rfl⟩) 13 0 rfl rfl [0, 1] rfl (by decide) rfl rfl rfl rfl rfl hl.1 (Nat.le_of_ble_eq_true rfl) dX12_move_7 ⟨Nat.le_of_ble_eq_true rfl, Nat.le_of_ble_eq_true rfl⟩ (fun H locs hH => ?_)
  refine lv_if_eq (tgt := 24) hx hb dX12_move_10 (by decide) (fun b10 => ?_) (fun b10 => ?_)
  · replace h := zif_t b10 h
    refine lv_iconst (v := (-1)) hx hb dX12_move_24 (by decide) ?_
    cases h
    exact z_iret S hr hlocks hH dX12_move_25
  · replace h := zif_f b10 h
    refine lv_iload_n hx hb dX12_move_13 rfl (lv_at hl 2 rfl) ?_
    refine lv_iconst (v := 0) hx hb dX12_move_14 (by decide) ?_
    refine lv_sipush (v := 1999) hx hb dX12_move_15 (by decide) ?_
    obtain ⟨z18, hz18, h⟩ := zcl_e h
    refine z_callS (As := [.int x1, .int 0, .int 1999]) (rest := []) (st1 := [.int z18]) (ws' := (wd_X12_move cy q_t q_t_tape q_t_s q_t_h q_t_read q_t_names q_t_reserved q_t_undone q_t_before q_t_comeRow q_t_shown q_t_text q_t_toldAt q_t_stack q_t_truths q_t_imaged q_t_namesKept q_t_areKept 0 t_length t_size t_p t_limit t_token t_at t_span t_number t_fault t_faultAt t_word t_got t_lines t_hasWait t_undoMany t_firstMinute t_lookClock t_hasTime t_latestMost t_textMany t_seed t_toldMany t_hasTold t_codes t_ones t_top t_deep t_isWhole t_s t_undone)) S hF hH (c_X12_isIn l G cy E N x1 0 1999 z18 hz18) (cwS 3 hts gX12_move_X12_isIn rfl rfl rfl (by decide +kernel) ⟨Nat.le_of_ble_eq_true rfl, Nat.le_of_ble_eq_true rfl⟩) [] rfl (by decide) rfl rfl rfl rfl rfl hl.1 (Nat.le_of_ble_eq_true rfl) dX12_move_18 ⟨Nat.le_of_ble_eq_true rfl, Nat.le_of_ble_eq_true rfl⟩ (fun H locs hH => ?_)
    refine lv_if_ne (tgt := 26) hx hb dX12_move_21 (by decide) (fun b21 => ?_) (fun b21 => ?_)
    · replace h := zif_f b21 h
      refine lv_aload_n hx hb dX12_move_26 rfl (lv_at hl 0 rfl) ?_
      refine lv_iload_n hx hb dX12_move_27 rfl (lv_at hl 1 rfl) ?_
      refine lv_iload_n hx hb dX12_move_28 rfl (lv_at hl 2 rfl) ?_
      obtain ⟨z29, hz29, h⟩ := zcl_e h
      refine z_callV (As := [.int x0, .int x1]) (rest := []) (st1 := [.int z29]) (ws' := (wd_X12_move cy q_t q_t_tape q_t_s q_t_h q_t_read q_t_names q_t_reserved q_t_undone q_t_before q_t_comeRow q_t_shown q_t_text q_t_toldAt q_t_stack q_t_truths q_t_imaged q_t_namesKept q_t_areKept 0 t_length t_size t_p t_limit t_token t_at t_span t_number t_fault t_faultAt t_word t_got t_lines t_hasWait t_undoMany t_firstMinute t_lookClock t_hasTime t_latestMost t_textMany t_seed t_toldMany t_hasTold t_codes t_ones t_top t_deep t_isWhole t_s t_undone)) S hF hH (c_X12_whyMove l G cy E N q_t q_t_tape q_t_s q_t_h q_t_read q_t_names q_t_reserved q_t_undone q_t_before q_t_comeRow q_t_shown q_t_text q_t_toldAt q_t_stack q_t_truths q_t_imaged q_t_namesKept q_t_areKept 0 t_length t_size t_p t_limit t_token t_at t_span t_number t_fault t_faultAt t_word t_got t_lines t_hasWait t_undoMany t_firstMinute t_lookClock t_hasTime t_latestMost t_textMany t_seed t_toldMany t_hasTold t_codes t_ones t_top t_deep t_isWhole t_s x0 x1 z29 hz29) (cwV 2 hts gX12_move_X12_whyMove rfl rfl rfl (by decide +kernel) ⟨Nat.le_of_ble_eq_true rfl, Nat.le_of_ble_eq_true rfl⟩) 13 0 rfl rfl [0, 1] rfl (by decide) rfl rfl rfl rfl rfl hl.1 (Nat.le_of_ble_eq_true rfl) dX12_move_29 ⟨Nat.le_of_ble_eq_true rfl, Nat.le_of_ble_eq_true rfl⟩ (fun H locs hH => ?_)
      refine lv_istore_n (lv' := [(3, .int z29), (0, .ref q_t), (1, .int x0), (2, .int x1)]) hx hb dX12_move_32 rfl hl (by decide) rfl (fun ls hl => ?_)
      refine lv_iload_n hx hb dX12_move_33 rfl (lv_at hl 0 rfl) ?_
      refine lv_if_le (tgt := 39) hx hb dX12_move_34 (by decide) (fun b34 => ?_) (fun b34 => ?_)
      · replace h := zif_t b34 h
        refine lv_aload_n hx hb dX12_move_39 rfl (lv_at hl 1 rfl) ?_
        obtain ⟨z40, hz40, h⟩ := zcl_e h
        refine z_callV (As := []) (rest := []) (st1 := []) (ws' := (wd_X12_move cy q_t q_t_tape q_t_s q_t_h q_t_read q_t_names q_t_reserved q_t_undone q_t_before q_t_comeRow q_t_shown q_t_text q_t_toldAt q_t_stack q_t_truths q_t_imaged q_t_namesKept q_t_areKept 0 t_length t_size t_p t_limit t_token t_at t_span t_number t_fault t_faultAt t_word t_got t_lines t_hasWait z40.1 t_firstMinute t_lookClock t_hasTime t_latestMost t_textMany t_seed t_toldMany t_hasTold t_codes t_ones t_top t_deep t_isWhole t_s z40.2)) S hF hH (c_X12_keep l G cy E N q_t q_t_tape q_t_s q_t_h q_t_read q_t_names q_t_reserved q_t_undone q_t_before q_t_comeRow q_t_shown q_t_text q_t_toldAt q_t_stack q_t_truths q_t_imaged q_t_namesKept q_t_areKept 0 t_length t_size t_p t_limit t_token t_at t_span t_number t_fault t_faultAt t_word t_got t_lines t_hasWait t_undoMany t_firstMinute t_lookClock t_hasTime t_latestMost t_textMany t_seed t_toldMany t_hasTold t_codes t_ones t_top t_deep t_isWhole t_undone t_s z40.1 z40.2 hz40) (cwV 0 hts gX12_move_X12_keep rfl rfl rfl (by decide +kernel) ⟨Nat.le_of_ble_eq_true rfl, Nat.le_of_ble_eq_true rfl⟩) 13 0 rfl rfl [0, 2, 1] rfl (by decide) rfl rfl rfl rfl rfl hl.1 (Nat.le_of_ble_eq_true rfl) dX12_move_40 ⟨Nat.le_of_ble_eq_true rfl, Nat.le_of_ble_eq_true rfl⟩ (fun H locs hH => ?_)
        refine lv_aload_n hx hb dX12_move_43 rfl (lv_at hl 1 rfl) ?_
        refine z_get S hF hH iX12_move_X12 0 rfl rfl 6 (by decide) (List.mem_of_getElem? (i := 2) rfl) rfl dX12_move_44 ?_
        refine lv_bipush (v := 75) hx hb dX12_move_47 (by decide) ?_
        refine lv_iload_n hx hb dX12_move_49 rfl (lv_at hl 2 rfl) ?_
        refine lv_iadd hx hb dX12_move_50 ?_
        refine lv_iload_n hx hb dX12_move_51 rfl (lv_at hl 3 rfl) ?_
        obtain ⟨h52, h⟩ := zck_e h
        obtain ⟨f1, ef1, h⟩ := zbn_e h
        refine z_iast (ws' := (wd_X12_move cy q_t q_t_tape q_t_s q_t_h q_t_read q_t_names q_t_reserved q_t_undone q_t_before q_t_comeRow q_t_shown q_t_text q_t_toldAt q_t_stack q_t_truths q_t_imaged q_t_namesKept q_t_areKept 0 t_length t_size t_p t_limit t_token t_at t_span t_number t_fault t_faultAt t_word t_got t_lines t_hasWait z40.1 t_firstMinute t_lookClock t_hasTime t_latestMost t_textMany t_seed t_toldMany t_hasTold t_codes t_ones t_top t_deep t_isWhole f1 z40.2)) (j := (Int32.toNatClampNeg (75 + x0))) S hF hH 1 rfl h52 rfl (by rw [ef1]; rfl) dX12_move_52 (fun H locs hH => ?_)
        clear ef1
        refine lv_iconst (v := 0) hx hb dX12_move_53 (by decide) ?_
        cases h
        exact z_iret S hr hlocks hH dX12_move_54
      · replace h := zif_f b34 h
        refine lv_iload_n hx hb dX12_move_37 rfl (lv_at hl 0 rfl) ?_
        cases h
        exact z_iret S hr hlocks hH dX12_move_38
    · replace h := zif_t b21 h
      refine lv_iconst (v := (-1)) hx hb dX12_move_24 (by decide) ?_
      cases h
      exact z_iret S hr hlocks hH dX12_move_25
abbrev wd_X12_minutes (cy : Nat → ClassId) (q_t q_t_tape q_t_s q_t_h q_t_read q_t_names q_t_reserved q_t_undone q_t_before q_t_comeRow q_t_shown q_t_text q_t_toldAt q_t_stack q_t_truths q_t_imaged q_t_namesKept q_t_areKept : Nat) (t_thrown : Int32) (t_length : Int32) (t_size : Int32) (t_p : Int32) (t_limit : Int32) (t_token : Int32) (t_at : Int32) (t_span : Int32) (t_number : Int32) (t_fault : Int32) (t_faultAt : Int32) (t_word : Int64) (t_got : Int32) (t_lines : Int32) (t_hasWait : Int32) (t_undoMany : Int32) (t_firstMinute : Int32) (t_lookClock : Int32) (t_hasTime : Int32) (t_latestMost : Int32) (t_textMany : Int32) (t_seed : Int32) (t_toldMany : Int32) (t_hasTold : Int32) (t_codes : Int32) (t_ones : Int32) (t_top : Int32) (t_deep : Int32) (t_isWhole : Int32) (t_s : Nat → Int32) (t_undone : Nat → Int32) : va_W := [(q_t, .inr (13, [.int t_thrown, .ref q_t_tape, .int t_length, .int t_size, .int t_p, .int t_limit, .ref q_t_s, .ref q_t_h, .ref q_t_read, .ref q_t_names, .ref q_t_reserved, .int t_token, .int t_at, .int t_span, .int t_number, .int t_fault, .int t_faultAt, .long t_word, .int t_got, .int t_lines, .int t_hasWait, .ref q_t_undone, .ref q_t_before, .int t_undoMany, .ref q_t_comeRow, .int t_firstMinute, .int t_lookClock, .int t_hasTime, .ref q_t_shown, .int t_latestMost, .ref q_t_text, .int t_textMany, .int t_seed, .int t_toldMany, .ref q_t_toldAt, .int t_hasTold, .ref q_t_stack, .int t_codes, .int t_ones, .int t_top, .int t_deep, .int t_isWhole, .ref q_t_truths, .ref q_t_imaged, .ref q_t_namesKept, .ref q_t_areKept])), (q_t_s, .inl (cy 1, 334, .inl t_s)), (q_t_undone, .inl (cy 1, 808, .inl t_undone))]
theorem iX12_minutes_X12 : ∀ w ∈ wsX120, w ∈ wsX12_minutes := fun _ h => List.mem_cons_of_mem _ (List.mem_append_right _ h)
abbrev rm_X12_minutes : Room := { frames := 6, cells := 0, slots := 0, locals := 132 }
set_option maxRecDepth 100000 in
def f_X12_minutes (N : Nat) (x0 : Int32) (t_thrown : Int32) (t_undoMany : Int32) (t_s : Nat → Int32) (t_undone : Nat → Int32) : Option (Int32 × Int32 × Int32 × (Nat → Int32) × (Nat → Int32)) := zcl (f_X12_isIn N x0 1 999) fun z10 => if z10 = 0 then (some ((-1), 0, t_undoMany, t_s, t_undone)) else (if (t_s 52) = 2000 then (some (0, 0, t_undoMany, t_s, t_undone)) else (zcl (f_X12_keep N t_undoMany t_undone t_s) fun z34 => zcl (f_X12_goesOn N x0 t_s) fun z39 => some (z39.1, 0, z34.1, z39.2, z34.2)))
set_option maxHeartbeats 4000000 in
set_option maxRecDepth 100000 in
theorem c_X12_minutes (l : Launch) (G : va_G) (cy : Nat → ClassId) (E : Nat → Nat) (N : Nat) (q_t q_t_tape q_t_s q_t_h q_t_read q_t_names q_t_reserved q_t_undone q_t_before q_t_comeRow q_t_shown q_t_text q_t_toldAt q_t_stack q_t_truths q_t_imaged q_t_namesKept q_t_areKept : Nat) (t_thrown : Int32) (t_length : Int32) (t_size : Int32) (t_p : Int32) (t_limit : Int32) (t_token : Int32) (t_at : Int32) (t_span : Int32) (t_number : Int32) (t_fault : Int32) (t_faultAt : Int32) (t_word : Int64) (t_got : Int32) (t_lines : Int32) (t_hasWait : Int32) (t_undoMany : Int32) (t_firstMinute : Int32) (t_lookClock : Int32) (t_hasTime : Int32) (t_latestMost : Int32) (t_textMany : Int32) (t_seed : Int32) (t_toldMany : Int32) (t_hasTold : Int32) (t_codes : Int32) (t_ones : Int32) (t_top : Int32) (t_deep : Int32) (t_isWhole : Int32) (t_s : Nat → Int32) (t_undone : Nat → Int32) (x0 : Int32) (r : Int32) (r_t_thrown : Int32) (r_t_undoMany : Int32) (r_t_s : Nat → Int32) (r_t_undone : Nat → Int32) (h : f_X12_minutes N x0 t_thrown t_undoMany t_s t_undone = some (r, r_t_thrown, r_t_undoMany, r_t_s, r_t_undone)) : zM l G cy E yX12_minutes wsX12_minutes rm_X12_minutes [.ref q_t, .int x0] (wd_X12_minutes cy q_t q_t_tape q_t_s q_t_h q_t_read q_t_names q_t_reserved q_t_undone q_t_before q_t_comeRow q_t_shown q_t_text q_t_toldAt q_t_stack q_t_truths q_t_imaged q_t_namesKept q_t_areKept t_thrown t_length t_size t_p t_limit t_token t_at t_span t_number t_fault t_faultAt t_word t_got t_lines t_hasWait t_undoMany t_firstMinute t_lookClock t_hasTime t_latestMost t_textMany t_seed t_toldMany t_hasTold t_codes t_ones t_top t_deep t_isWhole t_s t_undone) (wd_X12_minutes cy q_t q_t_tape q_t_s q_t_h q_t_read q_t_names q_t_reserved q_t_undone q_t_before q_t_comeRow q_t_shown q_t_text q_t_toldAt q_t_stack q_t_truths q_t_imaged q_t_namesKept q_t_areKept r_t_thrown t_length t_size t_p t_limit t_token t_at t_span t_number t_fault t_faultAt t_word t_got t_lines t_hasWait r_t_undoMany t_firstMinute t_lookClock t_hasTime t_latestMost t_textMany t_seed t_toldMany t_hasTold t_codes t_ones t_top t_deep t_isWhole r_t_s r_t_undone) (some (.int r)) 0 0 := by
  refine z_body (cc := cX12_minutes) (maxL := 2) (ret := some .int) (by decide) rfl (Nat.le_of_ble_eq_true rfl) ?_
  intro p e s m below meth c ls S hr hlocks hnm hF hH hl
  have S : CallFix p m c cX12_minutes 2 s ([.ref q_t, .int x0] : List Value).toArray wsX12_minutes RX12 := S
  obtain ⟨hx, hb, hml, hown, hts⟩ := id S
  have hl : lv_has ls 2 [(0, .ref q_t), (1, .int x0)] := hl
  rw [f_X12_minutes] at h
  refine lv_aload_n hx hb dX12_minutes_0 rfl (lv_at hl 0 rfl) ?_
  refine lv_iconst (v := 0) hx hb dX12_minutes_1 (by decide) ?_
  refine z_put (ws' := (wd_X12_minutes cy q_t q_t_tape q_t_s q_t_h q_t_read q_t_names q_t_reserved q_t_undone q_t_before q_t_comeRow q_t_shown q_t_text q_t_toldAt q_t_stack q_t_truths q_t_imaged q_t_namesKept q_t_areKept 0 t_length t_size t_p t_limit t_token t_at t_span t_number t_fault t_faultAt t_word t_got t_lines t_hasWait t_undoMany t_firstMinute t_lookClock t_hasTime t_latestMost t_textMany t_seed t_toldMany t_hasTold t_codes t_ones t_top t_deep t_isWhole t_s t_undone)) S hF hH iX12_minutes_X12 tyX12 tyX12_ok nmX12 0 rfl rfl 0 (by decide) (List.mem_of_getElem? (i := 1) rfl) rfl rfl rfl (Nat.le_of_ble_eq_true rfl) rfl dX12_minutes_2 (fun H locs hH => ?_)
  refine lv_iload_n hx hb dX12_minutes_5 rfl (lv_at hl 1 rfl) ?_
  refine lv_iconst (v := 1) hx hb dX12_minutes_6 (by decide) ?_
  refine lv_sipush (v := 999) hx hb dX12_minutes_7 (by decide) ?_
  obtain ⟨z10, hz10, h⟩ := zcl_e h
  refine z_callS (As := [.int x0, .int 1, .int 999]) (rest := []) (st1 := [.int z10]) (ws' := (wd_X12_minutes cy q_t q_t_tape q_t_s q_t_h q_t_read q_t_names q_t_reserved q_t_undone q_t_before q_t_comeRow q_t_shown q_t_text q_t_toldAt q_t_stack q_t_truths q_t_imaged q_t_namesKept q_t_areKept 0 t_length t_size t_p t_limit t_token t_at t_span t_number t_fault t_faultAt t_word t_got t_lines t_hasWait t_undoMany t_firstMinute t_lookClock t_hasTime t_latestMost t_textMany t_seed t_toldMany t_hasTold t_codes t_ones t_top t_deep t_isWhole t_s t_undone)) S hF hH (c_X12_isIn l G cy E N x0 1 999 z10 hz10) (cwS 3 hts gX12_minutes_X12_isIn rfl rfl rfl (by decide +kernel) ⟨Nat.le_of_ble_eq_true rfl, Nat.le_of_ble_eq_true rfl⟩) [] rfl (by decide) rfl rfl rfl rfl rfl hl.1 (Nat.le_of_ble_eq_true rfl) dX12_minutes_10 ⟨Nat.le_of_ble_eq_true rfl, Nat.le_of_ble_eq_true rfl⟩ (fun H locs hH => ?_)
  refine lv_if_ne (tgt := 18) hx hb dX12_minutes_13 (by decide) (fun b13 => ?_) (fun b13 => ?_)
  · replace h := zif_f b13 h
    refine lv_aload_n hx hb dX12_minutes_18 rfl (lv_at hl 0 rfl) ?_
    refine z_get S hF hH iX12_minutes_X12 0 rfl rfl 6 (by decide) (List.mem_of_getElem? (i := 2) rfl) rfl dX12_minutes_19 ?_
    refine lv_bipush (v := 52) hx hb dX12_minutes_22 (by decide) ?_
    refine z_iald (j := 52) S hF hH 1 rfl (by decide) rfl dX12_minutes_24 ?_
    refine lv_sipush (v := 2000) hx hb dX12_minutes_25 (by decide) ?_
    refine lv_icmp_ne (tgt := 33) hx hb dX12_minutes_28 (by decide) (fun b28 => ?_) (fun b28 => ?_)
    · replace h := zif_f b28 h
      refine lv_aload_n hx hb dX12_minutes_33 rfl (lv_at hl 0 rfl) ?_
      obtain ⟨z34, hz34, h⟩ := zcl_e h
      refine z_callV (As := []) (rest := []) (st1 := []) (ws' := (wd_X12_minutes cy q_t q_t_tape q_t_s q_t_h q_t_read q_t_names q_t_reserved q_t_undone q_t_before q_t_comeRow q_t_shown q_t_text q_t_toldAt q_t_stack q_t_truths q_t_imaged q_t_namesKept q_t_areKept 0 t_length t_size t_p t_limit t_token t_at t_span t_number t_fault t_faultAt t_word t_got t_lines t_hasWait z34.1 t_firstMinute t_lookClock t_hasTime t_latestMost t_textMany t_seed t_toldMany t_hasTold t_codes t_ones t_top t_deep t_isWhole t_s z34.2)) S hF hH (c_X12_keep l G cy E N q_t q_t_tape q_t_s q_t_h q_t_read q_t_names q_t_reserved q_t_undone q_t_before q_t_comeRow q_t_shown q_t_text q_t_toldAt q_t_stack q_t_truths q_t_imaged q_t_namesKept q_t_areKept 0 t_length t_size t_p t_limit t_token t_at t_span t_number t_fault t_faultAt t_word t_got t_lines t_hasWait t_undoMany t_firstMinute t_lookClock t_hasTime t_latestMost t_textMany t_seed t_toldMany t_hasTold t_codes t_ones t_top t_deep t_isWhole t_undone t_s z34.1 z34.2 hz34) (cwV 0 hts gX12_minutes_X12_keep rfl rfl rfl (by decide +kernel) ⟨Nat.le_of_ble_eq_true rfl, Nat.le_of_ble_eq_true rfl⟩) 13 0 rfl rfl [0, 2, 1] rfl (by decide) rfl rfl rfl rfl rfl hl.1 (Nat.le_of_ble_eq_true rfl) dX12_minutes_34 ⟨Nat.le_of_ble_eq_true rfl, Nat.le_of_ble_eq_true rfl⟩ (fun H locs hH => ?_)
      refine lv_aload_n hx hb dX12_minutes_37 rfl (lv_at hl 0 rfl) ?_
      refine lv_iload_n hx hb dX12_minutes_38 rfl (lv_at hl 1 rfl) ?_
      obtain ⟨z39, hz39, h⟩ := zcl_e h
      refine z_callV (As := [.int x0]) (rest := []) (st1 := [.int z39.1]) (ws' := (wd_X12_minutes cy q_t q_t_tape q_t_s q_t_h q_t_read q_t_names q_t_reserved q_t_undone q_t_before q_t_comeRow q_t_shown q_t_text q_t_toldAt q_t_stack q_t_truths q_t_imaged q_t_namesKept q_t_areKept 0 t_length t_size t_p t_limit t_token t_at t_span t_number t_fault t_faultAt t_word t_got t_lines t_hasWait z34.1 t_firstMinute t_lookClock t_hasTime t_latestMost t_textMany t_seed t_toldMany t_hasTold t_codes t_ones t_top t_deep t_isWhole z39.2 z34.2)) S hF hH (c_X12_goesOn l G cy E N q_t q_t_tape q_t_s q_t_h q_t_read q_t_names q_t_reserved q_t_undone q_t_before q_t_comeRow q_t_shown q_t_text q_t_toldAt q_t_stack q_t_truths q_t_imaged q_t_namesKept q_t_areKept 0 t_length t_size t_p t_limit t_token t_at t_span t_number t_fault t_faultAt t_word t_got t_lines t_hasWait z34.1 t_firstMinute t_lookClock t_hasTime t_latestMost t_textMany t_seed t_toldMany t_hasTold t_codes t_ones t_top t_deep t_isWhole t_s x0 z39.1 z39.2 hz39) (cwV 1 hts gX12_minutes_X12_goesOn rfl rfl rfl (by decide +kernel) ⟨Nat.le_of_ble_eq_true rfl, Nat.le_of_ble_eq_true rfl⟩) 13 0 rfl rfl [0, 1] rfl (by decide) rfl rfl rfl rfl rfl hl.1 (Nat.le_of_ble_eq_true rfl) dX12_minutes_39 ⟨Nat.le_of_ble_eq_true rfl, Nat.le_of_ble_eq_true rfl⟩ (fun H locs hH => ?_)
      cases h
      exact z_iret S hr hlocks hH dX12_minutes_42
    · replace h := zif_t b28 h
      refine lv_iconst (v := 0) hx hb dX12_minutes_31 (by decide) ?_
      cases h
      exact z_iret S hr hlocks hH dX12_minutes_32
  · replace h := zif_t b13 h
    refine lv_iconst (v := (-1)) hx hb dX12_minutes_16 (by decide) ?_
    cases h
    exact z_iret S hr hlocks hH dX12_minutes_17
abbrev wd_X12_undo (cy : Nat → ClassId) (q_t q_t_tape q_t_s q_t_h q_t_read q_t_names q_t_reserved q_t_undone q_t_before q_t_comeRow q_t_shown q_t_text q_t_toldAt q_t_stack q_t_truths q_t_imaged q_t_namesKept q_t_areKept : Nat) (t_thrown : Int32) (t_length : Int32) (t_size : Int32) (t_p : Int32) (t_limit : Int32) (t_token : Int32) (t_at : Int32) (t_span : Int32) (t_number : Int32) (t_fault : Int32) (t_faultAt : Int32) (t_word : Int64) (t_got : Int32) (t_lines : Int32) (t_hasWait : Int32) (t_undoMany : Int32) (t_firstMinute : Int32) (t_lookClock : Int32) (t_hasTime : Int32) (t_latestMost : Int32) (t_textMany : Int32) (t_seed : Int32) (t_toldMany : Int32) (t_hasTold : Int32) (t_codes : Int32) (t_ones : Int32) (t_top : Int32) (t_deep : Int32) (t_isWhole : Int32) (t_undone : Nat → Int32) (t_s : Nat → Int32) : va_W := [(q_t, .inr (13, [.int t_thrown, .ref q_t_tape, .int t_length, .int t_size, .int t_p, .int t_limit, .ref q_t_s, .ref q_t_h, .ref q_t_read, .ref q_t_names, .ref q_t_reserved, .int t_token, .int t_at, .int t_span, .int t_number, .int t_fault, .int t_faultAt, .long t_word, .int t_got, .int t_lines, .int t_hasWait, .ref q_t_undone, .ref q_t_before, .int t_undoMany, .ref q_t_comeRow, .int t_firstMinute, .int t_lookClock, .int t_hasTime, .ref q_t_shown, .int t_latestMost, .ref q_t_text, .int t_textMany, .int t_seed, .int t_toldMany, .ref q_t_toldAt, .int t_hasTold, .ref q_t_stack, .int t_codes, .int t_ones, .int t_top, .int t_deep, .int t_isWhole, .ref q_t_truths, .ref q_t_imaged, .ref q_t_namesKept, .ref q_t_areKept])), (q_t_undone, .inl (cy 1, 808, .inl t_undone)), (q_t_s, .inl (cy 1, 334, .inl t_s))]
theorem iX12_undo_X12 : ∀ w ∈ wsX120, w ∈ wsX12_undo := fun _ h => List.mem_cons_of_mem _ (List.mem_append_right _ h)
abbrev rm_X12_undo : Room := { frames := 0, cells := 0, slots := 0, locals := 0 }
set_option maxRecDepth 100000 in
def f_X12_undo_26 (N : Nat) (t_undone : Nat → Int32) : Nat → Int32 → Int32 → Int32 → (Nat → Int32) → (Option (Int32 × Int32 × Int32 × (Nat → Int32)))
  | 0, _, _, _, _ => none
  | n + 1, x1, c_t_thrown, c_t_undoMany, c_t_s => if 101 ≤ x1 then (some (c_t_undoMany, c_t_thrown, c_t_undoMany, c_t_s)) else (zck (zin ((101 * c_t_undoMany) + x1) 808) <| zbn ((t_undone (Int32.toNatClampNeg ((101 * c_t_undoMany) + x1)))) fun y1 => zck (zin (52 + x1) 334) <| zbn (upd c_t_s (Int32.toNatClampNeg (52 + x1)) y1) fun f2 => zbn (x1 + 1) fun y3 => f_X12_undo_26 N t_undone n y3 c_t_thrown c_t_undoMany f2)
set_option maxRecDepth 100000 in
def f_X12_undo (N : Nat) (t_thrown : Int32) (t_undoMany : Int32) (t_undone : Nat → Int32) (t_s : Nat → Int32) : Option (Int32 × Int32 × Int32 × (Nat → Int32)) := if t_undoMany = 0 then (some ((-1), 0, t_undoMany, t_s)) else (zbn ((t_undoMany - 1)) fun y1 => f_X12_undo_26 N t_undone N 0 0 y1 t_s)
set_option maxHeartbeats 4000000 in
set_option maxRecDepth 100000 in
theorem w_X12_undo_26 {p : Program} {l : Launch} {e : Env} {s : State} {m : MethodId} {args : Array Value} {below : List Frame} {meth : Method} {c : Code} {G : va_G} {cy : Nat → ClassId} {E : Nat → Nat} {w0 : va_W} {N : Nat} {q_t q_t_tape q_t_s q_t_h q_t_read q_t_names q_t_reserved q_t_undone q_t_before q_t_comeRow q_t_shown q_t_text q_t_toldAt q_t_stack q_t_truths q_t_imaged q_t_namesKept q_t_areKept : Nat} {t_length : Int32} {t_size : Int32} {t_p : Int32} {t_limit : Int32} {t_token : Int32} {t_at : Int32} {t_span : Int32} {t_number : Int32} {t_fault : Int32} {t_faultAt : Int32} {t_word : Int64} {t_got : Int32} {t_lines : Int32} {t_hasWait : Int32} {t_firstMinute : Int32} {t_lookClock : Int32} {t_hasTime : Int32} {t_latestMost : Int32} {t_textMany : Int32} {t_seed : Int32} {t_toldMany : Int32} {t_hasTold : Int32} {t_codes : Int32} {t_ones : Int32} {t_top : Int32} {t_deep : Int32} {t_isWhole : Int32} {t_undone : Nat → Int32} {r : Int32} {r_t_thrown : Int32} {r_t_undoMany : Int32} {r_t_s : Nat → Int32} (S : CallFix p m c cX12_undo 2 s args wsX12_undo RX12) (hr : meth.sig.returnType = some .int) (hlocks : meth.locks = false) (hF : zF G cy E (va_A w0 s.heap.size) s) :
    ∀ (n : Nat) (x1 : Int32) (c_t_thrown : Int32) (c_t_undoMany : Int32) (c_t_s : Nat → Int32) (H : Heap) (locs : List Loc) (ls : Array Slot), zH G (va_A w0 s.heap.size) s H locs (wd_X12_undo cy q_t q_t_tape q_t_s q_t_h q_t_read q_t_names q_t_reserved q_t_undone q_t_before q_t_comeRow q_t_shown q_t_text q_t_toldAt q_t_stack q_t_truths q_t_imaged q_t_namesKept q_t_areKept c_t_thrown t_length t_size t_p t_limit t_token t_at t_span t_number t_fault t_faultAt t_word t_got t_lines t_hasWait c_t_undoMany t_firstMinute t_lookClock t_hasTime t_latestMost t_textMany t_seed t_toldMany t_hasTold t_codes t_ones t_top t_deep t_isWhole t_undone c_t_s) → lv_has ls 2 [(0, .ref q_t), (1, .int x1)] → f_X12_undo_26 N t_undone n x1 c_t_thrown c_t_undoMany c_t_s = some (r, r_t_thrown, r_t_undoMany, r_t_s) → W p l e rm_X12_undo s m args below meth c H locs 0 0 (MQ below (zQ G w0 (wd_X12_undo cy q_t q_t_tape q_t_s q_t_h q_t_read q_t_names q_t_reserved q_t_undone q_t_before q_t_comeRow q_t_shown q_t_text q_t_toldAt q_t_stack q_t_truths q_t_imaged q_t_namesKept q_t_areKept r_t_thrown t_length t_size t_p t_limit t_token t_at t_span t_number t_fault t_faultAt t_word t_got t_lines t_hasWait r_t_undoMany t_firstMinute t_lookClock t_hasTime t_latestMost t_textMany t_seed t_toldMany t_hasTold t_codes t_ones t_top t_deep t_isWhole t_undone r_t_s) s.heap.size (some (.int r))) args s 0 0 (va_A w0 s.heap.size)) (F0 m 26 ls []) := by
  obtain ⟨hx, hb, hml, hown, hts⟩ := id S
  intro n
  induction n with
  | zero =>
    intro x1 c_t_thrown c_t_undoMany c_t_s H locs ls hH hl h
    rw [f_X12_undo_26] at h
    cases h
  | succ n ih =>
    intro x1 c_t_thrown c_t_undoMany c_t_s H locs ls hH hl h
    rw [f_X12_undo_26] at h
    refine lv_iload_n hx hb dX12_undo_26 rfl (lv_at hl 1 rfl) ?_
    refine lv_bipush (v := 101) hx hb dX12_undo_27 (by decide) ?_
    refine lv_icmp_ge (tgt := 61) hx hb dX12_undo_29 (by decide) (fun b29 => ?_) (fun b29 => ?_)
    · replace h := zif_t b29 h
      refine lv_aload_n hx hb dX12_undo_61 rfl (lv_at hl 0 rfl) ?_
      refine z_get S hF hH iX12_undo_X12 0 rfl rfl 23 (by decide) (List.mem_of_getElem? (i := 2) rfl) rfl dX12_undo_62 ?_
      cases h
      exact z_iret S hr hlocks hH dX12_undo_65
    · replace h := zif_f b29 h
      refine lv_aload_n hx hb dX12_undo_32 rfl (lv_at hl 0 rfl) ?_
      refine z_get S hF hH iX12_undo_X12 0 rfl rfl 6 (by decide) (List.mem_of_getElem? (i := 3) rfl) rfl dX12_undo_33 ?_
      refine lv_bipush (v := 52) hx hb dX12_undo_36 (by decide) ?_
      refine lv_iload_n hx hb dX12_undo_38 rfl (lv_at hl 1 rfl) ?_
      refine lv_iadd hx hb dX12_undo_39 ?_
      refine lv_aload_n hx hb dX12_undo_40 rfl (lv_at hl 0 rfl) ?_
      refine z_get S hF hH iX12_undo_X12 0 rfl rfl 21 (by decide) (List.mem_of_getElem? (i := 4) rfl) rfl dX12_undo_41 ?_
      refine lv_bipush (v := 101) hx hb dX12_undo_44 (by decide) ?_
      refine lv_aload_n hx hb dX12_undo_46 rfl (lv_at hl 0 rfl) ?_
      refine z_get S hF hH iX12_undo_X12 0 rfl rfl 23 (by decide) (List.mem_of_getElem? (i := 2) rfl) rfl dX12_undo_47 ?_
      refine lv_imul hx hb dX12_undo_50 ?_
      refine lv_iload_n hx hb dX12_undo_51 rfl (lv_at hl 1 rfl) ?_
      refine lv_iadd hx hb dX12_undo_52 ?_
      obtain ⟨h53, h⟩ := zck_e h
      refine z_iald S hF hH 1 rfl h53 rfl dX12_undo_53 ?_
      obtain ⟨y1, ey1, h⟩ := zbn_e h
      refine z_top ey1 ?_
      clear ey1
      obtain ⟨h54, h⟩ := zck_e h
      obtain ⟨f2, ef2, h⟩ := zbn_e h
      refine z_iast (ws' := (wd_X12_undo cy q_t q_t_tape q_t_s q_t_h q_t_read q_t_names q_t_reserved q_t_undone q_t_before q_t_comeRow q_t_shown q_t_text q_t_toldAt q_t_stack q_t_truths q_t_imaged q_t_namesKept q_t_areKept c_t_thrown t_length t_size t_p t_limit t_token t_at t_span t_number t_fault t_faultAt t_word t_got t_lines t_hasWait c_t_undoMany t_firstMinute t_lookClock t_hasTime t_latestMost t_textMany t_seed t_toldMany t_hasTold t_codes t_ones t_top t_deep t_isWhole t_undone f2)) (j := (Int32.toNatClampNeg (52 + x1))) S hF hH 2 rfl h54 rfl (by rw [ef2]; rfl) dX12_undo_54 (fun H locs hH => ?_)
      clear ef2
      obtain ⟨y3, ey3, h⟩ := zbn_e h
      refine lv_iinc (v := y3) (lv' := [(1, .int y3), (0, .ref q_t)]) hx hb dX12_undo_55 hl (k := 1) rfl (by rw [ey3]; exact congrArg (fun z => x1 + z) (by decide)) (by decide) rfl (fun ls hl => ?_)
      clear ey3
      refine lv_goto (tgt := 26) hx hb dX12_undo_58 (by decide) ?_
      exact ih y3 c_t_thrown c_t_undoMany f2 _ _ _ hH (lv_sub hl [1, 0] rfl) h
set_option maxHeartbeats 4000000 in
set_option maxRecDepth 100000 in
theorem c_X12_undo (l : Launch) (G : va_G) (cy : Nat → ClassId) (E : Nat → Nat) (N : Nat) (q_t q_t_tape q_t_s q_t_h q_t_read q_t_names q_t_reserved q_t_undone q_t_before q_t_comeRow q_t_shown q_t_text q_t_toldAt q_t_stack q_t_truths q_t_imaged q_t_namesKept q_t_areKept : Nat) (t_thrown : Int32) (t_length : Int32) (t_size : Int32) (t_p : Int32) (t_limit : Int32) (t_token : Int32) (t_at : Int32) (t_span : Int32) (t_number : Int32) (t_fault : Int32) (t_faultAt : Int32) (t_word : Int64) (t_got : Int32) (t_lines : Int32) (t_hasWait : Int32) (t_undoMany : Int32) (t_firstMinute : Int32) (t_lookClock : Int32) (t_hasTime : Int32) (t_latestMost : Int32) (t_textMany : Int32) (t_seed : Int32) (t_toldMany : Int32) (t_hasTold : Int32) (t_codes : Int32) (t_ones : Int32) (t_top : Int32) (t_deep : Int32) (t_isWhole : Int32) (t_undone : Nat → Int32) (t_s : Nat → Int32) (r : Int32) (r_t_thrown : Int32) (r_t_undoMany : Int32) (r_t_s : Nat → Int32) (h : f_X12_undo N t_thrown t_undoMany t_undone t_s = some (r, r_t_thrown, r_t_undoMany, r_t_s)) : zM l G cy E yX12_undo wsX12_undo rm_X12_undo [.ref q_t] (wd_X12_undo cy q_t q_t_tape q_t_s q_t_h q_t_read q_t_names q_t_reserved q_t_undone q_t_before q_t_comeRow q_t_shown q_t_text q_t_toldAt q_t_stack q_t_truths q_t_imaged q_t_namesKept q_t_areKept t_thrown t_length t_size t_p t_limit t_token t_at t_span t_number t_fault t_faultAt t_word t_got t_lines t_hasWait t_undoMany t_firstMinute t_lookClock t_hasTime t_latestMost t_textMany t_seed t_toldMany t_hasTold t_codes t_ones t_top t_deep t_isWhole t_undone t_s) (wd_X12_undo cy q_t q_t_tape q_t_s q_t_h q_t_read q_t_names q_t_reserved q_t_undone q_t_before q_t_comeRow q_t_shown q_t_text q_t_toldAt q_t_stack q_t_truths q_t_imaged q_t_namesKept q_t_areKept r_t_thrown t_length t_size t_p t_limit t_token t_at t_span t_number t_fault t_faultAt t_word t_got t_lines t_hasWait r_t_undoMany t_firstMinute t_lookClock t_hasTime t_latestMost t_textMany t_seed t_toldMany t_hasTold t_codes t_ones t_top t_deep t_isWhole t_undone r_t_s) (some (.int r)) 0 0 := by
  refine z_body (cc := cX12_undo) (maxL := 2) (ret := some .int) (by decide) rfl (Nat.le_of_ble_eq_true rfl) ?_
  intro p e s m below meth c ls S hr hlocks hnm hF hH hl
  have S : CallFix p m c cX12_undo 2 s ([.ref q_t] : List Value).toArray wsX12_undo RX12 := S
  obtain ⟨hx, hb, hml, hown, hts⟩ := id S
  have hl : lv_has ls 2 [(0, .ref q_t)] := hl
  rw [f_X12_undo] at h
  refine lv_aload_n hx hb dX12_undo_0 rfl (lv_at hl 0 rfl) ?_
  refine lv_iconst (v := 0) hx hb dX12_undo_1 (by decide) ?_
  refine z_put (ws' := (wd_X12_undo cy q_t q_t_tape q_t_s q_t_h q_t_read q_t_names q_t_reserved q_t_undone q_t_before q_t_comeRow q_t_shown q_t_text q_t_toldAt q_t_stack q_t_truths q_t_imaged q_t_namesKept q_t_areKept 0 t_length t_size t_p t_limit t_token t_at t_span t_number t_fault t_faultAt t_word t_got t_lines t_hasWait t_undoMany t_firstMinute t_lookClock t_hasTime t_latestMost t_textMany t_seed t_toldMany t_hasTold t_codes t_ones t_top t_deep t_isWhole t_undone t_s)) S hF hH iX12_undo_X12 tyX12 tyX12_ok nmX12 0 rfl rfl 0 (by decide) (List.mem_of_getElem? (i := 1) rfl) rfl rfl rfl (Nat.le_of_ble_eq_true rfl) rfl dX12_undo_2 (fun H locs hH => ?_)
  refine lv_aload_n hx hb dX12_undo_5 rfl (lv_at hl 0 rfl) ?_
  refine z_get S hF hH iX12_undo_X12 0 rfl rfl 23 (by decide) (List.mem_of_getElem? (i := 2) rfl) rfl dX12_undo_6 ?_
  refine lv_if_ne (tgt := 14) hx hb dX12_undo_9 (by decide) (fun b9 => ?_) (fun b9 => ?_)
  · replace h := zif_f b9 h
    refine lv_aload_n hx hb dX12_undo_14 rfl (lv_at hl 0 rfl) ?_
    refine lv_dup hx hb dX12_undo_15 rfl ?_
    refine z_get S hF hH iX12_undo_X12 0 rfl rfl 23 (by decide) (List.mem_of_getElem? (i := 2) rfl) rfl dX12_undo_16 ?_
    refine lv_iconst (v := 1) hx hb dX12_undo_19 (by decide) ?_
    refine lv_isub hx hb dX12_undo_20 ?_
    obtain ⟨y1, ey1, h⟩ := zbn_e h
    refine z_top ey1 ?_
    clear ey1
    refine z_put (ws' := (wd_X12_undo cy q_t q_t_tape q_t_s q_t_h q_t_read q_t_names q_t_reserved q_t_undone q_t_before q_t_comeRow q_t_shown q_t_text q_t_toldAt q_t_stack q_t_truths q_t_imaged q_t_namesKept q_t_areKept 0 t_length t_size t_p t_limit t_token t_at t_span t_number t_fault t_faultAt t_word t_got t_lines t_hasWait y1 t_firstMinute t_lookClock t_hasTime t_latestMost t_textMany t_seed t_toldMany t_hasTold t_codes t_ones t_top t_deep t_isWhole t_undone t_s)) S hF hH iX12_undo_X12 tyX12 tyX12_ok nmX12 0 rfl rfl 23 (by decide) (List.mem_of_getElem? (i := 2) rfl) rfl rfl rfl (Nat.le_of_ble_eq_true rfl) rfl dX12_undo_21 (fun H locs hH => ?_)
    refine lv_iconst (v := 0) hx hb dX12_undo_24 (by decide) ?_
    refine lv_istore_n (lv' := [(1, .int 0), (0, .ref q_t)]) hx hb dX12_undo_25 rfl hl (by decide) rfl (fun ls hl => ?_)
    exact w_X12_undo_26 S hr hlocks hF N 0 0 y1 t_s _ _ _ hH (lv_sub hl [1, 0] rfl) h
  · replace h := zif_t b9 h
    refine lv_iconst (v := (-1)) hx hb dX12_undo_12 (by decide) ?_
    cases h
    exact z_iret S hr hlocks hH dX12_undo_13
abbrev wd_X12_tries (cy : Nat → ClassId) (q_t q_t_tape q_t_s q_t_h q_t_read q_t_names q_t_reserved q_t_undone q_t_before q_t_comeRow q_t_shown q_t_text q_t_toldAt q_t_stack q_t_truths q_t_imaged q_t_namesKept q_t_areKept : Nat) (t_thrown : Int32) (t_length : Int32) (t_size : Int32) (t_p : Int32) (t_limit : Int32) (t_token : Int32) (t_at : Int32) (t_span : Int32) (t_number : Int32) (t_fault : Int32) (t_faultAt : Int32) (t_word : Int64) (t_got : Int32) (t_lines : Int32) (t_hasWait : Int32) (t_undoMany : Int32) (t_firstMinute : Int32) (t_lookClock : Int32) (t_hasTime : Int32) (t_latestMost : Int32) (t_textMany : Int32) (t_seed : Int32) (t_toldMany : Int32) (t_hasTold : Int32) (t_codes : Int32) (t_ones : Int32) (t_top : Int32) (t_deep : Int32) (t_isWhole : Int32) (t_s : Nat → Int32) (t_before : Nat → Int32) : va_W := [(q_t, .inr (13, [.int t_thrown, .ref q_t_tape, .int t_length, .int t_size, .int t_p, .int t_limit, .ref q_t_s, .ref q_t_h, .ref q_t_read, .ref q_t_names, .ref q_t_reserved, .int t_token, .int t_at, .int t_span, .int t_number, .int t_fault, .int t_faultAt, .long t_word, .int t_got, .int t_lines, .int t_hasWait, .ref q_t_undone, .ref q_t_before, .int t_undoMany, .ref q_t_comeRow, .int t_firstMinute, .int t_lookClock, .int t_hasTime, .ref q_t_shown, .int t_latestMost, .ref q_t_text, .int t_textMany, .int t_seed, .int t_toldMany, .ref q_t_toldAt, .int t_hasTold, .ref q_t_stack, .int t_codes, .int t_ones, .int t_top, .int t_deep, .int t_isWhole, .ref q_t_truths, .ref q_t_imaged, .ref q_t_namesKept, .ref q_t_areKept])), (q_t_s, .inl (cy 1, 334, .inl t_s)), (q_t_before, .inl (cy 1, 101, .inl t_before))]
theorem iX12_tries_X12 : ∀ w ∈ wsX120, w ∈ wsX12_tries := fun _ h => List.mem_cons_of_mem _ (List.mem_append_right _ h)
abbrev rm_X12_tries : Room := { frames := 0, cells := 0, slots := 0, locals := 0 }
set_option maxRecDepth 100000 in
def f_X12_tries_2 (N : Nat) (t_s : Nat → Int32) : Nat → Int32 → (Nat → Int32) → (Option ((Nat → Int32)))
  | 0, _, _ => none
  | n + 1, x1, c_t_before => if 101 ≤ x1 then (some c_t_before) else (zck (zin (52 + x1) 334) <| zbn ((t_s (Int32.toNatClampNeg (52 + x1)))) fun y1 => zck (zin x1 101) <| zbn (upd c_t_before (Int32.toNatClampNeg x1) y1) fun f2 => zbn (x1 + 1) fun y3 => f_X12_tries_2 N t_s n y3 f2)
set_option maxRecDepth 100000 in
def f_X12_tries (N : Nat) (t_s : Nat → Int32) (t_before : Nat → Int32) : Option ((Nat → Int32)) := f_X12_tries_2 N t_s N 0 t_before
set_option maxHeartbeats 4000000 in
set_option maxRecDepth 100000 in
theorem w_X12_tries_2 {p : Program} {l : Launch} {e : Env} {s : State} {m : MethodId} {args : Array Value} {below : List Frame} {meth : Method} {c : Code} {G : va_G} {cy : Nat → ClassId} {E : Nat → Nat} {w0 : va_W} {N : Nat} {q_t q_t_tape q_t_s q_t_h q_t_read q_t_names q_t_reserved q_t_undone q_t_before q_t_comeRow q_t_shown q_t_text q_t_toldAt q_t_stack q_t_truths q_t_imaged q_t_namesKept q_t_areKept : Nat} {t_thrown : Int32} {t_length : Int32} {t_size : Int32} {t_p : Int32} {t_limit : Int32} {t_token : Int32} {t_at : Int32} {t_span : Int32} {t_number : Int32} {t_fault : Int32} {t_faultAt : Int32} {t_word : Int64} {t_got : Int32} {t_lines : Int32} {t_hasWait : Int32} {t_undoMany : Int32} {t_firstMinute : Int32} {t_lookClock : Int32} {t_hasTime : Int32} {t_latestMost : Int32} {t_textMany : Int32} {t_seed : Int32} {t_toldMany : Int32} {t_hasTold : Int32} {t_codes : Int32} {t_ones : Int32} {t_top : Int32} {t_deep : Int32} {t_isWhole : Int32} {t_s : Nat → Int32} {r_t_before : Nat → Int32} (S : CallFix p m c cX12_tries 2 s args wsX12_tries RX12) (hr : meth.sig.returnType = none) (hlocks : meth.locks = false) (hF : zF G cy E (va_A w0 s.heap.size) s) :
    ∀ (n : Nat) (x1 : Int32) (c_t_before : Nat → Int32) (H : Heap) (locs : List Loc) (ls : Array Slot), zH G (va_A w0 s.heap.size) s H locs (wd_X12_tries cy q_t q_t_tape q_t_s q_t_h q_t_read q_t_names q_t_reserved q_t_undone q_t_before q_t_comeRow q_t_shown q_t_text q_t_toldAt q_t_stack q_t_truths q_t_imaged q_t_namesKept q_t_areKept t_thrown t_length t_size t_p t_limit t_token t_at t_span t_number t_fault t_faultAt t_word t_got t_lines t_hasWait t_undoMany t_firstMinute t_lookClock t_hasTime t_latestMost t_textMany t_seed t_toldMany t_hasTold t_codes t_ones t_top t_deep t_isWhole t_s c_t_before) → lv_has ls 2 [(0, .ref q_t), (1, .int x1)] → f_X12_tries_2 N t_s n x1 c_t_before = some r_t_before → W p l e rm_X12_tries s m args below meth c H locs 0 0 (MQ below (zQ G w0 (wd_X12_tries cy q_t q_t_tape q_t_s q_t_h q_t_read q_t_names q_t_reserved q_t_undone q_t_before q_t_comeRow q_t_shown q_t_text q_t_toldAt q_t_stack q_t_truths q_t_imaged q_t_namesKept q_t_areKept t_thrown t_length t_size t_p t_limit t_token t_at t_span t_number t_fault t_faultAt t_word t_got t_lines t_hasWait t_undoMany t_firstMinute t_lookClock t_hasTime t_latestMost t_textMany t_seed t_toldMany t_hasTold t_codes t_ones t_top t_deep t_isWhole t_s r_t_before) s.heap.size none) args s 0 0 (va_A w0 s.heap.size)) (F0 m 2 ls []) := by
  obtain ⟨hx, hb, hml, hown, hts⟩ := id S
  intro n
  induction n with
  | zero =>
    intro x1 c_t_before H locs ls hH hl h
    rw [f_X12_tries_2] at h
    cases h
  | succ n ih =>
    intro x1 c_t_before H locs ls hH hl h
    rw [f_X12_tries_2] at h
    refine lv_iload_n hx hb dX12_tries_2 rfl (lv_at hl 1 rfl) ?_
    refine lv_bipush (v := 101) hx hb dX12_tries_3 (by decide) ?_
    refine lv_icmp_ge (tgt := 29) hx hb dX12_tries_5 (by decide) (fun b5 => ?_) (fun b5 => ?_)
    · replace h := zif_t b5 h
      cases h
      exact z_vret S hr hlocks hH dX12_tries_29
    · replace h := zif_f b5 h
      refine lv_aload_n hx hb dX12_tries_8 rfl (lv_at hl 0 rfl) ?_
      refine z_get S hF hH iX12_tries_X12 0 rfl rfl 22 (by decide) (List.mem_of_getElem? (i := 1) rfl) rfl dX12_tries_9 ?_
      refine lv_iload_n hx hb dX12_tries_12 rfl (lv_at hl 1 rfl) ?_
      refine lv_aload_n hx hb dX12_tries_13 rfl (lv_at hl 0 rfl) ?_
      refine z_get S hF hH iX12_tries_X12 0 rfl rfl 6 (by decide) (List.mem_of_getElem? (i := 2) rfl) rfl dX12_tries_14 ?_
      refine lv_bipush (v := 52) hx hb dX12_tries_17 (by decide) ?_
      refine lv_iload_n hx hb dX12_tries_19 rfl (lv_at hl 1 rfl) ?_
      refine lv_iadd hx hb dX12_tries_20 ?_
      obtain ⟨h21, h⟩ := zck_e h
      refine z_iald S hF hH 1 rfl h21 rfl dX12_tries_21 ?_
      obtain ⟨y1, ey1, h⟩ := zbn_e h
      refine z_top ey1 ?_
      clear ey1
      obtain ⟨h22, h⟩ := zck_e h
      obtain ⟨f2, ef2, h⟩ := zbn_e h
      refine z_iast (ws' := (wd_X12_tries cy q_t q_t_tape q_t_s q_t_h q_t_read q_t_names q_t_reserved q_t_undone q_t_before q_t_comeRow q_t_shown q_t_text q_t_toldAt q_t_stack q_t_truths q_t_imaged q_t_namesKept q_t_areKept t_thrown t_length t_size t_p t_limit t_token t_at t_span t_number t_fault t_faultAt t_word t_got t_lines t_hasWait t_undoMany t_firstMinute t_lookClock t_hasTime t_latestMost t_textMany t_seed t_toldMany t_hasTold t_codes t_ones t_top t_deep t_isWhole t_s f2)) (j := (Int32.toNatClampNeg x1)) S hF hH 2 rfl h22 rfl (by rw [ef2]; rfl) dX12_tries_22 (fun H locs hH => ?_)
      clear ef2
      obtain ⟨y3, ey3, h⟩ := zbn_e h
      refine lv_iinc (v := y3) (lv' := [(1, .int y3), (0, .ref q_t)]) hx hb dX12_tries_23 hl (k := 1) rfl (by rw [ey3]; exact congrArg (fun z => x1 + z) (by decide)) (by decide) rfl (fun ls hl => ?_)
      clear ey3
      refine lv_goto (tgt := 2) hx hb dX12_tries_26 (by decide) ?_
      exact ih y3 f2 _ _ _ hH (lv_sub hl [1, 0] rfl) h
set_option maxHeartbeats 4000000 in
set_option maxRecDepth 100000 in
theorem c_X12_tries (l : Launch) (G : va_G) (cy : Nat → ClassId) (E : Nat → Nat) (N : Nat) (q_t q_t_tape q_t_s q_t_h q_t_read q_t_names q_t_reserved q_t_undone q_t_before q_t_comeRow q_t_shown q_t_text q_t_toldAt q_t_stack q_t_truths q_t_imaged q_t_namesKept q_t_areKept : Nat) (t_thrown : Int32) (t_length : Int32) (t_size : Int32) (t_p : Int32) (t_limit : Int32) (t_token : Int32) (t_at : Int32) (t_span : Int32) (t_number : Int32) (t_fault : Int32) (t_faultAt : Int32) (t_word : Int64) (t_got : Int32) (t_lines : Int32) (t_hasWait : Int32) (t_undoMany : Int32) (t_firstMinute : Int32) (t_lookClock : Int32) (t_hasTime : Int32) (t_latestMost : Int32) (t_textMany : Int32) (t_seed : Int32) (t_toldMany : Int32) (t_hasTold : Int32) (t_codes : Int32) (t_ones : Int32) (t_top : Int32) (t_deep : Int32) (t_isWhole : Int32) (t_s : Nat → Int32) (t_before : Nat → Int32) (r_t_before : Nat → Int32) (h : f_X12_tries N t_s t_before = some r_t_before) : zM l G cy E yX12_tries wsX12_tries rm_X12_tries [.ref q_t] (wd_X12_tries cy q_t q_t_tape q_t_s q_t_h q_t_read q_t_names q_t_reserved q_t_undone q_t_before q_t_comeRow q_t_shown q_t_text q_t_toldAt q_t_stack q_t_truths q_t_imaged q_t_namesKept q_t_areKept t_thrown t_length t_size t_p t_limit t_token t_at t_span t_number t_fault t_faultAt t_word t_got t_lines t_hasWait t_undoMany t_firstMinute t_lookClock t_hasTime t_latestMost t_textMany t_seed t_toldMany t_hasTold t_codes t_ones t_top t_deep t_isWhole t_s t_before) (wd_X12_tries cy q_t q_t_tape q_t_s q_t_h q_t_read q_t_names q_t_reserved q_t_undone q_t_before q_t_comeRow q_t_shown q_t_text q_t_toldAt q_t_stack q_t_truths q_t_imaged q_t_namesKept q_t_areKept t_thrown t_length t_size t_p t_limit t_token t_at t_span t_number t_fault t_faultAt t_word t_got t_lines t_hasWait t_undoMany t_firstMinute t_lookClock t_hasTime t_latestMost t_textMany t_seed t_toldMany t_hasTold t_codes t_ones t_top t_deep t_isWhole t_s r_t_before) none 0 0 := by
  refine z_body (cc := cX12_tries) (maxL := 2) (ret := none) (by decide) rfl (Nat.le_of_ble_eq_true rfl) ?_
  intro p e s m below meth c ls S hr hlocks hnm hF hH hl
  have S : CallFix p m c cX12_tries 2 s ([.ref q_t] : List Value).toArray wsX12_tries RX12 := S
  obtain ⟨hx, hb, hml, hown, hts⟩ := id S
  have hl : lv_has ls 2 [(0, .ref q_t)] := hl
  rw [f_X12_tries] at h
  refine lv_iconst (v := 0) hx hb dX12_tries_0 (by decide) ?_
  refine lv_istore_n (lv' := [(1, .int 0), (0, .ref q_t)]) hx hb dX12_tries_1 rfl hl (by decide) rfl (fun ls hl => ?_)
  exact w_X12_tries_2 S hr hlocks hF N 0 t_before _ _ _ hH (lv_sub hl [1, 0] rfl) h
abbrev wd_X12_back (cy : Nat → ClassId) (q_t q_t_tape q_t_s q_t_h q_t_read q_t_names q_t_reserved q_t_undone q_t_before q_t_comeRow q_t_shown q_t_text q_t_toldAt q_t_stack q_t_truths q_t_imaged q_t_namesKept q_t_areKept : Nat) (t_thrown : Int32) (t_length : Int32) (t_size : Int32) (t_p : Int32) (t_limit : Int32) (t_token : Int32) (t_at : Int32) (t_span : Int32) (t_number : Int32) (t_fault : Int32) (t_faultAt : Int32) (t_word : Int64) (t_got : Int32) (t_lines : Int32) (t_hasWait : Int32) (t_undoMany : Int32) (t_firstMinute : Int32) (t_lookClock : Int32) (t_hasTime : Int32) (t_latestMost : Int32) (t_textMany : Int32) (t_seed : Int32) (t_toldMany : Int32) (t_hasTold : Int32) (t_codes : Int32) (t_ones : Int32) (t_top : Int32) (t_deep : Int32) (t_isWhole : Int32) (t_before : Nat → Int32) (t_s : Nat → Int32) : va_W := [(q_t, .inr (13, [.int t_thrown, .ref q_t_tape, .int t_length, .int t_size, .int t_p, .int t_limit, .ref q_t_s, .ref q_t_h, .ref q_t_read, .ref q_t_names, .ref q_t_reserved, .int t_token, .int t_at, .int t_span, .int t_number, .int t_fault, .int t_faultAt, .long t_word, .int t_got, .int t_lines, .int t_hasWait, .ref q_t_undone, .ref q_t_before, .int t_undoMany, .ref q_t_comeRow, .int t_firstMinute, .int t_lookClock, .int t_hasTime, .ref q_t_shown, .int t_latestMost, .ref q_t_text, .int t_textMany, .int t_seed, .int t_toldMany, .ref q_t_toldAt, .int t_hasTold, .ref q_t_stack, .int t_codes, .int t_ones, .int t_top, .int t_deep, .int t_isWhole, .ref q_t_truths, .ref q_t_imaged, .ref q_t_namesKept, .ref q_t_areKept])), (q_t_before, .inl (cy 1, 101, .inl t_before)), (q_t_s, .inl (cy 1, 334, .inl t_s))]
theorem iX12_back_X12 : ∀ w ∈ wsX120, w ∈ wsX12_back := fun _ h => List.mem_cons_of_mem _ (List.mem_append_right _ h)
abbrev rm_X12_back : Room := { frames := 0, cells := 0, slots := 0, locals := 0 }
set_option maxRecDepth 100000 in
def f_X12_back_2 (N : Nat) (t_before : Nat → Int32) : Nat → Int32 → (Nat → Int32) → (Option ((Nat → Int32)))
  | 0, _, _ => none
  | n + 1, x1, c_t_s => if 101 ≤ x1 then (some c_t_s) else (zck (zin x1 101) <| zbn ((t_before (Int32.toNatClampNeg x1))) fun y1 => zck (zin (52 + x1) 334) <| zbn (upd c_t_s (Int32.toNatClampNeg (52 + x1)) y1) fun f2 => zbn (x1 + 1) fun y3 => f_X12_back_2 N t_before n y3 f2)
set_option maxRecDepth 100000 in
def f_X12_back (N : Nat) (t_before : Nat → Int32) (t_s : Nat → Int32) : Option ((Nat → Int32)) := f_X12_back_2 N t_before N 0 t_s
set_option maxHeartbeats 4000000 in
set_option maxRecDepth 100000 in
theorem w_X12_back_2 {p : Program} {l : Launch} {e : Env} {s : State} {m : MethodId} {args : Array Value} {below : List Frame} {meth : Method} {c : Code} {G : va_G} {cy : Nat → ClassId} {E : Nat → Nat} {w0 : va_W} {N : Nat} {q_t q_t_tape q_t_s q_t_h q_t_read q_t_names q_t_reserved q_t_undone q_t_before q_t_comeRow q_t_shown q_t_text q_t_toldAt q_t_stack q_t_truths q_t_imaged q_t_namesKept q_t_areKept : Nat} {t_thrown : Int32} {t_length : Int32} {t_size : Int32} {t_p : Int32} {t_limit : Int32} {t_token : Int32} {t_at : Int32} {t_span : Int32} {t_number : Int32} {t_fault : Int32} {t_faultAt : Int32} {t_word : Int64} {t_got : Int32} {t_lines : Int32} {t_hasWait : Int32} {t_undoMany : Int32} {t_firstMinute : Int32} {t_lookClock : Int32} {t_hasTime : Int32} {t_latestMost : Int32} {t_textMany : Int32} {t_seed : Int32} {t_toldMany : Int32} {t_hasTold : Int32} {t_codes : Int32} {t_ones : Int32} {t_top : Int32} {t_deep : Int32} {t_isWhole : Int32} {t_before : Nat → Int32} {r_t_s : Nat → Int32} (S : CallFix p m c cX12_back 2 s args wsX12_back RX12) (hr : meth.sig.returnType = none) (hlocks : meth.locks = false) (hF : zF G cy E (va_A w0 s.heap.size) s) :
    ∀ (n : Nat) (x1 : Int32) (c_t_s : Nat → Int32) (H : Heap) (locs : List Loc) (ls : Array Slot), zH G (va_A w0 s.heap.size) s H locs (wd_X12_back cy q_t q_t_tape q_t_s q_t_h q_t_read q_t_names q_t_reserved q_t_undone q_t_before q_t_comeRow q_t_shown q_t_text q_t_toldAt q_t_stack q_t_truths q_t_imaged q_t_namesKept q_t_areKept t_thrown t_length t_size t_p t_limit t_token t_at t_span t_number t_fault t_faultAt t_word t_got t_lines t_hasWait t_undoMany t_firstMinute t_lookClock t_hasTime t_latestMost t_textMany t_seed t_toldMany t_hasTold t_codes t_ones t_top t_deep t_isWhole t_before c_t_s) → lv_has ls 2 [(0, .ref q_t), (1, .int x1)] → f_X12_back_2 N t_before n x1 c_t_s = some r_t_s → W p l e rm_X12_back s m args below meth c H locs 0 0 (MQ below (zQ G w0 (wd_X12_back cy q_t q_t_tape q_t_s q_t_h q_t_read q_t_names q_t_reserved q_t_undone q_t_before q_t_comeRow q_t_shown q_t_text q_t_toldAt q_t_stack q_t_truths q_t_imaged q_t_namesKept q_t_areKept t_thrown t_length t_size t_p t_limit t_token t_at t_span t_number t_fault t_faultAt t_word t_got t_lines t_hasWait t_undoMany t_firstMinute t_lookClock t_hasTime t_latestMost t_textMany t_seed t_toldMany t_hasTold t_codes t_ones t_top t_deep t_isWhole t_before r_t_s) s.heap.size none) args s 0 0 (va_A w0 s.heap.size)) (F0 m 2 ls []) := by
  obtain ⟨hx, hb, hml, hown, hts⟩ := id S
  intro n
  induction n with
  | zero =>
    intro x1 c_t_s H locs ls hH hl h
    rw [f_X12_back_2] at h
    cases h
  | succ n ih =>
    intro x1 c_t_s H locs ls hH hl h
    rw [f_X12_back_2] at h
    refine lv_iload_n hx hb dX12_back_2 rfl (lv_at hl 1 rfl) ?_
    refine lv_bipush (v := 101) hx hb dX12_back_3 (by decide) ?_
    refine lv_icmp_ge (tgt := 29) hx hb dX12_back_5 (by decide) (fun b5 => ?_) (fun b5 => ?_)
    · replace h := zif_t b5 h
      cases h
      exact z_vret S hr hlocks hH dX12_back_29
    · replace h := zif_f b5 h
      refine lv_aload_n hx hb dX12_back_8 rfl (lv_at hl 0 rfl) ?_
      refine z_get S hF hH iX12_back_X12 0 rfl rfl 6 (by decide) (List.mem_of_getElem? (i := 1) rfl) rfl dX12_back_9 ?_
      refine lv_bipush (v := 52) hx hb dX12_back_12 (by decide) ?_
      refine lv_iload_n hx hb dX12_back_14 rfl (lv_at hl 1 rfl) ?_
      refine lv_iadd hx hb dX12_back_15 ?_
      refine lv_aload_n hx hb dX12_back_16 rfl (lv_at hl 0 rfl) ?_
      refine z_get S hF hH iX12_back_X12 0 rfl rfl 22 (by decide) (List.mem_of_getElem? (i := 2) rfl) rfl dX12_back_17 ?_
      refine lv_iload_n hx hb dX12_back_20 rfl (lv_at hl 1 rfl) ?_
      obtain ⟨h21, h⟩ := zck_e h
      refine z_iald S hF hH 1 rfl h21 rfl dX12_back_21 ?_
      obtain ⟨y1, ey1, h⟩ := zbn_e h
      refine z_top ey1 ?_
      clear ey1
      obtain ⟨h22, h⟩ := zck_e h
      obtain ⟨f2, ef2, h⟩ := zbn_e h
      refine z_iast (ws' := (wd_X12_back cy q_t q_t_tape q_t_s q_t_h q_t_read q_t_names q_t_reserved q_t_undone q_t_before q_t_comeRow q_t_shown q_t_text q_t_toldAt q_t_stack q_t_truths q_t_imaged q_t_namesKept q_t_areKept t_thrown t_length t_size t_p t_limit t_token t_at t_span t_number t_fault t_faultAt t_word t_got t_lines t_hasWait t_undoMany t_firstMinute t_lookClock t_hasTime t_latestMost t_textMany t_seed t_toldMany t_hasTold t_codes t_ones t_top t_deep t_isWhole t_before f2)) (j := (Int32.toNatClampNeg (52 + x1))) S hF hH 2 rfl h22 rfl (by rw [ef2]; rfl) dX12_back_22 (fun H locs hH => ?_)
      clear ef2
      obtain ⟨y3, ey3, h⟩ := zbn_e h
      refine lv_iinc (v := y3) (lv' := [(1, .int y3), (0, .ref q_t)]) hx hb dX12_back_23 hl (k := 1) rfl (by rw [ey3]; exact congrArg (fun z => x1 + z) (by decide)) (by decide) rfl (fun ls hl => ?_)
      clear ey3
      refine lv_goto (tgt := 2) hx hb dX12_back_26 (by decide) ?_
      exact ih y3 f2 _ _ _ hH (lv_sub hl [1, 0] rfl) h
set_option maxHeartbeats 4000000 in
set_option maxRecDepth 100000 in
theorem c_X12_back (l : Launch) (G : va_G) (cy : Nat → ClassId) (E : Nat → Nat) (N : Nat) (q_t q_t_tape q_t_s q_t_h q_t_read q_t_names q_t_reserved q_t_undone q_t_before q_t_comeRow q_t_shown q_t_text q_t_toldAt q_t_stack q_t_truths q_t_imaged q_t_namesKept q_t_areKept : Nat) (t_thrown : Int32) (t_length : Int32) (t_size : Int32) (t_p : Int32) (t_limit : Int32) (t_token : Int32) (t_at : Int32) (t_span : Int32) (t_number : Int32) (t_fault : Int32) (t_faultAt : Int32) (t_word : Int64) (t_got : Int32) (t_lines : Int32) (t_hasWait : Int32) (t_undoMany : Int32) (t_firstMinute : Int32) (t_lookClock : Int32) (t_hasTime : Int32) (t_latestMost : Int32) (t_textMany : Int32) (t_seed : Int32) (t_toldMany : Int32) (t_hasTold : Int32) (t_codes : Int32) (t_ones : Int32) (t_top : Int32) (t_deep : Int32) (t_isWhole : Int32) (t_before : Nat → Int32) (t_s : Nat → Int32) (r_t_s : Nat → Int32) (h : f_X12_back N t_before t_s = some r_t_s) : zM l G cy E yX12_back wsX12_back rm_X12_back [.ref q_t] (wd_X12_back cy q_t q_t_tape q_t_s q_t_h q_t_read q_t_names q_t_reserved q_t_undone q_t_before q_t_comeRow q_t_shown q_t_text q_t_toldAt q_t_stack q_t_truths q_t_imaged q_t_namesKept q_t_areKept t_thrown t_length t_size t_p t_limit t_token t_at t_span t_number t_fault t_faultAt t_word t_got t_lines t_hasWait t_undoMany t_firstMinute t_lookClock t_hasTime t_latestMost t_textMany t_seed t_toldMany t_hasTold t_codes t_ones t_top t_deep t_isWhole t_before t_s) (wd_X12_back cy q_t q_t_tape q_t_s q_t_h q_t_read q_t_names q_t_reserved q_t_undone q_t_before q_t_comeRow q_t_shown q_t_text q_t_toldAt q_t_stack q_t_truths q_t_imaged q_t_namesKept q_t_areKept t_thrown t_length t_size t_p t_limit t_token t_at t_span t_number t_fault t_faultAt t_word t_got t_lines t_hasWait t_undoMany t_firstMinute t_lookClock t_hasTime t_latestMost t_textMany t_seed t_toldMany t_hasTold t_codes t_ones t_top t_deep t_isWhole t_before r_t_s) none 0 0 := by
  refine z_body (cc := cX12_back) (maxL := 2) (ret := none) (by decide) rfl (Nat.le_of_ble_eq_true rfl) ?_
  intro p e s m below meth c ls S hr hlocks hnm hF hH hl
  have S : CallFix p m c cX12_back 2 s ([.ref q_t] : List Value).toArray wsX12_back RX12 := S
  obtain ⟨hx, hb, hml, hown, hts⟩ := id S
  have hl : lv_has ls 2 [(0, .ref q_t)] := hl
  rw [f_X12_back] at h
  refine lv_iconst (v := 0) hx hb dX12_back_0 (by decide) ?_
  refine lv_istore_n (lv' := [(1, .int 0), (0, .ref q_t)]) hx hb dX12_back_1 rfl hl (by decide) rfl (fun ls hl => ?_)
  exact w_X12_back_2 S hr hlocks hF N 0 t_s _ _ _ hH (lv_sub hl [1, 0] rfl) h
abbrev wd_X12_laysCome (cy : Nat → ClassId) (q_t q_t_tape q_t_s q_t_h q_t_read q_t_names q_t_reserved q_t_undone q_t_before q_t_comeRow q_t_shown q_t_text q_t_toldAt q_t_stack q_t_truths q_t_imaged q_t_namesKept q_t_areKept : Nat) (t_thrown : Int32) (t_length : Int32) (t_size : Int32) (t_p : Int32) (t_limit : Int32) (t_token : Int32) (t_at : Int32) (t_span : Int32) (t_number : Int32) (t_fault : Int32) (t_faultAt : Int32) (t_word : Int64) (t_got : Int32) (t_lines : Int32) (t_hasWait : Int32) (t_undoMany : Int32) (t_firstMinute : Int32) (t_lookClock : Int32) (t_hasTime : Int32) (t_latestMost : Int32) (t_textMany : Int32) (t_seed : Int32) (t_toldMany : Int32) (t_hasTold : Int32) (t_codes : Int32) (t_ones : Int32) (t_top : Int32) (t_deep : Int32) (t_isWhole : Int32) (t_s : Nat → Int32) (t_before : Nat → Int32) (t_comeRow : Nat → Int32) : va_W := [(q_t, .inr (13, [.int t_thrown, .ref q_t_tape, .int t_length, .int t_size, .int t_p, .int t_limit, .ref q_t_s, .ref q_t_h, .ref q_t_read, .ref q_t_names, .ref q_t_reserved, .int t_token, .int t_at, .int t_span, .int t_number, .int t_fault, .int t_faultAt, .long t_word, .int t_got, .int t_lines, .int t_hasWait, .ref q_t_undone, .ref q_t_before, .int t_undoMany, .ref q_t_comeRow, .int t_firstMinute, .int t_lookClock, .int t_hasTime, .ref q_t_shown, .int t_latestMost, .ref q_t_text, .int t_textMany, .int t_seed, .int t_toldMany, .ref q_t_toldAt, .int t_hasTold, .ref q_t_stack, .int t_codes, .int t_ones, .int t_top, .int t_deep, .int t_isWhole, .ref q_t_truths, .ref q_t_imaged, .ref q_t_namesKept, .ref q_t_areKept])), (q_t_s, .inl (cy 1, 334, .inl t_s)), (q_t_before, .inl (cy 1, 101, .inl t_before)), (q_t_comeRow, .inl (cy 1, 6, .inl t_comeRow))]
theorem iX12_laysCome_X12 : ∀ w ∈ wsX120, w ∈ wsX12_laysCome := fun _ h => List.mem_cons_of_mem _ (List.mem_append_right _ h)
abbrev rm_X12_laysCome : Room := { frames := 6, cells := 0, slots := 0, locals := 132 }
set_option maxRecDepth 100000 in
def f_X12_laysCome_12 (N : Nat) : Nat → Int32 → Int32 → (Nat → Int32) → (Nat → Int32) → (Nat → Int32) → (Option ((Nat → Int32) × (Nat → Int32) × (Nat → Int32)))
  | 0, _, _, _, _, _ => none
  | n + 1, x1, x3, c_t_s, c_t_before, c_t_comeRow => if 6 ≤ x3 then (zcl (f_X12_back N c_t_before c_t_s) fun z47 => some (z47, c_t_before, c_t_comeRow)) else (zck (zin ((117 + (6 * x1)) + x3) 334) <| zbn (((c_t_s (Int32.toNatClampNeg ((117 + (6 * x1)) + x3))) - 1)) fun y1 => zck (zin x3 6) <| zbn (upd c_t_comeRow (Int32.toNatClampNeg x3) y1) fun f2 => zbn (x3 + 1) fun y3 => f_X12_laysCome_12 N n x1 y3 c_t_s c_t_before f2)
set_option maxRecDepth 100000 in
def f_X12_laysCome (N : Nat) (x0 : Int32) (x1 : Int32) (t_s : Nat → Int32) (t_before : Nat → Int32) (t_comeRow : Nat → Int32) : Option ((Nat → Int32) × (Nat → Int32) × (Nat → Int32)) := zcl (f_X12_tries N t_s t_before) fun z1 => zcl (f_X12_goesOn N x1 t_s) fun z6 => f_X12_laysCome_12 N N x0 0 z6.2 z1 t_comeRow
set_option maxHeartbeats 4000000 in
set_option maxRecDepth 100000 in
theorem w_X12_laysCome_12 {p : Program} {l : Launch} {e : Env} {s : State} {m : MethodId} {args : Array Value} {below : List Frame} {meth : Method} {c : Code} {G : va_G} {cy : Nat → ClassId} {E : Nat → Nat} {w0 : va_W} {N : Nat} {q_t q_t_tape q_t_s q_t_h q_t_read q_t_names q_t_reserved q_t_undone q_t_before q_t_comeRow q_t_shown q_t_text q_t_toldAt q_t_stack q_t_truths q_t_imaged q_t_namesKept q_t_areKept : Nat} {t_thrown : Int32} {t_length : Int32} {t_size : Int32} {t_p : Int32} {t_limit : Int32} {t_token : Int32} {t_at : Int32} {t_span : Int32} {t_number : Int32} {t_fault : Int32} {t_faultAt : Int32} {t_word : Int64} {t_got : Int32} {t_lines : Int32} {t_hasWait : Int32} {t_undoMany : Int32} {t_firstMinute : Int32} {t_lookClock : Int32} {t_hasTime : Int32} {t_latestMost : Int32} {t_textMany : Int32} {t_seed : Int32} {t_toldMany : Int32} {t_hasTold : Int32} {t_codes : Int32} {t_ones : Int32} {t_top : Int32} {t_deep : Int32} {t_isWhole : Int32} {r_t_s : Nat → Int32} {r_t_before : Nat → Int32} {r_t_comeRow : Nat → Int32} (S : CallFix p m c cX12_laysCome 4 s args wsX12_laysCome RX12) (hr : meth.sig.returnType = none) (hlocks : meth.locks = false) (hF : zF G cy E (va_A w0 s.heap.size) s) :
    ∀ (n : Nat) (x1 : Int32) (x3 : Int32) (c_t_s : Nat → Int32) (c_t_before : Nat → Int32) (c_t_comeRow : Nat → Int32) (H : Heap) (locs : List Loc) (ls : Array Slot), zH G (va_A w0 s.heap.size) s H locs (wd_X12_laysCome cy q_t q_t_tape q_t_s q_t_h q_t_read q_t_names q_t_reserved q_t_undone q_t_before q_t_comeRow q_t_shown q_t_text q_t_toldAt q_t_stack q_t_truths q_t_imaged q_t_namesKept q_t_areKept t_thrown t_length t_size t_p t_limit t_token t_at t_span t_number t_fault t_faultAt t_word t_got t_lines t_hasWait t_undoMany t_firstMinute t_lookClock t_hasTime t_latestMost t_textMany t_seed t_toldMany t_hasTold t_codes t_ones t_top t_deep t_isWhole c_t_s c_t_before c_t_comeRow) → lv_has ls 4 [(0, .ref q_t), (1, .int x1), (3, .int x3)] → f_X12_laysCome_12 N n x1 x3 c_t_s c_t_before c_t_comeRow = some (r_t_s, r_t_before, r_t_comeRow) → W p l e rm_X12_laysCome s m args below meth c H locs 0 0 (MQ below (zQ G w0 (wd_X12_laysCome cy q_t q_t_tape q_t_s q_t_h q_t_read q_t_names q_t_reserved q_t_undone q_t_before q_t_comeRow q_t_shown q_t_text q_t_toldAt q_t_stack q_t_truths q_t_imaged q_t_namesKept q_t_areKept t_thrown t_length t_size t_p t_limit t_token t_at t_span t_number t_fault t_faultAt t_word t_got t_lines t_hasWait t_undoMany t_firstMinute t_lookClock t_hasTime t_latestMost t_textMany t_seed t_toldMany t_hasTold t_codes t_ones t_top t_deep t_isWhole r_t_s r_t_before r_t_comeRow) s.heap.size none) args s 0 0 (va_A w0 s.heap.size)) (F0 m 12 ls []) := by
  obtain ⟨hx, hb, hml, hown, hts⟩ := id S
  intro n
  induction n with
  | zero =>
    intro x1 x3 c_t_s c_t_before c_t_comeRow H locs ls hH hl h
    rw [f_X12_laysCome_12] at h
    cases h
  | succ n ih =>
    intro x1 x3 c_t_s c_t_before c_t_comeRow H locs ls hH hl h
    rw [f_X12_laysCome_12] at h
    refine lv_iload_n hx hb dX12_laysCome_12 rfl (lv_at hl 2 rfl) ?_
    refine lv_bipush (v := 6) hx hb dX12_laysCome_13 (by decide) ?_
    refine lv_icmp_ge (tgt := 46) hx hb dX12_laysCome_15 (by decide) (fun b15 => ?_) (fun b15 => ?_)
    · replace h := zif_t b15 h
      refine lv_aload_n hx hb dX12_laysCome_46 rfl (lv_at hl 0 rfl) ?_
      obtain ⟨z47, hz47, h⟩ := zcl_e h
      refine z_callV (As := []) (rest := []) (st1 := []) (ws' := (wd_X12_laysCome cy q_t q_t_tape q_t_s q_t_h q_t_read q_t_names q_t_reserved q_t_undone q_t_before q_t_comeRow q_t_shown q_t_text q_t_toldAt q_t_stack q_t_truths q_t_imaged q_t_namesKept q_t_areKept t_thrown t_length t_size t_p t_limit t_token t_at t_span t_number t_fault t_faultAt t_word t_got t_lines t_hasWait t_undoMany t_firstMinute t_lookClock t_hasTime t_latestMost t_textMany t_seed t_toldMany t_hasTold t_codes t_ones t_top t_deep t_isWhole z47 c_t_before c_t_comeRow)) S hF hH (c_X12_back l G cy E N q_t q_t_tape q_t_s q_t_h q_t_read q_t_names q_t_reserved q_t_undone q_t_before q_t_comeRow q_t_shown q_t_text q_t_toldAt q_t_stack q_t_truths q_t_imaged q_t_namesKept q_t_areKept t_thrown t_length t_size t_p t_limit t_token t_at t_span t_number t_fault t_faultAt t_word t_got t_lines t_hasWait t_undoMany t_firstMinute t_lookClock t_hasTime t_latestMost t_textMany t_seed t_toldMany t_hasTold t_codes t_ones t_top t_deep t_isWhole c_t_before c_t_s z47 hz47) (cwV 0 hts gX12_laysCome_X12_back rfl rfl rfl (by decide +kernel) ⟨Nat.le_of_ble_eq_true rfl, Nat.le_of_ble_eq_true rfl⟩) 13 0 rfl rfl [0, 2, 1] rfl (by decide) rfl rfl rfl rfl rfl hl.1 (Nat.le_of_ble_eq_true rfl) dX12_laysCome_47 ⟨Nat.le_of_ble_eq_true rfl, Nat.le_of_ble_eq_true rfl⟩ (fun H locs hH => ?_)
      cases h
      exact z_vret S hr hlocks hH dX12_laysCome_50
    · replace h := zif_f b15 h
      refine lv_aload_n hx hb dX12_laysCome_18 rfl (lv_at hl 0 rfl) ?_
      refine z_get S hF hH iX12_laysCome_X12 0 rfl rfl 24 (by decide) (List.mem_of_getElem? (i := 1) rfl) rfl dX12_laysCome_19 ?_
      refine lv_iload_n hx hb dX12_laysCome_22 rfl (lv_at hl 2 rfl) ?_
      refine lv_aload_n hx hb dX12_laysCome_23 rfl (lv_at hl 0 rfl) ?_
      refine z_get S hF hH iX12_laysCome_X12 0 rfl rfl 6 (by decide) (List.mem_of_getElem? (i := 2) rfl) rfl dX12_laysCome_24 ?_
      refine lv_bipush (v := 117) hx hb dX12_laysCome_27 (by decide) ?_
      refine lv_bipush (v := 6) hx hb dX12_laysCome_29 (by decide) ?_
      refine lv_iload_n hx hb dX12_laysCome_31 rfl (lv_at hl 1 rfl) ?_
      refine lv_imul hx hb dX12_laysCome_32 ?_
      refine lv_iadd hx hb dX12_laysCome_33 ?_
      refine lv_iload_n hx hb dX12_laysCome_34 rfl (lv_at hl 2 rfl) ?_
      refine lv_iadd hx hb dX12_laysCome_35 ?_
      obtain ⟨h36, h⟩ := zck_e h
      refine z_iald S hF hH 1 rfl h36 rfl dX12_laysCome_36 ?_
      refine lv_iconst (v := 1) hx hb dX12_laysCome_37 (by decide) ?_
      refine lv_isub hx hb dX12_laysCome_38 ?_
      obtain ⟨y1, ey1, h⟩ := zbn_e h
      refine z_top ey1 ?_
      clear ey1
      obtain ⟨h39, h⟩ := zck_e h
      obtain ⟨f2, ef2, h⟩ := zbn_e h
      refine z_iast (ws' := (wd_X12_laysCome cy q_t q_t_tape q_t_s q_t_h q_t_read q_t_names q_t_reserved q_t_undone q_t_before q_t_comeRow q_t_shown q_t_text q_t_toldAt q_t_stack q_t_truths q_t_imaged q_t_namesKept q_t_areKept t_thrown t_length t_size t_p t_limit t_token t_at t_span t_number t_fault t_faultAt t_word t_got t_lines t_hasWait t_undoMany t_firstMinute t_lookClock t_hasTime t_latestMost t_textMany t_seed t_toldMany t_hasTold t_codes t_ones t_top t_deep t_isWhole c_t_s c_t_before f2)) (j := (Int32.toNatClampNeg x3)) S hF hH 3 rfl h39 rfl (by rw [ef2]; rfl) dX12_laysCome_39 (fun H locs hH => ?_)
      clear ef2
      obtain ⟨y3, ey3, h⟩ := zbn_e h
      refine lv_iinc (v := y3) (lv' := [(3, .int y3), (0, .ref q_t), (1, .int x1)]) hx hb dX12_laysCome_40 hl (k := 2) rfl (by rw [ey3]; exact congrArg (fun z => x3 + z) (by decide)) (by decide) rfl (fun ls hl => ?_)
      clear ey3
      refine lv_goto (tgt := 12) hx hb dX12_laysCome_43 (by decide) ?_
      exact ih x1 y3 c_t_s c_t_before f2 _ _ _ hH (lv_sub hl [1, 2, 0] rfl) h
set_option maxHeartbeats 4000000 in
set_option maxRecDepth 100000 in
theorem c_X12_laysCome (l : Launch) (G : va_G) (cy : Nat → ClassId) (E : Nat → Nat) (N : Nat) (q_t q_t_tape q_t_s q_t_h q_t_read q_t_names q_t_reserved q_t_undone q_t_before q_t_comeRow q_t_shown q_t_text q_t_toldAt q_t_stack q_t_truths q_t_imaged q_t_namesKept q_t_areKept : Nat) (t_thrown : Int32) (t_length : Int32) (t_size : Int32) (t_p : Int32) (t_limit : Int32) (t_token : Int32) (t_at : Int32) (t_span : Int32) (t_number : Int32) (t_fault : Int32) (t_faultAt : Int32) (t_word : Int64) (t_got : Int32) (t_lines : Int32) (t_hasWait : Int32) (t_undoMany : Int32) (t_firstMinute : Int32) (t_lookClock : Int32) (t_hasTime : Int32) (t_latestMost : Int32) (t_textMany : Int32) (t_seed : Int32) (t_toldMany : Int32) (t_hasTold : Int32) (t_codes : Int32) (t_ones : Int32) (t_top : Int32) (t_deep : Int32) (t_isWhole : Int32) (t_s : Nat → Int32) (t_before : Nat → Int32) (t_comeRow : Nat → Int32) (x0 : Int32) (x1 : Int32) (r_t_s : Nat → Int32) (r_t_before : Nat → Int32) (r_t_comeRow : Nat → Int32) (h : f_X12_laysCome N x0 x1 t_s t_before t_comeRow = some (r_t_s, r_t_before, r_t_comeRow)) : zM l G cy E yX12_laysCome wsX12_laysCome rm_X12_laysCome [.ref q_t, .int x0, .int x1] (wd_X12_laysCome cy q_t q_t_tape q_t_s q_t_h q_t_read q_t_names q_t_reserved q_t_undone q_t_before q_t_comeRow q_t_shown q_t_text q_t_toldAt q_t_stack q_t_truths q_t_imaged q_t_namesKept q_t_areKept t_thrown t_length t_size t_p t_limit t_token t_at t_span t_number t_fault t_faultAt t_word t_got t_lines t_hasWait t_undoMany t_firstMinute t_lookClock t_hasTime t_latestMost t_textMany t_seed t_toldMany t_hasTold t_codes t_ones t_top t_deep t_isWhole t_s t_before t_comeRow) (wd_X12_laysCome cy q_t q_t_tape q_t_s q_t_h q_t_read q_t_names q_t_reserved q_t_undone q_t_before q_t_comeRow q_t_shown q_t_text q_t_toldAt q_t_stack q_t_truths q_t_imaged q_t_namesKept q_t_areKept t_thrown t_length t_size t_p t_limit t_token t_at t_span t_number t_fault t_faultAt t_word t_got t_lines t_hasWait t_undoMany t_firstMinute t_lookClock t_hasTime t_latestMost t_textMany t_seed t_toldMany t_hasTold t_codes t_ones t_top t_deep t_isWhole r_t_s r_t_before r_t_comeRow) none 0 0 := by
  refine z_body (cc := cX12_laysCome) (maxL := 4) (ret := none) (by decide) rfl (Nat.le_of_ble_eq_true rfl) ?_
  intro p e s m below meth c ls S hr hlocks hnm hF hH hl
  have S : CallFix p m c cX12_laysCome 4 s ([.ref q_t, .int x0, .int x1] : List Value).toArray wsX12_laysCome RX12 := S
  obtain ⟨hx, hb, hml, hown, hts⟩ := id S
  have hl : lv_has ls 4 [(0, .ref q_t), (1, .int x0), (2, .int x1)] := hl
  rw [f_X12_laysCome] at h
  refine lv_aload_n hx hb dX12_laysCome_0 rfl (lv_at hl 0 rfl) ?_
  obtain ⟨z1, hz1, h⟩ := zcl_e h
  refine z_callV (As := []) (rest := []) (st1 := []) (ws' := (wd_X12_laysCome cy q_t q_t_tape q_t_s q_t_h q_t_read q_t_names q_t_reserved q_t_undone q_t_before q_t_comeRow q_t_shown q_t_text q_t_toldAt q_t_stack q_t_truths q_t_imaged q_t_namesKept q_t_areKept t_thrown t_length t_size t_p t_limit t_token t_at t_span t_number t_fault t_faultAt t_word t_got t_lines t_hasWait t_undoMany t_firstMinute t_lookClock t_hasTime t_latestMost t_textMany t_seed t_toldMany t_hasTold t_codes t_ones t_top t_deep t_isWhole t_s z1 t_comeRow)) S hF hH (c_X12_tries l G cy E N q_t q_t_tape q_t_s q_t_h q_t_read q_t_names q_t_reserved q_t_undone q_t_before q_t_comeRow q_t_shown q_t_text q_t_toldAt q_t_stack q_t_truths q_t_imaged q_t_namesKept q_t_areKept t_thrown t_length t_size t_p t_limit t_token t_at t_span t_number t_fault t_faultAt t_word t_got t_lines t_hasWait t_undoMany t_firstMinute t_lookClock t_hasTime t_latestMost t_textMany t_seed t_toldMany t_hasTold t_codes t_ones t_top t_deep t_isWhole t_s t_before z1 hz1) (cwV 0 hts gX12_laysCome_X12_tries rfl rfl rfl (by decide +kernel) ⟨Nat.le_of_ble_eq_true rfl, Nat.le_of_ble_eq_true rfl⟩) 13 0 rfl rfl [0, 1, 2] rfl (by decide) rfl rfl rfl rfl rfl hl.1 (Nat.le_of_ble_eq_true rfl) dX12_laysCome_1 ⟨Nat.le_of_ble_eq_true rfl, Nat.le_of_ble_eq_true rfl⟩ (fun H locs hH => ?_)
  refine lv_aload_n hx hb dX12_laysCome_4 rfl (lv_at hl 0 rfl) ?_
  refine lv_iload_n hx hb dX12_laysCome_5 rfl (lv_at hl 2 rfl) ?_
  obtain ⟨z6, hz6, h⟩ := zcl_e h
  refine z_callV (As := [.int x1]) (rest := []) (st1 := [.int z6.1]) (ws' := (wd_X12_laysCome cy q_t q_t_tape q_t_s q_t_h q_t_read q_t_names q_t_reserved q_t_undone q_t_before q_t_comeRow q_t_shown q_t_text q_t_toldAt q_t_stack q_t_truths q_t_imaged q_t_namesKept q_t_areKept t_thrown t_length t_size t_p t_limit t_token t_at t_span t_number t_fault t_faultAt t_word t_got t_lines t_hasWait t_undoMany t_firstMinute t_lookClock t_hasTime t_latestMost t_textMany t_seed t_toldMany t_hasTold t_codes t_ones t_top t_deep t_isWhole z6.2 z1 t_comeRow)) S hF hH (c_X12_goesOn l G cy E N q_t q_t_tape q_t_s q_t_h q_t_read q_t_names q_t_reserved q_t_undone q_t_before q_t_comeRow q_t_shown q_t_text q_t_toldAt q_t_stack q_t_truths q_t_imaged q_t_namesKept q_t_areKept t_thrown t_length t_size t_p t_limit t_token t_at t_span t_number t_fault t_faultAt t_word t_got t_lines t_hasWait t_undoMany t_firstMinute t_lookClock t_hasTime t_latestMost t_textMany t_seed t_toldMany t_hasTold t_codes t_ones t_top t_deep t_isWhole t_s x1 z6.1 z6.2 hz6) (cwV 1 hts gX12_laysCome_X12_goesOn rfl rfl rfl (by decide +kernel) ⟨Nat.le_of_ble_eq_true rfl, Nat.le_of_ble_eq_true rfl⟩) 13 0 rfl rfl [0, 1] rfl (by decide) rfl rfl rfl rfl rfl hl.1 (Nat.le_of_ble_eq_true rfl) dX12_laysCome_6 ⟨Nat.le_of_ble_eq_true rfl, Nat.le_of_ble_eq_true rfl⟩ (fun H locs hH => ?_)
  refine lv_pop hx hb dX12_laysCome_9 rfl ?_
  refine lv_iconst (v := 0) hx hb dX12_laysCome_10 (by decide) ?_
  refine lv_istore_n (lv' := [(3, .int 0), (0, .ref q_t), (1, .int x0), (2, .int x1)]) hx hb dX12_laysCome_11 rfl hl (by decide) rfl (fun ls hl => ?_)
  exact w_X12_laysCome_12 S hr hlocks hF N x0 0 z6.2 z1 t_comeRow _ _ _ hH (lv_sub hl [1, 2, 0] rfl) h
