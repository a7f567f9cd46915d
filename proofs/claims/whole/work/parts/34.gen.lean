abbrev wd_X12_isSaid (cy : Nat → ClassId) (q_t q_t_tape q_t_s q_t_h q_t_read q_t_names q_t_reserved q_t_undone q_t_before q_t_comeRow q_t_shown q_t_text q_t_toldAt q_t_stack q_t_truths q_t_imaged q_t_namesKept q_t_areKept : Nat) (t_thrown : Int32) (t_length : Int32) (t_size : Int32) (t_p : Int32) (t_limit : Int32) (t_token : Int32) (t_at : Int32) (t_span : Int32) (t_number : Int32) (t_fault : Int32) (t_faultAt : Int32) (t_word : Int64) (t_got : Int32) (t_lines : Int32) (t_hasWait : Int32) (t_undoMany : Int32) (t_firstMinute : Int32) (t_lookClock : Int32) (t_hasTime : Int32) (t_latestMost : Int32) (t_textMany : Int32) (t_seed : Int32) (t_toldMany : Int32) (t_hasTold : Int32) (t_codes : Int32) (t_ones : Int32) (t_top : Int32) (t_deep : Int32) (t_isWhole : Int32) (t_s : Nat → Int32) (t_truths : Nat → Int32) : va_W := [(q_t, .inr (13, [.int t_thrown, .ref q_t_tape, .int t_length, .int t_size, .int t_p, .int t_limit, .ref q_t_s, .ref q_t_h, .ref q_t_read, .ref q_t_names, .ref q_t_reserved, .int t_token, .int t_at, .int t_span, .int t_number, .int t_fault, .int t_faultAt, .long t_word, .int t_got, .int t_lines, .int t_hasWait, .ref q_t_undone, .ref q_t_before, .int t_undoMany, .ref q_t_comeRow, .int t_firstMinute, .int t_lookClock, .int t_hasTime, .ref q_t_shown, .int t_latestMost, .ref q_t_text, .int t_textMany, .int t_seed, .int t_toldMany, .ref q_t_toldAt, .int t_hasTold, .ref q_t_stack, .int t_codes, .int t_ones, .int t_top, .int t_deep, .int t_isWhole, .ref q_t_truths, .ref q_t_imaged, .ref q_t_namesKept, .ref q_t_areKept])), (q_t_s, .inl (cy 1, 334, .inl t_s)), (q_t_truths, .inl (cy 3, 45, .inl t_truths))]
theorem iX12_isSaid_X12 : ∀ w ∈ wsX120, w ∈ wsX12_isSaid := fun _ h => List.mem_cons_of_mem _ (List.mem_append_right _ h)
abbrev rm_X12_isSaid : Room := { frames := 5, cells := 0, slots := 0, locals := 110 }
set_option maxRecDepth 100000 in
def f_X12_isSaid_134 (N : Nat) (t_s : Nat → Int32) (k_163 : Int32 → Int32 → Int32 → Int32 → Int32 → (Nat → Int32) → (Option (Int32 × (Nat → Int32)))) (x1 : Int32) (x2 : Int32) (x3 : Int32) (sk0 : Int32) (c_t_truths : Nat → Int32) : Option (Int32 × (Nat → Int32)) := k_163 x1 x2 x3 0 sk0 c_t_truths
set_option maxRecDepth 100000 in
def f_X12_isSaid_158 (N : Nat) (t_s : Nat → Int32) (k_163 : Int32 → Int32 → Int32 → Int32 → Int32 → (Nat → Int32) → (Option (Int32 × (Nat → Int32)))) (x1 : Int32) (x2 : Int32) (x3 : Int32) (sk0 : Int32) (c_t_truths : Nat → Int32) : Option (Int32 × (Nat → Int32)) := k_163 x1 x2 x3 1 sk0 c_t_truths
set_option maxRecDepth 100000 in
def f_X12_isSaid_163 (N : Nat) (t_s : Nat → Int32) (k_4 : Int32 → Int32 → Int32 → (Nat → Int32) → (Option (Int32 × (Nat → Int32)))) (x1 : Int32) (x2 : Int32) (x3 : Int32) (sk0 : Int32) (sk1 : Int32) (c_t_truths : Nat → Int32) : Option (Int32 × (Nat → Int32)) := zck (zin sk1 45) <| zck (zbo sk0) <| zbn (upd c_t_truths (Int32.toNatClampNeg sk1) sk0) fun f1 => zbn (x3 + 1) fun y2 => k_4 x1 x2 y2 f1
set_option maxRecDepth 100000 in
def f_X12_isSaid_60 (N : Nat) (t_s : Nat → Int32) (k_4 : Int32 → Int32 → Int32 → (Nat → Int32) → (Option (Int32 × (Nat → Int32)))) (x1 : Int32) (x2 : Int32) (x3 : Int32) (sk0 : Int32) (sk1 : Int32) (c_t_truths : Nat → Int32) : Option (Int32 × (Nat → Int32)) := zck (zin sk1 45) <| zck (zbo sk0) <| zbn (upd c_t_truths (Int32.toNatClampNeg sk1) sk0) fun f1 => zbn (x3 + 1) fun y2 => k_4 x1 x2 y2 f1
set_option maxRecDepth 100000 in
def f_X12_isSaid_88 (N : Nat) (t_s : Nat → Int32) (k_4 : Int32 → Int32 → Int32 → (Nat → Int32) → (Option (Int32 × (Nat → Int32)))) (x1 : Int32) (x2 : Int32) (x3 : Int32) (x4 : Int32) (c_t_truths : Nat → Int32) : Option (Int32 × (Nat → Int32)) := zbn (x2 + (-1)) fun y1 => zck (zin x4 334) <| if (t_s (Int32.toNatClampNeg x4)) = 21 then (zck (zin (y1 - 1) 45) <| if (c_t_truths (Int32.toNatClampNeg (y1 - 1))) = 0 then (f_X12_isSaid_134 N t_s (f_X12_isSaid_163 N t_s k_4) x1 y1 x3 (y1 - 1) c_t_truths) else (zck (zin y1 45) <| if (c_t_truths (Int32.toNatClampNeg y1)) = 0 then (f_X12_isSaid_134 N t_s (f_X12_isSaid_163 N t_s k_4) x1 y1 x3 (y1 - 1) c_t_truths) else (f_X12_isSaid_163 N t_s k_4 x1 y1 x3 1 (y1 - 1) c_t_truths))) else (zck (zin (y1 - 1) 45) <| if (c_t_truths (Int32.toNatClampNeg (y1 - 1))) = 0 then (zck (zin y1 45) <| if (c_t_truths (Int32.toNatClampNeg y1)) = 0 then (f_X12_isSaid_163 N t_s k_4 x1 y1 x3 0 (y1 - 1) c_t_truths) else (f_X12_isSaid_158 N t_s (f_X12_isSaid_163 N t_s k_4) x1 y1 x3 (y1 - 1) c_t_truths)) else (f_X12_isSaid_158 N t_s (f_X12_isSaid_163 N t_s k_4) x1 y1 x3 (y1 - 1) c_t_truths))
set_option maxRecDepth 100000 in
def f_X12_isSaid_4 (N : Nat) (t_s : Nat → Int32) : Nat → Int32 → Int32 → Int32 → (Nat → Int32) → (Option (Int32 × (Nat → Int32)))
  | 0, _, _, _, _ => none
  | n + 1, x1, x2, x3, c_t_truths => if (t_s 153) ≤ x3 then (zck (zbo (c_t_truths 0)) <| some ((c_t_truths 0), c_t_truths)) else (zbn ((154 + (3 * x3))) fun y1 => zck (zin y1 334) <| if (t_s (Int32.toNatClampNeg y1)) = 20 then (zck (zin (x2 - 1) 45) <| if (c_t_truths (Int32.toNatClampNeg (x2 - 1))) = 0 then (f_X12_isSaid_60 N t_s (f_X12_isSaid_4 N t_s n) x1 x2 x3 1 (x2 - 1) c_t_truths) else (f_X12_isSaid_60 N t_s (f_X12_isSaid_4 N t_s n) x1 x2 x3 0 (x2 - 1) c_t_truths)) else (if (t_s (Int32.toNatClampNeg y1)) = 21 then (f_X12_isSaid_88 N t_s (f_X12_isSaid_4 N t_s n) x1 x2 x3 y1 c_t_truths) else (if (t_s (Int32.toNatClampNeg y1)) = 22 then (f_X12_isSaid_88 N t_s (f_X12_isSaid_4 N t_s n) x1 x2 x3 y1 c_t_truths) else (zck (zin (y1 + 1) 334) <| zck (zin (y1 + 2) 334) <| zcl (f_X12_isLeaf N x1 (t_s (Int32.toNatClampNeg y1)) (t_s (Int32.toNatClampNeg (y1 + 1))) (t_s (Int32.toNatClampNeg (y1 + 2))) t_s) fun z199 => zck (zin x2 45) <| zck (zbo z199) <| zbn (upd c_t_truths (Int32.toNatClampNeg x2) z199) fun f2 => zbn (x2 + 1) fun y3 => zbn (x3 + 1) fun y4 => f_X12_isSaid_4 N t_s n x1 y3 y4 f2))))
set_option maxRecDepth 100000 in
def f_X12_isSaid (N : Nat) (x0 : Int32) (t_s : Nat → Int32) (t_truths : Nat → Int32) : Option (Int32 × (Nat → Int32)) := f_X12_isSaid_4 N t_s N x0 0 0 t_truths
set_option maxHeartbeats 4000000 in
set_option maxRecDepth 100000 in
theorem w_X12_isSaid_134 {p : Program} {l : Launch} {e : Env} {s : State} {m : MethodId} {args : Array Value} {below : List Frame} {meth : Method} {c : Code} {G : va_G} {cy : Nat → ClassId} {E : Nat → Nat} {w0 : va_W} {N : Nat} {q_t q_t_tape q_t_s q_t_h q_t_read q_t_names q_t_reserved q_t_undone q_t_before q_t_comeRow q_t_shown q_t_text q_t_toldAt q_t_stack q_t_truths q_t_imaged q_t_namesKept q_t_areKept : Nat} {t_thrown : Int32} {t_length : Int32} {t_size : Int32} {t_p : Int32} {t_limit : Int32} {t_token : Int32} {t_at : Int32} {t_span : Int32} {t_number : Int32} {t_fault : Int32} {t_faultAt : Int32} {t_word : Int64} {t_got : Int32} {t_lines : Int32} {t_hasWait : Int32} {t_undoMany : Int32} {t_firstMinute : Int32} {t_lookClock : Int32} {t_hasTime : Int32} {t_latestMost : Int32} {t_textMany : Int32} {t_seed : Int32} {t_toldMany : Int32} {t_hasTold : Int32} {t_codes : Int32} {t_ones : Int32} {t_top : Int32} {t_deep : Int32} {t_isWhole : Int32} {t_s : Nat → Int32} {r : Int32} {r_t_truths : Nat → Int32} {k_163 : Int32 → Int32 → Int32 → Int32 → Int32 → (Nat → Int32) → (Option (Int32 × (Nat → Int32)))} (S : CallFix p m c cX12_isSaid 5 s args wsX12_isSaid RX12) (hr : meth.sig.returnType = some .boolean) (hlocks : meth.locks = false) (hF : zF G cy E (va_A w0 s.heap.size) s) (hk_163 : ∀ (x1 : Int32) (x2 : Int32) (x3 : Int32) (sk0 : Int32) (sk1 : Int32) (c_t_truths : Nat → Int32) (H : Heap) (locs : List Loc) (ls : Array Slot), zH G (va_A w0 s.heap.size) s H locs (wd_X12_isSaid cy q_t q_t_tape q_t_s q_t_h q_t_read q_t_names q_t_reserved q_t_undone q_t_before q_t_comeRow q_t_shown q_t_text q_t_toldAt q_t_stack q_t_truths q_t_imaged q_t_namesKept q_t_areKept t_thrown t_length t_size t_p t_limit t_token t_at t_span t_number t_fault t_faultAt t_word t_got t_lines t_hasWait t_undoMany t_firstMinute t_lookClock t_hasTime t_latestMost t_textMany t_seed t_toldMany t_hasTold t_codes t_ones t_top t_deep t_isWhole t_s c_t_truths) → lv_has ls 5 [(0, .ref q_t), (1, .int x1), (2, .int x2), (3, .int x3)] → k_163 x1 x2 x3 sk0 sk1 c_t_truths = some (r, r_t_truths) → W p l e rm_X12_isSaid s m args below meth c H locs 0 0 (MQ below (zQ G w0 (wd_X12_isSaid cy q_t q_t_tape q_t_s q_t_h q_t_read q_t_names q_t_reserved q_t_undone q_t_before q_t_comeRow q_t_shown q_t_text q_t_toldAt q_t_stack q_t_truths q_t_imaged q_t_namesKept q_t_areKept t_thrown t_length t_size t_p t_limit t_token t_at t_span t_number t_fault t_faultAt t_word t_got t_lines t_hasWait t_undoMany t_firstMinute t_lookClock t_hasTime t_latestMost t_textMany t_seed t_toldMany t_hasTold t_codes t_ones t_top t_deep t_isWhole t_s r_t_truths) s.heap.size (some (.int r))) args s 0 0 (va_A w0 s.heap.size)) (F0 m 163 ls [.int sk0, .int sk1, .ref q_t_truths])) :
    ∀ (x1 : Int32) (x2 : Int32) (x3 : Int32) (sk0 : Int32) (c_t_truths : Nat → Int32) (H : Heap) (locs : List Loc) (ls : Array Slot), zH G (va_A w0 s.heap.size) s H locs (wd_X12_isSaid cy q_t q_t_tape q_t_s q_t_h q_t_read q_t_names q_t_reserved q_t_undone q_t_before q_t_comeRow q_t_shown q_t_text q_t_toldAt q_t_stack q_t_truths q_t_imaged q_t_namesKept q_t_areKept t_thrown t_length t_size t_p t_limit t_token t_at t_span t_number t_fault t_faultAt t_word t_got t_lines t_hasWait t_undoMany t_firstMinute t_lookClock t_hasTime t_latestMost t_textMany t_seed t_toldMany t_hasTold t_codes t_ones t_top t_deep t_isWhole t_s c_t_truths) → lv_has ls 5 [(0, .ref q_t), (1, .int x1), (2, .int x2), (3, .int x3)] → f_X12_isSaid_134 N t_s k_163 x1 x2 x3 sk0 c_t_truths = some (r, r_t_truths) → W p l e rm_X12_isSaid s m args below meth c H locs 0 0 (MQ below (zQ G w0 (wd_X12_isSaid cy q_t q_t_tape q_t_s q_t_h q_t_read q_t_names q_t_reserved q_t_undone q_t_before q_t_comeRow q_t_shown q_t_text q_t_toldAt q_t_stack q_t_truths q_t_imaged q_t_namesKept q_t_areKept t_thrown t_length t_size t_p t_limit t_token t_at t_span t_number t_fault t_faultAt t_word t_got t_lines t_hasWait t_undoMany t_firstMinute t_lookClock t_hasTime t_latestMost t_textMany t_seed t_toldMany t_hasTold t_codes t_ones t_top t_deep t_isWhole t_s r_t_truths) s.heap.size (some (.int r))) args s 0 0 (va_A w0 s.heap.size)) (F0 m 134 ls [.int sk0, .ref q_t_truths]) := by
  obtain ⟨hx, hb, hml, hown, hts⟩ := id S
  intro x1 x2 x3 sk0 c_t_truths H locs ls hH hl h
  rw [f_X12_isSaid_134] at h
  refine lv_iconst (v := 0) hx hb dX12_isSaid_134 (by decide) ?_
  refine lv_goto (tgt := 163) hx hb dX12_isSaid_135 (by decide) ?_
  exact hk_163 x1 x2 x3 0 sk0 c_t_truths _ _ _ hH (lv_sub hl [0, 1, 2, 3] rfl) h
set_option maxHeartbeats 4000000 in
set_option maxRecDepth 100000 in
theorem w_X12_isSaid_158 {p : Program} {l : Launch} {e : Env} {s : State} {m : MethodId} {args : Array Value} {below : List Frame} {meth : Method} {c : Code} {G : va_G} {cy : Nat → ClassId} {E : Nat → Nat} {w0 : va_W} {N : Nat} {q_t q_t_tape q_t_s q_t_h q_t_read q_t_names q_t_reserved q_t_undone q_t_before q_t_comeRow q_t_shown q_t_text q_t_toldAt q_t_stack q_t_truths q_t_imaged q_t_namesKept q_t_areKept : Nat} {t_thrown : Int32} {t_length : Int32} {t_size : Int32} {t_p : Int32} {t_limit : Int32} {t_token : Int32} {t_at : Int32} {t_span : Int32} {t_number : Int32} {t_fault : Int32} {t_faultAt : Int32} {t_word : Int64} {t_got : Int32} {t_lines : Int32} {t_hasWait : Int32} {t_undoMany : Int32} {t_firstMinute : Int32} {t_lookClock : Int32} {t_hasTime : Int32} {t_latestMost : Int32} {t_textMany : Int32} {t_seed : Int32} {t_toldMany : Int32} {t_hasTold : Int32} {t_codes : Int32} {t_ones : Int32} {t_top : Int32} {t_deep : Int32} {t_isWhole : Int32} {t_s : Nat → Int32} {r : Int32} {r_t_truths : Nat → Int32} {k_163 : Int32 → Int32 → Int32 → Int32 → Int32 → (Nat → Int32) → (Option (Int32 × (Nat → Int32)))} (S : CallFix p m c cX12_isSaid 5 s args wsX12_isSaid RX12) (hr : meth.sig.returnType = some .boolean) (hlocks : meth.locks = false) (hF : zF G cy E (va_A w0 s.heap.size) s) (hk_163 : ∀ (x1 : Int32) (x2 : Int32) (x3 : Int32) (sk0 : Int32) (sk1 : Int32) (c_t_truths : Nat → Int32) (H : Heap) (locs : List Loc) (ls : Array Slot), zH G (va_A w0 s.heap.size) s H locs (wd_X12_isSaid cy q_t q_t_tape q_t_s q_t_h q_t_read q_t_names q_t_reserved q_t_undone q_t_before q_t_comeRow q_t_shown q_t_text q_t_toldAt q_t_stack q_t_truths q_t_imaged q_t_namesKept q_t_areKept t_thrown t_length t_size t_p t_limit t_token t_at t_span t_number t_fault t_faultAt t_word t_got t_lines t_hasWait t_undoMany t_firstMinute t_lookClock t_hasTime t_latestMost t_textMany t_seed t_toldMany t_hasTold t_codes t_ones t_top t_deep t_isWhole t_s c_t_truths) → lv_has ls 5 [(0, .ref q_t), (1, .int x1), (2, .int x2), (3, .int x3)] → k_163 x1 x2 x3 sk0 sk1 c_t_truths = some (r, r_t_truths) → W p l e rm_X12_isSaid s m args below meth c H locs 0 0 (MQ below (zQ G w0 (wd_X12_isSaid cy q_t q_t_tape q_t_s q_t_h q_t_read q_t_names q_t_reserved q_t_undone q_t_before q_t_comeRow q_t_shown q_t_text q_t_toldAt q_t_stack q_t_truths q_t_imaged q_t_namesKept q_t_areKept t_thrown t_length t_size t_p t_limit t_token t_at t_span t_number t_fault t_faultAt t_word t_got t_lines t_hasWait t_undoMany t_firstMinute t_lookClock t_hasTime t_latestMost t_textMany t_seed t_toldMany t_hasTold t_codes t_ones t_top t_deep t_isWhole t_s r_t_truths) s.heap.size (some (.int r))) args s 0 0 (va_A w0 s.heap.size)) (F0 m 163 ls [.int sk0, .int sk1, .ref q_t_truths])) :
    ∀ (x1 : Int32) (x2 : Int32) (x3 : Int32) (sk0 : Int32) (c_t_truths : Nat → Int32) (H : Heap) (locs : List Loc) (ls : Array Slot), zH G (va_A w0 s.heap.size) s H locs (wd_X12_isSaid cy q_t q_t_tape q_t_s q_t_h q_t_read q_t_names q_t_reserved q_t_undone q_t_before q_t_comeRow q_t_shown q_t_text q_t_toldAt q_t_stack q_t_truths q_t_imaged q_t_namesKept q_t_areKept t_thrown t_length t_size t_p t_limit t_token t_at t_span t_number t_fault t_faultAt t_word t_got t_lines t_hasWait t_undoMany t_firstMinute t_lookClock t_hasTime t_latestMost t_textMany t_seed t_toldMany t_hasTold t_codes t_ones t_top t_deep t_isWhole t_s c_t_truths) → lv_has ls 5 [(0, .ref q_t), (1, .int x1), (2, .int x2), (3, .int x3)] → f_X12_isSaid_158 N t_s k_163 x1 x2 x3 sk0 c_t_truths = some (r, r_t_truths) → W p l e rm_X12_isSaid s m args below meth c H locs 0 0 (MQ below (zQ G w0 (wd_X12_isSaid cy q_t q_t_tape q_t_s q_t_h q_t_read q_t_names q_t_reserved q_t_undone q_t_before q_t_comeRow q_t_shown q_t_text q_t_toldAt q_t_stack q_t_truths q_t_imaged q_t_namesKept q_t_areKept t_thrown t_length t_size t_p t_limit t_token t_at t_span t_number t_fault t_faultAt t_word t_got t_lines t_hasWait t_undoMany t_firstMinute t_lookClock t_hasTime t_latestMost t_textMany t_seed t_toldMany t_hasTold t_codes t_ones t_top t_deep t_isWhole t_s r_t_truths) s.heap.size (some (.int r))) args s 0 0 (va_A w0 s.heap.size)) (F0 m 158 ls [.int sk0, .ref q_t_truths]) := by
  obtain ⟨hx, hb, hml, hown, hts⟩ := id S
  intro x1 x2 x3 sk0 c_t_truths H locs ls hH hl h
  rw [f_X12_isSaid_158] at h
  refine lv_iconst (v := 1) hx hb dX12_isSaid_158 (by decide) ?_
  refine lv_goto (tgt := 163) hx hb dX12_isSaid_159 (by decide) ?_
  exact hk_163 x1 x2 x3 1 sk0 c_t_truths _ _ _ hH (lv_sub hl [0, 1, 2, 3] rfl) h
set_option maxHeartbeats 4000000 in
set_option maxRecDepth 100000 in
theorem w_X12_isSaid_163 {p : Program} {l : Launch} {e : Env} {s : State} {m : MethodId} {args : Array Value} {below : List Frame} {meth : Method} {c : Code} {G : va_G} {cy : Nat → ClassId} {E : Nat → Nat} {w0 : va_W} {N : Nat} {q_t q_t_tape q_t_s q_t_h q_t_read q_t_names q_t_reserved q_t_undone q_t_before q_t_comeRow q_t_shown q_t_text q_t_toldAt q_t_stack q_t_truths q_t_imaged q_t_namesKept q_t_areKept : Nat} {t_thrown : Int32} {t_length : Int32} {t_size : Int32} {t_p : Int32} {t_limit : Int32} {t_token : Int32} {t_at : Int32} {t_span : Int32} {t_number : Int32} {t_fault : Int32} {t_faultAt : Int32} {t_word : Int64} {t_got : Int32} {t_lines : Int32} {t_hasWait : Int32} {t_undoMany : Int32} {t_firstMinute : Int32} {t_lookClock : Int32} {t_hasTime : Int32} {t_latestMost : Int32} {t_textMany : Int32} {t_seed : Int32} {t_toldMany : Int32} {t_hasTold : Int32} {t_codes : Int32} {t_ones : Int32} {t_top : Int32} {t_deep : Int32} {t_isWhole : Int32} {t_s : Nat → Int32} {r : Int32} {r_t_truths : Nat → Int32} {k_4 : Int32 → Int32 → Int32 → (Nat → Int32) → (Option (Int32 × (Nat → Int32)))} (S : CallFix p m c cX12_isSaid 5 s args wsX12_isSaid RX12) (hr : meth.sig.returnType = some .boolean) (hlocks : meth.locks = false) (hF : zF G cy E (va_A w0 s.heap.size) s) (hk_4 : ∀ (x1 : Int32) (x2 : Int32) (x3 : Int32) (c_t_truths : Nat → Int32) (H : Heap) (locs : List Loc) (ls : Array Slot), zH G (va_A w0 s.heap.size) s H locs (wd_X12_isSaid cy q_t q_t_tape q_t_s q_t_h q_t_read q_t_names q_t_reserved q_t_undone q_t_before q_t_comeRow q_t_shown q_t_text q_t_toldAt q_t_stack q_t_truths q_t_imaged q_t_namesKept q_t_areKept t_thrown t_length t_size t_p t_limit t_token t_at t_span t_number t_fault t_faultAt t_word t_got t_lines t_hasWait t_undoMany t_firstMinute t_lookClock t_hasTime t_latestMost t_textMany t_seed t_toldMany t_hasTold t_codes t_ones t_top t_deep t_isWhole t_s c_t_truths) → lv_has ls 5 [(0, .ref q_t), (1, .int x1), (2, .int x2), (3, .int x3)] → k_4 x1 x2 x3 c_t_truths = some (r, r_t_truths) → W p l e rm_X12_isSaid s m args below meth c H locs 0 0 (MQ below (zQ G w0 (wd_X12_isSaid cy q_t q_t_tape q_t_s q_t_h q_t_read q_t_names q_t_reserved q_t_undone q_t_before q_t_comeRow q_t_shown q_t_text q_t_toldAt q_t_stack q_t_truths q_t_imaged q_t_namesKept q_t_areKept t_thrown t_length t_size t_p t_limit t_token t_at t_span t_number t_fault t_faultAt t_word t_got t_lines t_hasWait t_undoMany t_firstMinute t_lookClock t_hasTime t_latestMost t_textMany t_seed t_toldMany t_hasTold t_codes t_ones t_top t_deep t_isWhole t_s r_t_truths) s.heap.size (some (.int r))) args s 0 0 (va_A w0 s.heap.size)) (F0 m 4 ls [])) :
    ∀ (x1 : Int32) (x2 : Int32) (x3 : Int32) (sk0 : Int32) (sk1 : Int32) (c_t_truths : Nat → Int32) (H : Heap) (locs : List Loc) (ls : Array Slot), zH G (va_A w0 s.heap.size) s H locs (wd_X12_isSaid cy q_t q_t_tape q_t_s q_t_h q_t_read q_t_names q_t_reserved q_t_undone q_t_before q_t_comeRow q_t_shown q_t_text q_t_toldAt q_t_stack q_t_truths q_t_imaged q_t_namesKept q_t_areKept t_thrown t_length t_size t_p t_limit t_token t_at t_span t_number t_fault t_faultAt t_word t_got t_lines t_hasWait t_undoMany t_firstMinute t_lookClock t_hasTime t_latestMost t_textMany t_seed t_toldMany t_hasTold t_codes t_ones t_top t_deep t_isWhole t_s c_t_truths) → lv_has ls 5 [(0, .ref q_t), (1, .int x1), (2, .int x2), (3, .int x3)] → f_X12_isSaid_163 N t_s k_4 x1 x2 x3 sk0 sk1 c_t_truths = some (r, r_t_truths) → W p l e rm_X12_isSaid s m args below meth c H locs 0 0 (MQ below (zQ G w0 (wd_X12_isSaid cy q_t q_t_tape q_t_s q_t_h q_t_read q_t_names q_t_reserved q_t_undone q_t_before q_t_comeRow q_t_shown q_t_text q_t_toldAt q_t_stack q_t_truths q_t_imaged q_t_namesKept q_t_areKept t_thrown t_length t_size t_p t_limit t_token t_at t_span t_number t_fault t_faultAt t_word t_got t_lines t_hasWait t_undoMany t_firstMinute t_lookClock t_hasTime t_latestMost t_textMany t_seed t_toldMany t_hasTold t_codes t_ones t_top t_deep t_isWhole t_s r_t_truths) s.heap.size (some (.int r))) args s 0 0 (va_A w0 s.heap.size)) (F0 m 163 ls [.int sk0, .int sk1, .ref q_t_truths]) := by
  obtain ⟨hx, hb, hml, hown, hts⟩ := id S
  intro x1 x2 x3 sk0 sk1 c_t_truths H locs ls hH hl h
  rw [f_X12_isSaid_163] at h
  obtain ⟨h163, h⟩ := zck_e h
  obtain ⟨g163, h⟩ := zck_e h
  obtain ⟨f1, ef1, h⟩ := zbn_e h
  refine z_zast (ws' := (wd_X12_isSaid cy q_t q_t_tape q_t_s q_t_h q_t_read q_t_names q_t_reserved q_t_undone q_t_before q_t_comeRow q_t_shown q_t_text q_t_toldAt q_t_stack q_t_truths q_t_imaged q_t_namesKept q_t_areKept t_thrown t_length t_size t_p t_limit t_token t_at t_span t_number t_fault t_faultAt t_word t_got t_lines t_hasWait t_undoMany t_firstMinute t_lookClock t_hasTime t_latestMost t_textMany t_seed t_toldMany t_hasTold t_codes t_ones t_top t_deep t_isWhole t_s f1)) (j := (Int32.toNatClampNeg sk1)) S hF hH 2 rfl h163 rfl g163 (by rw [ef1]; rfl) dX12_isSaid_163 (fun H locs hH => ?_)
  clear ef1
  refine lv_goto (tgt := 206) hx hb dX12_isSaid_164 (by decide) ?_
  obtain ⟨y2, ey2, h⟩ := zbn_e h
  refine lv_iinc (v := y2) (lv' := [(3, .int y2), (0, .ref q_t), (1, .int x1), (2, .int x2)]) hx hb dX12_isSaid_206 hl (k := 3) rfl (by rw [ey2]; exact congrArg (fun z => x3 + z) (by decide)) (by decide) rfl (fun ls hl => ?_)
  clear ey2
  refine lv_goto (tgt := 4) hx hb dX12_isSaid_209 (by decide) ?_
  exact hk_4 x1 x2 y2 f1 _ _ _ hH (lv_sub hl [1, 2, 3, 0] rfl) h
set_option maxHeartbeats 4000000 in
set_option maxRecDepth 100000 in
theorem w_X12_isSaid_60 {p : Program} {l : Launch} {e : Env} {s : State} {m : MethodId} {args : Array Value} {below : List Frame} {meth : Method} {c : Code} {G : va_G} {cy : Nat → ClassId} {E : Nat → Nat} {w0 : va_W} {N : Nat} {q_t q_t_tape q_t_s q_t_h q_t_read q_t_names q_t_reserved q_t_undone q_t_before q_t_comeRow q_t_shown q_t_text q_t_toldAt q_t_stack q_t_truths q_t_imaged q_t_namesKept q_t_areKept : Nat} {t_thrown : Int32} {t_length : Int32} {t_size : Int32} {t_p : Int32} {t_limit : Int32} {t_token : Int32} {t_at : Int32} {t_span : Int32} {t_number : Int32} {t_fault : Int32} {t_faultAt : Int32} {t_word : Int64} {t_got : Int32} {t_lines : Int32} {t_hasWait : Int32} {t_undoMany : Int32} {t_firstMinute : Int32} {t_lookClock : Int32} {t_hasTime : Int32} {t_latestMost : Int32} {t_textMany : Int32} {t_seed : Int32} {t_toldMany : Int32} {t_hasTold : Int32} {t_codes : Int32} {t_ones : Int32} {t_top : Int32} {t_deep : Int32} {t_isWhole : Int32} {t_s : Nat → Int32} {r : Int32} {r_t_truths : Nat → Int32} {k_4 : Int32 → Int32 → Int32 → (Nat → Int32) → (Option (Int32 × (Nat → Int32)))} (S : CallFix p m c cX12_isSaid 5 s args wsX12_isSaid RX12) (hr : meth.sig.returnType = some .boolean) (hlocks : meth.locks = false) (hF : zF G cy E (va_A w0 s.heap.size) s) (hk_4 : ∀ (x1 : Int32) (x2 : Int32) (x3 : Int32) (c_t_truths : Nat → Int32) (H : Heap) (locs : List Loc) (ls : Array Slot), zH G (va_A w0 s.heap.size) s H locs (wd_X12_isSaid cy q_t q_t_tape q_t_s q_t_h q_t_read q_t_names q_t_reserved q_t_undone q_t_before q_t_comeRow q_t_shown q_t_text q_t_toldAt q_t_stack q_t_truths q_t_imaged q_t_namesKept q_t_areKept t_thrown t_length t_size t_p t_limit t_token t_at t_span t_number t_fault t_faultAt t_word t_got t_lines t_hasWait t_undoMany t_firstMinute t_lookClock t_hasTime t_latestMost t_textMany t_seed t_toldMany t_hasTold t_codes t_ones t_top t_deep t_isWhole t_s c_t_truths) → lv_has ls 5 [(0, .ref q_t), (1, .int x1), (2, .int x2), (3, .int x3)] → k_4 x1 x2 x3 c_t_truths = some (r, r_t_truths) → W p l e rm_X12_isSaid s m args below meth c H locs 0 0 (MQ below (zQ G w0 (wd_X12_isSaid cy q_t q_t_tape q_t_s q_t_h q_t_read q_t_names q_t_reserved q_t_undone q_t_before q_t_comeRow q_t_shown q_t_text q_t_toldAt q_t_stack q_t_truths q_t_imaged q_t_namesKept q_t_areKept t_thrown t_length t_size t_p t_limit t_token t_at t_span t_number t_fault t_faultAt t_word t_got t_lines t_hasWait t_undoMany t_firstMinute t_lookClock t_hasTime t_latestMost t_textMany t_seed t_toldMany t_hasTold t_codes t_ones t_top t_deep t_isWhole t_s r_t_truths) s.heap.size (some (.int r))) args s 0 0 (va_A w0 s.heap.size)) (F0 m 4 ls [])) :
    ∀ (x1 : Int32) (x2 : Int32) (x3 : Int32) (sk0 : Int32) (sk1 : Int32) (c_t_truths : Nat → Int32) (H : Heap) (locs : List Loc) (ls : Array Slot), zH G (va_A w0 s.heap.size) s H locs (wd_X12_isSaid cy q_t q_t_tape q_t_s q_t_h q_t_read q_t_names q_t_reserved q_t_undone q_t_before q_t_comeRow q_t_shown q_t_text q_t_toldAt q_t_stack q_t_truths q_t_imaged q_t_namesKept q_t_areKept t_thrown t_length t_size t_p t_limit t_token t_at t_span t_number t_fault t_faultAt t_word t_got t_lines t_hasWait t_undoMany t_firstMinute t_lookClock t_hasTime t_latestMost t_textMany t_seed t_toldMany t_hasTold t_codes t_ones t_top t_deep t_isWhole t_s c_t_truths) → lv_has ls 5 [(0, .ref q_t), (1, .int x1), (2, .int x2), (3, .int x3)] → f_X12_isSaid_60 N t_s k_4 x1 x2 x3 sk0 sk1 c_t_truths = some (r, r_t_truths) → W p l e rm_X12_isSaid s m args below meth c H locs 0 0 (MQ below (zQ G w0 (wd_X12_isSaid cy q_t q_t_tape q_t_s q_t_h q_t_read q_t_names q_t_reserved q_t_undone q_t_before q_t_comeRow q_t_shown q_t_text q_t_toldAt q_t_stack q_t_truths q_t_imaged q_t_namesKept q_t_areKept t_thrown t_length t_size t_p t_limit t_token t_at t_span t_number t_fault t_faultAt t_word t_got t_lines t_hasWait t_undoMany t_firstMinute t_lookClock t_hasTime t_latestMost t_textMany t_seed t_toldMany t_hasTold t_codes t_ones t_top t_deep t_isWhole t_s r_t_truths) s.heap.size (some (.int r))) args s 0 0 (va_A w0 s.heap.size)) (F0 m 60 ls [.int sk0, .int sk1, .ref q_t_truths]) := by
  obtain ⟨hx, hb, hml, hown, hts⟩ := id S
  intro x1 x2 x3 sk0 sk1 c_t_truths H locs ls hH hl h
  rw [f_X12_isSaid_60] at h
  obtain ⟨h60, h⟩ := zck_e h
  obtain ⟨g60, h⟩ := zck_e h
  obtain ⟨f1, ef1, h⟩ := zbn_e h
  refine z_zast (ws' := (wd_X12_isSaid cy q_t q_t_tape q_t_s q_t_h q_t_read q_t_names q_t_reserved q_t_undone q_t_before q_t_comeRow q_t_shown q_t_text q_t_toldAt q_t_stack q_t_truths q_t_imaged q_t_namesKept q_t_areKept t_thrown t_length t_size t_p t_limit t_token t_at t_span t_number t_fault t_faultAt t_word t_got t_lines t_hasWait t_undoMany t_firstMinute t_lookClock t_hasTime t_latestMost t_textMany t_seed t_toldMany t_hasTold t_codes t_ones t_top t_deep t_isWhole t_s f1)) (j := (Int32.toNatClampNeg sk1)) S hF hH 2 rfl h60 rfl g60 (by rw [ef1]; rfl) dX12_isSaid_60 (fun H locs hH => ?_)
  clear ef1
  refine lv_goto (tgt := 206) hx hb dX12_isSaid_61 (by decide) ?_
  obtain ⟨y2, ey2, h⟩ := zbn_e h
  refine lv_iinc (v := y2) (lv' := [(3, .int y2), (0, .ref q_t), (1, .int x1), (2, .int x2)]) hx hb dX12_isSaid_206 hl (k := 3) rfl (by rw [ey2]; exact congrArg (fun z => x3 + z) (by decide)) (by decide) rfl (fun ls hl => ?_)
  clear ey2
  refine lv_goto (tgt := 4) hx hb dX12_isSaid_209 (by decide) ?_
  exact hk_4 x1 x2 y2 f1 _ _ _ hH (lv_sub hl [1, 2, 3, 0] rfl) h
set_option maxHeartbeats 4000000 in
set_option maxRecDepth 100000 in
theorem w_X12_isSaid_88 {p : Program} {l : Launch} {e : Env} {s : State} {m : MethodId} {args : Array Value} {below : List Frame} {meth : Method} {c : Code} {G : va_G} {cy : Nat → ClassId} {E : Nat → Nat} {w0 : va_W} {N : Nat} {q_t q_t_tape q_t_s q_t_h q_t_read q_t_names q_t_reserved q_t_undone q_t_before q_t_comeRow q_t_shown q_t_text q_t_toldAt q_t_stack q_t_truths q_t_imaged q_t_namesKept q_t_areKept : Nat} {t_thrown : Int32} {t_length : Int32} {t_size : Int32} {t_p : Int32} {t_limit : Int32} {t_token : Int32} {t_at : Int32} {t_span : Int32} {t_number : Int32} {t_fault : Int32} {t_faultAt : Int32} {t_word : Int64} {t_got : Int32} {t_lines : Int32} {t_hasWait : Int32} {t_undoMany : Int32} {t_firstMinute : Int32} {t_lookClock : Int32} {t_hasTime : Int32} {t_latestMost : Int32} {t_textMany : Int32} {t_seed : Int32} {t_toldMany : Int32} {t_hasTold : Int32} {t_codes : Int32} {t_ones : Int32} {t_top : Int32} {t_deep : Int32} {t_isWhole : Int32} {t_s : Nat → Int32} {r : Int32} {r_t_truths : Nat → Int32} {k_4 : Int32 → Int32 → Int32 → (Nat → Int32) → (Option (Int32 × (Nat → Int32)))} (S : CallFix p m c cX12_isSaid 5 s args wsX12_isSaid RX12) (hr : meth.sig.returnType = some .boolean) (hlocks : meth.locks = false) (hF : zF G cy E (va_A w0 s.heap.size) s) (hk_4 : ∀ (x1 : Int32) (x2 : Int32) (x3 : Int32) (c_t_truths : Nat → Int32) (H : Heap) (locs : List Loc) (ls : Array Slot), zH G (va_A w0 s.heap.size) s H locs (wd_X12_isSaid cy q_t q_t_tape q_t_s q_t_h q_t_read q_t_names q_t_reserved q_t_undone q_t_before q_t_comeRow q_t_shown q_t_text q_t_toldAt q_t_stack q_t_truths q_t_imaged q_t_namesKept q_t_areKept t_thrown t_length t_size t_p t_limit t_token t_at t_span t_number t_fault t_faultAt t_word t_got t_lines t_hasWait t_undoMany t_firstMinute t_lookClock t_hasTime t_latestMost t_textMany t_seed t_toldMany t_hasTold t_codes t_ones t_top t_deep t_isWhole t_s c_t_truths) → lv_has ls 5 [(0, .ref q_t), (1, .int x1), (2, .int x2), (3, .int x3)] → k_4 x1 x2 x3 c_t_truths = some (r, r_t_truths) → W p l e rm_X12_isSaid s m args below meth c H locs 0 0 (MQ below (zQ G w0 (wd_X12_isSaid cy q_t q_t_tape q_t_s q_t_h q_t_read q_t_names q_t_reserved q_t_undone q_t_before q_t_comeRow q_t_shown q_t_text q_t_toldAt q_t_stack q_t_truths q_t_imaged q_t_namesKept q_t_areKept t_thrown t_length t_size t_p t_limit t_token t_at t_span t_number t_fault t_faultAt t_word t_got t_lines t_hasWait t_undoMany t_firstMinute t_lookClock t_hasTime t_latestMost t_textMany t_seed t_toldMany t_hasTold t_codes t_ones t_top t_deep t_isWhole t_s r_t_truths) s.heap.size (some (.int r))) args s 0 0 (va_A w0 s.heap.size)) (F0 m 4 ls [])) :
    ∀ (x1 : Int32) (x2 : Int32) (x3 : Int32) (x4 : Int32) (c_t_truths : Nat → Int32) (H : Heap) (locs : List Loc) (ls : Array Slot), zH G (va_A w0 s.heap.size) s H locs (wd_X12_isSaid cy q_t q_t_tape q_t_s q_t_h q_t_read q_t_names q_t_reserved q_t_undone q_t_before q_t_comeRow q_t_shown q_t_text q_t_toldAt q_t_stack q_t_truths q_t_imaged q_t_namesKept q_t_areKept t_thrown t_length t_size t_p t_limit t_token t_at t_span t_number t_fault t_faultAt t_word t_got t_lines t_hasWait t_undoMany t_firstMinute t_lookClock t_hasTime t_latestMost t_textMany t_seed t_toldMany t_hasTold t_codes t_ones t_top t_deep t_isWhole t_s c_t_truths) → lv_has ls 5 [(0, .ref q_t), (1, .int x1), (2, .int x2), (3, .int x3), (4, .int x4)] → f_X12_isSaid_88 N t_s k_4 x1 x2 x3 x4 c_t_truths = some (r, r_t_truths) → W p l e rm_X12_isSaid s m args below meth c H locs 0 0 (MQ below (zQ G w0 (wd_X12_isSaid cy q_t q_t_tape q_t_s q_t_h q_t_read q_t_names q_t_reserved q_t_undone q_t_before q_t_comeRow q_t_shown q_t_text q_t_toldAt q_t_stack q_t_truths q_t_imaged q_t_namesKept q_t_areKept t_thrown t_length t_size t_p t_limit t_token t_at t_span t_number t_fault t_faultAt t_word t_got t_lines t_hasWait t_undoMany t_firstMinute t_lookClock t_hasTime t_latestMost t_textMany t_seed t_toldMany t_hasTold t_codes t_ones t_top t_deep t_isWhole t_s r_t_truths) s.heap.size (some (.int r))) args s 0 0 (va_A w0 s.heap.size)) (F0 m 88 ls []) := by
  obtain ⟨hx, hb, hml, hown, hts⟩ := id S
  intro x1 x2 x3 x4 c_t_truths H locs ls hH hl h
  rw [f_X12_isSaid_88] at h
  obtain ⟨y1, ey1, h⟩ := zbn_e h
  refine lv_iinc (v := y1) (lv' := [(2, .int y1), (0, .ref q_t), (1, .int x1), (3, .int x3), (4, .int x4)]) hx hb dX12_isSaid_88 hl (k := 2) rfl (by rw [ey1]; exact congrArg (fun z => x2 + z) (by decide)) (by decide) rfl (fun ls hl => ?_)
  clear ey1
  refine lv_aload_n hx hb dX12_isSaid_91 rfl (lv_at hl 1 rfl) ?_
  refine z_get S hF hH iX12_isSaid_X12 0 rfl rfl 42 (by decide) (List.mem_of_getElem? (i := 2) rfl) rfl dX12_isSaid_92 ?_
  refine lv_iload_n hx hb dX12_isSaid_95 rfl (lv_at hl 0 rfl) ?_
  refine lv_iconst (v := 1) hx hb dX12_isSaid_96 (by decide) ?_
  refine lv_isub hx hb dX12_isSaid_97 ?_
  refine lv_aload_n hx hb dX12_isSaid_98 rfl (lv_at hl 1 rfl) ?_
  refine z_get S hF hH iX12_isSaid_X12 0 rfl rfl 6 (by decide) (List.mem_of_getElem? (i := 1) rfl) rfl dX12_isSaid_99 ?_
  refine lv_iload hx hb dX12_isSaid_102 (lv_at hl 4 rfl) ?_
  obtain ⟨h104, h⟩ := zck_e h
  refine z_iald S hF hH 1 rfl h104 rfl dX12_isSaid_104 ?_
  refine lv_bipush (v := 21) hx hb dX12_isSaid_105 (by decide) ?_
  refine lv_icmp_ne (tgt := 138) hx hb dX12_isSaid_107 (by decide) (fun b107 => ?_) (fun b107 => ?_)
  · replace h := zif_f b107 h
    refine lv_aload_n hx hb dX12_isSaid_138 rfl (lv_at hl 1 rfl) ?_
    refine z_get S hF hH iX12_isSaid_X12 0 rfl rfl 42 (by decide) (List.mem_of_getElem? (i := 2) rfl) rfl dX12_isSaid_139 ?_
    refine lv_iload_n hx hb dX12_isSaid_142 rfl (lv_at hl 0 rfl) ?_
    refine lv_iconst (v := 1) hx hb dX12_isSaid_143 (by decide) ?_
    refine lv_isub hx hb dX12_isSaid_144 ?_
    obtain ⟨h145, h⟩ := zck_e h
    refine z_zald S hF hH 2 rfl h145 rfl dX12_isSaid_145 ?_
    refine lv_if_ne (tgt := 158) hx hb dX12_isSaid_146 (by decide) (fun b146 => ?_) (fun b146 => ?_)
    · replace h := zif_f b146 h
      exact w_X12_isSaid_158 S hr hlocks hF (w_X12_isSaid_163 S hr hlocks hF hk_4) x1 y1 x3 (y1 - 1) c_t_truths _ _ _ hH (lv_sub hl [1, 2, 0, 3] rfl) h
    · replace h := zif_t b146 h
      refine lv_aload_n hx hb dX12_isSaid_149 rfl (lv_at hl 1 rfl) ?_
      refine z_get S hF hH iX12_isSaid_X12 0 rfl rfl 42 (by decide) (List.mem_of_getElem? (i := 2) rfl) rfl dX12_isSaid_150 ?_
      refine lv_iload_n hx hb dX12_isSaid_153 rfl (lv_at hl 0 rfl) ?_
      obtain ⟨h154, h⟩ := zck_e h
      refine z_zald S hF hH 2 rfl h154 rfl dX12_isSaid_154 ?_
      refine lv_if_eq (tgt := 162) hx hb dX12_isSaid_155 (by decide) (fun b155 => ?_) (fun b155 => ?_)
      · replace h := zif_t b155 h
        refine lv_iconst (v := 0) hx hb dX12_isSaid_162 (by decide) ?_
        exact w_X12_isSaid_163 S hr hlocks hF hk_4 x1 y1 x3 0 (y1 - 1) c_t_truths _ _ _ hH (lv_sub hl [1, 2, 0, 3] rfl) h
      · replace h := zif_f b155 h
        exact w_X12_isSaid_158 S hr hlocks hF (w_X12_isSaid_163 S hr hlocks hF hk_4) x1 y1 x3 (y1 - 1) c_t_truths _ _ _ hH (lv_sub hl [1, 2, 0, 3] rfl) h
  · replace h := zif_t b107 h
    refine lv_aload_n hx hb dX12_isSaid_110 rfl (lv_at hl 1 rfl) ?_
    refine z_get S hF hH iX12_isSaid_X12 0 rfl rfl 42 (by decide) (List.mem_of_getElem? (i := 2) rfl) rfl dX12_isSaid_111 ?_
    refine lv_iload_n hx hb dX12_isSaid_114 rfl (lv_at hl 0 rfl) ?_
    refine lv_iconst (v := 1) hx hb dX12_isSaid_115 (by decide) ?_
    refine lv_isub hx hb dX12_isSaid_116 ?_
    obtain ⟨h117, h⟩ := zck_e h
    refine z_zald S hF hH 2 rfl h117 rfl dX12_isSaid_117 ?_
    refine lv_if_eq (tgt := 134) hx hb dX12_isSaid_118 (by decide) (fun b118 => ?_) (fun b118 => ?_)
    · replace h := zif_t b118 h
      exact w_X12_isSaid_134 S hr hlocks hF (w_X12_isSaid_163 S hr hlocks hF hk_4) x1 y1 x3 (y1 - 1) c_t_truths _ _ _ hH (lv_sub hl [1, 2, 0, 3] rfl) h
    · replace h := zif_f b118 h
      refine lv_aload_n hx hb dX12_isSaid_121 rfl (lv_at hl 1 rfl) ?_
      refine z_get S hF hH iX12_isSaid_X12 0 rfl rfl 42 (by decide) (List.mem_of_getElem? (i := 2) rfl) rfl dX12_isSaid_122 ?_
      refine lv_iload_n hx hb dX12_isSaid_125 rfl (lv_at hl 0 rfl) ?_
      obtain ⟨h126, h⟩ := zck_e h
      refine z_zald S hF hH 2 rfl h126 rfl dX12_isSaid_126 ?_
      refine lv_if_eq (tgt := 134) hx hb dX12_isSaid_127 (by decide) (fun b127 => ?_) (fun b127 => ?_)
      · replace h := zif_t b127 h
        exact w_X12_isSaid_134 S hr hlocks hF (w_X12_isSaid_163 S hr hlocks hF hk_4) x1 y1 x3 (y1 - 1) c_t_truths _ _ _ hH (lv_sub hl [1, 2, 0, 3] rfl) h
      · replace h := zif_f b127 h
        refine lv_iconst (v := 1) hx hb dX12_isSaid_130 (by decide) ?_
        refine lv_goto (tgt := 163) hx hb dX12_isSaid_131 (by decide) ?_
        exact w_X12_isSaid_163 S hr hlocks hF hk_4 x1 y1 x3 1 (y1 - 1) c_t_truths _ _ _ hH (lv_sub hl [1, 2, 0, 3] rfl) h
set_option maxHeartbeats 4000000 in
set_option maxRecDepth 100000 in
theorem w_X12_isSaid_4 {p : Program} {l : Launch} {e : Env} {s : State} {m : MethodId} {args : Array Value} {below : List Frame} {meth : Method} {c : Code} {G : va_G} {cy : Nat → ClassId} {E : Nat → Nat} {w0 : va_W} {N : Nat} {q_t q_t_tape q_t_s q_t_h q_t_read q_t_names q_t_reserved q_t_undone q_t_before q_t_comeRow q_t_shown q_t_text q_t_toldAt q_t_stack q_t_truths q_t_imaged q_t_namesKept q_t_areKept : Nat} {t_thrown : Int32} {t_length : Int32} {t_size : Int32} {t_p : Int32} {t_limit : Int32} {t_token : Int32} {t_at : Int32} {t_span : Int32} {t_number : Int32} {t_fault : Int32} {t_faultAt : Int32} {t_word : Int64} {t_got : Int32} {t_lines : Int32} {t_hasWait : Int32} {t_undoMany : Int32} {t_firstMinute : Int32} {t_lookClock : Int32} {t_hasTime : Int32} {t_latestMost : Int32} {t_textMany : Int32} {t_seed : Int32} {t_toldMany : Int32} {t_hasTold : Int32} {t_codes : Int32} {t_ones : Int32} {t_top : Int32} {t_deep : Int32} {t_isWhole : Int32} {t_s : Nat → Int32} {r : Int32} {r_t_truths : Nat → Int32} (S : CallFix p m c cX12_isSaid 5 s args wsX12_isSaid RX12) (hr : meth.sig.returnType = some .boolean) (hlocks : meth.locks = false) (hF : zF G cy E (va_A w0 s.heap.size) s) :
    ∀ (n : Nat) (x1 : Int32) (x2 : Int32) (x3 : Int32) (c_t_truths : Nat → Int32) (H : Heap) (locs : List Loc) (ls : Array Slot), zH G (va_A w0 s.heap.size) s H locs (wd_X12_isSaid cy q_t q_t_tape q_t_s q_t_h q_t_read q_t_names q_t_reserved q_t_undone q_t_before q_t_comeRow q_t_shown q_t_text q_t_toldAt q_t_stack q_t_truths q_t_imaged q_t_namesKept q_t_areKept t_thrown t_length t_size t_p t_limit t_token t_at t_span t_number t_fault t_faultAt t_word t_got t_lines t_hasWait t_undoMany t_firstMinute t_lookClock t_hasTime t_latestMost t_textMany t_seed t_toldMany t_hasTold t_codes t_ones t_top t_deep t_isWhole t_s c_t_truths) → lv_has ls 5 [(0, .ref q_t), (1, .int x1), (2, .int x2), (3, .int x3)] → f_X12_isSaid_4 N t_s n x1 x2 x3 c_t_truths = some (r, r_t_truths) → W p l e rm_X12_isSaid s m args below meth c H locs 0 0 (MQ below (zQ G w0 (wd_X12_isSaid cy q_t q_t_tape q_t_s q_t_h q_t_read q_t_names q_t_reserved q_t_undone q_t_before q_t_comeRow q_t_shown q_t_text q_t_toldAt q_t_stack q_t_truths q_t_imaged q_t_namesKept q_t_areKept t_thrown t_length t_size t_p t_limit t_token t_at t_span t_number t_fault t_faultAt t_word t_got t_lines t_hasWait t_undoMany t_firstMinute t_lookClock t_hasTime t_latestMost t_textMany t_seed t_toldMany t_hasTold t_codes t_ones t_top t_deep t_isWhole t_s r_t_truths) s.heap.size (some (.int r))) args s 0 0 (va_A w0 s.heap.size)) (F0 m 4 ls []) := by
  obtain ⟨hx, hb, hml, hown, hts⟩ := id S
  intro n
  induction n with
  | zero =>
    intro x1 x2 x3 c_t_truths H locs ls hH hl h
    rw [f_X12_isSaid_4] at h
    cases h
  | succ n ih =>
    intro x1 x2 x3 c_t_truths H locs ls hH hl h
    rw [f_X12_isSaid_4] at h
    refine lv_iload_n hx hb dX12_isSaid_4 rfl (lv_at hl 3 rfl) ?_
    refine lv_aload_n hx hb dX12_isSaid_5 rfl (lv_at hl 0 rfl) ?_
    refine z_get S hF hH iX12_isSaid_X12 0 rfl rfl 6 (by decide) (List.mem_of_getElem? (i := 1) rfl) rfl dX12_isSaid_6 ?_
    refine lv_sipush (v := 153) hx hb dX12_isSaid_9 (by decide) ?_
    refine z_iald (j := 153) S hF hH 1 rfl (by decide) rfl dX12_isSaid_12 ?_
    refine lv_icmp_ge (tgt := 212) hx hb dX12_isSaid_13 (by decide) (fun b13 => ?_) (fun b13 => ?_)
    · replace h := zif_t b13 h
      refine lv_aload_n hx hb dX12_isSaid_212 rfl (lv_at hl 0 rfl) ?_
      refine z_get S hF hH iX12_isSaid_X12 0 rfl rfl 42 (by decide) (List.mem_of_getElem? (i := 2) rfl) rfl dX12_isSaid_213 ?_
      refine lv_iconst (v := 0) hx hb dX12_isSaid_216 (by decide) ?_
      refine z_zald (j := 0) S hF hH 2 rfl (by decide) rfl dX12_isSaid_217 ?_
      obtain ⟨h218, h⟩ := zck_e h
      cases h
      exact z_zret S hr hlocks hH h218 dX12_isSaid_218
    · replace h := zif_f b13 h
      refine lv_sipush (v := 154) hx hb dX12_isSaid_16 (by decide) ?_
      refine lv_iconst (v := 3) hx hb dX12_isSaid_19 (by decide) ?_
      refine lv_iload_n hx hb dX12_isSaid_20 rfl (lv_at hl 3 rfl) ?_
      refine lv_imul hx hb dX12_isSaid_21 ?_
      refine lv_iadd hx hb dX12_isSaid_22 ?_
      obtain ⟨y1, ey1, h⟩ := zbn_e h
      refine z_top ey1 ?_
      clear ey1
      refine lv_istore (lv' := [(4, .int y1), (0, .ref q_t), (1, .int x1), (2, .int x2), (3, .int x3)]) hx hb dX12_isSaid_23 hl (by decide) rfl (fun ls hl => ?_)
      refine lv_aload_n hx hb dX12_isSaid_25 rfl (lv_at hl 1 rfl) ?_
      refine z_get S hF hH iX12_isSaid_X12 0 rfl rfl 6 (by decide) (List.mem_of_getElem? (i := 1) rfl) rfl dX12_isSaid_26 ?_
      refine lv_iload hx hb dX12_isSaid_29 (lv_at hl 0 rfl) ?_
      obtain ⟨h31, h⟩ := zck_e h
      refine z_iald S hF hH 1 rfl h31 rfl dX12_isSaid_31 ?_
      refine lv_bipush (v := 20) hx hb dX12_isSaid_32 (by decide) ?_
      refine lv_icmp_ne (tgt := 64) hx hb dX12_isSaid_34 (by decide) (fun b34 => ?_) (fun b34 => ?_)
      · replace h := zif_f b34 h
        refine lv_aload_n hx hb dX12_isSaid_64 rfl (lv_at hl 1 rfl) ?_
        refine z_get S hF hH iX12_isSaid_X12 0 rfl rfl 6 (by decide) (List.mem_of_getElem? (i := 1) rfl) rfl dX12_isSaid_65 ?_
        refine lv_iload hx hb dX12_isSaid_68 (lv_at hl 0 rfl) ?_
        refine z_iald S hF hH 1 rfl h31 rfl dX12_isSaid_70 ?_
        refine lv_bipush (v := 21) hx hb dX12_isSaid_71 (by decide) ?_
        refine lv_icmp_eq (tgt := 88) hx hb dX12_isSaid_73 (by decide) (fun b73 => ?_) (fun b73 => ?_)
        · replace h := zif_t b73 h
          exact w_X12_isSaid_88 S hr hlocks hF ih x1 x2 x3 y1 c_t_truths _ _ _ hH (lv_sub hl [1, 2, 3, 4, 0] rfl) h
        · replace h := zif_f b73 h
          refine lv_aload_n hx hb dX12_isSaid_76 rfl (lv_at hl 1 rfl) ?_
          refine z_get S hF hH iX12_isSaid_X12 0 rfl rfl 6 (by decide) (List.mem_of_getElem? (i := 1) rfl) rfl dX12_isSaid_77 ?_
          refine lv_iload hx hb dX12_isSaid_80 (lv_at hl 0 rfl) ?_
          refine z_iald S hF hH 1 rfl h31 rfl dX12_isSaid_82 ?_
          refine lv_bipush (v := 22) hx hb dX12_isSaid_83 (by decide) ?_
          refine lv_icmp_ne (tgt := 167) hx hb dX12_isSaid_85 (by decide) (fun b85 => ?_) (fun b85 => ?_)
          · replace h := zif_f b85 h
            refine lv_aload_n hx hb dX12_isSaid_167 rfl (lv_at hl 1 rfl) ?_
            refine z_get S hF hH iX12_isSaid_X12 0 rfl rfl 42 (by decide) (List.mem_of_getElem? (i := 2) rfl) rfl dX12_isSaid_168 ?_
            refine lv_iload_n hx hb dX12_isSaid_171 rfl (lv_at hl 3 rfl) ?_
            refine lv_aload_n hx hb dX12_isSaid_172 rfl (lv_at hl 1 rfl) ?_
            refine lv_iload_n hx hb dX12_isSaid_173 rfl (lv_at hl 2 rfl) ?_
            refine lv_aload_n hx hb dX12_isSaid_174 rfl (lv_at hl 1 rfl) ?_
            refine z_get S hF hH iX12_isSaid_X12 0 rfl rfl 6 (by decide) (List.mem_of_getElem? (i := 1) rfl) rfl dX12_isSaid_175 ?_
            refine lv_iload hx hb dX12_isSaid_178 (lv_at hl 0 rfl) ?_
            refine z_iald S hF hH 1 rfl h31 rfl dX12_isSaid_180 ?_
            refine lv_aload_n hx hb dX12_isSaid_181 rfl (lv_at hl 1 rfl) ?_
            refine z_get S hF hH iX12_isSaid_X12 0 rfl rfl 6 (by decide) (List.mem_of_getElem? (i := 1) rfl) rfl dX12_isSaid_182 ?_
            refine lv_iload hx hb dX12_isSaid_185 (lv_at hl 0 rfl) ?_
            refine lv_iconst (v := 1) hx hb dX12_isSaid_187 (by decide) ?_
            refine lv_iadd hx hb dX12_isSaid_188 ?_
            obtain ⟨h189, h⟩ := zck_e h
            refine z_iald S hF hH 1 rfl h189 rfl dX12_isSaid_189 ?_
            refine lv_aload_n hx hb dX12_isSaid_190 rfl (lv_at hl 1 rfl) ?_
            refine z_get S hF hH iX12_isSaid_X12 0 rfl rfl 6 (by decide) (List.mem_of_getElem? (i := 1) rfl) rfl dX12_isSaid_191 ?_
            refine lv_iload hx hb dX12_isSaid_194 (lv_at hl 0 rfl) ?_
            refine lv_iconst (v := 2) hx hb dX12_isSaid_196 (by decide) ?_
            refine lv_iadd hx hb dX12_isSaid_197 ?_
            obtain ⟨h198, h⟩ := zck_e h
            refine z_iald S hF hH 1 rfl h198 rfl dX12_isSaid_198 ?_
            obtain ⟨z199, hz199, h⟩ := zcl_e h
            refine z_callV (As := [.int x1, .int (t_s (Int32.toNatClampNeg y1)), .int (t_s (Int32.toNatClampNeg (y1 + 1))), .int (t_s (Int32.toNatClampNeg (y1 + 2)))]) (rest := [.int x2, .ref q_t_truths]) (st1 := [.int z199, .int x2, .ref q_t_truths]) (ws' := (wd_X12_isSaid cy q_t q_t_tape q_t_s q_t_h q_t_read q_t_names q_t_reserved q_t_undone q_t_before q_t_comeRow q_t_shown q_t_text q_t_toldAt q_t_stack q_t_truths q_t_imaged q_t_namesKept q_t_areKept t_thrown t_length t_size t_p t_limit t_token t_at t_span t_number t_fault t_faultAt t_word t_got t_lines t_hasWait t_undoMany t_firstMinute t_lookClock t_hasTime t_latestMost t_textMany t_seed t_toldMany t_hasTold t_codes t_ones t_top t_deep t_isWhole t_s c_t_truths)) S hF hH (c_X12_isLeaf l G cy E N q_t q_t_tape q_t_s q_t_h q_t_read q_t_names q_t_reserved q_t_undone q_t_before q_t_comeRow q_t_shown q_t_text q_t_toldAt q_t_stack q_t_truths q_t_imaged q_t_namesKept q_t_areKept t_thrown t_length t_size t_p t_limit t_token t_at t_span t_number t_fault t_faultAt t_word t_got t_lines t_hasWait t_undoMany t_firstMinute t_lookClock t_hasTime t_latestMost t_textMany t_seed t_toldMany t_hasTold t_codes t_ones t_top t_deep t_isWhole t_s x1 (t_s (Int32.toNatClampNeg y1)) (t_s (Int32.toNatClampNeg (y1 + 1))) (t_s (Int32.toNatClampNeg (y1 + 2))) z199 hz199) (cwV 4 hts gX12_isSaid_X12_isLeaf rfl rfl rfl (by decide +kernel) ⟨Nat.le_of_ble_eq_true rfl, Nat.le_of_ble_eq_true rfl⟩) 13 0 rfl rfl [0, 1] rfl (by decide) rfl rfl rfl rfl rfl hl.1 (Nat.le_of_ble_eq_true rfl) dX12_isSaid_199 ⟨Nat.le_of_ble_eq_true rfl, Nat.le_of_ble_eq_true rfl⟩ (fun H locs hH => ?_)
            obtain ⟨h202, h⟩ := zck_e h
            obtain ⟨g202, h⟩ := zck_e h
            obtain ⟨f2, ef2, h⟩ := zbn_e h
            refine z_zast (ws' := (wd_X12_isSaid cy q_t q_t_tape q_t_s q_t_h q_t_read q_t_names q_t_reserved q_t_undone q_t_before q_t_comeRow q_t_shown q_t_text q_t_toldAt q_t_stack q_t_truths q_t_imaged q_t_namesKept q_t_areKept t_thrown t_length t_size t_p t_limit t_token t_at t_span t_number t_fault t_faultAt t_word t_got t_lines t_hasWait t_undoMany t_firstMinute t_lookClock t_hasTime t_latestMost t_textMany t_seed t_toldMany t_hasTold t_codes t_ones t_top t_deep t_isWhole t_s f2)) (j := (Int32.toNatClampNeg x2)) S hF hH 2 rfl h202 rfl g202 (by rw [ef2]; rfl) dX12_isSaid_202 (fun H locs hH => ?_)
            clear ef2
            obtain ⟨y3, ey3, h⟩ := zbn_e h
            refine lv_iinc (v := y3) (lv' := [(2, .int y3), (4, .int y1), (0, .ref q_t), (1, .int x1), (3, .int x3)]) hx hb dX12_isSaid_203 hl (k := 3) rfl (by rw [ey3]; exact congrArg (fun z => x2 + z) (by decide)) (by decide) rfl (fun ls hl => ?_)
            clear ey3
            obtain ⟨y4, ey4, h⟩ := zbn_e h
            refine lv_iinc (v := y4) (lv' := [(3, .int y4), (2, .int y3), (4, .int y1), (0, .ref q_t), (1, .int x1)]) hx hb dX12_isSaid_206 hl (k := 4) rfl (by rw [ey4]; exact congrArg (fun z => x3 + z) (by decide)) (by decide) rfl (fun ls hl => ?_)
            clear ey4
            refine lv_goto (tgt := 4) hx hb dX12_isSaid_209 (by decide) ?_
            exact ih x1 y3 y4 f2 _ _ _ hH (lv_sub hl [3, 4, 1, 0] rfl) h
          · replace h := zif_t b85 h
            exact w_X12_isSaid_88 S hr hlocks hF ih x1 x2 x3 y1 c_t_truths _ _ _ hH (lv_sub hl [1, 2, 3, 4, 0] rfl) h
      · replace h := zif_t b34 h
        refine lv_aload_n hx hb dX12_isSaid_37 rfl (lv_at hl 1 rfl) ?_
        refine z_get S hF hH iX12_isSaid_X12 0 rfl rfl 42 (by decide) (List.mem_of_getElem? (i := 2) rfl) rfl dX12_isSaid_38 ?_
        refine lv_iload_n hx hb dX12_isSaid_41 rfl (lv_at hl 3 rfl) ?_
        refine lv_iconst (v := 1) hx hb dX12_isSaid_42 (by decide) ?_
        refine lv_isub hx hb dX12_isSaid_43 ?_
        refine lv_aload_n hx hb dX12_isSaid_44 rfl (lv_at hl 1 rfl) ?_
        refine z_get S hF hH iX12_isSaid_X12 0 rfl rfl 42 (by decide) (List.mem_of_getElem? (i := 2) rfl) rfl dX12_isSaid_45 ?_
        refine lv_iload_n hx hb dX12_isSaid_48 rfl (lv_at hl 3 rfl) ?_
        refine lv_iconst (v := 1) hx hb dX12_isSaid_49 (by decide) ?_
        refine lv_isub hx hb dX12_isSaid_50 ?_
        obtain ⟨h51, h⟩ := zck_e h
        refine z_zald S hF hH 2 rfl h51 rfl dX12_isSaid_51 ?_
        refine lv_if_ne (tgt := 59) hx hb dX12_isSaid_52 (by decide) (fun b52 => ?_) (fun b52 => ?_)
        · replace h := zif_f b52 h
          refine lv_iconst (v := 0) hx hb dX12_isSaid_59 (by decide) ?_
          exact w_X12_isSaid_60 S hr hlocks hF ih x1 x2 x3 0 (x2 - 1) c_t_truths _ _ _ hH (lv_sub hl [1, 2, 3, 4] rfl) h
        · replace h := zif_t b52 h
          refine lv_iconst (v := 1) hx hb dX12_isSaid_55 (by decide) ?_
          refine lv_goto (tgt := 60) hx hb dX12_isSaid_56 (by decide) ?_
          exact w_X12_isSaid_60 S hr hlocks hF ih x1 x2 x3 1 (x2 - 1) c_t_truths _ _ _ hH (lv_sub hl [1, 2, 3, 4] rfl) h
set_option maxHeartbeats 4000000 in
set_option maxRecDepth 100000 in
theorem c_X12_isSaid (l : Launch) (G : va_G) (cy : Nat → ClassId) (E : Nat → Nat) (N : Nat) (q_t q_t_tape q_t_s q_t_h q_t_read q_t_names q_t_reserved q_t_undone q_t_before q_t_comeRow q_t_shown q_t_text q_t_toldAt q_t_stack q_t_truths q_t_imaged q_t_namesKept q_t_areKept : Nat) (t_thrown : Int32) (t_length : Int32) (t_size : Int32) (t_p : Int32) (t_limit : Int32) (t_token : Int32) (t_at : Int32) (t_span : Int32) (t_number : Int32) (t_fault : Int32) (t_faultAt : Int32) (t_word : Int64) (t_got : Int32) (t_lines : Int32) (t_hasWait : Int32) (t_undoMany : Int32) (t_firstMinute : Int32) (t_lookClock : Int32) (t_hasTime : Int32) (t_latestMost : Int32) (t_textMany : Int32) (t_seed : Int32) (t_toldMany : Int32) (t_hasTold : Int32) (t_codes : Int32) (t_ones : Int32) (t_top : Int32) (t_deep : Int32) (t_isWhole : Int32) (t_s : Nat → Int32) (t_truths : Nat → Int32) (x0 : Int32) (r : Int32) (r_t_truths : Nat → Int32) (h : f_X12_isSaid N x0 t_s t_truths = some (r, r_t_truths)) : zM l G cy E yX12_isSaid wsX12_isSaid rm_X12_isSaid [.ref q_t, .int x0] (wd_X12_isSaid cy q_t q_t_tape q_t_s q_t_h q_t_read q_t_names q_t_reserved q_t_undone q_t_before q_t_comeRow q_t_shown q_t_text q_t_toldAt q_t_stack q_t_truths q_t_imaged q_t_namesKept q_t_areKept t_thrown t_length t_size t_p t_limit t_token t_at t_span t_number t_fault t_faultAt t_word t_got t_lines t_hasWait t_undoMany t_firstMinute t_lookClock t_hasTime t_latestMost t_textMany t_seed t_toldMany t_hasTold t_codes t_ones t_top t_deep t_isWhole t_s t_truths) (wd_X12_isSaid cy q_t q_t_tape q_t_s q_t_h q_t_read q_t_names q_t_reserved q_t_undone q_t_before q_t_comeRow q_t_shown q_t_text q_t_toldAt q_t_stack q_t_truths q_t_imaged q_t_namesKept q_t_areKept t_thrown t_length t_size t_p t_limit t_token t_at t_span t_number t_fault t_faultAt t_word t_got t_lines t_hasWait t_undoMany t_firstMinute t_lookClock t_hasTime t_latestMost t_textMany t_seed t_toldMany t_hasTold t_codes t_ones t_top t_deep t_isWhole t_s r_t_truths) (some (.int r)) 0 0 := by
  refine z_body (cc := cX12_isSaid) (maxL := 5) (ret := some .boolean) (by decide) rfl (Nat.le_of_ble_eq_true rfl) ?_
  intro p e s m below meth c ls S hr hlocks hnm hF hH hl
  have S : CallFix p m c cX12_isSaid 5 s ([.ref q_t, .int x0] : List Value).toArray wsX12_isSaid RX12 := S
  obtain ⟨hx, hb, hml, hown, hts⟩ := id S
  have hl : lv_has ls 5 [(0, .ref q_t), (1, .int x0)] := hl
  rw [f_X12_isSaid] at h
  refine lv_iconst (v := 0) hx hb dX12_isSaid_0 (by decide) ?_
  refine lv_istore_n (lv' := [(2, .int 0), (0, .ref q_t), (1, .int x0)]) hx hb dX12_isSaid_1 rfl hl (by decide) rfl (fun ls hl => ?_)
  refine lv_iconst (v := 0) hx hb dX12_isSaid_2 (by decide) ?_
  refine lv_istore_n (lv' := [(3, .int 0), (2, .int 0), (0, .ref q_t), (1, .int x0)]) hx hb dX12_isSaid_3 rfl hl (by decide) rfl (fun ls hl => ?_)
  exact w_X12_isSaid_4 S hr hlocks hF N x0 0 0 t_truths _ _ _ hH (lv_sub hl [2, 3, 1, 0] rfl) h
abbrev wd_X12_said (cy : Nat → ClassId) (q_t q_t_tape q_t_s q_t_h q_t_read q_t_names q_t_reserved q_t_undone q_t_before q_t_comeRow q_t_shown q_t_text q_t_toldAt q_t_stack q_t_truths q_t_imaged q_t_namesKept q_t_areKept : Nat) (t_thrown : Int32) (t_length : Int32) (t_size : Int32) (t_p : Int32) (t_limit : Int32) (t_token : Int32) (t_at : Int32) (t_span : Int32) (t_number : Int32) (t_fault : Int32) (t_faultAt : Int32) (t_word : Int64) (t_got : Int32) (t_lines : Int32) (t_hasWait : Int32) (t_undoMany : Int32) (t_firstMinute : Int32) (t_lookClock : Int32) (t_hasTime : Int32) (t_latestMost : Int32) (t_textMany : Int32) (t_seed : Int32) (t_toldMany : Int32) (t_hasTold : Int32) (t_codes : Int32) (t_ones : Int32) (t_top : Int32) (t_deep : Int32) (t_isWhole : Int32) (t_s : Nat → Int32) (t_truths : Nat → Int32) : va_W := [(q_t, .inr (13, [.int t_thrown, .ref q_t_tape, .int t_length, .int t_size, .int t_p, .int t_limit, .ref q_t_s, .ref q_t_h, .ref q_t_read, .ref q_t_names, .ref q_t_reserved, .int t_token, .int t_at, .int t_span, .int t_number, .int t_fault, .int t_faultAt, .long t_word, .int t_got, .int t_lines, .int t_hasWait, .ref q_t_undone, .ref q_t_before, .int t_undoMany, .ref q_t_comeRow, .int t_firstMinute, .int t_lookClock, .int t_hasTime, .ref q_t_shown, .int t_latestMost, .ref q_t_text, .int t_textMany, .int t_seed, .int t_toldMany, .ref q_t_toldAt, .int t_hasTold, .ref q_t_stack, .int t_codes, .int t_ones, .int t_top, .int t_deep, .int t_isWhole, .ref q_t_truths, .ref q_t_imaged, .ref q_t_namesKept, .ref q_t_areKept])), (q_t_s, .inl (cy 1, 334, .inl t_s)), (q_t_truths, .inl (cy 3, 45, .inl t_truths))]
theorem iX12_said_X12 : ∀ w ∈ wsX120, w ∈ wsX12_said := fun _ h => List.mem_cons_of_mem _ (List.mem_append_right _ h)
abbrev rm_X12_said : Room := { frames := 6, cells := 0, slots := 0, locals := 134 }
set_option maxRecDepth 100000 in
def f_X12_said_27 (N : Nat) (t_s : Nat → Int32) : Nat → Int32 → Int32 → Int32 → Int32 → (Nat → Int32) → (Option (Int32 × Int32 × (Nat → Int32)))
  | 0, _, _, _, _, _ => none
  | n + 1, x1, x2, x3, c_t_thrown, c_t_truths => if (t_s 1) ≤ x3 then (if x1 = (-1) then (some (x2, c_t_thrown, c_t_truths)) else (some ((-1), c_t_thrown, c_t_truths))) else (zcl (f_X12_isSaid N x3 t_s c_t_truths) fun z39 => if z39.1 = 0 then (zbn (x3 + 1) fun y3 => f_X12_said_27 N t_s n x1 x2 y3 c_t_thrown z39.2) else (if x2 = x1 then (some (x3, c_t_thrown, z39.2)) else (zbn (x2 + 1) fun y1 => zbn (x3 + 1) fun y2 => f_X12_said_27 N t_s n x1 y1 y2 c_t_thrown z39.2)))
set_option maxRecDepth 100000 in
def f_X12_said (N : Nat) (x0 : Int32) (t_thrown : Int32) (t_s : Nat → Int32) (t_truths : Nat → Int32) : Option (Int32 × Int32 × (Nat → Int32)) := if (t_s 153) = 0 then (some ((-1), 0, t_truths)) else (if (-1) ≤ x0 then (f_X12_said_27 N t_s N x0 0 0 0 t_truths) else (some ((-1), 0, t_truths)))
set_option maxHeartbeats 4000000 in
set_option maxRecDepth 100000 in
theorem w_X12_said_27 {p : Program} {l : Launch} {e : Env} {s : State} {m : MethodId} {args : Array Value} {below : List Frame} {meth : Method} {c : Code} {G : va_G} {cy : Nat → ClassId} {E : Nat → Nat} {w0 : va_W} {N : Nat} {q_t q_t_tape q_t_s q_t_h q_t_read q_t_names q_t_reserved q_t_undone q_t_before q_t_comeRow q_t_shown q_t_text q_t_toldAt q_t_stack q_t_truths q_t_imaged q_t_namesKept q_t_areKept : Nat} {t_length : Int32} {t_size : Int32} {t_p : Int32} {t_limit : Int32} {t_token : Int32} {t_at : Int32} {t_span : Int32} {t_number : Int32} {t_fault : Int32} {t_faultAt : Int32} {t_word : Int64} {t_got : Int32} {t_lines : Int32} {t_hasWait : Int32} {t_undoMany : Int32} {t_firstMinute : Int32} {t_lookClock : Int32} {t_hasTime : Int32} {t_latestMost : Int32} {t_textMany : Int32} {t_seed : Int32} {t_toldMany : Int32} {t_hasTold : Int32} {t_codes : Int32} {t_ones : Int32} {t_top : Int32} {t_deep : Int32} {t_isWhole : Int32} {t_s : Nat → Int32} {r : Int32} {r_t_thrown : Int32} {r_t_truths : Nat → Int32} (S : CallFix p m c cX12_said 4 s args wsX12_said RX12) (hr : meth.sig.returnType = some .int) (hlocks : meth.locks = false) (hF : zF G cy E (va_A w0 s.heap.size) s) :
    ∀ (n : Nat) (x1 : Int32) (x2 : Int32) (x3 : Int32) (c_t_thrown : Int32) (c_t_truths : Nat → Int32) (H : Heap) (locs : List Loc) (ls : Array Slot), zH G (va_A w0 s.heap.size) s H locs (wd_X12_said cy q_t q_t_tape q_t_s q_t_h q_t_read q_t_names q_t_reserved q_t_undone q_t_before q_t_comeRow q_t_shown q_t_text q_t_toldAt q_t_stack q_t_truths q_t_imaged q_t_namesKept q_t_areKept c_t_thrown t_length t_size t_p t_limit t_token t_at t_span t_number t_fault t_faultAt t_word t_got t_lines t_hasWait t_undoMany t_firstMinute t_lookClock t_hasTime t_latestMost t_textMany t_seed t_toldMany t_hasTold t_codes t_ones t_top t_deep t_isWhole t_s c_t_truths) → lv_has ls 4 [(0, .ref q_t), (1, .int x1), (2, .int x2), (3, .int x3)] → f_X12_said_27 N t_s n x1 x2 x3 c_t_thrown c_t_truths = some (r, r_t_thrown, r_t_truths) → W p l e rm_X12_said s m args below meth c H locs 0 0 (MQ below (zQ G w0 (wd_X12_said cy q_t q_t_tape q_t_s q_t_h q_t_read q_t_names q_t_reserved q_t_undone q_t_before q_t_comeRow q_t_shown q_t_text q_t_toldAt q_t_stack q_t_truths q_t_imaged q_t_namesKept q_t_areKept r_t_thrown t_length t_size t_p t_limit t_token t_at t_span t_number t_fault t_faultAt t_word t_got t_lines t_hasWait t_undoMany t_firstMinute t_lookClock t_hasTime t_latestMost t_textMany t_seed t_toldMany t_hasTold t_codes t_ones t_top t_deep t_isWhole t_s r_t_truths) s.heap.size (some (.int r))) args s 0 0 (va_A w0 s.heap.size)) (F0 m 27 ls []) := by
  obtain ⟨hx, hb, hml, hown, hts⟩ := id S
  intro n
  induction n with
  | zero =>
    intro x1 x2 x3 c_t_thrown c_t_truths H locs ls hH hl h
    rw [f_X12_said_27] at h
    cases h
  | succ n ih =>
    intro x1 x2 x3 c_t_thrown c_t_truths H locs ls hH hl h
    rw [f_X12_said_27] at h
    refine lv_iload_n hx hb dX12_said_27 rfl (lv_at hl 3 rfl) ?_
    refine lv_aload_n hx hb dX12_said_28 rfl (lv_at hl 0 rfl) ?_
    refine z_get S hF hH iX12_said_X12 0 rfl rfl 6 (by decide) (List.mem_of_getElem? (i := 2) rfl) rfl dX12_said_29 ?_
    refine lv_iconst (v := 1) hx hb dX12_said_32 (by decide) ?_
    refine z_iald (j := 1) S hF hH 1 rfl (by decide) rfl dX12_said_33 ?_
    refine lv_icmp_ge (tgt := 64) hx hb dX12_said_34 (by decide) (fun b34 => ?_) (fun b34 => ?_)
    · replace h := zif_t b34 h
      refine lv_iload_n hx hb dX12_said_64 rfl (lv_at hl 1 rfl) ?_
      refine lv_iconst (v := (-1)) hx hb dX12_said_65 (by decide) ?_
      refine lv_icmp_ne (tgt := 73) hx hb dX12_said_66 (by decide) (fun b66 => ?_) (fun b66 => ?_)
      · replace h := zif_f b66 h
        refine lv_iconst (v := (-1)) hx hb dX12_said_73 (by decide) ?_
        cases h
        exact z_iret S hr hlocks hH dX12_said_74
      · replace h := zif_t b66 h
        refine lv_iload_n hx hb dX12_said_69 rfl (lv_at hl 2 rfl) ?_
        refine lv_goto (tgt := 74) hx hb dX12_said_70 (by decide) ?_
        cases h
        exact z_iret S hr hlocks hH dX12_said_74
    · replace h := zif_f b34 h
      refine lv_aload_n hx hb dX12_said_37 rfl (lv_at hl 0 rfl) ?_
      refine lv_iload_n hx hb dX12_said_38 rfl (lv_at hl 3 rfl) ?_
      obtain ⟨z39, hz39, h⟩ := zcl_e h
      refine z_callV (As := [.int x3]) (rest := []) (st1 := [.int z39.1]) (ws' := (wd_X12_said cy q_t q_t_tape q_t_s q_t_h q_t_read q_t_names q_t_reserved q_t_undone q_t_before q_t_comeRow q_t_shown q_t_text q_t_toldAt q_t_stack q_t_truths q_t_imaged q_t_namesKept q_t_areKept c_t_thrown t_length t_size t_p t_limit t_token t_at t_span t_number t_fault t_faultAt t_word t_got t_lines t_hasWait t_undoMany t_firstMinute t_lookClock t_hasTime t_latestMost t_textMany t_seed t_toldMany t_hasTold t_codes t_ones t_top t_deep t_isWhole t_s z39.2)) S hF hH (c_X12_isSaid l G cy E N q_t q_t_tape q_t_s q_t_h q_t_read q_t_names q_t_reserved q_t_undone q_t_before q_t_comeRow q_t_shown q_t_text q_t_toldAt q_t_stack q_t_truths q_t_imaged q_t_namesKept q_t_areKept c_t_thrown t_length t_size t_p t_limit t_token t_at t_span t_number t_fault t_faultAt t_word t_got t_lines t_hasWait t_undoMany t_firstMinute t_lookClock t_hasTime t_latestMost t_textMany t_seed t_toldMany t_hasTold t_codes t_ones t_top t_deep t_isWhole t_s c_t_truths x3 z39.1 z39.2 hz39) (cwV 1 hts gX12_said_X12_isSaid rfl rfl rfl (by decide +kernel) ⟨Nat.le_of_ble_eq_true rfl, Nat.le_of_ble_eq_true rfl⟩) 13 0 rfl rfl [0, 1, 2] rfl (by decide) rfl rfl rfl rfl rfl hl.1 (Nat.le_of_ble_eq_true rfl) dX12_said_39 ⟨Nat.le_of_ble_eq_true rfl, Nat.le_of_ble_eq_true rfl⟩ (fun H locs hH => ?_)
      refine lv_if_ne (tgt := 48) hx hb dX12_said_42 (by decide) (fun b42 => ?_) (fun b42 => ?_)
      · replace h := zif_f b42 h
        refine lv_iload_n hx hb dX12_said_48 rfl (lv_at hl 2 rfl) ?_
        refine lv_iload_n hx hb dX12_said_49 rfl (lv_at hl 1 rfl) ?_
        refine lv_icmp_ne (tgt := 55) hx hb dX12_said_50 (by decide) (fun b50 => ?_) (fun b50 => ?_)
        · replace h := zif_f b50 h
          obtain ⟨y1, ey1, h⟩ := zbn_e h
          refine lv_iinc (v := y1) (lv' := [(2, .int y1), (0, .ref q_t), (1, .int x1), (3, .int x3)]) hx hb dX12_said_55 hl (k := 2) rfl (by rw [ey1]; exact congrArg (fun z => x2 + z) (by decide)) (by decide) rfl (fun ls hl => ?_)
          clear ey1
          obtain ⟨y2, ey2, h⟩ := zbn_e h
          refine lv_iinc (v := y2) (lv' := [(3, .int y2), (2, .int y1), (0, .ref q_t), (1, .int x1)]) hx hb dX12_said_58 hl (k := 3) rfl (by rw [ey2]; exact congrArg (fun z => x3 + z) (by decide)) (by decide) rfl (fun ls hl => ?_)
          clear ey2
          refine lv_goto (tgt := 27) hx hb dX12_said_61 (by decide) ?_
          exact ih x1 y1 y2 c_t_thrown z39.2 _ _ _ hH (lv_sub hl [2, 3, 1, 0] rfl) h
        · replace h := zif_t b50 h
          refine lv_iload_n hx hb dX12_said_53 rfl (lv_at hl 3 rfl) ?_
          cases h
          exact z_iret S hr hlocks hH dX12_said_54
      · replace h := zif_t b42 h
        refine lv_goto (tgt := 58) hx hb dX12_said_45 (by decide) ?_
        obtain ⟨y3, ey3, h⟩ := zbn_e h
        refine lv_iinc (v := y3) (lv' := [(3, .int y3), (0, .ref q_t), (1, .int x1), (2, .int x2)]) hx hb dX12_said_58 hl (k := 3) rfl (by rw [ey3]; exact congrArg (fun z => x3 + z) (by decide)) (by decide) rfl (fun ls hl => ?_)
        clear ey3
        refine lv_goto (tgt := 27) hx hb dX12_said_61 (by decide) ?_
        exact ih x1 x2 y3 c_t_thrown z39.2 _ _ _ hH (lv_sub hl [1, 2, 3, 0] rfl) h
set_option maxHeartbeats 4000000 in
set_option maxRecDepth 100000 in
theorem c_X12_said (l : Launch) (G : va_G) (cy : Nat → ClassId) (E : Nat → Nat) (N : Nat) (q_t q_t_tape q_t_s q_t_h q_t_read q_t_names q_t_reserved q_t_undone q_t_before q_t_comeRow q_t_shown q_t_text q_t_toldAt q_t_stack q_t_truths q_t_imaged q_t_namesKept q_t_areKept : Nat) (t_thrown : Int32) (t_length : Int32) (t_size : Int32) (t_p : Int32) (t_limit : Int32) (t_token : Int32) (t_at : Int32) (t_span : Int32) (t_number : Int32) (t_fault : Int32) (t_faultAt : Int32) (t_word : Int64) (t_got : Int32) (t_lines : Int32) (t_hasWait : Int32) (t_undoMany : Int32) (t_firstMinute : Int32) (t_lookClock : Int32) (t_hasTime : Int32) (t_latestMost : Int32) (t_textMany : Int32) (t_seed : Int32) (t_toldMany : Int32) (t_hasTold : Int32) (t_codes : Int32) (t_ones : Int32) (t_top : Int32) (t_deep : Int32) (t_isWhole : Int32) (t_s : Nat → Int32) (t_truths : Nat → Int32) (x0 : Int32) (r : Int32) (r_t_thrown : Int32) (r_t_truths : Nat → Int32) (h : f_X12_said N x0 t_thrown t_s t_truths = some (r, r_t_thrown, r_t_truths)) : zM l G cy E yX12_said wsX12_said rm_X12_said [.ref q_t, .int x0] (wd_X12_said cy q_t q_t_tape q_t_s q_t_h q_t_read q_t_names q_t_reserved q_t_undone q_t_before q_t_comeRow q_t_shown q_t_text q_t_toldAt q_t_stack q_t_truths q_t_imaged q_t_namesKept q_t_areKept t_thrown t_length t_size t_p t_limit t_token t_at t_span t_number t_fault t_faultAt t_word t_got t_lines t_hasWait t_undoMany t_firstMinute t_lookClock t_hasTime t_latestMost t_textMany t_seed t_toldMany t_hasTold t_codes t_ones t_top t_deep t_isWhole t_s t_truths) (wd_X12_said cy q_t q_t_tape q_t_s q_t_h q_t_read q_t_names q_t_reserved q_t_undone q_t_before q_t_comeRow q_t_shown q_t_text q_t_toldAt q_t_stack q_t_truths q_t_imaged q_t_namesKept q_t_areKept r_t_thrown t_length t_size t_p t_limit t_token t_at t_span t_number t_fault t_faultAt t_word t_got t_lines t_hasWait t_undoMany t_firstMinute t_lookClock t_hasTime t_latestMost t_textMany t_seed t_toldMany t_hasTold t_codes t_ones t_top t_deep t_isWhole t_s r_t_truths) (some (.int r)) 0 0 := by
  refine z_body (cc := cX12_said) (maxL := 4) (ret := some .int) (by decide) rfl (Nat.le_of_ble_eq_true rfl) ?_
  intro p e s m below meth c ls S hr hlocks hnm hF hH hl
  have S : CallFix p m c cX12_said 4 s ([.ref q_t, .int x0] : List Value).toArray wsX12_said RX12 := S
  obtain ⟨hx, hb, hml, hown, hts⟩ := id S
  have hl : lv_has ls 4 [(0, .ref q_t), (1, .int x0)] := hl
  rw [f_X12_said] at h
  refine lv_aload_n hx hb dX12_said_0 rfl (lv_at hl 0 rfl) ?_
  refine lv_iconst (v := 0) hx hb dX12_said_1 (by decide) ?_
  refine z_put (ws' := (wd_X12_said cy q_t q_t_tape q_t_s q_t_h q_t_read q_t_names q_t_reserved q_t_undone q_t_before q_t_comeRow q_t_shown q_t_text q_t_toldAt q_t_stack q_t_truths q_t_imaged q_t_namesKept q_t_areKept 0 t_length t_size t_p t_limit t_token t_at t_span t_number t_fault t_faultAt t_word t_got t_lines t_hasWait t_undoMany t_firstMinute t_lookClock t_hasTime t_latestMost t_textMany t_seed t_toldMany t_hasTold t_codes t_ones t_top t_deep t_isWhole t_s t_truths)) S hF hH iX12_said_X12 tyX12 tyX12_ok nmX12 0 rfl rfl 0 (by decide) (List.mem_of_getElem? (i := 1) rfl) rfl rfl rfl (Nat.le_of_ble_eq_true rfl) rfl dX12_said_2 (fun H locs hH => ?_)
  refine lv_aload_n hx hb dX12_said_5 rfl (lv_at hl 0 rfl) ?_
  refine z_get S hF hH iX12_said_X12 0 rfl rfl 6 (by decide) (List.mem_of_getElem? (i := 2) rfl) rfl dX12_said_6 ?_
  refine lv_sipush (v := 153) hx hb dX12_said_9 (by decide) ?_
  refine z_iald (j := 153) S hF hH 1 rfl (by decide) rfl dX12_said_12 ?_
  refine lv_if_eq (tgt := 21) hx hb dX12_said_13 (by decide) (fun b13 => ?_) (fun b13 => ?_)
  · replace h := zif_t b13 h
    refine lv_iconst (v := (-1)) hx hb dX12_said_21 (by decide) ?_
    cases h
    exact z_iret S hr hlocks hH dX12_said_22
  · replace h := zif_f b13 h
    refine lv_iload_n hx hb dX12_said_16 rfl (lv_at hl 1 rfl) ?_
    refine lv_iconst (v := (-1)) hx hb dX12_said_17 (by decide) ?_
    refine lv_icmp_ge (tgt := 23) hx hb dX12_said_18 (by decide) (fun b18 => ?_) (fun b18 => ?_)
    · replace h := zif_t b18 h
      refine lv_iconst (v := 0) hx hb dX12_said_23 (by decide) ?_
      refine lv_istore_n (lv' := [(2, .int 0), (0, .ref q_t), (1, .int x0)]) hx hb dX12_said_24 rfl hl (by decide) rfl (fun ls hl => ?_)
      refine lv_iconst (v := 0) hx hb dX12_said_25 (by decide) ?_
      refine lv_istore_n (lv' := [(3, .int 0), (2, .int 0), (0, .ref q_t), (1, .int x0)]) hx hb dX12_said_26 rfl hl (by decide) rfl (fun ls hl => ?_)
      exact w_X12_said_27 S hr hlocks hF N x0 0 0 0 t_truths _ _ _ hH (lv_sub hl [2, 3, 1, 0] rfl) h
    · replace h := zif_f b18 h
      refine lv_iconst (v := (-1)) hx hb dX12_said_21 (by decide) ?_
      cases h
      exact z_iret S hr hlocks hH dX12_said_22
abbrev wd_X12_image (cy : Nat → ClassId) (q_t q_t_tape q_t_s q_t_h q_t_read q_t_names q_t_reserved q_t_undone q_t_before q_t_comeRow q_t_shown q_t_text q_t_toldAt q_t_stack q_t_truths q_t_imaged q_t_namesKept q_t_areKept : Nat) (t_thrown : Int32) (t_length : Int32) (t_size : Int32) (t_p : Int32) (t_limit : Int32) (t_token : Int32) (t_at : Int32) (t_span : Int32) (t_number : Int32) (t_fault : Int32) (t_faultAt : Int32) (t_word : Int64) (t_got : Int32) (t_lines : Int32) (t_hasWait : Int32) (t_undoMany : Int32) (t_firstMinute : Int32) (t_lookClock : Int32) (t_hasTime : Int32) (t_latestMost : Int32) (t_textMany : Int32) (t_seed : Int32) (t_toldMany : Int32) (t_hasTold : Int32) (t_codes : Int32) (t_ones : Int32) (t_top : Int32) (t_deep : Int32) (t_isWhole : Int32) (t_s : Nat → Int32) (t_imaged : Nat → Int32) (t_names : Nat → Int64) (t_namesKept : Nat → Int64) (t_areKept : Nat → Int32) : va_W := [(q_t, .inr (13, [.int t_thrown, .ref q_t_tape, .int t_length, .int t_size, .int t_p, .int t_limit, .ref q_t_s, .ref q_t_h, .ref q_t_read, .ref q_t_names, .ref q_t_reserved, .int t_token, .int t_at, .int t_span, .int t_number, .int t_fault, .int t_faultAt, .long t_word, .int t_got, .int t_lines, .int t_hasWait, .ref q_t_undone, .ref q_t_before, .int t_undoMany, .ref q_t_comeRow, .int t_firstMinute, .int t_lookClock, .int t_hasTime, .ref q_t_shown, .int t_latestMost, .ref q_t_text, .int t_textMany, .int t_seed, .int t_toldMany, .ref q_t_toldAt, .int t_hasTold, .ref q_t_stack, .int t_codes, .int t_ones, .int t_top, .int t_deep, .int t_isWhole, .ref q_t_truths, .ref q_t_imaged, .ref q_t_namesKept, .ref q_t_areKept])), (q_t_s, .inl (cy 1, 334, .inl t_s)), (q_t_imaged, .inl (cy 1, 668, .inl t_imaged)), (q_t_names, .inl (cy 2, 36, .inr (.inl t_names))), (q_t_namesKept, .inl (cy 2, 36, .inr (.inl t_namesKept))), (q_t_areKept, .inl (cy 3, 2, .inl t_areKept))]
theorem iX12_image_X12 : ∀ w ∈ wsX120, w ∈ wsX12_image := fun _ h => List.mem_cons_of_mem _ (List.mem_append_right _ h)
abbrev rm_X12_image : Room := { frames := 1, cells := 0, slots := 0, locals := 22 }
set_option maxRecDepth 100000 in
def f_X12_image_51 (N : Nat) (t_s : Nat → Int32) (t_names : Nat → Int64) : Nat → Int32 → Int32 → Int32 → (Nat → Int32) → (Nat → Int64) → (Nat → Int32) → (Option (Int32 × Int32 × (Nat → Int32) × (Nat → Int64) × (Nat → Int32)))
  | 0, _, _, _, _, _, _ => none
  | n + 1, x1, x2, c_t_thrown, c_t_imaged, c_t_namesKept, c_t_areKept => if 18 ≤ x2 then (zck (zin x1 2) <| zck (zbo 1) <| zbn (upd c_t_areKept (Int32.toNatClampNeg x1) 1) fun f1 => some (1, c_t_thrown, c_t_imaged, c_t_namesKept, f1)) else (zck (zin x2 36) <| zbn ((t_names (Int32.toNatClampNeg x2))) fun y2 => zck (zin ((18 * x1) + x2) 36) <| zbn (vp_updL c_t_namesKept (Int32.toNatClampNeg ((18 * x1) + x2)) y2) fun f3 => zbn (x2 + 1) fun y4 => f_X12_image_51 N t_s t_names n x1 y4 c_t_thrown c_t_imaged f3 c_t_areKept)
set_option maxRecDepth 100000 in
def f_X12_image_18 (N : Nat) (t_s : Nat → Int32) (t_names : Nat → Int64) : Nat → Int32 → Int32 → Int32 → (Nat → Int32) → (Nat → Int64) → (Nat → Int32) → (Option (Int32 × Int32 × (Nat → Int32) × (Nat → Int64) × (Nat → Int32)))
  | 0, _, _, _, _, _, _ => none
  | n + 1, x1, x2, c_t_thrown, c_t_imaged, c_t_namesKept, c_t_areKept => if 334 ≤ x2 then (f_X12_image_51 N t_s t_names N x1 0 c_t_thrown c_t_imaged c_t_namesKept c_t_areKept) else (zck (zin x2 334) <| zbn ((t_s (Int32.toNatClampNeg x2))) fun y1 => zck (zin ((334 * x1) + x2) 668) <| zbn (upd c_t_imaged (Int32.toNatClampNeg ((334 * x1) + x2)) y1) fun f2 => zbn (x2 + 1) fun y3 => f_X12_image_18 N t_s t_names n x1 y3 c_t_thrown f2 c_t_namesKept c_t_areKept)
set_option maxRecDepth 100000 in
def f_X12_image (N : Nat) (x0 : Int32) (t_thrown : Int32) (t_s : Nat → Int32) (t_imaged : Nat → Int32) (t_names : Nat → Int64) (t_namesKept : Nat → Int64) (t_areKept : Nat → Int32) : Option (Int32 × Int32 × (Nat → Int32) × (Nat → Int64) × (Nat → Int32)) := zcl (f_X12_isIn N x0 0 1) fun z8 => if z8 = 0 then (some (0, 0, t_imaged, t_namesKept, t_areKept)) else (f_X12_image_18 N t_s t_names N x0 0 0 t_imaged t_namesKept t_areKept)
set_option maxHeartbeats 4000000 in
set_option maxRecDepth 100000 in
theorem w_X12_image_51 {p : Program} {l : Launch} {e : Env} {s : State} {m : MethodId} {args : Array Value} {below : List Frame} {meth : Method} {c : Code} {G : va_G} {cy : Nat → ClassId} {E : Nat → Nat} {w0 : va_W} {N : Nat} {q_t q_t_tape q_t_s q_t_h q_t_read q_t_names q_t_reserved q_t_undone q_t_before q_t_comeRow q_t_shown q_t_text q_t_toldAt q_t_stack q_t_truths q_t_imaged q_t_namesKept q_t_areKept : Nat} {t_length : Int32} {t_size : Int32} {t_p : Int32} {t_limit : Int32} {t_token : Int32} {t_at : Int32} {t_span : Int32} {t_number : Int32} {t_fault : Int32} {t_faultAt : Int32} {t_word : Int64} {t_got : Int32} {t_lines : Int32} {t_hasWait : Int32} {t_undoMany : Int32} {t_firstMinute : Int32} {t_lookClock : Int32} {t_hasTime : Int32} {t_latestMost : Int32} {t_textMany : Int32} {t_seed : Int32} {t_toldMany : Int32} {t_hasTold : Int32} {t_codes : Int32} {t_ones : Int32} {t_top : Int32} {t_deep : Int32} {t_isWhole : Int32} {t_s : Nat → Int32} {t_names : Nat → Int64} {r : Int32} {r_t_thrown : Int32} {r_t_imaged : Nat → Int32} {r_t_namesKept : Nat → Int64} {r_t_areKept : Nat → Int32} (S : CallFix p m c cX12_image 3 s args wsX12_image RX12) (hr : meth.sig.returnType = some .boolean) (hlocks : meth.locks = false) (hF : zF G cy E (va_A w0 s.heap.size) s) :
    ∀ (n : Nat) (x1 : Int32) (x2 : Int32) (c_t_thrown : Int32) (c_t_imaged : Nat → Int32) (c_t_namesKept : Nat → Int64) (c_t_areKept : Nat → Int32) (H : Heap) (locs : List Loc) (ls : Array Slot), zH G (va_A w0 s.heap.size) s H locs (wd_X12_image cy q_t q_t_tape q_t_s q_t_h q_t_read q_t_names q_t_reserved q_t_undone q_t_before q_t_comeRow q_t_shown q_t_text q_t_toldAt q_t_stack q_t_truths q_t_imaged q_t_namesKept q_t_areKept c_t_thrown t_length t_size t_p t_limit t_token t_at t_span t_number t_fault t_faultAt t_word t_got t_lines t_hasWait t_undoMany t_firstMinute t_lookClock t_hasTime t_latestMost t_textMany t_seed t_toldMany t_hasTold t_codes t_ones t_top t_deep t_isWhole t_s c_t_imaged t_names c_t_namesKept c_t_areKept) → lv_has ls 3 [(0, .ref q_t), (1, .int x1), (2, .int x2)] → f_X12_image_51 N t_s t_names n x1 x2 c_t_thrown c_t_imaged c_t_namesKept c_t_areKept = some (r, r_t_thrown, r_t_imaged, r_t_namesKept, r_t_areKept) → W p l e rm_X12_image s m args below meth c H locs 0 0 (MQ below (zQ G w0 (wd_X12_image cy q_t q_t_tape q_t_s q_t_h q_t_read q_t_names q_t_reserved q_t_undone q_t_before q_t_comeRow q_t_shown q_t_text q_t_toldAt q_t_stack q_t_truths q_t_imaged q_t_namesKept q_t_areKept r_t_thrown t_length t_size t_p t_limit t_token t_at t_span t_number t_fault t_faultAt t_word t_got t_lines t_hasWait t_undoMany t_firstMinute t_lookClock t_hasTime t_latestMost t_textMany t_seed t_toldMany t_hasTold t_codes t_ones t_top t_deep t_isWhole t_s r_t_imaged t_names r_t_namesKept r_t_areKept) s.heap.size (some (.int r))) args s 0 0 (va_A w0 s.heap.size)) (F0 m 51 ls []) := by
  obtain ⟨hx, hb, hml, hown, hts⟩ := id S
  intro n
  induction n with
  | zero =>
    intro x1 x2 c_t_thrown c_t_imaged c_t_namesKept c_t_areKept H locs ls hH hl h
    rw [f_X12_image_51] at h
    cases h
  | succ n ih =>
    intro x1 x2 c_t_thrown c_t_imaged c_t_namesKept c_t_areKept H locs ls hH hl h
    rw [f_X12_image_51] at h
    refine lv_iload_n hx hb dX12_image_51 rfl (lv_at hl 2 rfl) ?_
    refine lv_bipush (v := 18) hx hb dX12_image_52 (by decide) ?_
    refine lv_icmp_ge (tgt := 80) hx hb dX12_image_54 (by decide) (fun b54 => ?_) (fun b54 => ?_)
    · replace h := zif_t b54 h
      refine lv_aload_n hx hb dX12_image_80 rfl (lv_at hl 0 rfl) ?_
      refine z_get S hF hH iX12_image_X12 0 rfl rfl 45 (by decide) (List.mem_of_getElem? (i := 6) rfl) rfl dX12_image_81 ?_
      refine lv_iload_n hx hb dX12_image_84 rfl (lv_at hl 1 rfl) ?_
      refine lv_iconst (v := 1) hx hb dX12_image_85 (by decide) ?_
      obtain ⟨h86, h⟩ := zck_e h
      obtain ⟨g86, h⟩ := zck_e h
      obtain ⟨f1, ef1, h⟩ := zbn_e h
      refine z_zast (ws' := (wd_X12_image cy q_t q_t_tape q_t_s q_t_h q_t_read q_t_names q_t_reserved q_t_undone q_t_before q_t_comeRow q_t_shown q_t_text q_t_toldAt q_t_stack q_t_truths q_t_imaged q_t_namesKept q_t_areKept c_t_thrown t_length t_size t_p t_limit t_token t_at t_span t_number t_fault t_faultAt t_word t_got t_lines t_hasWait t_undoMany t_firstMinute t_lookClock t_hasTime t_latestMost t_textMany t_seed t_toldMany t_hasTold t_codes t_ones t_top t_deep t_isWhole t_s c_t_imaged t_names c_t_namesKept f1)) (j := (Int32.toNatClampNeg x1)) S hF hH 5 rfl h86 rfl g86 (by rw [ef1]; rfl) dX12_image_86 (fun H locs hH => ?_)
      clear ef1
      refine lv_iconst (v := 1) hx hb dX12_image_87 (by decide) ?_
      cases h
      exact z_zret S hr hlocks hH rfl dX12_image_88
    · replace h := zif_f b54 h
      refine lv_aload_n hx hb dX12_image_57 rfl (lv_at hl 0 rfl) ?_
      refine z_get S hF hH iX12_image_X12 0 rfl rfl 44 (by decide) (List.mem_of_getElem? (i := 4) rfl) rfl dX12_image_58 ?_
      refine lv_bipush (v := 18) hx hb dX12_image_61 (by decide) ?_
      refine lv_iload_n hx hb dX12_image_63 rfl (lv_at hl 1 rfl) ?_
      refine lv_imul hx hb dX12_image_64 ?_
      refine lv_iload_n hx hb dX12_image_65 rfl (lv_at hl 2 rfl) ?_
      refine lv_iadd hx hb dX12_image_66 ?_
      refine lv_aload_n hx hb dX12_image_67 rfl (lv_at hl 0 rfl) ?_
      refine z_get S hF hH iX12_image_X12 0 rfl rfl 9 (by decide) (List.mem_of_getElem? (i := 5) rfl) rfl dX12_image_68 ?_
      refine lv_iload_n hx hb dX12_image_71 rfl (lv_at hl 2 rfl) ?_
      obtain ⟨h72, h⟩ := zck_e h
      refine z_lald S hF hH 3 rfl h72 rfl dX12_image_72 ?_
      obtain ⟨y2, ey2, h⟩ := zbn_e h
      refine z_topl ey2 ?_
      clear ey2
      obtain ⟨h73, h⟩ := zck_e h
      obtain ⟨f3, ef3, h⟩ := zbn_e h
      refine z_last (ws' := (wd_X12_image cy q_t q_t_tape q_t_s q_t_h q_t_read q_t_names q_t_reserved q_t_undone q_t_before q_t_comeRow q_t_shown q_t_text q_t_toldAt q_t_stack q_t_truths q_t_imaged q_t_namesKept q_t_areKept c_t_thrown t_length t_size t_p t_limit t_token t_at t_span t_number t_fault t_faultAt t_word t_got t_lines t_hasWait t_undoMany t_firstMinute t_lookClock t_hasTime t_latestMost t_textMany t_seed t_toldMany t_hasTold t_codes t_ones t_top t_deep t_isWhole t_s c_t_imaged t_names f3 c_t_areKept)) (j := (Int32.toNatClampNeg ((18 * x1) + x2))) S hF hH 4 rfl h73 rfl (by rw [ef3]; rfl) dX12_image_73 (fun H locs hH => ?_)
      clear ef3
      obtain ⟨y4, ey4, h⟩ := zbn_e h
      refine lv_iinc (v := y4) (lv' := [(2, .int y4), (0, .ref q_t), (1, .int x1)]) hx hb dX12_image_74 hl (k := 2) rfl (by rw [ey4]; exact congrArg (fun z => x2 + z) (by decide)) (by decide) rfl (fun ls hl => ?_)
      clear ey4
      refine lv_goto (tgt := 51) hx hb dX12_image_77 (by decide) ?_
      exact ih x1 y4 c_t_thrown c_t_imaged f3 c_t_areKept _ _ _ hH (lv_sub hl [1, 2, 0] rfl) h
set_option maxHeartbeats 4000000 in
set_option maxRecDepth 100000 in
theorem w_X12_image_18 {p : Program} {l : Launch} {e : Env} {s : State} {m : MethodId} {args : Array Value} {below : List Frame} {meth : Method} {c : Code} {G : va_G} {cy : Nat → ClassId} {E : Nat → Nat} {w0 : va_W} {N : Nat} {q_t q_t_tape q_t_s q_t_h q_t_read q_t_names q_t_reserved q_t_undone q_t_before q_t_comeRow q_t_shown q_t_text q_t_toldAt q_t_stack q_t_truths q_t_imaged q_t_namesKept q_t_areKept : Nat} {t_length : Int32} {t_size : Int32} {t_p : Int32} {t_limit : Int32} {t_token : Int32} {t_at : Int32} {t_span : Int32} {t_number : Int32} {t_fault : Int32} {t_faultAt : Int32} {t_word : Int64} {t_got : Int32} {t_lines : Int32} {t_hasWait : Int32} {t_undoMany : Int32} {t_firstMinute : Int32} {t_lookClock : Int32} {t_hasTime : Int32} {t_latestMost : Int32} {t_textMany : Int32} {t_seed : Int32} {t_toldMany : Int32} {t_hasTold : Int32} {t_codes : Int32} {t_ones : Int32} {t_top : Int32} {t_deep : Int32} {t_isWhole : Int32} {t_s : Nat → Int32} {t_names : Nat → Int64} {r : Int32} {r_t_thrown : Int32} {r_t_imaged : Nat → Int32} {r_t_namesKept : Nat → Int64} {r_t_areKept : Nat → Int32} (S : CallFix p m c cX12_image 3 s args wsX12_image RX12) (hr : meth.sig.returnType = some .boolean) (hlocks : meth.locks = false) (hF : zF G cy E (va_A w0 s.heap.size) s) :
    ∀ (n : Nat) (x1 : Int32) (x2 : Int32) (c_t_thrown : Int32) (c_t_imaged : Nat → Int32) (c_t_namesKept : Nat → Int64) (c_t_areKept : Nat → Int32) (H : Heap) (locs : List Loc) (ls : Array Slot), zH G (va_A w0 s.heap.size) s H locs (wd_X12_image cy q_t q_t_tape q_t_s q_t_h q_t_read q_t_names q_t_reserved q_t_undone q_t_before q_t_comeRow q_t_shown q_t_text q_t_toldAt q_t_stack q_t_truths q_t_imaged q_t_namesKept q_t_areKept c_t_thrown t_length t_size t_p t_limit t_token t_at t_span t_number t_fault t_faultAt t_word t_got t_lines t_hasWait t_undoMany t_firstMinute t_lookClock t_hasTime t_latestMost t_textMany t_seed t_toldMany t_hasTold t_codes t_ones t_top t_deep t_isWhole t_s c_t_imaged t_names c_t_namesKept c_t_areKept) → lv_has ls 3 [(0, .ref q_t), (1, .int x1), (2, .int x2)] → f_X12_image_18 N t_s t_names n x1 x2 c_t_thrown c_t_imaged c_t_namesKept c_t_areKept = some (r, r_t_thrown, r_t_imaged, r_t_namesKept, r_t_areKept) → W p l e rm_X12_image s m args below meth c H locs 0 0 (MQ below (zQ G w0 (wd_X12_image cy q_t q_t_tape q_t_s q_t_h q_t_read q_t_names q_t_reserved q_t_undone q_t_before q_t_comeRow q_t_shown q_t_text q_t_toldAt q_t_stack q_t_truths q_t_imaged q_t_namesKept q_t_areKept r_t_thrown t_length t_size t_p t_limit t_token t_at t_span t_number t_fault t_faultAt t_word t_got t_lines t_hasWait t_undoMany t_firstMinute t_lookClock t_hasTime t_latestMost t_textMany t_seed t_toldMany t_hasTold t_codes t_ones t_top t_deep t_isWhole t_s r_t_imaged t_names r_t_namesKept r_t_areKept) s.heap.size (some (.int r))) args s 0 0 (va_A w0 s.heap.size)) (F0 m 18 ls []) := by
  obtain ⟨hx, hb, hml, hown, hts⟩ := id S
  intro n
  induction n with
  | zero =>
    intro x1 x2 c_t_thrown c_t_imaged c_t_namesKept c_t_areKept H locs ls hH hl h
    rw [f_X12_image_18] at h
    cases h
  | succ n ih =>
    intro x1 x2 c_t_thrown c_t_imaged c_t_namesKept c_t_areKept H locs ls hH hl h
    rw [f_X12_image_18] at h
    refine lv_iload_n hx hb dX12_image_18 rfl (lv_at hl 2 rfl) ?_
    refine lv_sipush (v := 334) hx hb dX12_image_19 (by decide) ?_
    refine lv_icmp_ge (tgt := 49) hx hb dX12_image_22 (by decide) (fun b22 => ?_) (fun b22 => ?_)
    · replace h := zif_t b22 h
      refine lv_iconst (v := 0) hx hb dX12_image_49 (by decide) ?_
      refine lv_istore_n (lv' := [(2, .int 0), (0, .ref q_t), (1, .int x1)]) hx hb dX12_image_50 rfl hl (by decide) rfl (fun ls hl => ?_)
      exact w_X12_image_51 S hr hlocks hF N x1 0 c_t_thrown c_t_imaged c_t_namesKept c_t_areKept _ _ _ hH (lv_sub hl [1, 2, 0] rfl) h
    · replace h := zif_f b22 h
      refine lv_aload_n hx hb dX12_image_25 rfl (lv_at hl 0 rfl) ?_
      refine z_get S hF hH iX12_image_X12 0 rfl rfl 43 (by decide) (List.mem_of_getElem? (i := 2) rfl) rfl dX12_image_26 ?_
      refine lv_sipush (v := 334) hx hb dX12_image_29 (by decide) ?_
      refine lv_iload_n hx hb dX12_image_32 rfl (lv_at hl 1 rfl) ?_
      refine lv_imul hx hb dX12_image_33 ?_
      refine lv_iload_n hx hb dX12_image_34 rfl (lv_at hl 2 rfl) ?_
      refine lv_iadd hx hb dX12_image_35 ?_
      refine lv_aload_n hx hb dX12_image_36 rfl (lv_at hl 0 rfl) ?_
      refine z_get S hF hH iX12_image_X12 0 rfl rfl 6 (by decide) (List.mem_of_getElem? (i := 3) rfl) rfl dX12_image_37 ?_
      refine lv_iload_n hx hb dX12_image_40 rfl (lv_at hl 2 rfl) ?_
      obtain ⟨h41, h⟩ := zck_e h
      refine z_iald S hF hH 1 rfl h41 rfl dX12_image_41 ?_
      obtain ⟨y1, ey1, h⟩ := zbn_e h
      refine z_top ey1 ?_
      clear ey1
      obtain ⟨h42, h⟩ := zck_e h
      obtain ⟨f2, ef2, h⟩ := zbn_e h
      refine z_iast (ws' := (wd_X12_image cy q_t q_t_tape q_t_s q_t_h q_t_read q_t_names q_t_reserved q_t_undone q_t_before q_t_comeRow q_t_shown q_t_text q_t_toldAt q_t_stack q_t_truths q_t_imaged q_t_namesKept q_t_areKept c_t_thrown t_length t_size t_p t_limit t_token t_at t_span t_number t_fault t_faultAt t_word t_got t_lines t_hasWait t_undoMany t_firstMinute t_lookClock t_hasTime t_latestMost t_textMany t_seed t_toldMany t_hasTold t_codes t_ones t_top t_deep t_isWhole t_s f2 t_names c_t_namesKept c_t_areKept)) (j := (Int32.toNatClampNeg ((334 * x1) + x2))) S hF hH 2 rfl h42 rfl (by rw [ef2]; rfl) dX12_image_42 (fun H locs hH => ?_)
      clear ef2
      obtain ⟨y3, ey3, h⟩ := zbn_e h
      refine lv_iinc (v := y3) (lv' := [(2, .int y3), (0, .ref q_t), (1, .int x1)]) hx hb dX12_image_43 hl (k := 2) rfl (by rw [ey3]; exact congrArg (fun z => x2 + z) (by decide)) (by decide) rfl (fun ls hl => ?_)
      clear ey3
      refine lv_goto (tgt := 18) hx hb dX12_image_46 (by decide) ?_
      exact ih x1 y3 c_t_thrown f2 c_t_namesKept c_t_areKept _ _ _ hH (lv_sub hl [1, 2, 0] rfl) h
set_option maxHeartbeats 4000000 in
set_option maxRecDepth 100000 in
theorem c_X12_image (l : Launch) (G : va_G) (cy : Nat → ClassId) (E : Nat → Nat) (N : Nat) (q_t q_t_tape q_t_s q_t_h q_t_read q_t_names q_t_reserved q_t_undone q_t_before q_t_comeRow q_t_shown q_t_text q_t_toldAt q_t_stack q_t_truths q_t_imaged q_t_namesKept q_t_areKept : Nat) (t_thrown : Int32) (t_length : Int32) (t_size : Int32) (t_p : Int32) (t_limit : Int32) (t_token : Int32) (t_at : Int32) (t_span : Int32) (t_number : Int32) (t_fault : Int32) (t_faultAt : Int32) (t_word : Int64) (t_got : Int32) (t_lines : Int32) (t_hasWait : Int32) (t_undoMany : Int32) (t_firstMinute : Int32) (t_lookClock : Int32) (t_hasTime : Int32) (t_latestMost : Int32) (t_textMany : Int32) (t_seed : Int32) (t_toldMany : Int32) (t_hasTold : Int32) (t_codes : Int32) (t_ones : Int32) (t_top : Int32) (t_deep : Int32) (t_isWhole : Int32) (t_s : Nat → Int32) (t_imaged : Nat → Int32) (t_names : Nat → Int64) (t_namesKept : Nat → Int64) (t_areKept : Nat → Int32) (x0 : Int32) (r : Int32) (r_t_thrown : Int32) (r_t_imaged : Nat → Int32) (r_t_namesKept : Nat → Int64) (r_t_areKept : Nat → Int32) (h : f_X12_image N x0 t_thrown t_s t_imaged t_names t_namesKept t_areKept = some (r, r_t_thrown, r_t_imaged, r_t_namesKept, r_t_areKept)) : zM l G cy E yX12_image wsX12_image rm_X12_image [.ref q_t, .int x0] (wd_X12_image cy q_t q_t_tape q_t_s q_t_h q_t_read q_t_names q_t_reserved q_t_undone q_t_before q_t_comeRow q_t_shown q_t_text q_t_toldAt q_t_stack q_t_truths q_t_imaged q_t_namesKept q_t_areKept t_thrown t_length t_size t_p t_limit t_token t_at t_span t_number t_fault t_faultAt t_word t_got t_lines t_hasWait t_undoMany t_firstMinute t_lookClock t_hasTime t_latestMost t_textMany t_seed t_toldMany t_hasTold t_codes t_ones t_top t_deep t_isWhole t_s t_imaged t_names t_namesKept t_areKept) (wd_X12_image cy q_t q_t_tape q_t_s q_t_h q_t_read q_t_names q_t_reserved q_t_undone q_t_before q_t_comeRow q_t_shown q_t_text q_t_toldAt q_t_stack q_t_truths q_t_imaged q_t_namesKept q_t_areKept r_t_thrown t_length t_size t_p t_limit t_token t_at t_span t_number t_fault t_faultAt t_word t_got t_lines t_hasWait t_undoMany t_firstMinute t_lookClock t_hasTime t_latestMost t_textMany t_seed t_toldMany t_hasTold t_codes t_ones t_top t_deep t_isWhole t_s r_t_imaged t_names r_t_namesKept r_t_areKept) (some (.int r)) 0 0 := by
  refine z_body (cc := cX12_image) (maxL := 3) (ret := some .boolean) (by decide) rfl (Nat.le_of_ble_eq_true rfl) ?_
  intro p e s m below meth c ls S hr hlocks hnm hF hH hl
  have S : CallFix p m c cX12_image 3 s ([.ref q_t, .int x0] : List Value).toArray wsX12_image RX12 := S
  obtain ⟨hx, hb, hml, hown, hts⟩ := id S
  have hl : lv_has ls 3 [(0, .ref q_t), (1, .int x0)] := hl
  rw [f_X12_image] at h
  refine lv_aload_n hx hb dX12_image_0 rfl (lv_at hl 0 rfl) ?_
  refine lv_iconst (v := 0) hx hb dX12_image_1 (by decide) ?_
  refine z_put (ws' := (wd_X12_image cy q_t q_t_tape q_t_s q_t_h q_t_read q_t_names q_t_reserved q_t_undone q_t_before q_t_comeRow q_t_shown q_t_text q_t_toldAt q_t_stack q_t_truths q_t_imaged q_t_namesKept q_t_areKept 0 t_length t_size t_p t_limit t_token t_at t_span t_number t_fault t_faultAt t_word t_got t_lines t_hasWait t_undoMany t_firstMinute t_lookClock t_hasTime t_latestMost t_textMany t_seed t_toldMany t_hasTold t_codes t_ones t_top t_deep t_isWhole t_s t_imaged t_names t_namesKept t_areKept)) S hF hH iX12_image_X12 tyX12 tyX12_ok nmX12 0 rfl rfl 0 (by decide) (List.mem_of_getElem? (i := 1) rfl) rfl rfl rfl (Nat.le_of_ble_eq_true rfl) rfl dX12_image_2 (fun H locs hH => ?_)
  refine lv_iload_n hx hb dX12_image_5 rfl (lv_at hl 1 rfl) ?_
  refine lv_iconst (v := 0) hx hb dX12_image_6 (by decide) ?_
  refine lv_iconst (v := 1) hx hb dX12_image_7 (by decide) ?_
  obtain ⟨z8, hz8, h⟩ := zcl_e h
  refine z_callS (As := [.int x0, .int 0, .int 1]) (rest := []) (st1 := [.int z8]) (ws' := (wd_X12_image cy q_t q_t_tape q_t_s q_t_h q_t_read q_t_names q_t_reserved q_t_undone q_t_before q_t_comeRow q_t_shown q_t_text q_t_toldAt q_t_stack q_t_truths q_t_imaged q_t_namesKept q_t_areKept 0 t_length t_size t_p t_limit t_token t_at t_span t_number t_fault t_faultAt t_word t_got t_lines t_hasWait t_undoMany t_firstMinute t_lookClock t_hasTime t_latestMost t_textMany t_seed t_toldMany t_hasTold t_codes t_ones t_top t_deep t_isWhole t_s t_imaged t_names t_namesKept t_areKept)) S hF hH (c_X12_isIn l G cy E N x0 0 1 z8 hz8) (cwS 3 hts gX12_image_X12_isIn rfl rfl rfl (by decide +kernel) ⟨Nat.le_of_ble_eq_true rfl, Nat.le_of_ble_eq_true rfl⟩) [] rfl (by decide) rfl rfl rfl rfl rfl hl.1 (Nat.le_of_ble_eq_true rfl) dX12_image_8 ⟨Nat.le_of_ble_eq_true rfl, Nat.le_of_ble_eq_true rfl⟩ (fun H locs hH => ?_)
  refine lv_if_ne (tgt := 16) hx hb dX12_image_11 (by decide) (fun b11 => ?_) (fun b11 => ?_)
  · replace h := zif_f b11 h
    refine lv_iconst (v := 0) hx hb dX12_image_16 (by decide) ?_
    refine lv_istore_n (lv' := [(2, .int 0), (0, .ref q_t), (1, .int x0)]) hx hb dX12_image_17 rfl hl (by decide) rfl (fun ls hl => ?_)
    exact w_X12_image_18 S hr hlocks hF N x0 0 0 t_imaged t_namesKept t_areKept _ _ _ hH (lv_sub hl [1, 2, 0] rfl) h
  · replace h := zif_t b11 h
    refine lv_iconst (v := 0) hx hb dX12_image_14 (by decide) ?_
    cases h
    exact z_zret S hr hlocks hH rfl dX12_image_15
abbrev wd_X12_restore (cy : Nat → ClassId) (q_t q_t_tape q_t_s q_t_h q_t_read q_t_names q_t_reserved q_t_undone q_t_before q_t_comeRow q_t_shown q_t_text q_t_toldAt q_t_stack q_t_truths q_t_imaged q_t_namesKept q_t_areKept : Nat) (t_thrown : Int32) (t_length : Int32) (t_size : Int32) (t_p : Int32) (t_limit : Int32) (t_token : Int32) (t_at : Int32) (t_span : Int32) (t_number : Int32) (t_fault : Int32) (t_faultAt : Int32) (t_word : Int64) (t_got : Int32) (t_lines : Int32) (t_hasWait : Int32) (t_undoMany : Int32) (t_firstMinute : Int32) (t_lookClock : Int32) (t_hasTime : Int32) (t_latestMost : Int32) (t_textMany : Int32) (t_seed : Int32) (t_toldMany : Int32) (t_hasTold : Int32) (t_codes : Int32) (t_ones : Int32) (t_top : Int32) (t_deep : Int32) (t_isWhole : Int32) (t_areKept : Nat → Int32) (t_imaged : Nat → Int32) (t_s : Nat → Int32) (t_namesKept : Nat → Int64) (t_names : Nat → Int64) : va_W := [(q_t, .inr (13, [.int t_thrown, .ref q_t_tape, .int t_length, .int t_size, .int t_p, .int t_limit, .ref q_t_s, .ref q_t_h, .ref q_t_read, .ref q_t_names, .ref q_t_reserved, .int t_token, .int t_at, .int t_span, .int t_number, .int t_fault, .int t_faultAt, .long t_word, .int t_got, .int t_lines, .int t_hasWait, .ref q_t_undone, .ref q_t_before, .int t_undoMany, .ref q_t_comeRow, .int t_firstMinute, .int t_lookClock, .int t_hasTime, .ref q_t_shown, .int t_latestMost, .ref q_t_text, .int t_textMany, .int t_seed, .int t_toldMany, .ref q_t_toldAt, .int t_hasTold, .ref q_t_stack, .int t_codes, .int t_ones, .int t_top, .int t_deep, .int t_isWhole, .ref q_t_truths, .ref q_t_imaged, .ref q_t_namesKept, .ref q_t_areKept])), (q_t_areKept, .inl (cy 3, 2, .inl t_areKept)), (q_t_imaged, .inl (cy 1, 668, .inl t_imaged)), (q_t_s, .inl (cy 1, 334, .inl t_s)), (q_t_namesKept, .inl (cy 2, 36, .inr (.inl t_namesKept))), (q_t_names, .inl (cy 2, 36, .inr (.inl t_names)))]
theorem iX12_restore_X12 : ∀ w ∈ wsX120, w ∈ wsX12_restore := fun _ h => List.mem_cons_of_mem _ (List.mem_append_right _ h)
abbrev rm_X12_restore : Room := { frames := 1, cells := 0, slots := 0, locals := 22 }
set_option maxRecDepth 100000 in
def f_X12_restore_60 (N : Nat) (t_areKept : Nat → Int32) (t_imaged : Nat → Int32) (t_namesKept : Nat → Int64) : Nat → Int32 → Int32 → Int32 → Int32 → (Nat → Int32) → (Nat → Int64) → (Option (Int32 × Int32 × Int32 × (Nat → Int32) × (Nat → Int64)))
  | 0, _, _, _, _, _, _ => none
  | n + 1, x1, x2, c_t_thrown, c_t_undoMany, c_t_s, c_t_names => if 18 ≤ x2 then (some (1, c_t_thrown, 0, c_t_s, c_t_names)) else (zck (zin ((18 * x1) + x2) 36) <| zbn ((t_namesKept (Int32.toNatClampNeg ((18 * x1) + x2)))) fun y1 => zck (zin x2 36) <| zbn (vp_updL c_t_names (Int32.toNatClampNeg x2) y1) fun f2 => zbn (x2 + 1) fun y3 => f_X12_restore_60 N t_areKept t_imaged t_namesKept n x1 y3 c_t_thrown c_t_undoMany c_t_s f2)
set_option maxRecDepth 100000 in
def f_X12_restore_27 (N : Nat) (t_areKept : Nat → Int32) (t_imaged : Nat → Int32) (t_namesKept : Nat → Int64) : Nat → Int32 → Int32 → Int32 → Int32 → (Nat → Int32) → (Nat → Int64) → (Option (Int32 × Int32 × Int32 × (Nat → Int32) × (Nat → Int64)))
  | 0, _, _, _, _, _, _ => none
  | n + 1, x1, x2, c_t_thrown, c_t_undoMany, c_t_s, c_t_names => if 334 ≤ x2 then (f_X12_restore_60 N t_areKept t_imaged t_namesKept N x1 0 c_t_thrown c_t_undoMany c_t_s c_t_names) else (zck (zin ((334 * x1) + x2) 668) <| zbn ((t_imaged (Int32.toNatClampNeg ((334 * x1) + x2)))) fun y1 => zck (zin x2 334) <| zbn (upd c_t_s (Int32.toNatClampNeg x2) y1) fun f2 => zbn (x2 + 1) fun y3 => f_X12_restore_27 N t_areKept t_imaged t_namesKept n x1 y3 c_t_thrown c_t_undoMany f2 c_t_names)
set_option maxRecDepth 100000 in
def f_X12_restore (N : Nat) (x0 : Int32) (t_thrown : Int32) (t_undoMany : Int32) (t_areKept : Nat → Int32) (t_imaged : Nat → Int32) (t_s : Nat → Int32) (t_namesKept : Nat → Int64) (t_names : Nat → Int64) : Option (Int32 × Int32 × Int32 × (Nat → Int32) × (Nat → Int64)) := zcl (f_X12_isIn N x0 0 1) fun z8 => if z8 = 0 then (some (0, 0, t_undoMany, t_s, t_names)) else (zck (zin x0 2) <| if (t_areKept (Int32.toNatClampNeg x0)) = 0 then (some (0, 0, t_undoMany, t_s, t_names)) else (f_X12_restore_27 N t_areKept t_imaged t_namesKept N x0 0 0 t_undoMany t_s t_names))
set_option maxHeartbeats 4000000 in
set_option maxRecDepth 100000 in
theorem w_X12_restore_60 {p : Program} {l : Launch} {e : Env} {s : State} {m : MethodId} {args : Array Value} {below : List Frame} {meth : Method} {c : Code} {G : va_G} {cy : Nat → ClassId} {E : Nat → Nat} {w0 : va_W} {N : Nat} {q_t q_t_tape q_t_s q_t_h q_t_read q_t_names q_t_reserved q_t_undone q_t_before q_t_comeRow q_t_shown q_t_text q_t_toldAt q_t_stack q_t_truths q_t_imaged q_t_namesKept q_t_areKept : Nat} {t_length : Int32} {t_size : Int32} {t_p : Int32} {t_limit : Int32} {t_token : Int32} {t_at : Int32} {t_span : Int32} {t_number : Int32} {t_fault : Int32} {t_faultAt : Int32} {t_word : Int64} {t_got : Int32} {t_lines : Int32} {t_hasWait : Int32} {t_firstMinute : Int32} {t_lookClock : Int32} {t_hasTime : Int32} {t_latestMost : Int32} {t_textMany : Int32} {t_seed : Int32} {t_toldMany : Int32} {t_hasTold : Int32} {t_codes : Int32} {t_ones : Int32} {t_top : Int32} {t_deep : Int32} {t_isWhole : Int32} {t_areKept : Nat → Int32} {t_imaged : Nat → Int32} {t_namesKept : Nat → Int64} {r : Int32} {r_t_thrown : Int32} {r_t_undoMany : Int32} {r_t_s : Nat → Int32} {r_t_names : Nat → Int64} (S : CallFix p m c cX12_restore 3 s args wsX12_restore RX12) (hr : meth.sig.returnType = some .boolean) (hlocks : meth.locks = false) (hF : zF G cy E (va_A w0 s.heap.size) s) :
    ∀ (n : Nat) (x1 : Int32) (x2 : Int32) (c_t_thrown : Int32) (c_t_undoMany : Int32) (c_t_s : Nat → Int32) (c_t_names : Nat → Int64) (H : Heap) (locs : List Loc) (ls : Array Slot), zH G (va_A w0 s.heap.size) s H locs (wd_X12_restore cy q_t q_t_tape q_t_s q_t_h q_t_read q_t_names q_t_reserved q_t_undone q_t_before q_t_comeRow q_t_shown q_t_text q_t_toldAt q_t_stack q_t_truths q_t_imaged q_t_namesKept q_t_areKept c_t_thrown t_length t_size t_p t_limit t_token t_at t_span t_number t_fault t_faultAt t_word t_got t_lines t_hasWait c_t_undoMany t_firstMinute t_lookClock t_hasTime t_latestMost t_textMany t_seed t_toldMany t_hasTold t_codes t_ones t_top t_deep t_isWhole t_areKept t_imaged c_t_s t_namesKept c_t_names) → lv_has ls 3 [(0, .ref q_t), (1, .int x1), (2, .int x2)] → f_X12_restore_60 N t_areKept t_imaged t_namesKept n x1 x2 c_t_thrown c_t_undoMany c_t_s c_t_names = some (r, r_t_thrown, r_t_undoMany, r_t_s, r_t_names) → W p l e rm_X12_restore s m args below meth c H locs 0 0 (MQ below (zQ G w0 (wd_X12_restore cy q_t q_t_tape q_t_s q_t_h q_t_read q_t_names q_t_reserved q_t_undone q_t_before q_t_comeRow q_t_shown q_t_text q_t_toldAt q_t_stack q_t_truths q_t_imaged q_t_namesKept q_t_areKept r_t_thrown t_length t_size t_p t_limit t_token t_at t_span t_number t_fault t_faultAt t_word t_got t_lines t_hasWait r_t_undoMany t_firstMinute t_lookClock t_hasTime t_latestMost t_textMany t_seed t_toldMany t_hasTold t_codes t_ones t_top t_deep t_isWhole t_areKept t_imaged r_t_s t_namesKept r_t_names) s.heap.size (some (.int r))) args s 0 0 (va_A w0 s.heap.size)) (F0 m 60 ls []) := by
  obtain ⟨hx, hb, hml, hown, hts⟩ := id S
  intro n
  induction n with
  | zero =>
    intro x1 x2 c_t_thrown c_t_undoMany c_t_s c_t_names H locs ls hH hl h
    rw [f_X12_restore_60] at h
    cases h
  | succ n ih =>
    intro x1 x2 c_t_thrown c_t_undoMany c_t_s c_t_names H locs ls hH hl h
    rw [f_X12_restore_60] at h
    refine lv_iload_n hx hb dX12_restore_60 rfl (lv_at hl 2 rfl) ?_
    refine lv_bipush (v := 18) hx hb dX12_restore_61 (by decide) ?_
    refine lv_icmp_ge (tgt := 89) hx hb dX12_restore_63 (by decide) (fun b63 => ?_) (fun b63 => ?_)
    · replace h := zif_t b63 h
      refine lv_aload_n hx hb dX12_restore_89 rfl (lv_at hl 0 rfl) ?_
      refine lv_iconst (v := 0) hx hb dX12_restore_90 (by decide) ?_
      refine z_put (ws' := (wd_X12_restore cy q_t q_t_tape q_t_s q_t_h q_t_read q_t_names q_t_reserved q_t_undone q_t_before q_t_comeRow q_t_shown q_t_text q_t_toldAt q_t_stack q_t_truths q_t_imaged q_t_namesKept q_t_areKept c_t_thrown t_length t_size t_p t_limit t_token t_at t_span t_number t_fault t_faultAt t_word t_got t_lines t_hasWait 0 t_firstMinute t_lookClock t_hasTime t_latestMost t_textMany t_seed t_toldMany t_hasTold t_codes t_ones t_top t_deep t_isWhole t_areKept t_imaged c_t_s t_namesKept c_t_names)) S hF hH iX12_restore_X12 tyX12 tyX12_ok nmX12 0 rfl rfl 23 (by decide) (List.mem_of_getElem? (i := 7) rfl) rfl rfl rfl (Nat.le_of_ble_eq_true rfl) rfl dX12_restore_91 (fun H locs hH => ?_)
      refine lv_iconst (v := 1) hx hb dX12_restore_94 (by decide) ?_
      cases h
      exact z_zret S hr hlocks hH rfl dX12_restore_95
    · replace h := zif_f b63 h
      refine lv_aload_n hx hb dX12_restore_66 rfl (lv_at hl 0 rfl) ?_
      refine z_get S hF hH iX12_restore_X12 0 rfl rfl 9 (by decide) (List.mem_of_getElem? (i := 5) rfl) rfl dX12_restore_67 ?_
      refine lv_iload_n hx hb dX12_restore_70 rfl (lv_at hl 2 rfl) ?_
      refine lv_aload_n hx hb dX12_restore_71 rfl (lv_at hl 0 rfl) ?_
      refine z_get S hF hH iX12_restore_X12 0 rfl rfl 44 (by decide) (List.mem_of_getElem? (i := 6) rfl) rfl dX12_restore_72 ?_
      refine lv_bipush (v := 18) hx hb dX12_restore_75 (by decide) ?_
      refine lv_iload_n hx hb dX12_restore_77 rfl (lv_at hl 1 rfl) ?_
      refine lv_imul hx hb dX12_restore_78 ?_
      refine lv_iload_n hx hb dX12_restore_79 rfl (lv_at hl 2 rfl) ?_
      refine lv_iadd hx hb dX12_restore_80 ?_
      obtain ⟨h81, h⟩ := zck_e h
      refine z_lald S hF hH 4 rfl h81 rfl dX12_restore_81 ?_
      obtain ⟨y1, ey1, h⟩ := zbn_e h
      refine z_topl ey1 ?_
      clear ey1
      obtain ⟨h82, h⟩ := zck_e h
      obtain ⟨f2, ef2, h⟩ := zbn_e h
      refine z_last (ws' := (wd_X12_restore cy q_t q_t_tape q_t_s q_t_h q_t_read q_t_names q_t_reserved q_t_undone q_t_before q_t_comeRow q_t_shown q_t_text q_t_toldAt q_t_stack q_t_truths q_t_imaged q_t_namesKept q_t_areKept c_t_thrown t_length t_size t_p t_limit t_token t_at t_span t_number t_fault t_faultAt t_word t_got t_lines t_hasWait c_t_undoMany t_firstMinute t_lookClock t_hasTime t_latestMost t_textMany t_seed t_toldMany t_hasTold t_codes t_ones t_top t_deep t_isWhole t_areKept t_imaged c_t_s t_namesKept f2)) (j := (Int32.toNatClampNeg x2)) S hF hH 5 rfl h82 rfl (by rw [ef2]; rfl) dX12_restore_82 (fun H locs hH => ?_)
      clear ef2
      obtain ⟨y3, ey3, h⟩ := zbn_e h
      refine lv_iinc (v := y3) (lv' := [(2, .int y3), (0, .ref q_t), (1, .int x1)]) hx hb dX12_restore_83 hl (k := 2) rfl (by rw [ey3]; exact congrArg (fun z => x2 + z) (by decide)) (by decide) rfl (fun ls hl => ?_)
      clear ey3
      refine lv_goto (tgt := 60) hx hb dX12_restore_86 (by decide) ?_
      exact ih x1 y3 c_t_thrown c_t_undoMany c_t_s f2 _ _ _ hH (lv_sub hl [1, 2, 0] rfl) h
set_option maxHeartbeats 4000000 in
set_option maxRecDepth 100000 in
theorem w_X12_restore_27 {p : Program} {l : Launch} {e : Env} {s : State} {m : MethodId} {args : Array Value} {below : List Frame} {meth : Method} {c : Code} {G : va_G} {cy : Nat → ClassId} {E : Nat → Nat} {w0 : va_W} {N : Nat} {q_t q_t_tape q_t_s q_t_h q_t_read q_t_names q_t_reserved q_t_undone q_t_before q_t_comeRow q_t_shown q_t_text q_t_toldAt q_t_stack q_t_truths q_t_imaged q_t_namesKept q_t_areKept : Nat} {t_length : Int32} {t_size : Int32} {t_p : Int32} {t_limit : Int32} {t_token : Int32} {t_at : Int32} {t_span : Int32} {t_number : Int32} {t_fault : Int32} {t_faultAt : Int32} {t_word : Int64} {t_got : Int32} {t_lines : Int32} {t_hasWait : Int32} {t_firstMinute : Int32} {t_lookClock : Int32} {t_hasTime : Int32} {t_latestMost : Int32} {t_textMany : Int32} {t_seed : Int32} {t_toldMany : Int32} {t_hasTold : Int32} {t_codes : Int32} {t_ones : Int32} {t_top : Int32} {t_deep : Int32} {t_isWhole : Int32} {t_areKept : Nat → Int32} {t_imaged : Nat → Int32} {t_namesKept : Nat → Int64} {r : Int32} {r_t_thrown : Int32} {r_t_undoMany : Int32} {r_t_s : Nat → Int32} {r_t_names : Nat → Int64} (S : CallFix p m c cX12_restore 3 s args wsX12_restore RX12) (hr : meth.sig.returnType = some .boolean) (hlocks : meth.locks = false) (hF : zF G cy E (va_A w0 s.heap.size) s) :
    ∀ (n : Nat) (x1 : Int32) (x2 : Int32) (c_t_thrown : Int32) (c_t_undoMany : Int32) (c_t_s : Nat → Int32) (c_t_names : Nat → Int64) (H : Heap) (locs : List Loc) (ls : Array Slot), zH G (va_A w0 s.heap.size) s H locs (wd_X12_restore cy q_t q_t_tape q_t_s q_t_h q_t_read q_t_names q_t_reserved q_t_undone q_t_before q_t_comeRow q_t_shown q_t_text q_t_toldAt q_t_stack q_t_truths q_t_imaged q_t_namesKept q_t_areKept c_t_thrown t_length t_size t_p t_limit t_token t_at t_span t_number t_fault t_faultAt t_word t_got t_lines t_hasWait c_t_undoMany t_firstMinute t_lookClock t_hasTime t_latestMost t_textMany t_seed t_toldMany t_hasTold t_codes t_ones t_top t_deep t_isWhole t_areKept t_imaged c_t_s t_namesKept c_t_names) → lv_has ls 3 [(0, .ref q_t), (1, .int x1), (2, .int x2)] → f_X12_restore_27 N t_areKept t_imaged t_namesKept n x1 x2 c_t_thrown c_t_undoMany c_t_s c_t_names = some (r, r_t_thrown, r_t_undoMany, r_t_s, r_t_names) → W p l e rm_X12_restore s m args below meth c H locs 0 0 (MQ below (zQ G w0 (wd_X12_restore cy q_t q_t_tape q_t_s q_t_h q_t_read q_t_names q_t_reserved q_t_undone q_t_before q_t_comeRow q_t_shown q_t_text q_t_toldAt q_t_stack q_t_truths q_t_imaged q_t_namesKept q_t_areKept r_t_thrown t_length t_size t_p t_limit t_token t_at t_span t_number t_fault t_faultAt t_word t_got t_lines t_hasWait r_t_undoMany t_firstMinute t_lookClock t_hasTime t_latestMost t_textMany t_seed t_toldMany t_hasTold t_codes t_ones t_top t_deep t_isWhole t_areKept t_imaged r_t_s t_namesKept r_t_names) s.heap.size (some (.int r))) args s 0 0 (va_A w0 s.heap.size)) (F0 m 27 ls []) := by
  obtain ⟨hx, hb, hml, hown, hts⟩ := id S
  intro n
  induction n with
  | zero =>
    intro x1 x2 c_t_thrown c_t_undoMany c_t_s c_t_names H locs ls hH hl h
    rw [f_X12_restore_27] at h
    cases h
  | succ n ih =>
    intro x1 x2 c_t_thrown c_t_undoMany c_t_s c_t_names H locs ls hH hl h
    rw [f_X12_restore_27] at h
    refine lv_iload_n hx hb dX12_restore_27 rfl (lv_at hl 2 rfl) ?_
    refine lv_sipush (v := 334) hx hb dX12_restore_28 (by decide) ?_
    refine lv_icmp_ge (tgt := 58) hx hb dX12_restore_31 (by decide) (fun b31 => ?_) (fun b31 => ?_)
    · replace h := zif_t b31 h
      refine lv_iconst (v := 0) hx hb dX12_restore_58 (by decide) ?_
      refine lv_istore_n (lv' := [(2, .int 0), (0, .ref q_t), (1, .int x1)]) hx hb dX12_restore_59 rfl hl (by decide) rfl (fun ls hl => ?_)
      exact w_X12_restore_60 S hr hlocks hF N x1 0 c_t_thrown c_t_undoMany c_t_s c_t_names _ _ _ hH (lv_sub hl [1, 2, 0] rfl) h
    · replace h := zif_f b31 h
      refine lv_aload_n hx hb dX12_restore_34 rfl (lv_at hl 0 rfl) ?_
      refine z_get S hF hH iX12_restore_X12 0 rfl rfl 6 (by decide) (List.mem_of_getElem? (i := 3) rfl) rfl dX12_restore_35 ?_
      refine lv_iload_n hx hb dX12_restore_38 rfl (lv_at hl 2 rfl) ?_
      refine lv_aload_n hx hb dX12_restore_39 rfl (lv_at hl 0 rfl) ?_
      refine z_get S hF hH iX12_restore_X12 0 rfl rfl 43 (by decide) (List.mem_of_getElem? (i := 4) rfl) rfl dX12_restore_40 ?_
      refine lv_sipush (v := 334) hx hb dX12_restore_43 (by decide) ?_
      refine lv_iload_n hx hb dX12_restore_46 rfl (lv_at hl 1 rfl) ?_
      refine lv_imul hx hb dX12_restore_47 ?_
      refine lv_iload_n hx hb dX12_restore_48 rfl (lv_at hl 2 rfl) ?_
      refine lv_iadd hx hb dX12_restore_49 ?_
      obtain ⟨h50, h⟩ := zck_e h
      refine z_iald S hF hH 2 rfl h50 rfl dX12_restore_50 ?_
      obtain ⟨y1, ey1, h⟩ := zbn_e h
      refine z_top ey1 ?_
      clear ey1
      obtain ⟨h51, h⟩ := zck_e h
      obtain ⟨f2, ef2, h⟩ := zbn_e h
      refine z_iast (ws' := (wd_X12_restore cy q_t q_t_tape q_t_s q_t_h q_t_read q_t_names q_t_reserved q_t_undone q_t_before q_t_comeRow q_t_shown q_t_text q_t_toldAt q_t_stack q_t_truths q_t_imaged q_t_namesKept q_t_areKept c_t_thrown t_length t_size t_p t_limit t_token t_at t_span t_number t_fault t_faultAt t_word t_got t_lines t_hasWait c_t_undoMany t_firstMinute t_lookClock t_hasTime t_latestMost t_textMany t_seed t_toldMany t_hasTold t_codes t_ones t_top t_deep t_isWhole t_areKept t_imaged f2 t_namesKept c_t_names)) (j := (Int32.toNatClampNeg x2)) S hF hH 3 rfl h51 rfl (by rw [ef2]; rfl) dX12_restore_51 (fun H locs hH => ?_)
      clear ef2
      obtain ⟨y3, ey3, h⟩ := zbn_e h
      refine lv_iinc (v := y3) (lv' := [(2, .int y3), (0, .ref q_t), (1, .int x1)]) hx hb dX12_restore_52 hl (k := 2) rfl (by rw [ey3]; exact congrArg (fun z => x2 + z) (by decide)) (by decide) rfl (fun ls hl => ?_)
      clear ey3
      refine lv_goto (tgt := 27) hx hb dX12_restore_55 (by decide) ?_
      exact ih x1 y3 c_t_thrown c_t_undoMany f2 c_t_names _ _ _ hH (lv_sub hl [1, 2, 0] rfl) h
set_option maxHeartbeats 4000000 in
set_option maxRecDepth 100000 in
theorem c_X12_restore (l : Launch) (G : va_G) (cy : Nat → ClassId) (E : Nat → Nat) (N : Nat) (q_t q_t_tape q_t_s q_t_h q_t_read q_t_names q_t_reserved q_t_undone q_t_before q_t_comeRow q_t_shown q_t_text q_t_toldAt q_t_stack q_t_truths q_t_imaged q_t_namesKept q_t_areKept : Nat) (t_thrown : Int32) (t_length : Int32) (t_size : Int32) (t_p : Int32) (t_limit : Int32) (t_token : Int32) (t_at : Int32) (t_span : Int32) (t_number : Int32) (t_fault : Int32) (t_faultAt : Int32) (t_word : Int64) (t_got : Int32) (t_lines : Int32) (t_hasWait : Int32) (t_undoMany : Int32) (t_firstMinute : Int32) (t_lookClock : Int32) (t_hasTime : Int32) (t_latestMost : Int32) (t_textMany : Int32) (t_seed : Int32) (t_toldMany : Int32) (t_hasTold : Int32) (t_codes : Int32) (t_ones : Int32) (t_top : Int32) (t_deep : Int32) (t_isWhole : Int32) (t_areKept : Nat → Int32) (t_imaged : Nat → Int32) (t_s : Nat → Int32) (t_namesKept : Nat → Int64) (t_names : Nat → Int64) (x0 : Int32) (r : Int32) (r_t_thrown : Int32) (r_t_undoMany : Int32) (r_t_s : Nat → Int32) (r_t_names : Nat → Int64) (h : f_X12_restore N x0 t_thrown t_undoMany t_areKept t_imaged t_s t_namesKept t_names = some (r, r_t_thrown, r_t_undoMany, r_t_s, r_t_names)) : zM l G cy E yX12_restore wsX12_restore rm_X12_restore [.ref q_t, .int x0] (wd_X12_restore cy q_t q_t_tape q_t_s q_t_h q_t_read q_t_names q_t_reserved q_t_undone q_t_before q_t_comeRow q_t_shown q_t_text q_t_toldAt q_t_stack q_t_truths q_t_imaged q_t_namesKept q_t_areKept t_thrown t_length t_size t_p t_limit t_token t_at t_span t_number t_fault t_faultAt t_word t_got t_lines t_hasWait t_undoMany t_firstMinute t_lookClock t_hasTime t_latestMost t_textMany t_seed t_toldMany t_hasTold t_codes t_ones t_top t_deep t_isWhole t_areKept t_imaged t_s t_namesKept t_names) (wd_X12_restore cy q_t q_t_tape q_t_s q_t_h q_t_read q_t_names q_t_reserved q_t_undone q_t_before q_t_comeRow q_t_shown q_t_text q_t_toldAt q_t_stack q_t_truths q_t_imaged q_t_namesKept q_t_areKept r_t_thrown t_length t_size t_p t_limit t_token t_at t_span t_number t_fault t_faultAt t_word t_got t_lines t_hasWait r_t_undoMany t_firstMinute t_lookClock t_hasTime t_latestMost t_textMany t_seed t_toldMany t_hasTold t_codes t_ones t_top t_deep t_isWhole t_areKept t_imaged r_t_s t_namesKept r_t_names) (some (.int r)) 0 0 := by
  refine z_body (cc := cX12_restore) (maxL := 3) (ret := some .boolean) (by decide) rfl (Nat.le_of_ble_eq_true rfl) ?_
  intro p e s m below meth c ls S hr hlocks hnm hF hH hl
  have S : CallFix p m c cX12_restore 3 s ([.ref q_t, .int x0] : List Value).toArray wsX12_restore RX12 := S
  obtain ⟨hx, hb, hml, hown, hts⟩ := id S
  have hl : lv_has ls 3 [(0, .ref q_t), (1, .int x0)] := hl
  rw [f_X12_restore] at h
  refine lv_aload_n hx hb dX12_restore_0 rfl (lv_at hl 0 rfl) ?_
  refine lv_iconst (v := 0) hx hb dX12_restore_1 (by decide) ?_
  refine z_put (ws' := (wd_X12_restore cy q_t q_t_tape q_t_s q_t_h q_t_read q_t_names q_t_reserved q_t_undone q_t_before q_t_comeRow q_t_shown q_t_text q_t_toldAt q_t_stack q_t_truths q_t_imaged q_t_namesKept q_t_areKept 0 t_length t_size t_p t_limit t_token t_at t_span t_number t_fault t_faultAt t_word t_got t_lines t_hasWait t_undoMany t_firstMinute t_lookClock t_hasTime t_latestMost t_textMany t_seed t_toldMany t_hasTold t_codes t_ones t_top t_deep t_isWhole t_areKept t_imaged t_s t_namesKept t_names)) S hF hH iX12_restore_X12 tyX12 tyX12_ok nmX12 0 rfl rfl 0 (by decide) (List.mem_of_getElem? (i := 1) rfl) rfl rfl rfl (Nat.le_of_ble_eq_true rfl) rfl dX12_restore_2 (fun H locs hH => ?_)
  refine lv_iload_n hx hb dX12_restore_5 rfl (lv_at hl 1 rfl) ?_
  refine lv_iconst (v := 0) hx hb dX12_restore_6 (by decide) ?_
  refine lv_iconst (v := 1) hx hb dX12_restore_7 (by decide) ?_
  obtain ⟨z8, hz8, h⟩ := zcl_e h
  refine z_callS (As := [.int x0, .int 0, .int 1]) (rest := []) (st1 := [.int z8]) (ws' := (wd_X12_restore cy q_t q_t_tape q_t_s q_t_h q_t_read q_t_names q_t_reserved q_t_undone q_t_before q_t_comeRow q_t_shown q_t_text q_t_toldAt q_t_stack q_t_truths q_t_imaged q_t_namesKept q_t_areKept 0 t_length t_size t_p t_limit t_token t_at t_span t_number t_fault t_faultAt t_word t_got t_lines t_hasWait t_undoMany t_firstMinute t_lookClock t_hasTime t_latestMost t_textMany t_seed t_toldMany t_hasTold t_codes t_ones t_top t_deep t_isWhole t_areKept t_imaged t_s t_namesKept t_names)) S hF hH (c_X12_isIn l G cy E N x0 0 1 z8 hz8) (cwS 3 hts gX12_restore_X12_isIn rfl rfl rfl (by decide +kernel) ⟨Nat.le_of_ble_eq_true rfl, Nat.le_of_ble_eq_true rfl⟩) [] rfl (by decide) rfl rfl rfl rfl rfl hl.1 (Nat.le_of_ble_eq_true rfl) dX12_restore_8 ⟨Nat.le_of_ble_eq_true rfl, Nat.le_of_ble_eq_true rfl⟩ (fun H locs hH => ?_)
  refine lv_if_eq (tgt := 23) hx hb dX12_restore_11 (by decide) (fun b11 => ?_) (fun b11 => ?_)
  · replace h := zif_t b11 h
    refine lv_iconst (v := 0) hx hb dX12_restore_23 (by decide) ?_
    cases h
    exact z_zret S hr hlocks hH rfl dX12_restore_24
  · replace h := zif_f b11 h
    refine lv_aload_n hx hb dX12_restore_14 rfl (lv_at hl 0 rfl) ?_
    refine z_get S hF hH iX12_restore_X12 0 rfl rfl 45 (by decide) (List.mem_of_getElem? (i := 2) rfl) rfl dX12_restore_15 ?_
    refine lv_iload_n hx hb dX12_restore_18 rfl (lv_at hl 1 rfl) ?_
    obtain ⟨h19, h⟩ := zck_e h
    refine z_zald S hF hH 1 rfl h19 rfl dX12_restore_19 ?_
    refine lv_if_ne (tgt := 25) hx hb dX12_restore_20 (by decide) (fun b20 => ?_) (fun b20 => ?_)
    · replace h := zif_f b20 h
      refine lv_iconst (v := 0) hx hb dX12_restore_25 (by decide) ?_
      refine lv_istore_n (lv' := [(2, .int 0), (0, .ref q_t), (1, .int x0)]) hx hb dX12_restore_26 rfl hl (by decide) rfl (fun ls hl => ?_)
      exact w_X12_restore_27 S hr hlocks hF N x0 0 0 t_undoMany t_s t_names _ _ _ hH (lv_sub hl [1, 2, 0] rfl) h
    · replace h := zif_t b20 h
      refine lv_iconst (v := 0) hx hb dX12_restore_23 (by decide) ?_
      cases h
      exact z_zret S hr hlocks hH rfl dX12_restore_24
abbrev wd_X12_count (cy : Nat → ClassId) (q_t q_t_tape q_t_s q_t_h q_t_read q_t_names q_t_reserved q_t_undone q_t_before q_t_comeRow q_t_shown q_t_text q_t_toldAt q_t_stack q_t_truths q_t_imaged q_t_namesKept q_t_areKept : Nat) (t_thrown : Int32) (t_length : Int32) (t_size : Int32) (t_p : Int32) (t_limit : Int32) (t_token : Int32) (t_at : Int32) (t_span : Int32) (t_number : Int32) (t_fault : Int32) (t_faultAt : Int32) (t_word : Int64) (t_got : Int32) (t_lines : Int32) (t_hasWait : Int32) (t_undoMany : Int32) (t_firstMinute : Int32) (t_lookClock : Int32) (t_hasTime : Int32) (t_latestMost : Int32) (t_textMany : Int32) (t_seed : Int32) (t_toldMany : Int32) (t_hasTold : Int32) (t_codes : Int32) (t_ones : Int32) (t_top : Int32) (t_deep : Int32) (t_isWhole : Int32) (t_s : Nat → Int32) : va_W := [(q_t, .inr (13, [.int t_thrown, .ref q_t_tape, .int t_length, .int t_size, .int t_p, .int t_limit, .ref q_t_s, .ref q_t_h, .ref q_t_read, .ref q_t_names, .ref q_t_reserved, .int t_token, .int t_at, .int t_span, .int t_number, .int t_fault, .int t_faultAt, .long t_word, .int t_got, .int t_lines, .int t_hasWait, .ref q_t_undone, .ref q_t_before, .int t_undoMany, .ref q_t_comeRow, .int t_firstMinute, .int t_lookClock, .int t_hasTime, .ref q_t_shown, .int t_latestMost, .ref q_t_text, .int t_textMany, .int t_seed, .int t_toldMany, .ref q_t_toldAt, .int t_hasTold, .ref q_t_stack, .int t_codes, .int t_ones, .int t_top, .int t_deep, .int t_isWhole, .ref q_t_truths, .ref q_t_imaged, .ref q_t_namesKept, .ref q_t_areKept])), (q_t_s, .inl (cy 1, 334, .inl t_s))]
theorem iX12_count_X12 : ∀ w ∈ wsX120, w ∈ wsX12_count := fun _ h => List.mem_cons_of_mem _ (List.mem_append_right _ h)
abbrev rm_X12_count : Room := { frames := 1, cells := 0, slots := 0, locals := 22 }
set_option maxRecDepth 100000 in
def f_X12_count (N : Nat) (x0 : Int32) (t_thrown : Int32) (t_length : Int32) (t_s : Nat → Int32) : Option (Int32 × Int32) := if x0 = 4 then (some (t_length, 0)) else (zcl (f_X12_isIn N x0 0 3) fun z20 => if z20 = 0 then (some ((-1), 0)) else (zck (zin x0 334) <| some ((t_s (Int32.toNatClampNeg x0)), 0)))
set_option maxHeartbeats 4000000 in
set_option maxRecDepth 100000 in
theorem c_X12_count (l : Launch) (G : va_G) (cy : Nat → ClassId) (E : Nat → Nat) (N : Nat) (q_t q_t_tape q_t_s q_t_h q_t_read q_t_names q_t_reserved q_t_undone q_t_before q_t_comeRow q_t_shown q_t_text q_t_toldAt q_t_stack q_t_truths q_t_imaged q_t_namesKept q_t_areKept : Nat) (t_thrown : Int32) (t_length : Int32) (t_size : Int32) (t_p : Int32) (t_limit : Int32) (t_token : Int32) (t_at : Int32) (t_span : Int32) (t_number : Int32) (t_fault : Int32) (t_faultAt : Int32) (t_word : Int64) (t_got : Int32) (t_lines : Int32) (t_hasWait : Int32) (t_undoMany : Int32) (t_firstMinute : Int32) (t_lookClock : Int32) (t_hasTime : Int32) (t_latestMost : Int32) (t_textMany : Int32) (t_seed : Int32) (t_toldMany : Int32) (t_hasTold : Int32) (t_codes : Int32) (t_ones : Int32) (t_top : Int32) (t_deep : Int32) (t_isWhole : Int32) (t_s : Nat → Int32) (x0 : Int32) (r : Int32) (r_t_thrown : Int32) (h : f_X12_count N x0 t_thrown t_length t_s = some (r, r_t_thrown)) : zM l G cy E yX12_count wsX12_count rm_X12_count [.ref q_t, .int x0] (wd_X12_count cy q_t q_t_tape q_t_s q_t_h q_t_read q_t_names q_t_reserved q_t_undone q_t_before q_t_comeRow q_t_shown q_t_text q_t_toldAt q_t_stack q_t_truths q_t_imaged q_t_namesKept q_t_areKept t_thrown t_length t_size t_p t_limit t_token t_at t_span t_number t_fault t_faultAt t_word t_got t_lines t_hasWait t_undoMany t_firstMinute t_lookClock t_hasTime t_latestMost t_textMany t_seed t_toldMany t_hasTold t_codes t_ones t_top t_deep t_isWhole t_s) (wd_X12_count cy q_t q_t_tape q_t_s q_t_h q_t_read q_t_names q_t_reserved q_t_undone q_t_before q_t_comeRow q_t_shown q_t_text q_t_toldAt q_t_stack q_t_truths q_t_imaged q_t_namesKept q_t_areKept r_t_thrown t_length t_size t_p t_limit t_token t_at t_span t_number t_fault t_faultAt t_word t_got t_lines t_hasWait t_undoMany t_firstMinute t_lookClock t_hasTime t_latestMost t_textMany t_seed t_toldMany t_hasTold t_codes t_ones t_top t_deep t_isWhole t_s) (some (.int r)) 0 0 := by
  refine z_body (cc := cX12_count) (maxL := 2) (ret := some .int) (by decide) rfl (Nat.le_of_ble_eq_true rfl) ?_
  intro p e s m below meth c ls S hr hlocks hnm hF hH hl
  have S : CallFix p m c cX12_count 2 s ([.ref q_t, .int x0] : List Value).toArray wsX12_count RX12 := S
  obtain ⟨hx, hb, hml, hown, hts⟩ := id S
  have hl : lv_has ls 2 [(0, .ref q_t), (1, .int x0)] := hl
  rw [f_X12_count] at h
  refine lv_aload_n hx hb dX12_count_0 rfl (lv_at hl 0 rfl) ?_
  refine lv_iconst (v := 0) hx hb dX12_count_1 (by decide) ?_
  refine z_put (ws' := (wd_X12_count cy q_t q_t_tape q_t_s q_t_h q_t_read q_t_names q_t_reserved q_t_undone q_t_before q_t_comeRow q_t_shown q_t_text q_t_toldAt q_t_stack q_t_truths q_t_imaged q_t_namesKept q_t_areKept 0 t_length t_size t_p t_limit t_token t_at t_span t_number t_fault t_faultAt t_word t_got t_lines t_hasWait t_undoMany t_firstMinute t_lookClock t_hasTime t_latestMost t_textMany t_seed t_toldMany t_hasTold t_codes t_ones t_top t_deep t_isWhole t_s)) S hF hH iX12_count_X12 tyX12 tyX12_ok nmX12 0 rfl rfl 0 (by decide) (List.mem_of_getElem? (i := 1) rfl) rfl rfl rfl (Nat.le_of_ble_eq_true rfl) rfl dX12_count_2 (fun H locs hH => ?_)
  refine lv_iload_n hx hb dX12_count_5 rfl (lv_at hl 1 rfl) ?_
  refine lv_iconst (v := 4) hx hb dX12_count_6 (by decide) ?_
  refine lv_icmp_ne (tgt := 17) hx hb dX12_count_7 (by decide) (fun b7 => ?_) (fun b7 => ?_)
  · replace h := zif_f b7 h
    refine lv_iload_n hx hb dX12_count_17 rfl (lv_at hl 1 rfl) ?_
    refine lv_iconst (v := 0) hx hb dX12_count_18 (by decide) ?_
    refine lv_iconst (v := 3) hx hb dX12_count_19 (by decide) ?_
    obtain ⟨z20, hz20, h⟩ := zcl_e h
    refine z_callS (As := [.int x0, .int 0, .int 3]) (rest := []) (st1 := [.int z20]) (ws' := (wd_X12_count cy q_t q_t_tape q_t_s q_t_h q_t_read q_t_names q_t_reserved q_t_undone q_t_before q_t_comeRow q_t_shown q_t_text q_t_toldAt q_t_stack q_t_truths q_t_imaged q_t_namesKept q_t_areKept 0 t_length t_size t_p t_limit t_token t_at t_span t_number t_fault t_faultAt t_word t_got t_lines t_hasWait t_undoMany t_firstMinute t_lookClock t_hasTime t_latestMost t_textMany t_seed t_toldMany t_hasTold t_codes t_ones t_top t_deep t_isWhole t_s)) S hF hH (c_X12_isIn l G cy E N x0 0 3 z20 hz20) (cwS 3 hts gX12_count_X12_isIn rfl rfl rfl (by decide +kernel) ⟨Nat.le_of_ble_eq_true rfl, Nat.le_of_ble_eq_true rfl⟩) [] rfl (by decide) rfl rfl rfl rfl rfl hl.1 (Nat.le_of_ble_eq_true rfl) dX12_count_20 ⟨Nat.le_of_ble_eq_true rfl, Nat.le_of_ble_eq_true rfl⟩ (fun H locs hH => ?_)
    refine lv_if_eq (tgt := 35) hx hb dX12_count_23 (by decide) (fun b23 => ?_) (fun b23 => ?_)
    · replace h := zif_t b23 h
      refine lv_iconst (v := (-1)) hx hb dX12_count_35 (by decide) ?_
      cases h
      exact z_iret S hr hlocks hH dX12_count_36
    · replace h := zif_f b23 h
      refine lv_aload_n hx hb dX12_count_26 rfl (lv_at hl 0 rfl) ?_
      refine z_get S hF hH iX12_count_X12 0 rfl rfl 6 (by decide) (List.mem_of_getElem? (i := 3) rfl) rfl dX12_count_27 ?_
      refine lv_iload_n hx hb dX12_count_30 rfl (lv_at hl 1 rfl) ?_
      obtain ⟨h31, h⟩ := zck_e h
      refine z_iald S hF hH 1 rfl h31 rfl dX12_count_31 ?_
      refine lv_goto (tgt := 36) hx hb dX12_count_32 (by decide) ?_
      cases h
      exact z_iret S hr hlocks hH dX12_count_36
  · replace h := zif_t b7 h
    refine lv_aload_n hx hb dX12_count_10 rfl (lv_at hl 0 rfl) ?_
    refine z_get S hF hH iX12_count_X12 0 rfl rfl 2 (by decide) (List.mem_of_getElem? (i := 2) rfl) rfl dX12_count_11 ?_
    refine lv_goto (tgt := 36) hx hb dX12_count_14 (by decide) ?_
    cases h
    exact z_iret S hr hlocks hH dX12_count_36
