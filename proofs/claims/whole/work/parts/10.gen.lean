abbrev wd_X0_write (cy : Nat → ClassId) (q_t q_t_in q_t_burgh q_t_verb q_t_who q_t_what : Nat) (t_lines : Int32) (t_judged : Int32) (t_why : Int32) (t_good : Int32) (t_minuteThen : Int32) (t_outThen : Int32) (t_verb : Nat → Int32) (t_who : Nat → Int32) (t_what : Nat → Int32) : va_W := [(q_t, .inr (1, [.ref q_t_in, .ref q_t_burgh, .int t_lines, .ref q_t_verb, .ref q_t_who, .ref q_t_what, .int t_judged, .int t_why, .int t_good, .int t_minuteThen, .int t_outThen])), (q_t_verb, .inl (cy 1, 40, .inl t_verb)), (q_t_who, .inl (cy 1, 40, .inl t_who)), (q_t_what, .inl (cy 1, 40, .inl t_what))]
theorem iX0_write_X0 : ∀ w ∈ wsX00, w ∈ wsX0_write := fun _ h => List.mem_cons_of_mem _ (List.mem_append_right _ h)
abbrev rm_X0_write : Room := { frames := 0, cells := 0, slots := 0, locals := 0 }
set_option maxRecDepth 100000 in
def f_X0_write (N : Nat) (x0 : Int32) (x1 : Int32) (x2 : Int32) (t_lines : Int32) (t_verb : Nat → Int32) (t_who : Nat → Int32) (t_what : Nat → Int32) : Option (Int32 × (Nat → Int32) × (Nat → Int32) × (Nat → Int32)) := zck (zin t_lines 40) <| zbn (upd t_verb (Int32.toNatClampNeg t_lines) x0) fun f1 => zbn (upd t_who (Int32.toNatClampNeg t_lines) x1) fun f2 => zbn (upd t_what (Int32.toNatClampNeg t_lines) x2) fun f3 => some (1, f1, f2, f3)
set_option maxHeartbeats 4000000 in
set_option maxRecDepth 100000 in
theorem c_X0_write (l : Launch) (G : va_G) (cy : Nat → ClassId) (E : Nat → Nat) (N : Nat) (q_t q_t_in q_t_burgh q_t_verb q_t_who q_t_what : Nat) (t_lines : Int32) (t_judged : Int32) (t_why : Int32) (t_good : Int32) (t_minuteThen : Int32) (t_outThen : Int32) (t_verb : Nat → Int32) (t_who : Nat → Int32) (t_what : Nat → Int32) (x0 : Int32) (x1 : Int32) (x2 : Int32) (r : Int32) (r_t_verb : Nat → Int32) (r_t_who : Nat → Int32) (r_t_what : Nat → Int32) (h : f_X0_write N x0 x1 x2 t_lines t_verb t_who t_what = some (r, r_t_verb, r_t_who, r_t_what)) : zM l G cy E yX0_write wsX0_write rm_X0_write [.ref q_t, .int x0, .int x1, .int x2] (wd_X0_write cy q_t q_t_in q_t_burgh q_t_verb q_t_who q_t_what t_lines t_judged t_why t_good t_minuteThen t_outThen t_verb t_who t_what) (wd_X0_write cy q_t q_t_in q_t_burgh q_t_verb q_t_who q_t_what t_lines t_judged t_why t_good t_minuteThen t_outThen r_t_verb r_t_who r_t_what) (some (.int r)) 0 0 := by
  refine z_body (cc := cX0_write) (maxL := 4) (ret := some .boolean) (by decide) rfl (Nat.le_of_ble_eq_true rfl) ?_
  intro p e s m below meth c ls S hr hlocks hnm hF hH hl
  have S : CallFix p m c cX0_write 4 s ([.ref q_t, .int x0, .int x1, .int x2] : List Value).toArray wsX0_write RX0 := S
  obtain ⟨hx, hb, hml, hown, hts⟩ := id S
  have hl : lv_has ls 4 [(0, .ref q_t), (1, .int x0), (2, .int x1), (3, .int x2)] := hl
  rw [f_X0_write] at h
  refine lv_aload_n hx hb dX0_write_0 rfl (lv_at hl 0 rfl) ?_
  refine z_get S hF hH iX0_write_X0 0 rfl rfl 3 (by decide) (List.mem_of_getElem? (i := 1) rfl) rfl dX0_write_1 ?_
  refine lv_aload_n hx hb dX0_write_4 rfl (lv_at hl 0 rfl) ?_
  refine z_get S hF hH iX0_write_X0 0 rfl rfl 2 (by decide) (List.mem_of_getElem? (i := 2) rfl) rfl dX0_write_5 ?_
  refine lv_iload_n hx hb dX0_write_8 rfl (lv_at hl 1 rfl) ?_
  obtain ⟨h9, h⟩ := zck_e h
  obtain ⟨f1, ef1, h⟩ := zbn_e h
  refine z_iast (ws' := (wd_X0_write cy q_t q_t_in q_t_burgh q_t_verb q_t_who q_t_what t_lines t_judged t_why t_good t_minuteThen t_outThen f1 t_who t_what)) (j := (Int32.toNatClampNeg t_lines)) S hF hH 1 rfl h9 rfl (by rw [ef1]; rfl) dX0_write_9 (fun H locs hH => ?_)
  clear ef1
  refine lv_aload_n hx hb dX0_write_10 rfl (lv_at hl 0 rfl) ?_
  refine z_get S hF hH iX0_write_X0 0 rfl rfl 4 (by decide) (List.mem_of_getElem? (i := 3) rfl) rfl dX0_write_11 ?_
  refine lv_aload_n hx hb dX0_write_14 rfl (lv_at hl 0 rfl) ?_
  refine z_get S hF hH iX0_write_X0 0 rfl rfl 2 (by decide) (List.mem_of_getElem? (i := 2) rfl) rfl dX0_write_15 ?_
  refine lv_iload_n hx hb dX0_write_18 rfl (lv_at hl 2 rfl) ?_
  obtain ⟨f2, ef2, h⟩ := zbn_e h
  refine z_iast (ws' := (wd_X0_write cy q_t q_t_in q_t_burgh q_t_verb q_t_who q_t_what t_lines t_judged t_why t_good t_minuteThen t_outThen f1 f2 t_what)) (j := (Int32.toNatClampNeg t_lines)) S hF hH 2 rfl h9 rfl (by rw [ef2]; rfl) dX0_write_19 (fun H locs hH => ?_)
  clear ef2
  refine lv_aload_n hx hb dX0_write_20 rfl (lv_at hl 0 rfl) ?_
  refine z_get S hF hH iX0_write_X0 0 rfl rfl 5 (by decide) (List.mem_of_getElem? (i := 4) rfl) rfl dX0_write_21 ?_
  refine lv_aload_n hx hb dX0_write_24 rfl (lv_at hl 0 rfl) ?_
  refine z_get S hF hH iX0_write_X0 0 rfl rfl 2 (by decide) (List.mem_of_getElem? (i := 2) rfl) rfl dX0_write_25 ?_
  refine lv_iload_n hx hb dX0_write_28 rfl (lv_at hl 3 rfl) ?_
  obtain ⟨f3, ef3, h⟩ := zbn_e h
  refine z_iast (ws' := (wd_X0_write cy q_t q_t_in q_t_burgh q_t_verb q_t_who q_t_what t_lines t_judged t_why t_good t_minuteThen t_outThen f1 f2 f3)) (j := (Int32.toNatClampNeg t_lines)) S hF hH 3 rfl h9 rfl (by rw [ef3]; rfl) dX0_write_29 (fun H locs hH => ?_)
  clear ef3
  refine lv_iconst (v := 1) hx hb dX0_write_30 (by decide) ?_
  cases h
  exact z_zret S hr hlocks hH rfl dX0_write_31
abbrev wd_X8_advance (cy : Nat → ClassId) (q_t q_t_tape q_t_kinds q_t_places q_t_values q_t_words : Nat) (t_kind : Int32) (t_place : Int32) (t_value : Int32) (t_word : Int64) (t_fault : Int32) (t_faultPlace : Int32) (t_size : Int32) (t_taken : Int32) (t_kinds : Nat → Int32) (t_places : Nat → Int32) (t_values : Nat → Int32) (t_words : Nat → Int64) : va_W := [(q_t, .inr (9, [.int t_kind, .int t_place, .int t_value, .long t_word, .int t_fault, .int t_faultPlace, .ref q_t_tape, .int t_size, .int t_taken, .ref q_t_kinds, .ref q_t_places, .ref q_t_values, .ref q_t_words])), (q_t_kinds, .inl (cy 1, 901, .inl t_kinds)), (q_t_places, .inl (cy 1, 901, .inl t_places)), (q_t_values, .inl (cy 1, 901, .inl t_values)), (q_t_words, .inl (cy 2, 901, .inr (.inl t_words)))]
theorem iX8_advance_X8 : ∀ w ∈ wsX80, w ∈ wsX8_advance := fun _ h => List.mem_cons_of_mem _ (List.mem_append_right _ h)
abbrev rm_X8_advance : Room := { frames := 0, cells := 0, slots := 0, locals := 0 }
set_option maxRecDepth 100000 in
def f_X8_advance (N : Nat) (t_kind : Int32) (t_place : Int32) (t_value : Int32) (t_word : Int64) (t_size : Int32) (t_taken : Int32) (t_kinds : Nat → Int32) (t_places : Nat → Int32) (t_values : Nat → Int32) (t_words : Nat → Int64) : Option (Int32 × Int32 × Int32 × Int64 × Int32) := if t_size ≤ t_taken then (some (t_kind, t_place, t_value, t_word, t_taken)) else (zck (zin t_taken 901) <| zbn ((t_kinds (Int32.toNatClampNeg t_taken))) fun y1 => zbn ((t_places (Int32.toNatClampNeg t_taken))) fun y2 => zbn ((t_values (Int32.toNatClampNeg t_taken))) fun y3 => zbn ((t_words (Int32.toNatClampNeg t_taken))) fun y4 => zbn ((t_taken + 1)) fun y5 => some (y1, y2, y3, y4, y5))
set_option maxHeartbeats 4000000 in
set_option maxRecDepth 100000 in
theorem c_X8_advance (l : Launch) (G : va_G) (cy : Nat → ClassId) (E : Nat → Nat) (N : Nat) (q_t q_t_tape q_t_kinds q_t_places q_t_values q_t_words : Nat) (t_kind : Int32) (t_place : Int32) (t_value : Int32) (t_word : Int64) (t_fault : Int32) (t_faultPlace : Int32) (t_size : Int32) (t_taken : Int32) (t_kinds : Nat → Int32) (t_places : Nat → Int32) (t_values : Nat → Int32) (t_words : Nat → Int64) (r_t_kind : Int32) (r_t_place : Int32) (r_t_value : Int32) (r_t_word : Int64) (r_t_taken : Int32) (h : f_X8_advance N t_kind t_place t_value t_word t_size t_taken t_kinds t_places t_values t_words = some (r_t_kind, r_t_place, r_t_value, r_t_word, r_t_taken)) : zM l G cy E yX8_advance wsX8_advance rm_X8_advance [.ref q_t] (wd_X8_advance cy q_t q_t_tape q_t_kinds q_t_places q_t_values q_t_words t_kind t_place t_value t_word t_fault t_faultPlace t_size t_taken t_kinds t_places t_values t_words) (wd_X8_advance cy q_t q_t_tape q_t_kinds q_t_places q_t_values q_t_words r_t_kind r_t_place r_t_value r_t_word t_fault t_faultPlace t_size r_t_taken t_kinds t_places t_values t_words) none 0 0 := by
  refine z_body (cc := cX8_advance) (maxL := 1) (ret := none) (by decide) rfl (Nat.le_of_ble_eq_true rfl) ?_
  intro p e s m below meth c ls S hr hlocks hnm hF hH hl
  have S : CallFix p m c cX8_advance 1 s ([.ref q_t] : List Value).toArray wsX8_advance RX8 := S
  obtain ⟨hx, hb, hml, hown, hts⟩ := id S
  have hl : lv_has ls 1 [(0, .ref q_t)] := hl
  rw [f_X8_advance] at h
  refine lv_aload_n hx hb dX8_advance_0 rfl (lv_at hl 0 rfl) ?_
  refine z_get S hF hH iX8_advance_X8 0 rfl rfl 8 (by decide) (List.mem_of_getElem? (i := 1) rfl) rfl dX8_advance_1 ?_
  refine lv_aload_n hx hb dX8_advance_4 rfl (lv_at hl 0 rfl) ?_
  refine z_get S hF hH iX8_advance_X8 0 rfl rfl 7 (by decide) (List.mem_of_getElem? (i := 2) rfl) rfl dX8_advance_5 ?_
  refine lv_icmp_ge (tgt := 73) hx hb dX8_advance_8 (by decide) (fun b8 => ?_) (fun b8 => ?_)
  · replace h := zif_t b8 h
    cases h
    exact z_vret S hr hlocks hH dX8_advance_73
  · replace h := zif_f b8 h
    refine lv_aload_n hx hb dX8_advance_11 rfl (lv_at hl 0 rfl) ?_
    refine lv_aload_n hx hb dX8_advance_12 rfl (lv_at hl 0 rfl) ?_
    refine z_get S hF hH iX8_advance_X8 0 rfl rfl 9 (by decide) (List.mem_of_getElem? (i := 3) rfl) rfl dX8_advance_13 ?_
    refine lv_aload_n hx hb dX8_advance_16 rfl (lv_at hl 0 rfl) ?_
    refine z_get S hF hH iX8_advance_X8 0 rfl rfl 8 (by decide) (List.mem_of_getElem? (i := 1) rfl) rfl dX8_advance_17 ?_
    obtain ⟨h20, h⟩ := zck_e h
    refine z_iald S hF hH 1 rfl h20 rfl dX8_advance_20 ?_
    obtain ⟨y1, ey1, h⟩ := zbn_e h
    refine z_top ey1 ?_
    clear ey1
    refine z_put (ws' := (wd_X8_advance cy q_t q_t_tape q_t_kinds q_t_places q_t_values q_t_words y1 t_place t_value t_word t_fault t_faultPlace t_size t_taken t_kinds t_places t_values t_words)) S hF hH iX8_advance_X8 tyX8 tyX8_ok nmX8 0 rfl rfl 0 (by decide) (List.mem_of_getElem? (i := 4) rfl) rfl rfl rfl (Nat.le_of_ble_eq_true rfl) rfl dX8_advance_21 (fun H locs hH => ?_)
    refine lv_aload_n hx hb dX8_advance_24 rfl (lv_at hl 0 rfl) ?_
    refine lv_aload_n hx hb dX8_advance_25 rfl (lv_at hl 0 rfl) ?_
    refine z_get S hF hH iX8_advance_X8 0 rfl rfl 10 (by decide) (List.mem_of_getElem? (i := 5) rfl) rfl dX8_advance_26 ?_
    refine lv_aload_n hx hb dX8_advance_29 rfl (lv_at hl 0 rfl) ?_
    refine z_get S hF hH iX8_advance_X8 0 rfl rfl 8 (by decide) (List.mem_of_getElem? (i := 1) rfl) rfl dX8_advance_30 ?_
    refine z_iald S hF hH 2 rfl h20 rfl dX8_advance_33 ?_
    obtain ⟨y2, ey2, h⟩ := zbn_e h
    refine z_top ey2 ?_
    clear ey2
    refine z_put (ws' := (wd_X8_advance cy q_t q_t_tape q_t_kinds q_t_places q_t_values q_t_words y1 y2 t_value t_word t_fault t_faultPlace t_size t_taken t_kinds t_places t_values t_words)) S hF hH iX8_advance_X8 tyX8 tyX8_ok nmX8 0 rfl rfl 1 (by decide) (List.mem_of_getElem? (i := 6) rfl) rfl rfl rfl (Nat.le_of_ble_eq_true rfl) rfl dX8_advance_34 (fun H locs hH => ?_)
    refine lv_aload_n hx hb dX8_advance_37 rfl (lv_at hl 0 rfl) ?_
    refine lv_aload_n hx hb dX8_advance_38 rfl (lv_at hl 0 rfl) ?_
    refine z_get S hF hH iX8_advance_X8 0 rfl rfl 11 (by decide) (List.mem_of_getElem? (i := 7) rfl) rfl dX8_advance_39 ?_
    refine lv_aload_n hx hb dX8_advance_42 rfl (lv_at hl 0 rfl) ?_
    refine z_get S hF hH iX8_advance_X8 0 rfl rfl 8 (by decide) (List.mem_of_getElem? (i := 1) rfl) rfl dX8_advance_43 ?_
    refine z_iald S hF hH 3 rfl h20 rfl dX8_advance_46 ?_
    obtain ⟨y3, ey3, h⟩ := zbn_e h
    refine z_top ey3 ?_
    clear ey3
    refine z_put (ws' := (wd_X8_advance cy q_t q_t_tape q_t_kinds q_t_places q_t_values q_t_words y1 y2 y3 t_word t_fault t_faultPlace t_size t_taken t_kinds t_places t_values t_words)) S hF hH iX8_advance_X8 tyX8 tyX8_ok nmX8 0 rfl rfl 2 (by decide) (List.mem_of_getElem? (i := 8) rfl) rfl rfl rfl (Nat.le_of_ble_eq_true rfl) rfl dX8_advance_47 (fun H locs hH => ?_)
    refine lv_aload_n hx hb dX8_advance_50 rfl (lv_at hl 0 rfl) ?_
    refine lv_aload_n hx hb dX8_advance_51 rfl (lv_at hl 0 rfl) ?_
    refine z_get S hF hH iX8_advance_X8 0 rfl rfl 12 (by decide) (List.mem_of_getElem? (i := 9) rfl) rfl dX8_advance_52 ?_
    refine lv_aload_n hx hb dX8_advance_55 rfl (lv_at hl 0 rfl) ?_
    refine z_get S hF hH iX8_advance_X8 0 rfl rfl 8 (by decide) (List.mem_of_getElem? (i := 1) rfl) rfl dX8_advance_56 ?_
    refine z_lald S hF hH 4 rfl h20 rfl dX8_advance_59 ?_
    obtain ⟨y4, ey4, h⟩ := zbn_e h
    refine z_topl ey4 ?_
    clear ey4
    refine z_put (ws' := (wd_X8_advance cy q_t q_t_tape q_t_kinds q_t_places q_t_values q_t_words y1 y2 y3 y4 t_fault t_faultPlace t_size t_taken t_kinds t_places t_values t_words)) S hF hH iX8_advance_X8 tyX8 tyX8_ok nmX8 0 rfl rfl 3 (by decide) (List.mem_of_getElem? (i := 10) rfl) rfl rfl rfl (Nat.le_of_ble_eq_true rfl) rfl dX8_advance_60 (fun H locs hH => ?_)
    refine lv_aload_n hx hb dX8_advance_63 rfl (lv_at hl 0 rfl) ?_
    refine lv_dup hx hb dX8_advance_64 rfl ?_
    refine z_get S hF hH iX8_advance_X8 0 rfl rfl 8 (by decide) (List.mem_of_getElem? (i := 1) rfl) rfl dX8_advance_65 ?_
    refine lv_iconst (v := 1) hx hb dX8_advance_68 (by decide) ?_
    refine lv_iadd hx hb dX8_advance_69 ?_
    obtain ⟨y5, ey5, h⟩ := zbn_e h
    refine z_top ey5 ?_
    clear ey5
    refine z_put (ws' := (wd_X8_advance cy q_t q_t_tape q_t_kinds q_t_places q_t_values q_t_words y1 y2 y3 y4 t_fault t_faultPlace t_size y5 t_kinds t_places t_values t_words)) S hF hH iX8_advance_X8 tyX8 tyX8_ok nmX8 0 rfl rfl 8 (by decide) (List.mem_of_getElem? (i := 1) rfl) rfl rfl rfl (Nat.le_of_ble_eq_true rfl) rfl dX8_advance_70 (fun H locs hH => ?_)
    cases h
    exact z_vret S hr hlocks hH dX8_advance_73
abbrev wd_X1_indexOf (cy : Nat → ClassId) (q_p0 : Nat) (p0 : Nat → Int64) : va_W := [(q_p0, .inl (cy 2, 6, .inr (.inl p0)))]
abbrev rm_X1_indexOf : Room := { frames := 0, cells := 0, slots := 0, locals := 0 }
set_option maxRecDepth 100000 in
def f_X1_indexOf_3 (N : Nat) (p0 : Nat → Int64) : Nat → Int32 → Int64 → Int32 → Option (Int32)
  | 0, _, _, _ => none
  | n + 1, x1, x2, x4 => if x1 ≤ x4 then (some (-1)) else (if 6 ≤ x4 then (some (-1)) else (zck (zin x4 6) <| if (lg_cmp (p0 (Int32.toNatClampNeg x4)) x2) = 0 then (some x4) else (zbn (x4 + 1) fun y1 => f_X1_indexOf_3 N p0 n x1 x2 y1)))
set_option maxRecDepth 100000 in
def f_X1_indexOf (N : Nat) (x1 : Int32) (x2 : Int64) (p0 : Nat → Int64) : Option (Int32) := f_X1_indexOf_3 N p0 N x1 x2 0
set_option maxHeartbeats 4000000 in
set_option maxRecDepth 100000 in
theorem w_X1_indexOf_3 {p : Program} {l : Launch} {e : Env} {s : State} {m : MethodId} {args : Array Value} {below : List Frame} {meth : Method} {c : Code} {G : va_G} {cy : Nat → ClassId} {E : Nat → Nat} {w0 : va_W} {N : Nat} {q_p0 : Nat} {p0 : Nat → Int64} {r : Int32} (S : CallFix p m c cX1_indexOf 5 s args wsX1_indexOf RX1) (hr : meth.sig.returnType = some .int) (hlocks : meth.locks = false) (hF : zF G cy E (va_A w0 s.heap.size) s) :
    ∀ (n : Nat) (x1 : Int32) (x2 : Int64) (x4 : Int32) (H : Heap) (locs : List Loc) (ls : Array Slot), zH G (va_A w0 s.heap.size) s H locs (wd_X1_indexOf cy q_p0 p0) → lv_has ls 5 [(0, .ref q_p0), (1, .int x1), (2, .long x2), (4, .int x4)] → f_X1_indexOf_3 N p0 n x1 x2 x4 = some r → W p l e rm_X1_indexOf s m args below meth c H locs 0 0 (MQ below (zQ G w0 (wd_X1_indexOf cy q_p0 p0) s.heap.size (some (.int r))) args s 0 0 (va_A w0 s.heap.size)) (F0 m 3 ls []) := by
  obtain ⟨hx, hb, hml, hown, hts⟩ := id S
  intro n
  induction n with
  | zero =>
    intro x1 x2 x4 H locs ls hH hl h
    rw [f_X1_indexOf_3] at h
    cases h
  | succ n ih =>
    intro x1 x2 x4 H locs ls hH hl h
    rw [f_X1_indexOf_3] at h
    refine lv_iload hx hb dX1_indexOf_3 (lv_at hl 3 rfl) ?_
    refine lv_iload_n hx hb dX1_indexOf_5 rfl (lv_at hl 1 rfl) ?_
    refine lv_icmp_ge (tgt := 34) hx hb dX1_indexOf_6 (by decide) (fun b6 => ?_) (fun b6 => ?_)
    · replace h := zif_t b6 h
      refine lv_iconst (v := (-1)) hx hb dX1_indexOf_34 (by decide) ?_
      cases h
      exact z_iret S hr hlocks hH dX1_indexOf_35
    · replace h := zif_f b6 h
      refine lv_iload hx hb dX1_indexOf_9 (lv_at hl 3 rfl) ?_
      refine lv_aload_n hx hb dX1_indexOf_11 rfl (lv_at hl 0 rfl) ?_
      refine z_alen (v := 6) S hF hH 0 2 rfl rfl rfl dX1_indexOf_12 ?_
      refine lv_icmp_ge (tgt := 34) hx hb dX1_indexOf_13 (by decide) (fun b13 => ?_) (fun b13 => ?_)
      · replace h := zif_t b13 h
        refine lv_iconst (v := (-1)) hx hb dX1_indexOf_34 (by decide) ?_
        cases h
        exact z_iret S hr hlocks hH dX1_indexOf_35
      · replace h := zif_f b13 h
        refine lv_aload_n hx hb dX1_indexOf_16 rfl (lv_at hl 0 rfl) ?_
        refine lv_iload hx hb dX1_indexOf_17 (lv_at hl 3 rfl) ?_
        obtain ⟨h19, h⟩ := zck_e h
        refine z_lald S hF hH 0 rfl h19 rfl dX1_indexOf_19 ?_
        refine lv_lload_n hx hb dX1_indexOf_20 rfl (lv_at hl 2 rfl) ?_
        refine W.lcmp hx hb dX1_indexOf_21 ?_
        refine lv_if_ne (tgt := 28) hx hb dX1_indexOf_22 (by decide) (fun b22 => ?_) (fun b22 => ?_)
        · replace h := zif_f b22 h
          obtain ⟨y1, ey1, h⟩ := zbn_e h
          refine lv_iinc (v := y1) (lv' := [(4, .int y1), (0, .ref q_p0), (1, .int x1), (2, .long x2)]) hx hb dX1_indexOf_28 hl (k := 3) rfl (by rw [ey1]; exact congrArg (fun z => x4 + z) (by decide)) (by decide) rfl (fun ls hl => ?_)
          clear ey1
          refine lv_goto (tgt := 3) hx hb dX1_indexOf_31 (by decide) ?_
          exact ih x1 x2 y1 _ _ _ hH (lv_sub hl [1, 2, 3, 0] rfl) h
        · replace h := zif_t b22 h
          refine lv_iload hx hb dX1_indexOf_25 (lv_at hl 3 rfl) ?_
          cases h
          exact z_iret S hr hlocks hH dX1_indexOf_27
set_option maxHeartbeats 4000000 in
set_option maxRecDepth 100000 in
theorem c_X1_indexOf (l : Launch) (G : va_G) (cy : Nat → ClassId) (E : Nat → Nat) (N : Nat) (q_p0 : Nat) (p0 : Nat → Int64) (x1 : Int32) (x2 : Int64) (r : Int32) (h : f_X1_indexOf N x1 x2 p0 = some r) : zM l G cy E yX1_indexOf wsX1_indexOf rm_X1_indexOf [.ref q_p0, .int x1, .long x2] (wd_X1_indexOf cy q_p0 p0) (wd_X1_indexOf cy q_p0 p0) (some (.int r)) 0 0 := by
  refine z_body (cc := cX1_indexOf) (maxL := 5) (ret := some .int) (by decide) rfl (Nat.le_of_ble_eq_true rfl) ?_
  intro p e s m below meth c ls S hr hlocks hnm hF hH hl
  have S : CallFix p m c cX1_indexOf 5 s ([.ref q_p0, .int x1, .long x2] : List Value).toArray wsX1_indexOf RX1 := S
  obtain ⟨hx, hb, hml, hown, hts⟩ := id S
  have hl : lv_has ls 5 [(0, .ref q_p0), (1, .int x1), (2, .long x2)] := hl
  rw [f_X1_indexOf] at h
  refine lv_iconst (v := 0) hx hb dX1_indexOf_0 (by decide) ?_
  refine lv_istore (lv' := [(4, .int 0), (0, .ref q_p0), (1, .int x1), (2, .long x2)]) hx hb dX1_indexOf_1 hl (by decide) rfl (fun ls hl => ?_)
  exact w_X1_indexOf_3 S hr hlocks hF N x1 x2 0 _ _ _ hH (lv_sub hl [1, 2, 3, 0] rfl) h
abbrev wd_X8_refuse (cy : Nat → ClassId) (q_t q_t_tape q_t_kinds q_t_places q_t_values q_t_words : Nat) (t_kind : Int32) (t_place : Int32) (t_value : Int32) (t_word : Int64) (t_fault : Int32) (t_faultPlace : Int32) (t_size : Int32) (t_taken : Int32) : va_W := [(q_t, .inr (9, [.int t_kind, .int t_place, .int t_value, .long t_word, .int t_fault, .int t_faultPlace, .ref q_t_tape, .int t_size, .int t_taken, .ref q_t_kinds, .ref q_t_places, .ref q_t_values, .ref q_t_words]))]
theorem iX8_refuse_X8 : ∀ w ∈ wsX80, w ∈ wsX8_refuse := fun _ h => List.mem_cons_of_mem _ (List.mem_append_right _ h)
abbrev rm_X8_refuse : Room := { frames := 0, cells := 0, slots := 0, locals := 0 }
set_option maxRecDepth 100000 in
def f_X8_refuse (N : Nat) (x0 : Int32) (t_place : Int32) (t_fault : Int32) (t_faultPlace : Int32) : Option (Int32 × Int32 × Int32) := if t_fault = 0 then (some (0, x0, t_place)) else (some (0, t_fault, t_faultPlace))
set_option maxHeartbeats 4000000 in
set_option maxRecDepth 100000 in
theorem c_X8_refuse (l : Launch) (G : va_G) (cy : Nat → ClassId) (E : Nat → Nat) (N : Nat) (q_t q_t_tape q_t_kinds q_t_places q_t_values q_t_words : Nat) (t_kind : Int32) (t_place : Int32) (t_value : Int32) (t_word : Int64) (t_fault : Int32) (t_faultPlace : Int32) (t_size : Int32) (t_taken : Int32) (x0 : Int32) (r : Int32) (r_t_fault : Int32) (r_t_faultPlace : Int32) (h : f_X8_refuse N x0 t_place t_fault t_faultPlace = some (r, r_t_fault, r_t_faultPlace)) : zM l G cy E yX8_refuse wsX8_refuse rm_X8_refuse [.ref q_t, .int x0] (wd_X8_refuse cy q_t q_t_tape q_t_kinds q_t_places q_t_values q_t_words t_kind t_place t_value t_word t_fault t_faultPlace t_size t_taken) (wd_X8_refuse cy q_t q_t_tape q_t_kinds q_t_places q_t_values q_t_words t_kind t_place t_value t_word r_t_fault r_t_faultPlace t_size t_taken) (some (.int r)) 0 0 := by
  refine z_body (cc := cX8_refuse) (maxL := 2) (ret := some .boolean) (by decide) rfl (Nat.le_of_ble_eq_true rfl) ?_
  intro p e s m below meth c ls S hr hlocks hnm hF hH hl
  have S : CallFix p m c cX8_refuse 2 s ([.ref q_t, .int x0] : List Value).toArray wsX8_refuse RX8 := S
  obtain ⟨hx, hb, hml, hown, hts⟩ := id S
  have hl : lv_has ls 2 [(0, .ref q_t), (1, .int x0)] := hl
  rw [f_X8_refuse] at h
  refine lv_aload_n hx hb dX8_refuse_0 rfl (lv_at hl 0 rfl) ?_
  refine z_get S hF hH iX8_refuse_X8 0 rfl rfl 4 (by decide) (List.mem_of_getElem? (i := 1) rfl) rfl dX8_refuse_1 ?_
  refine lv_if_ne (tgt := 20) hx hb dX8_refuse_4 (by decide) (fun b4 => ?_) (fun b4 => ?_)
  · replace h := zif_f b4 h
    refine lv_iconst (v := 0) hx hb dX8_refuse_20 (by decide) ?_
    cases h
    exact z_zret S hr hlocks hH rfl dX8_refuse_21
  · replace h := zif_t b4 h
    refine lv_aload_n hx hb dX8_refuse_7 rfl (lv_at hl 0 rfl) ?_
    refine lv_iload_n hx hb dX8_refuse_8 rfl (lv_at hl 1 rfl) ?_
    refine z_put (ws' := (wd_X8_refuse cy q_t q_t_tape q_t_kinds q_t_places q_t_values q_t_words t_kind t_place t_value t_word x0 t_faultPlace t_size t_taken)) S hF hH iX8_refuse_X8 tyX8 tyX8_ok nmX8 0 rfl rfl 4 (by decide) (List.mem_of_getElem? (i := 1) rfl) rfl rfl rfl (Nat.le_of_ble_eq_true rfl) rfl dX8_refuse_9 (fun H locs hH => ?_)
    refine lv_aload_n hx hb dX8_refuse_12 rfl (lv_at hl 0 rfl) ?_
    refine lv_aload_n hx hb dX8_refuse_13 rfl (lv_at hl 0 rfl) ?_
    refine z_get S hF hH iX8_refuse_X8 0 rfl rfl 1 (by decide) (List.mem_of_getElem? (i := 2) rfl) rfl dX8_refuse_14 ?_
    refine z_put (ws' := (wd_X8_refuse cy q_t q_t_tape q_t_kinds q_t_places q_t_values q_t_words t_kind t_place t_value t_word x0 t_place t_size t_taken)) S hF hH iX8_refuse_X8 tyX8 tyX8_ok nmX8 0 rfl rfl 5 (by decide) (List.mem_of_getElem? (i := 3) rfl) rfl rfl rfl (Nat.le_of_ble_eq_true rfl) rfl dX8_refuse_17 (fun H locs hH => ?_)
    refine lv_iconst (v := 0) hx hb dX8_refuse_20 (by decide) ?_
    cases h
    exact z_zret S hr hlocks hH rfl dX8_refuse_21
abbrev wd_X8_findName (cy : Nat → ClassId) (q_t q_p0 q_t_tape q_t_kinds q_t_places q_t_values q_t_words : Nat) (t_kind : Int32) (t_place : Int32) (t_value : Int32) (t_word : Int64) (t_fault : Int32) (t_faultPlace : Int32) (t_size : Int32) (t_taken : Int32) (p0 : Nat → Int64) : va_W := [(q_t, .inr (9, [.int t_kind, .int t_place, .int t_value, .long t_word, .int t_fault, .int t_faultPlace, .ref q_t_tape, .int t_size, .int t_taken, .ref q_t_kinds, .ref q_t_places, .ref q_t_values, .ref q_t_words])), (q_p0, .inl (cy 2, 6, .inr (.inl p0)))]
theorem iX8_findName_X8 : ∀ w ∈ wsX80, w ∈ wsX8_findName := fun _ h => List.mem_cons_of_mem _ (List.mem_append_right _ h)
abbrev rm_X8_findName : Room := { frames := 1, cells := 0, slots := 0, locals := 24 }
set_option maxRecDepth 100000 in
def f_X8_findName (N : Nat) (x1 : Int32) (t_kind : Int32) (t_place : Int32) (t_word : Int64) (t_fault : Int32) (t_faultPlace : Int32) (p0 : Nat → Int64) : Option (Int32 × Int32 × Int32) := if t_kind = 2 then (zcl (f_X1_indexOf N x1 t_word p0) fun z22 => if z22 = (-1) then (zcl (f_X8_refuse N 3 t_place t_fault t_faultPlace) fun z33 => some (z22, z33.2.1, z33.2.2)) else (some (z22, t_fault, t_faultPlace))) else (zcl (f_X8_refuse N 1 t_place t_fault t_faultPlace) fun z10 => some ((-1), z10.2.1, z10.2.2))
set_option maxHeartbeats 4000000 in
set_option maxRecDepth 100000 in
theorem c_X8_findName (l : Launch) (G : va_G) (cy : Nat → ClassId) (E : Nat → Nat) (N : Nat) (q_t q_p0 q_t_tape q_t_kinds q_t_places q_t_values q_t_words : Nat) (t_kind : Int32) (t_place : Int32) (t_value : Int32) (t_word : Int64) (t_fault : Int32) (t_faultPlace : Int32) (t_size : Int32) (t_taken : Int32) (p0 : Nat → Int64) (x1 : Int32) (r : Int32) (r_t_fault : Int32) (r_t_faultPlace : Int32) (h : f_X8_findName N x1 t_kind t_place t_word t_fault t_faultPlace p0 = some (r, r_t_fault, r_t_faultPlace)) : zM l G cy E yX8_findName wsX8_findName rm_X8_findName [.ref q_t, .ref q_p0, .int x1] (wd_X8_findName cy q_t q_p0 q_t_tape q_t_kinds q_t_places q_t_values q_t_words t_kind t_place t_value t_word t_fault t_faultPlace t_size t_taken p0) (wd_X8_findName cy q_t q_p0 q_t_tape q_t_kinds q_t_places q_t_values q_t_words t_kind t_place t_value t_word r_t_fault r_t_faultPlace t_size t_taken p0) (some (.int r)) 0 0 := by
  refine z_body (cc := cX8_findName) (maxL := 4) (ret := some .int) (by decide) rfl (Nat.le_of_ble_eq_true rfl) ?_
  intro p e s m below meth c ls S hr hlocks hnm hF hH hl
  have S : CallFix p m c cX8_findName 4 s ([.ref q_t, .ref q_p0, .int x1] : List Value).toArray wsX8_findName RX8 := S
  obtain ⟨hx, hb, hml, hown, hts⟩ := id S
  have hl : lv_has ls 4 [(0, .ref q_t), (1, .ref q_p0), (2, .int x1)] := hl
  rw [f_X8_findName] at h
  refine lv_aload_n hx hb dX8_findName_0 rfl (lv_at hl 0 rfl) ?_
  refine z_get S hF hH iX8_findName_X8 0 rfl rfl 0 (by decide) (List.mem_of_getElem? (i := 1) rfl) rfl dX8_findName_1 ?_
  refine lv_iconst (v := 2) hx hb dX8_findName_4 (by decide) ?_
  refine lv_icmp_eq (tgt := 16) hx hb dX8_findName_5 (by decide) (fun b5 => ?_) (fun b5 => ?_)
  · replace h := zif_t b5 h
    refine lv_aload_n hx hb dX8_findName_16 rfl (lv_at hl 1 rfl) ?_
    refine lv_iload_n hx hb dX8_findName_17 rfl (lv_at hl 2 rfl) ?_
    refine lv_aload_n hx hb dX8_findName_18 rfl (lv_at hl 0 rfl) ?_
    refine z_get S hF hH iX8_findName_X8 0 rfl rfl 3 (by decide) (List.mem_of_getElem? (i := 2) rfl) rfl dX8_findName_19 ?_
    obtain ⟨z22, hz22, h⟩ := zcl_e h
    refine z_callS (As := [.ref q_p0, .int x1, .long t_word]) (rest := []) (st1 := [.int z22]) (ws' := (wd_X8_findName cy q_t q_p0 q_t_tape q_t_kinds q_t_places q_t_values q_t_words t_kind t_place t_value t_word t_fault t_faultPlace t_size t_taken p0)) S hF hH (c_X1_indexOf l G cy E N q_p0 p0 x1 t_word z22 hz22) (va_cwS 3 hts gX8_findName_X1_indexOf rfl rfl rfl (by decide +kernel) ⟨Nat.le_of_ble_eq_true rfl, Nat.le_of_ble_eq_true rfl⟩) [1] rfl (by decide) rfl rfl rfl rfl rfl hl.1 (Nat.le_of_ble_eq_true rfl) dX8_findName_22 ⟨Nat.le_of_ble_eq_true rfl, Nat.le_of_ble_eq_true rfl⟩ (fun H locs hH => ?_)
    refine lv_istore_n (lv' := [(3, .int z22), (0, .ref q_t), (1, .ref q_p0), (2, .int x1)]) hx hb dX8_findName_25 rfl hl (by decide) rfl (fun ls hl => ?_)
    refine lv_iload_n hx hb dX8_findName_26 rfl (lv_at hl 0 rfl) ?_
    refine lv_iconst (v := (-1)) hx hb dX8_findName_27 (by decide) ?_
    refine lv_icmp_ne (tgt := 37) hx hb dX8_findName_28 (by decide) (fun b28 => ?_) (fun b28 => ?_)
    · replace h := zif_f b28 h
      refine lv_iload_n hx hb dX8_findName_37 rfl (lv_at hl 0 rfl) ?_
      cases h
      exact z_iret S hr hlocks hH dX8_findName_38
    · replace h := zif_t b28 h
      refine lv_aload_n hx hb dX8_findName_31 rfl (lv_at hl 1 rfl) ?_
      refine lv_iconst (v := 3) hx hb dX8_findName_32 (by decide) ?_
      obtain ⟨z33, hz33, h⟩ := zcl_e h
      refine z_callV (As := [.int 3]) (rest := []) (st1 := [.int z33.1]) (ws' := (wd_X8_findName cy q_t q_p0 q_t_tape q_t_kinds q_t_places q_t_values q_t_words t_kind t_place t_value t_word z33.2.1 z33.2.2 t_size t_taken p0)) S hF hH (c_X8_refuse l G cy E N q_t q_t_tape q_t_kinds q_t_places q_t_values q_t_words t_kind t_place t_value t_word t_fault t_faultPlace t_size t_taken 3 z33.1 z33.2.1 z33.2.2 hz33) (cwV 1 hts gX8_findName_X8_refuse rfl rfl rfl (by decide +kernel) ⟨Nat.le_of_ble_eq_true rfl, Nat.le_of_ble_eq_true rfl⟩) 9 0 rfl rfl [0] rfl (by decide) rfl rfl rfl rfl rfl hl.1 (Nat.le_of_ble_eq_true rfl) dX8_findName_33 ⟨Nat.le_of_ble_eq_true rfl, Nat.le_of_ble_eq_true rfl⟩ (fun H locs hH => ?_)
      refine lv_pop hx hb dX8_findName_36 rfl ?_
      refine lv_iload_n hx hb dX8_findName_37 rfl (lv_at hl 0 rfl) ?_
      cases h
      exact z_iret S hr hlocks hH dX8_findName_38
  · replace h := zif_f b5 h
    refine lv_aload_n hx hb dX8_findName_8 rfl (lv_at hl 0 rfl) ?_
    refine lv_iconst (v := 1) hx hb dX8_findName_9 (by decide) ?_
    obtain ⟨z10, hz10, h⟩ := zcl_e h
    refine z_callV (As := [.int 1]) (rest := []) (st1 := [.int z10.1]) (ws' := (wd_X8_findName cy q_t q_p0 q_t_tape q_t_kinds q_t_places q_t_values q_t_words t_kind t_place t_value t_word z10.2.1 z10.2.2 t_size t_taken p0)) S hF hH (c_X8_refuse l G cy E N q_t q_t_tape q_t_kinds q_t_places q_t_values q_t_words t_kind t_place t_value t_word t_fault t_faultPlace t_size t_taken 1 z10.1 z10.2.1 z10.2.2 hz10) (cwV 1 hts gX8_findName_X8_refuse rfl rfl rfl (by decide +kernel) ⟨Nat.le_of_ble_eq_true rfl, Nat.le_of_ble_eq_true rfl⟩) 9 0 rfl rfl [0] rfl (by decide) rfl rfl rfl rfl rfl hl.1 (Nat.le_of_ble_eq_true rfl) dX8_findName_10 ⟨Nat.le_of_ble_eq_true rfl, Nat.le_of_ble_eq_true rfl⟩ (fun H locs hH => ?_)
    refine lv_pop hx hb dX8_findName_13 rfl ?_
    refine lv_iconst (v := (-1)) hx hb dX8_findName_14 (by decide) ?_
    cases h
    exact z_iret S hr hlocks hH dX8_findName_15
abbrev wd_X8_takeNumber (cy : Nat → ClassId) (q_t q_t_tape q_t_kinds q_t_places q_t_values q_t_words : Nat) (t_kind : Int32) (t_place : Int32) (t_value : Int32) (t_word : Int64) (t_fault : Int32) (t_faultPlace : Int32) (t_size : Int32) (t_taken : Int32) (t_kinds : Nat → Int32) (t_places : Nat → Int32) (t_values : Nat → Int32) (t_words : Nat → Int64) : va_W := [(q_t, .inr (9, [.int t_kind, .int t_place, .int t_value, .long t_word, .int t_fault, .int t_faultPlace, .ref q_t_tape, .int t_size, .int t_taken, .ref q_t_kinds, .ref q_t_places, .ref q_t_values, .ref q_t_words])), (q_t_kinds, .inl (cy 1, 901, .inl t_kinds)), (q_t_places, .inl (cy 1, 901, .inl t_places)), (q_t_values, .inl (cy 1, 901, .inl t_values)), (q_t_words, .inl (cy 2, 901, .inr (.inl t_words)))]
theorem iX8_takeNumber_X8 : ∀ w ∈ wsX80, w ∈ wsX8_takeNumber := fun _ h => List.mem_cons_of_mem _ (List.mem_append_right _ h)
abbrev rm_X8_takeNumber : Room := { frames := 1, cells := 0, slots := 0, locals := 21 }
set_option maxRecDepth 100000 in
def f_X8_takeNumber_31 (N : Nat) (t_size : Int32) (t_kinds : Nat → Int32) (t_places : Nat → Int32) (t_values : Nat → Int32) (t_words : Nat → Int64) (c_t_kind : Int32) (c_t_place : Int32) (c_t_value : Int32) (c_t_word : Int64) (c_t_fault : Int32) (c_t_faultPlace : Int32) (c_t_taken : Int32) : Option (Int32 × Int32 × Int32 × Int32 × Int64 × Int32 × Int32 × Int32) := zcl (f_X8_refuse N 2 c_t_place c_t_fault c_t_faultPlace) fun z33 => some ((-1), c_t_kind, c_t_place, c_t_value, c_t_word, z33.2.1, z33.2.2, c_t_taken)
set_option maxRecDepth 100000 in
def f_X8_takeNumber (N : Nat) (x0 : Int32) (x1 : Int32) (t_kind : Int32) (t_place : Int32) (t_value : Int32) (t_word : Int64) (t_fault : Int32) (t_faultPlace : Int32) (t_size : Int32) (t_taken : Int32) (t_kinds : Nat → Int32) (t_places : Nat → Int32) (t_values : Nat → Int32) (t_words : Nat → Int64) : Option (Int32 × Int32 × Int32 × Int32 × Int64 × Int32 × Int32 × Int32) := if t_kind = 4 then (if t_value < x0 then (f_X8_takeNumber_31 N t_size t_kinds t_places t_values t_words t_kind t_place t_value t_word t_fault t_faultPlace t_taken) else (if t_value ≤ x1 then (zcl (f_X8_advance N t_kind t_place t_value t_word t_size t_taken t_kinds t_places t_values t_words) fun z40 => some (t_value, z40.1, z40.2.1, z40.2.2.1, z40.2.2.2.1, t_fault, t_faultPlace, z40.2.2.2.2)) else (f_X8_takeNumber_31 N t_size t_kinds t_places t_values t_words t_kind t_place t_value t_word t_fault t_faultPlace t_taken))) else (zcl (f_X8_refuse N 1 t_place t_fault t_faultPlace) fun z15 => some ((-1), t_kind, t_place, t_value, t_word, z15.2.1, z15.2.2, t_taken))
set_option maxHeartbeats 4000000 in
set_option maxRecDepth 100000 in
theorem w_X8_takeNumber_31 {p : Program} {l : Launch} {e : Env} {s : State} {m : MethodId} {args : Array Value} {below : List Frame} {meth : Method} {c : Code} {G : va_G} {cy : Nat → ClassId} {E : Nat → Nat} {w0 : va_W} {N : Nat} {q_t q_t_tape q_t_kinds q_t_places q_t_values q_t_words : Nat} {t_size : Int32} {t_kinds : Nat → Int32} {t_places : Nat → Int32} {t_values : Nat → Int32} {t_words : Nat → Int64} {r : Int32} {r_t_kind : Int32} {r_t_place : Int32} {r_t_value : Int32} {r_t_word : Int64} {r_t_fault : Int32} {r_t_faultPlace : Int32} {r_t_taken : Int32} (S : CallFix p m c cX8_takeNumber 4 s args wsX8_takeNumber RX8) (hr : meth.sig.returnType = some .int) (hlocks : meth.locks = false) (hF : zF G cy E (va_A w0 s.heap.size) s) :
    ∀ (c_t_kind : Int32) (c_t_place : Int32) (c_t_value : Int32) (c_t_word : Int64) (c_t_fault : Int32) (c_t_faultPlace : Int32) (c_t_taken : Int32) (H : Heap) (locs : List Loc) (ls : Array Slot), zH G (va_A w0 s.heap.size) s H locs (wd_X8_takeNumber cy q_t q_t_tape q_t_kinds q_t_places q_t_values q_t_words c_t_kind c_t_place c_t_value c_t_word c_t_fault c_t_faultPlace t_size c_t_taken t_kinds t_places t_values t_words) → lv_has ls 4 [(0, .ref q_t)] → f_X8_takeNumber_31 N t_size t_kinds t_places t_values t_words c_t_kind c_t_place c_t_value c_t_word c_t_fault c_t_faultPlace c_t_taken = some (r, r_t_kind, r_t_place, r_t_value, r_t_word, r_t_fault, r_t_faultPlace, r_t_taken) → W p l e rm_X8_takeNumber s m args below meth c H locs 0 0 (MQ below (zQ G w0 (wd_X8_takeNumber cy q_t q_t_tape q_t_kinds q_t_places q_t_values q_t_words r_t_kind r_t_place r_t_value r_t_word r_t_fault r_t_faultPlace t_size r_t_taken t_kinds t_places t_values t_words) s.heap.size (some (.int r))) args s 0 0 (va_A w0 s.heap.size)) (F0 m 31 ls []) := by
  obtain ⟨hx, hb, hml, hown, hts⟩ := id S
  intro c_t_kind c_t_place c_t_value c_t_word c_t_fault c_t_faultPlace c_t_taken H locs ls hH hl h
  rw [f_X8_takeNumber_31] at h
  refine lv_aload_n hx hb dX8_takeNumber_31 rfl (lv_at hl 0 rfl) ?_
  refine lv_iconst (v := 2) hx hb dX8_takeNumber_32 (by decide) ?_
  obtain ⟨z33, hz33, h⟩ := zcl_e h
  refine z_callV (As := [.int 2]) (rest := []) (st1 := [.int z33.1]) (ws' := (wd_X8_takeNumber cy q_t q_t_tape q_t_kinds q_t_places q_t_values q_t_words c_t_kind c_t_place c_t_value c_t_word z33.2.1 z33.2.2 t_size c_t_taken t_kinds t_places t_values t_words)) S hF hH (c_X8_refuse l G cy E N q_t q_t_tape q_t_kinds q_t_places q_t_values q_t_words c_t_kind c_t_place c_t_value c_t_word c_t_fault c_t_faultPlace t_size c_t_taken 2 z33.1 z33.2.1 z33.2.2 hz33) (cwV 1 hts gX8_takeNumber_X8_refuse rfl rfl rfl (by decide +kernel) ⟨Nat.le_of_ble_eq_true rfl, Nat.le_of_ble_eq_true rfl⟩) 9 0 rfl rfl [0] rfl (by decide) rfl rfl rfl rfl rfl hl.1 (Nat.le_of_ble_eq_true rfl) dX8_takeNumber_33 ⟨Nat.le_of_ble_eq_true rfl, Nat.le_of_ble_eq_true rfl⟩ (fun H locs hH => ?_)
  refine lv_pop hx hb dX8_takeNumber_36 rfl ?_
  refine lv_iconst (v := (-1)) hx hb dX8_takeNumber_37 (by decide) ?_
  cases h
  exact z_iret S hr hlocks hH dX8_takeNumber_38
set_option maxHeartbeats 4000000 in
set_option maxRecDepth 100000 in
theorem c_X8_takeNumber (l : Launch) (G : va_G) (cy : Nat → ClassId) (E : Nat → Nat) (N : Nat) (q_t q_t_tape q_t_kinds q_t_places q_t_values q_t_words : Nat) (t_kind : Int32) (t_place : Int32) (t_value : Int32) (t_word : Int64) (t_fault : Int32) (t_faultPlace : Int32) (t_size : Int32) (t_taken : Int32) (t_kinds : Nat → Int32) (t_places : Nat → Int32) (t_values : Nat → Int32) (t_words : Nat → Int64) (x0 : Int32) (x1 : Int32) (r : Int32) (r_t_kind : Int32) (r_t_place : Int32) (r_t_value : Int32) (r_t_word : Int64) (r_t_fault : Int32) (r_t_faultPlace : Int32) (r_t_taken : Int32) (h : f_X8_takeNumber N x0 x1 t_kind t_place t_value t_word t_fault t_faultPlace t_size t_taken t_kinds t_places t_values t_words = some (r, r_t_kind, r_t_place, r_t_value, r_t_word, r_t_fault, r_t_faultPlace, r_t_taken)) : zM l G cy E yX8_takeNumber wsX8_takeNumber rm_X8_takeNumber [.ref q_t, .int x0, .int x1] (wd_X8_takeNumber cy q_t q_t_tape q_t_kinds q_t_places q_t_values q_t_words t_kind t_place t_value t_word t_fault t_faultPlace t_size t_taken t_kinds t_places t_values t_words) (wd_X8_takeNumber cy q_t q_t_tape q_t_kinds q_t_places q_t_values q_t_words r_t_kind r_t_place r_t_value r_t_word r_t_fault r_t_faultPlace t_size r_t_taken t_kinds t_places t_values t_words) (some (.int r)) 0 0 := by
  refine z_body (cc := cX8_takeNumber) (maxL := 4) (ret := some .int) (by decide) rfl (Nat.le_of_ble_eq_true rfl) ?_
  intro p e s m below meth c ls S hr hlocks hnm hF hH hl
  have S : CallFix p m c cX8_takeNumber 4 s ([.ref q_t, .int x0, .int x1] : List Value).toArray wsX8_takeNumber RX8 := S
  obtain ⟨hx, hb, hml, hown, hts⟩ := id S
  have hl : lv_has ls 4 [(0, .ref q_t), (1, .int x0), (2, .int x1)] := hl
  rw [f_X8_takeNumber] at h
  refine lv_aload_n hx hb dX8_takeNumber_0 rfl (lv_at hl 0 rfl) ?_
  refine z_get S hF hH iX8_takeNumber_X8 0 rfl rfl 2 (by decide) (List.mem_of_getElem? (i := 1) rfl) rfl dX8_takeNumber_1 ?_
  refine lv_istore_n (lv' := [(3, .int t_value), (0, .ref q_t), (1, .int x0), (2, .int x1)]) hx hb dX8_takeNumber_4 rfl hl (by decide) rfl (fun ls hl => ?_)
  refine lv_aload_n hx hb dX8_takeNumber_5 rfl (lv_at hl 1 rfl) ?_
  refine z_get S hF hH iX8_takeNumber_X8 0 rfl rfl 0 (by decide) (List.mem_of_getElem? (i := 2) rfl) rfl dX8_takeNumber_6 ?_
  refine lv_iconst (v := 4) hx hb dX8_takeNumber_9 (by decide) ?_
  refine lv_icmp_eq (tgt := 21) hx hb dX8_takeNumber_10 (by decide) (fun b10 => ?_) (fun b10 => ?_)
  · replace h := zif_t b10 h
    refine lv_iload_n hx hb dX8_takeNumber_21 rfl (lv_at hl 0 rfl) ?_
    refine lv_iload_n hx hb dX8_takeNumber_22 rfl (lv_at hl 2 rfl) ?_
    refine lv_icmp_lt (tgt := 31) hx hb dX8_takeNumber_23 (by decide) (fun b23 => ?_) (fun b23 => ?_)
    · replace h := zif_t b23 h
      exact w_X8_takeNumber_31 S hr hlocks hF t_kind t_place t_value t_word t_fault t_faultPlace t_taken _ _ _ hH (lv_sub hl [1] rfl) h
    · replace h := zif_f b23 h
      refine lv_iload_n hx hb dX8_takeNumber_26 rfl (lv_at hl 0 rfl) ?_
      refine lv_iload_n hx hb dX8_takeNumber_27 rfl (lv_at hl 3 rfl) ?_
      refine lv_icmp_le (tgt := 39) hx hb dX8_takeNumber_28 (by decide) (fun b28 => ?_) (fun b28 => ?_)
      · replace h := zif_t b28 h
        refine lv_aload_n hx hb dX8_takeNumber_39 rfl (lv_at hl 1 rfl) ?_
        obtain ⟨z40, hz40, h⟩ := zcl_e h
        refine z_callV (As := []) (rest := []) (st1 := []) (ws' := (wd_X8_takeNumber cy q_t q_t_tape q_t_kinds q_t_places q_t_values q_t_words z40.1 z40.2.1 z40.2.2.1 z40.2.2.2.1 t_fault t_faultPlace t_size z40.2.2.2.2 t_kinds t_places t_values t_words)) S hF hH (c_X8_advance l G cy E N q_t q_t_tape q_t_kinds q_t_places q_t_values q_t_words t_kind t_place t_value t_word t_fault t_faultPlace t_size t_taken t_kinds t_places t_values t_words z40.1 z40.2.1 z40.2.2.1 z40.2.2.2.1 z40.2.2.2.2 hz40) (cwV 0 hts gX8_takeNumber_X8_advance rfl rfl rfl (by decide +kernel) ⟨Nat.le_of_ble_eq_true rfl, Nat.le_of_ble_eq_true rfl⟩) 9 0 rfl rfl [0, 1, 2, 3, 4] rfl (by decide) rfl rfl rfl rfl rfl hl.1 (Nat.le_of_ble_eq_true rfl) dX8_takeNumber_40 ⟨Nat.le_of_ble_eq_true rfl, Nat.le_of_ble_eq_true rfl⟩ (fun H locs hH => ?_)
        refine lv_iload_n hx hb dX8_takeNumber_43 rfl (lv_at hl 0 rfl) ?_
        cases h
        exact z_iret S hr hlocks hH dX8_takeNumber_44
      · replace h := zif_f b28 h
        exact w_X8_takeNumber_31 S hr hlocks hF t_kind t_place t_value t_word t_fault t_faultPlace t_taken _ _ _ hH (lv_sub hl [1] rfl) h
  · replace h := zif_f b10 h
    refine lv_aload_n hx hb dX8_takeNumber_13 rfl (lv_at hl 1 rfl) ?_
    refine lv_iconst (v := 1) hx hb dX8_takeNumber_14 (by decide) ?_
    obtain ⟨z15, hz15, h⟩ := zcl_e h
    refine z_callV (As := [.int 1]) (rest := []) (st1 := [.int z15.1]) (ws' := (wd_X8_takeNumber cy q_t q_t_tape q_t_kinds q_t_places q_t_values q_t_words t_kind t_place t_value t_word z15.2.1 z15.2.2 t_size t_taken t_kinds t_places t_values t_words)) S hF hH (c_X8_refuse l G cy E N q_t q_t_tape q_t_kinds q_t_places q_t_values q_t_words t_kind t_place t_value t_word t_fault t_faultPlace t_size t_taken 1 z15.1 z15.2.1 z15.2.2 hz15) (cwV 1 hts gX8_takeNumber_X8_refuse rfl rfl rfl (by decide +kernel) ⟨Nat.le_of_ble_eq_true rfl, Nat.le_of_ble_eq_true rfl⟩) 9 0 rfl rfl [0] rfl (by decide) rfl rfl rfl rfl rfl hl.1 (Nat.le_of_ble_eq_true rfl) dX8_takeNumber_15 ⟨Nat.le_of_ble_eq_true rfl, Nat.le_of_ble_eq_true rfl⟩ (fun H locs hH => ?_)
    refine lv_pop hx hb dX8_takeNumber_18 rfl ?_
    refine lv_iconst (v := (-1)) hx hb dX8_takeNumber_19 (by decide) ?_
    cases h
    exact z_iret S hr hlocks hH dX8_takeNumber_20
abbrev wd_X0_readAct (cy : Nat → ClassId) (q_t q_t_in q_t_burgh q_t_verb q_t_who q_t_what q_t_in_tape q_t_in_kinds q_t_in_places q_t_in_values q_t_in_words q_t_burgh_clockName q_t_burgh_clockCorner q_t_burgh_clockAhead q_t_burgh_clockGain q_t_burgh_masterName q_t_burgh_masterCorner q_t_burgh_masterLate q_t_burgh_masterClock q_t_burgh_masterMeets q_t_burgh_meetName q_t_burgh_meetDue : Nat) (t_lines : Int32) (t_judged : Int32) (t_why : Int32) (t_good : Int32) (t_minuteThen : Int32) (t_outThen : Int32) (t_in_kind : Int32) (t_in_place : Int32) (t_in_value : Int32) (t_in_word : Int64) (t_in_fault : Int32) (t_in_faultPlace : Int32) (t_in_size : Int32) (t_in_taken : Int32) (t_in_kinds : Nat → Int32) (t_in_places : Nat → Int32) (t_in_values : Nat → Int32) (t_in_words : Nat → Int64) (t_verb : Nat → Int32) (t_who : Nat → Int32) (t_what : Nat → Int32) (t_burgh_clocks : Int32) (t_burgh_masters : Int32) (t_burgh_meets : Int32) (t_burgh_patience : Int32) (t_burgh_meetName : Nat → Int64) (t_burgh_clockName : Nat → Int64) : va_W := [(q_t, .inr (1, [.ref q_t_in, .ref q_t_burgh, .int t_lines, .ref q_t_verb, .ref q_t_who, .ref q_t_what, .int t_judged, .int t_why, .int t_good, .int t_minuteThen, .int t_outThen])), (q_t_in, .inr (9, [.int t_in_kind, .int t_in_place, .int t_in_value, .long t_in_word, .int t_in_fault, .int t_in_faultPlace, .ref q_t_in_tape, .int t_in_size, .int t_in_taken, .ref q_t_in_kinds, .ref q_t_in_places, .ref q_t_in_values, .ref q_t_in_words])), (q_t_in_kinds, .inl (cy 1, 901, .inl t_in_kinds)), (q_t_in_places, .inl (cy 1, 901, .inl t_in_places)), (q_t_in_values, .inl (cy 1, 901, .inl t_in_values)), (q_t_in_words, .inl (cy 2, 901, .inr (.inl t_in_words))), (q_t_verb, .inl (cy 1, 40, .inl t_verb)), (q_t_who, .inl (cy 1, 40, .inl t_who)), (q_t_what, .inl (cy 1, 40, .inl t_what)), (q_t_burgh, .inr (2, [.int t_burgh_clocks, .int t_burgh_masters, .int t_burgh_meets, .int t_burgh_patience, .ref q_t_burgh_clockName, .ref q_t_burgh_clockCorner, .ref q_t_burgh_clockAhead, .ref q_t_burgh_clockGain, .ref q_t_burgh_masterName, .ref q_t_burgh_masterCorner, .ref q_t_burgh_masterLate, .ref q_t_burgh_masterClock, .ref q_t_burgh_masterMeets, .ref q_t_burgh_meetName, .ref q_t_burgh_meetDue])), (q_t_burgh_meetName, .inl (cy 2, 6, .inr (.inl t_burgh_meetName))), (q_t_burgh_clockName, .inl (cy 2, 6, .inr (.inl t_burgh_clockName)))]
theorem iX0_readAct_X0 : ∀ w ∈ wsX00, w ∈ wsX0_readAct := fun _ h => List.mem_cons_of_mem _ (List.mem_append_left _ (List.mem_append_left _ (List.mem_append_right _ h)))
theorem iX0_readAct_X1 : ∀ w ∈ wsX10, w ∈ wsX0_readAct := fun _ h => List.mem_cons_of_mem _ (List.mem_append_left _ (List.mem_append_right _ h))
abbrev rm_X0_readAct : Room := { frames := 2, cells := 0, slots := 0, locals := 47 }
set_option maxRecDepth 100000 in
def f_X0_readAct (N : Nat) (x0 : Int32) (t_lines : Int32) (t_in_kind : Int32) (t_in_place : Int32) (t_in_value : Int32) (t_in_word : Int64) (t_in_fault : Int32) (t_in_faultPlace : Int32) (t_in_size : Int32) (t_in_taken : Int32) (t_in_kinds : Nat → Int32) (t_in_places : Nat → Int32) (t_in_values : Nat → Int32) (t_in_words : Nat → Int64) (t_verb : Nat → Int32) (t_who : Nat → Int32) (t_what : Nat → Int32) (t_burgh_clocks : Int32) (t_burgh_meets : Int32) (t_burgh_meetName : Nat → Int64) (t_burgh_clockName : Nat → Int64) : Option (Int32 × Int32 × Int32 × Int32 × Int64 × Int32 × Int32 × Int32 × (Nat → Int32) × (Nat → Int32) × (Nat → Int32)) := if x0 = 13 then (zcl (f_X8_takeNumber N 1 999 t_in_kind t_in_place t_in_value t_in_word t_in_fault t_in_faultPlace t_in_size t_in_taken t_in_kinds t_in_places t_in_values t_in_words) fun z14 => if z14.1 = (-1) then (some (0, z14.2.1, z14.2.2.1, z14.2.2.2.1, z14.2.2.2.2.1, z14.2.2.2.2.2.1, z14.2.2.2.2.2.2.1, z14.2.2.2.2.2.2.2, t_verb, t_who, t_what)) else (zcl (f_X0_write N 13 0 z14.1 t_lines t_verb t_who t_what) fun z28 => if z28.1 = 0 then (some (0, z14.2.1, z14.2.2.1, z14.2.2.2.1, z14.2.2.2.2.1, z14.2.2.2.2.2.1, z14.2.2.2.2.2.2.1, z14.2.2.2.2.2.2.2, z28.2.1, z28.2.2.1, z28.2.2.2)) else (some (1, z14.2.1, z14.2.2.1, z14.2.2.2.1, z14.2.2.2.2.1, z14.2.2.2.2.2.1, z14.2.2.2.2.2.2.1, z14.2.2.2.2.2.2.2, z28.2.1, z28.2.2.1, z28.2.2.2)))) else (if x0 = 12 then (zcl (f_X8_findName N t_burgh_meets t_in_kind t_in_place t_in_word t_in_fault t_in_faultPlace t_burgh_meetName) fun z64 => if z64.1 = (-1) then (some (0, t_in_kind, t_in_place, t_in_value, t_in_word, z64.2.1, z64.2.2, t_in_taken, t_verb, t_who, t_what)) else (zcl (f_X8_advance N t_in_kind t_in_place t_in_value t_in_word t_in_size t_in_taken t_in_kinds t_in_places t_in_values t_in_words) fun z79 => zcl (f_X8_takeNumber N 0 999 z79.1 z79.2.1 z79.2.2.1 z79.2.2.2.1 z64.2.1 z64.2.2 t_in_size z79.2.2.2.2 t_in_kinds t_in_places t_in_values t_in_words) fun z90 => if z90.1 = (-1) then (some (0, z90.2.1, z90.2.2.1, z90.2.2.2.1, z90.2.2.2.2.1, z90.2.2.2.2.2.1, z90.2.2.2.2.2.2.1, z90.2.2.2.2.2.2.2, t_verb, t_who, t_what)) else (zcl (f_X0_write N 12 z64.1 z90.1 t_lines t_verb t_who t_what) fun z104 => if z104.1 = 0 then (some (0, z90.2.1, z90.2.2.1, z90.2.2.2.1, z90.2.2.2.2.1, z90.2.2.2.2.2.1, z90.2.2.2.2.2.2.1, z90.2.2.2.2.2.2.2, z104.2.1, z104.2.2.1, z104.2.2.2)) else (some (1, z90.2.1, z90.2.2.1, z90.2.2.2.1, z90.2.2.2.2.1, z90.2.2.2.2.2.1, z90.2.2.2.2.2.2.1, z90.2.2.2.2.2.2.2, z104.2.1, z104.2.2.1, z104.2.2.2))))) else (zcl (f_X8_findName N t_burgh_clocks t_in_kind t_in_place t_in_word t_in_fault t_in_faultPlace t_burgh_clockName) fun z134 => zcl (f_X8_advance N t_in_kind t_in_place t_in_value t_in_word t_in_size t_in_taken t_in_kinds t_in_places t_in_values t_in_words) fun z142 => if z134.1 = (-1) then (some (0, z142.1, z142.2.1, z142.2.2.1, z142.2.2.2.1, z134.2.1, z134.2.2, z142.2.2.2.2, t_verb, t_who, t_what)) else (zcl (f_X0_write N x0 z134.1 0 t_lines t_verb t_who t_what) fun z154 => if z154.1 = 0 then (some (0, z142.1, z142.2.1, z142.2.2.1, z142.2.2.2.1, z134.2.1, z134.2.2, z142.2.2.2.2, z154.2.1, z154.2.2.1, z154.2.2.2)) else (some (1, z142.1, z142.2.1, z142.2.2.1, z142.2.2.2.1, z134.2.1, z134.2.2, z142.2.2.2.2, z154.2.1, z154.2.2.1, z154.2.2.2)))))
set_option maxHeartbeats 4000000 in
set_option maxRecDepth 100000 in
theorem c_X0_readAct (l : Launch) (G : va_G) (cy : Nat → ClassId) (E : Nat → Nat) (N : Nat) (q_t q_t_in q_t_burgh q_t_verb q_t_who q_t_what q_t_in_tape q_t_in_kinds q_t_in_places q_t_in_values q_t_in_words q_t_burgh_clockName q_t_burgh_clockCorner q_t_burgh_clockAhead q_t_burgh_clockGain q_t_burgh_masterName q_t_burgh_masterCorner q_t_burgh_masterLate q_t_burgh_masterClock q_t_burgh_masterMeets q_t_burgh_meetName q_t_burgh_meetDue : Nat) (t_lines : Int32) (t_judged : Int32) (t_why : Int32) (t_good : Int32) (t_minuteThen : Int32) (t_outThen : Int32) (t_in_kind : Int32) (t_in_place : Int32) (t_in_value : Int32) (t_in_word : Int64) (t_in_fault : Int32) (t_in_faultPlace : Int32) (t_in_size : Int32) (t_in_taken : Int32) (t_in_kinds : Nat → Int32) (t_in_places : Nat → Int32) (t_in_values : Nat → Int32) (t_in_words : Nat → Int64) (t_verb : Nat → Int32) (t_who : Nat → Int32) (t_what : Nat → Int32) (t_burgh_clocks : Int32) (t_burgh_masters : Int32) (t_burgh_meets : Int32) (t_burgh_patience : Int32) (t_burgh_meetName : Nat → Int64) (t_burgh_clockName : Nat → Int64) (x0 : Int32) (r : Int32) (r_t_in_kind : Int32) (r_t_in_place : Int32) (r_t_in_value : Int32) (r_t_in_word : Int64) (r_t_in_fault : Int32) (r_t_in_faultPlace : Int32) (r_t_in_taken : Int32) (r_t_verb : Nat → Int32) (r_t_who : Nat → Int32) (r_t_what : Nat → Int32) (h : f_X0_readAct N x0 t_lines t_in_kind t_in_place t_in_value t_in_word t_in_fault t_in_faultPlace t_in_size t_in_taken t_in_kinds t_in_places t_in_values t_in_words t_verb t_who t_what t_burgh_clocks t_burgh_meets t_burgh_meetName t_burgh_clockName = some (r, r_t_in_kind, r_t_in_place, r_t_in_value, r_t_in_word, r_t_in_fault, r_t_in_faultPlace, r_t_in_taken, r_t_verb, r_t_who, r_t_what)) : zM l G cy E yX0_readAct wsX0_readAct rm_X0_readAct [.ref q_t, .int x0] (wd_X0_readAct cy q_t q_t_in q_t_burgh q_t_verb q_t_who q_t_what q_t_in_tape q_t_in_kinds q_t_in_places q_t_in_values q_t_in_words q_t_burgh_clockName q_t_burgh_clockCorner q_t_burgh_clockAhead q_t_burgh_clockGain q_t_burgh_masterName q_t_burgh_masterCorner q_t_burgh_masterLate q_t_burgh_masterClock q_t_burgh_masterMeets q_t_burgh_meetName q_t_burgh_meetDue t_lines t_judged t_why t_good t_minuteThen t_outThen t_in_kind t_in_place t_in_value t_in_word t_in_fault t_in_faultPlace t_in_size t_in_taken t_in_kinds t_in_places t_in_values t_in_words t_verb t_who t_what t_burgh_clocks t_burgh_masters t_burgh_meets t_burgh_patience t_burgh_meetName t_burgh_clockName) (wd_X0_readAct cy q_t q_t_in q_t_burgh q_t_verb q_t_who q_t_what q_t_in_tape q_t_in_kinds q_t_in_places q_t_in_values q_t_in_words q_t_burgh_clockName q_t_burgh_clockCorner q_t_burgh_clockAhead q_t_burgh_clockGain q_t_burgh_masterName q_t_burgh_masterCorner q_t_burgh_masterLate q_t_burgh_masterClock q_t_burgh_masterMeets q_t_burgh_meetName q_t_burgh_meetDue t_lines t_judged t_why t_good t_minuteThen t_outThen r_t_in_kind r_t_in_place r_t_in_value r_t_in_word r_t_in_fault r_t_in_faultPlace t_in_size r_t_in_taken t_in_kinds t_in_places t_in_values t_in_words r_t_verb r_t_who r_t_what t_burgh_clocks t_burgh_masters t_burgh_meets t_burgh_patience t_burgh_meetName t_burgh_clockName) (some (.int r)) 0 0 := by
  refine z_body (cc := cX0_readAct) (maxL := 4) (ret := some .boolean) (by decide) rfl (Nat.le_of_ble_eq_true rfl) ?_
  intro p e s m below meth c ls S hr hlocks hnm hF hH hl
  have S : CallFix p m c cX0_readAct 4 s ([.ref q_t, .int x0] : List Value).toArray wsX0_readAct RX0 := S
  obtain ⟨hx, hb, hml, hown, hts⟩ := id S
  have hl : lv_has ls 4 [(0, .ref q_t), (1, .int x0)] := hl
  rw [f_X0_readAct] at h
  refine lv_iload_n hx hb dX0_readAct_0 rfl (lv_at hl 1 rfl) ?_
  refine lv_bipush (v := 13) hx hb dX0_readAct_1 (by decide) ?_
  refine lv_icmp_ne (tgt := 40) hx hb dX0_readAct_3 (by decide) (fun b3 => ?_) (fun b3 => ?_)
  · replace h := zif_f b3 h
    refine lv_iload_n hx hb dX0_readAct_40 rfl (lv_at hl 1 rfl) ?_
    refine lv_bipush (v := 12) hx hb dX0_readAct_41 (by decide) ?_
    refine lv_icmp_ne (tgt := 116) hx hb dX0_readAct_43 (by decide) (fun b43 => ?_) (fun b43 => ?_)
    · replace h := zif_f b43 h
      refine lv_aload_n hx hb dX0_readAct_116 rfl (lv_at hl 0 rfl) ?_
      refine z_get S hF hH iX0_readAct_X0 0 rfl rfl 0 (by decide) (List.mem_of_getElem? (i := 1) rfl) rfl dX0_readAct_117 ?_
      refine lv_aload_n hx hb dX0_readAct_120 rfl (lv_at hl 0 rfl) ?_
      refine z_get S hF hH iX0_readAct_X0 0 rfl rfl 1 (by decide) (List.mem_of_getElem? (i := 2) rfl) rfl dX0_readAct_121 ?_
      refine z_get S hF hH iX0_readAct_X1 9 rfl rfl 4 (by decide) (List.mem_of_getElem? (i := 5) rfl) rfl dX0_readAct_124 ?_
      refine lv_aload_n hx hb dX0_readAct_127 rfl (lv_at hl 0 rfl) ?_
      refine z_get S hF hH iX0_readAct_X0 0 rfl rfl 1 (by decide) (List.mem_of_getElem? (i := 2) rfl) rfl dX0_readAct_128 ?_
      refine z_get S hF hH iX0_readAct_X1 9 rfl rfl 0 (by decide) (List.mem_of_getElem? (i := 6) rfl) rfl dX0_readAct_131 ?_
      obtain ⟨z134, hz134, h⟩ := zcl_e h
      refine z_callV (As := [.ref q_t_burgh_clockName, .int t_burgh_clocks]) (rest := []) (st1 := [.int z134.1]) (ws' := (wd_X0_readAct cy q_t q_t_in q_t_burgh q_t_verb q_t_who q_t_what q_t_in_tape q_t_in_kinds q_t_in_places q_t_in_values q_t_in_words q_t_burgh_clockName q_t_burgh_clockCorner q_t_burgh_clockAhead q_t_burgh_clockGain q_t_burgh_masterName q_t_burgh_masterCorner q_t_burgh_masterLate q_t_burgh_masterClock q_t_burgh_masterMeets q_t_burgh_meetName q_t_burgh_meetDue t_lines t_judged t_why t_good t_minuteThen t_outThen t_in_kind t_in_place t_in_value t_in_word z134.2.1 z134.2.2 t_in_size t_in_taken t_in_kinds t_in_places t_in_values t_in_words t_verb t_who t_what t_burgh_clocks t_burgh_masters t_burgh_meets t_burgh_patience t_burgh_meetName t_burgh_clockName)) S hF hH (c_X8_findName l G cy E N q_t_in q_t_burgh_clockName q_t_in_tape q_t_in_kinds q_t_in_places q_t_in_values q_t_in_words t_in_kind t_in_place t_in_value t_in_word t_in_fault t_in_faultPlace t_in_size t_in_taken t_burgh_clockName t_burgh_clocks z134.1 z134.2.1 z134.2.2 hz134) (cwV 2 hts gX0_readAct_X8_findName rfl rfl rfl (by decide +kernel) ⟨Nat.le_of_ble_eq_true rfl, Nat.le_of_ble_eq_true rfl⟩) 9 0 rfl rfl [1, 11] rfl (by decide) rfl rfl rfl rfl rfl hl.1 (Nat.le_of_ble_eq_true rfl) dX0_readAct_134 ⟨Nat.le_of_ble_eq_true rfl, Nat.le_of_ble_eq_true rfl⟩ (fun H locs hH => ?_)
      refine lv_istore_n (lv' := [(2, .int z134.1), (0, .ref q_t), (1, .int x0)]) hx hb dX0_readAct_137 rfl hl (by decide) rfl (fun ls hl => ?_)
      refine lv_aload_n hx hb dX0_readAct_138 rfl (lv_at hl 1 rfl) ?_
      refine z_get S hF hH iX0_readAct_X0 0 rfl rfl 0 (by decide) (List.mem_of_getElem? (i := 1) rfl) rfl dX0_readAct_139 ?_
      obtain ⟨z142, hz142, h⟩ := zcl_e h
      refine z_callV (As := []) (rest := []) (st1 := []) (ws' := (wd_X0_readAct cy q_t q_t_in q_t_burgh q_t_verb q_t_who q_t_what q_t_in_tape q_t_in_kinds q_t_in_places q_t_in_values q_t_in_words q_t_burgh_clockName q_t_burgh_clockCorner q_t_burgh_clockAhead q_t_burgh_clockGain q_t_burgh_masterName q_t_burgh_masterCorner q_t_burgh_masterLate q_t_burgh_masterClock q_t_burgh_masterMeets q_t_burgh_meetName q_t_burgh_meetDue t_lines t_judged t_why t_good t_minuteThen t_outThen z142.1 z142.2.1 z142.2.2.1 z142.2.2.2.1 z134.2.1 z134.2.2 t_in_size z142.2.2.2.2 t_in_kinds t_in_places t_in_values t_in_words t_verb t_who t_what t_burgh_clocks t_burgh_masters t_burgh_meets t_burgh_patience t_burgh_meetName t_burgh_clockName)) S hF hH (c_X8_advance l G cy E N q_t_in q_t_in_tape q_t_in_kinds q_t_in_places q_t_in_values q_t_in_words t_in_kind t_in_place t_in_value t_in_word z134.2.1 z134.2.2 t_in_size t_in_taken t_in_kinds t_in_places t_in_values t_in_words z142.1 z142.2.1 z142.2.2.1 z142.2.2.2.1 z142.2.2.2.2 hz142) (cwV 0 hts gX0_readAct_X8_advance rfl rfl rfl (by decide +kernel) ⟨Nat.le_of_ble_eq_true rfl, Nat.le_of_ble_eq_true rfl⟩) 9 0 rfl rfl [1, 2, 3, 4, 5] rfl (by decide) rfl rfl rfl rfl rfl hl.1 (Nat.le_of_ble_eq_true rfl) dX0_readAct_142 ⟨Nat.le_of_ble_eq_true rfl, Nat.le_of_ble_eq_true rfl⟩ (fun H locs hH => ?_)
      refine lv_iload_n hx hb dX0_readAct_145 rfl (lv_at hl 0 rfl) ?_
      refine lv_iconst (v := (-1)) hx hb dX0_readAct_146 (by decide) ?_
      refine lv_icmp_eq (tgt := 164) hx hb dX0_readAct_147 (by decide) (fun b147 => ?_) (fun b147 => ?_)
      · replace h := zif_t b147 h
        refine lv_iconst (v := 0) hx hb dX0_readAct_164 (by decide) ?_
        cases h
        exact z_zret S hr hlocks hH rfl dX0_readAct_165
      · replace h := zif_f b147 h
        refine lv_aload_n hx hb dX0_readAct_150 rfl (lv_at hl 1 rfl) ?_
        refine lv_iload_n hx hb dX0_readAct_151 rfl (lv_at hl 2 rfl) ?_
        refine lv_iload_n hx hb dX0_readAct_152 rfl (lv_at hl 0 rfl) ?_
        refine lv_iconst (v := 0) hx hb dX0_readAct_153 (by decide) ?_
        obtain ⟨z154, hz154, h⟩ := zcl_e h
        refine z_callV (As := [.int x0, .int z134.1, .int 0]) (rest := []) (st1 := [.int z154.1]) (ws' := (wd_X0_readAct cy q_t q_t_in q_t_burgh q_t_verb q_t_who q_t_what q_t_in_tape q_t_in_kinds q_t_in_places q_t_in_values q_t_in_words q_t_burgh_clockName q_t_burgh_clockCorner q_t_burgh_clockAhead q_t_burgh_clockGain q_t_burgh_masterName q_t_burgh_masterCorner q_t_burgh_masterLate q_t_burgh_masterClock q_t_burgh_masterMeets q_t_burgh_meetName q_t_burgh_meetDue t_lines t_judged t_why t_good t_minuteThen t_outThen z142.1 z142.2.1 z142.2.2.1 z142.2.2.2.1 z134.2.1 z134.2.2 t_in_size z142.2.2.2.2 t_in_kinds t_in_places t_in_values t_in_words z154.2.1 z154.2.2.1 z154.2.2.2 t_burgh_clocks t_burgh_masters t_burgh_meets t_burgh_patience t_burgh_meetName t_burgh_clockName)) S hF hH (c_X0_write l G cy E N q_t q_t_in q_t_burgh q_t_verb q_t_who q_t_what t_lines t_judged t_why t_good t_minuteThen t_outThen t_verb t_who t_what x0 z134.1 0 z154.1 z154.2.1 z154.2.2.1 z154.2.2.2 hz154) (cwV 3 hts gX0_readAct_X0_write rfl rfl rfl (by decide +kernel) ⟨Nat.le_of_ble_eq_true rfl, Nat.le_of_ble_eq_true rfl⟩) 1 0 rfl rfl [0, 6, 7, 8] rfl (by decide) rfl rfl rfl rfl rfl hl.1 (Nat.le_of_ble_eq_true rfl) dX0_readAct_154 ⟨Nat.le_of_ble_eq_true rfl, Nat.le_of_ble_eq_true rfl⟩ (fun H locs hH => ?_)
        refine lv_if_eq (tgt := 164) hx hb dX0_readAct_157 (by decide) (fun b157 => ?_) (fun b157 => ?_)
        · replace h := zif_t b157 h
          refine lv_iconst (v := 0) hx hb dX0_readAct_164 (by decide) ?_
          cases h
          exact z_zret S hr hlocks hH rfl dX0_readAct_165
        · replace h := zif_f b157 h
          refine lv_iconst (v := 1) hx hb dX0_readAct_160 (by decide) ?_
          refine lv_goto (tgt := 165) hx hb dX0_readAct_161 (by decide) ?_
          cases h
          exact z_zret S hr hlocks hH rfl dX0_readAct_165
    · replace h := zif_t b43 h
      refine lv_aload_n hx hb dX0_readAct_46 rfl (lv_at hl 0 rfl) ?_
      refine z_get S hF hH iX0_readAct_X0 0 rfl rfl 0 (by decide) (List.mem_of_getElem? (i := 1) rfl) rfl dX0_readAct_47 ?_
      refine lv_aload_n hx hb dX0_readAct_50 rfl (lv_at hl 0 rfl) ?_
      refine z_get S hF hH iX0_readAct_X0 0 rfl rfl 1 (by decide) (List.mem_of_getElem? (i := 2) rfl) rfl dX0_readAct_51 ?_
      refine z_get S hF hH iX0_readAct_X1 9 rfl rfl 13 (by decide) (List.mem_of_getElem? (i := 3) rfl) rfl dX0_readAct_54 ?_
      refine lv_aload_n hx hb dX0_readAct_57 rfl (lv_at hl 0 rfl) ?_
      refine z_get S hF hH iX0_readAct_X0 0 rfl rfl 1 (by decide) (List.mem_of_getElem? (i := 2) rfl) rfl dX0_readAct_58 ?_
      refine z_get S hF hH iX0_readAct_X1 9 rfl rfl 2 (by decide) (List.mem_of_getElem? (i := 4) rfl) rfl dX0_readAct_61 ?_
      obtain ⟨z64, hz64, h⟩ := zcl_e h
      refine z_callV (As := [.ref q_t_burgh_meetName, .int t_burgh_meets]) (rest := []) (st1 := [.int z64.1]) (ws' := (wd_X0_readAct cy q_t q_t_in q_t_burgh q_t_verb q_t_who q_t_what q_t_in_tape q_t_in_kinds q_t_in_places q_t_in_values q_t_in_words q_t_burgh_clockName q_t_burgh_clockCorner q_t_burgh_clockAhead q_t_burgh_clockGain q_t_burgh_masterName q_t_burgh_masterCorner q_t_burgh_masterLate q_t_burgh_masterClock q_t_burgh_masterMeets q_t_burgh_meetName q_t_burgh_meetDue t_lines t_judged t_why t_good t_minuteThen t_outThen t_in_kind t_in_place t_in_value t_in_word z64.2.1 z64.2.2 t_in_size t_in_taken t_in_kinds t_in_places t_in_values t_in_words t_verb t_who t_what t_burgh_clocks t_burgh_masters t_burgh_meets t_burgh_patience t_burgh_meetName t_burgh_clockName)) S hF hH (c_X8_findName l G cy E N q_t_in q_t_burgh_meetName q_t_in_tape q_t_in_kinds q_t_in_places q_t_in_values q_t_in_words t_in_kind t_in_place t_in_value t_in_word t_in_fault t_in_faultPlace t_in_size t_in_taken t_burgh_meetName t_burgh_meets z64.1 z64.2.1 z64.2.2 hz64) (cwV 2 hts gX0_readAct_X8_findName rfl rfl rfl (by decide +kernel) ⟨Nat.le_of_ble_eq_true rfl, Nat.le_of_ble_eq_true rfl⟩) 9 0 rfl rfl [1, 10] rfl (by decide) rfl rfl rfl rfl rfl hl.1 (Nat.le_of_ble_eq_true rfl) dX0_readAct_64 ⟨Nat.le_of_ble_eq_true rfl, Nat.le_of_ble_eq_true rfl⟩ (fun H locs hH => ?_)
      refine lv_istore_n (lv' := [(2, .int z64.1), (0, .ref q_t), (1, .int x0)]) hx hb dX0_readAct_67 rfl hl (by decide) rfl (fun ls hl => ?_)
      refine lv_iload_n hx hb dX0_readAct_68 rfl (lv_at hl 0 rfl) ?_
      refine lv_iconst (v := (-1)) hx hb dX0_readAct_69 (by decide) ?_
      refine lv_icmp_ne (tgt := 75) hx hb dX0_readAct_70 (by decide) (fun b70 => ?_) (fun b70 => ?_)
      · replace h := zif_f b70 h
        refine lv_aload_n hx hb dX0_readAct_75 rfl (lv_at hl 1 rfl) ?_
        refine z_get S hF hH iX0_readAct_X0 0 rfl rfl 0 (by decide) (List.mem_of_getElem? (i := 1) rfl) rfl dX0_readAct_76 ?_
        obtain ⟨z79, hz79, h⟩ := zcl_e h
        refine z_callV (As := []) (rest := []) (st1 := []) (ws' := (wd_X0_readAct cy q_t q_t_in q_t_burgh q_t_verb q_t_who q_t_what q_t_in_tape q_t_in_kinds q_t_in_places q_t_in_values q_t_in_words q_t_burgh_clockName q_t_burgh_clockCorner q_t_burgh_clockAhead q_t_burgh_clockGain q_t_burgh_masterName q_t_burgh_masterCorner q_t_burgh_masterLate q_t_burgh_masterClock q_t_burgh_masterMeets q_t_burgh_meetName q_t_burgh_meetDue t_lines t_judged t_why t_good t_minuteThen t_outThen z79.1 z79.2.1 z79.2.2.1 z79.2.2.2.1 z64.2.1 z64.2.2 t_in_size z79.2.2.2.2 t_in_kinds t_in_places t_in_values t_in_words t_verb t_who t_what t_burgh_clocks t_burgh_masters t_burgh_meets t_burgh_patience t_burgh_meetName t_burgh_clockName)) S hF hH (c_X8_advance l G cy E N q_t_in q_t_in_tape q_t_in_kinds q_t_in_places q_t_in_values q_t_in_words t_in_kind t_in_place t_in_value t_in_word z64.2.1 z64.2.2 t_in_size t_in_taken t_in_kinds t_in_places t_in_values t_in_words z79.1 z79.2.1 z79.2.2.1 z79.2.2.2.1 z79.2.2.2.2 hz79) (cwV 0 hts gX0_readAct_X8_advance rfl rfl rfl (by decide +kernel) ⟨Nat.le_of_ble_eq_true rfl, Nat.le_of_ble_eq_true rfl⟩) 9 0 rfl rfl [1, 2, 3, 4, 5] rfl (by decide) rfl rfl rfl rfl rfl hl.1 (Nat.le_of_ble_eq_true rfl) dX0_readAct_79 ⟨Nat.le_of_ble_eq_true rfl, Nat.le_of_ble_eq_true rfl⟩ (fun H locs hH => ?_)
        refine lv_aload_n hx hb dX0_readAct_82 rfl (lv_at hl 1 rfl) ?_
        refine z_get S hF hH iX0_readAct_X0 0 rfl rfl 0 (by decide) (List.mem_of_getElem? (i := 1) rfl) rfl dX0_readAct_83 ?_
        refine lv_iconst (v := 0) hx hb dX0_readAct_86 (by decide) ?_
        refine lv_sipush (v := 999) hx hb dX0_readAct_87 (by decide) ?_
        obtain ⟨z90, hz90, h⟩ := zcl_e h
        refine z_callV (As := [.int 0, .int 999]) (rest := []) (st1 := [.int z90.1]) (ws' := (wd_X0_readAct cy q_t q_t_in q_t_burgh q_t_verb q_t_who q_t_what q_t_in_tape q_t_in_kinds q_t_in_places q_t_in_values q_t_in_words q_t_burgh_clockName q_t_burgh_clockCorner q_t_burgh_clockAhead q_t_burgh_clockGain q_t_burgh_masterName q_t_burgh_masterCorner q_t_burgh_masterLate q_t_burgh_masterClock q_t_burgh_masterMeets q_t_burgh_meetName q_t_burgh_meetDue t_lines t_judged t_why t_good t_minuteThen t_outThen z90.2.1 z90.2.2.1 z90.2.2.2.1 z90.2.2.2.2.1 z90.2.2.2.2.2.1 z90.2.2.2.2.2.2.1 t_in_size z90.2.2.2.2.2.2.2 t_in_kinds t_in_places t_in_values t_in_words t_verb t_who t_what t_burgh_clocks t_burgh_masters t_burgh_meets t_burgh_patience t_burgh_meetName t_burgh_clockName)) S hF hH (c_X8_takeNumber l G cy E N q_t_in q_t_in_tape q_t_in_kinds q_t_in_places q_t_in_values q_t_in_words z79.1 z79.2.1 z79.2.2.1 z79.2.2.2.1 z64.2.1 z64.2.2 t_in_size z79.2.2.2.2 t_in_kinds t_in_places t_in_values t_in_words 0 999 z90.1 z90.2.1 z90.2.2.1 z90.2.2.2.1 z90.2.2.2.2.1 z90.2.2.2.2.2.1 z90.2.2.2.2.2.2.1 z90.2.2.2.2.2.2.2 hz90) (cwV 2 hts gX0_readAct_X8_takeNumber rfl rfl rfl (by decide +kernel) ⟨Nat.le_of_ble_eq_true rfl, Nat.le_of_ble_eq_true rfl⟩) 9 0 rfl rfl [1, 2, 3, 4, 5] rfl (by decide) rfl rfl rfl rfl rfl hl.1 (Nat.le_of_ble_eq_true rfl) dX0_readAct_90 ⟨Nat.le_of_ble_eq_true rfl, Nat.le_of_ble_eq_true rfl⟩ (fun H locs hH => ?_)
        refine lv_istore_n (lv' := [(3, .int z90.1), (2, .int z64.1), (0, .ref q_t), (1, .int x0)]) hx hb dX0_readAct_93 rfl hl (by decide) rfl (fun ls hl => ?_)
        refine lv_iload_n hx hb dX0_readAct_94 rfl (lv_at hl 0 rfl) ?_
        refine lv_iconst (v := (-1)) hx hb dX0_readAct_95 (by decide) ?_
        refine lv_icmp_eq (tgt := 114) hx hb dX0_readAct_96 (by decide) (fun b96 => ?_) (fun b96 => ?_)
        · replace h := zif_t b96 h
          refine lv_iconst (v := 0) hx hb dX0_readAct_114 (by decide) ?_
          cases h
          exact z_zret S hr hlocks hH rfl dX0_readAct_115
        · replace h := zif_f b96 h
          refine lv_aload_n hx hb dX0_readAct_99 rfl (lv_at hl 2 rfl) ?_
          refine lv_bipush (v := 12) hx hb dX0_readAct_100 (by decide) ?_
          refine lv_iload_n hx hb dX0_readAct_102 rfl (lv_at hl 1 rfl) ?_
          refine lv_iload_n hx hb dX0_readAct_103 rfl (lv_at hl 0 rfl) ?_
          obtain ⟨z104, hz104, h⟩ := zcl_e h
          refine z_callV (As := [.int 12, .int z64.1, .int z90.1]) (rest := []) (st1 := [.int z104.1]) (ws' := (wd_X0_readAct cy q_t q_t_in q_t_burgh q_t_verb q_t_who q_t_what q_t_in_tape q_t_in_kinds q_t_in_places q_t_in_values q_t_in_words q_t_burgh_clockName q_t_burgh_clockCorner q_t_burgh_clockAhead q_t_burgh_clockGain q_t_burgh_masterName q_t_burgh_masterCorner q_t_burgh_masterLate q_t_burgh_masterClock q_t_burgh_masterMeets q_t_burgh_meetName q_t_burgh_meetDue t_lines t_judged t_why t_good t_minuteThen t_outThen z90.2.1 z90.2.2.1 z90.2.2.2.1 z90.2.2.2.2.1 z90.2.2.2.2.2.1 z90.2.2.2.2.2.2.1 t_in_size z90.2.2.2.2.2.2.2 t_in_kinds t_in_places t_in_values t_in_words z104.2.1 z104.2.2.1 z104.2.2.2 t_burgh_clocks t_burgh_masters t_burgh_meets t_burgh_patience t_burgh_meetName t_burgh_clockName)) S hF hH (c_X0_write l G cy E N q_t q_t_in q_t_burgh q_t_verb q_t_who q_t_what t_lines t_judged t_why t_good t_minuteThen t_outThen t_verb t_who t_what 12 z64.1 z90.1 z104.1 z104.2.1 z104.2.2.1 z104.2.2.2 hz104) (cwV 3 hts gX0_readAct_X0_write rfl rfl rfl (by decide +kernel) ⟨Nat.le_of_ble_eq_true rfl, Nat.le_of_ble_eq_true rfl⟩) 1 0 rfl rfl [0, 6, 7, 8] rfl (by decide) rfl rfl rfl rfl rfl hl.1 (Nat.le_of_ble_eq_true rfl) dX0_readAct_104 ⟨Nat.le_of_ble_eq_true rfl, Nat.le_of_ble_eq_true rfl⟩ (fun H locs hH => ?_)
          refine lv_if_eq (tgt := 114) hx hb dX0_readAct_107 (by decide) (fun b107 => ?_) (fun b107 => ?_)
          · replace h := zif_t b107 h
            refine lv_iconst (v := 0) hx hb dX0_readAct_114 (by decide) ?_
            cases h
            exact z_zret S hr hlocks hH rfl dX0_readAct_115
          · replace h := zif_f b107 h
            refine lv_iconst (v := 1) hx hb dX0_readAct_110 (by decide) ?_
            refine lv_goto (tgt := 115) hx hb dX0_readAct_111 (by decide) ?_
            cases h
            exact z_zret S hr hlocks hH rfl dX0_readAct_115
      · replace h := zif_t b70 h
        refine lv_iconst (v := 0) hx hb dX0_readAct_73 (by decide) ?_
        cases h
        exact z_zret S hr hlocks hH rfl dX0_readAct_74
  · replace h := zif_t b3 h
    refine lv_aload_n hx hb dX0_readAct_6 rfl (lv_at hl 0 rfl) ?_
    refine z_get S hF hH iX0_readAct_X0 0 rfl rfl 0 (by decide) (List.mem_of_getElem? (i := 1) rfl) rfl dX0_readAct_7 ?_
    refine lv_iconst (v := 1) hx hb dX0_readAct_10 (by decide) ?_
    refine lv_sipush (v := 999) hx hb dX0_readAct_11 (by decide) ?_
    obtain ⟨z14, hz14, h⟩ := zcl_e h
    refine z_callV (As := [.int 1, .int 999]) (rest := []) (st1 := [.int z14.1]) (ws' := (wd_X0_readAct cy q_t q_t_in q_t_burgh q_t_verb q_t_who q_t_what q_t_in_tape q_t_in_kinds q_t_in_places q_t_in_values q_t_in_words q_t_burgh_clockName q_t_burgh_clockCorner q_t_burgh_clockAhead q_t_burgh_clockGain q_t_burgh_masterName q_t_burgh_masterCorner q_t_burgh_masterLate q_t_burgh_masterClock q_t_burgh_masterMeets q_t_burgh_meetName q_t_burgh_meetDue t_lines t_judged t_why t_good t_minuteThen t_outThen z14.2.1 z14.2.2.1 z14.2.2.2.1 z14.2.2.2.2.1 z14.2.2.2.2.2.1 z14.2.2.2.2.2.2.1 t_in_size z14.2.2.2.2.2.2.2 t_in_kinds t_in_places t_in_values t_in_words t_verb t_who t_what t_burgh_clocks t_burgh_masters t_burgh_meets t_burgh_patience t_burgh_meetName t_burgh_clockName)) S hF hH (c_X8_takeNumber l G cy E N q_t_in q_t_in_tape q_t_in_kinds q_t_in_places q_t_in_values q_t_in_words t_in_kind t_in_place t_in_value t_in_word t_in_fault t_in_faultPlace t_in_size t_in_taken t_in_kinds t_in_places t_in_values t_in_words 1 999 z14.1 z14.2.1 z14.2.2.1 z14.2.2.2.1 z14.2.2.2.2.1 z14.2.2.2.2.2.1 z14.2.2.2.2.2.2.1 z14.2.2.2.2.2.2.2 hz14) (cwV 2 hts gX0_readAct_X8_takeNumber rfl rfl rfl (by decide +kernel) ⟨Nat.le_of_ble_eq_true rfl, Nat.le_of_ble_eq_true rfl⟩) 9 0 rfl rfl [1, 2, 3, 4, 5] rfl (by decide) rfl rfl rfl rfl rfl hl.1 (Nat.le_of_ble_eq_true rfl) dX0_readAct_14 ⟨Nat.le_of_ble_eq_true rfl, Nat.le_of_ble_eq_true rfl⟩ (fun H locs hH => ?_)
    refine lv_istore_n (lv' := [(2, .int z14.1), (0, .ref q_t), (1, .int x0)]) hx hb dX0_readAct_17 rfl hl (by decide) rfl (fun ls hl => ?_)
    refine lv_iload_n hx hb dX0_readAct_18 rfl (lv_at hl 0 rfl) ?_
    refine lv_iconst (v := (-1)) hx hb dX0_readAct_19 (by decide) ?_
    refine lv_icmp_eq (tgt := 38) hx hb dX0_readAct_20 (by decide) (fun b20 => ?_) (fun b20 => ?_)
    · replace h := zif_t b20 h
      refine lv_iconst (v := 0) hx hb dX0_readAct_38 (by decide) ?_
      cases h
      exact z_zret S hr hlocks hH rfl dX0_readAct_39
    · replace h := zif_f b20 h
      refine lv_aload_n hx hb dX0_readAct_23 rfl (lv_at hl 1 rfl) ?_
      refine lv_bipush (v := 13) hx hb dX0_readAct_24 (by decide) ?_
      refine lv_iconst (v := 0) hx hb dX0_readAct_26 (by decide) ?_
      refine lv_iload_n hx hb dX0_readAct_27 rfl (lv_at hl 0 rfl) ?_
      obtain ⟨z28, hz28, h⟩ := zcl_e h
      refine z_callV (As := [.int 13, .int 0, .int z14.1]) (rest := []) (st1 := [.int z28.1]) (ws' := (wd_X0_readAct cy q_t q_t_in q_t_burgh q_t_verb q_t_who q_t_what q_t_in_tape q_t_in_kinds q_t_in_places q_t_in_values q_t_in_words q_t_burgh_clockName q_t_burgh_clockCorner q_t_burgh_clockAhead q_t_burgh_clockGain q_t_burgh_masterName q_t_burgh_masterCorner q_t_burgh_masterLate q_t_burgh_masterClock q_t_burgh_masterMeets q_t_burgh_meetName q_t_burgh_meetDue t_lines t_judged t_why t_good t_minuteThen t_outThen z14.2.1 z14.2.2.1 z14.2.2.2.1 z14.2.2.2.2.1 z14.2.2.2.2.2.1 z14.2.2.2.2.2.2.1 t_in_size z14.2.2.2.2.2.2.2 t_in_kinds t_in_places t_in_values t_in_words z28.2.1 z28.2.2.1 z28.2.2.2 t_burgh_clocks t_burgh_masters t_burgh_meets t_burgh_patience t_burgh_meetName t_burgh_clockName)) S hF hH (c_X0_write l G cy E N q_t q_t_in q_t_burgh q_t_verb q_t_who q_t_what t_lines t_judged t_why t_good t_minuteThen t_outThen t_verb t_who t_what 13 0 z14.1 z28.1 z28.2.1 z28.2.2.1 z28.2.2.2 hz28) (cwV 3 hts gX0_readAct_X0_write rfl rfl rfl (by decide +kernel) ⟨Nat.le_of_ble_eq_true rfl, Nat.le_of_ble_eq_true rfl⟩) 1 0 rfl rfl [0, 6, 7, 8] rfl (by decide) rfl rfl rfl rfl rfl hl.1 (Nat.le_of_ble_eq_true rfl) dX0_readAct_28 ⟨Nat.le_of_ble_eq_true rfl, Nat.le_of_ble_eq_true rfl⟩ (fun H locs hH => ?_)
      refine lv_if_eq (tgt := 38) hx hb dX0_readAct_31 (by decide) (fun b31 => ?_) (fun b31 => ?_)
      · replace h := zif_t b31 h
        refine lv_iconst (v := 0) hx hb dX0_readAct_38 (by decide) ?_
        cases h
        exact z_zret S hr hlocks hH rfl dX0_readAct_39
      · replace h := zif_f b31 h
        refine lv_iconst (v := 1) hx hb dX0_readAct_34 (by decide) ?_
        refine lv_goto (tgt := 39) hx hb dX0_readAct_35 (by decide) ?_
        cases h
        exact z_zret S hr hlocks hH rfl dX0_readAct_39
abbrev wd_X8_isKeyword (cy : Nat → ClassId) (q_t q_t_tape q_t_kinds q_t_places q_t_values q_t_words : Nat) (t_kind : Int32) (t_place : Int32) (t_value : Int32) (t_word : Int64) (t_fault : Int32) (t_faultPlace : Int32) (t_size : Int32) (t_taken : Int32) : va_W := [(q_t, .inr (9, [.int t_kind, .int t_place, .int t_value, .long t_word, .int t_fault, .int t_faultPlace, .ref q_t_tape, .int t_size, .int t_taken, .ref q_t_kinds, .ref q_t_places, .ref q_t_values, .ref q_t_words]))]
theorem iX8_isKeyword_X8 : ∀ w ∈ wsX80, w ∈ wsX8_isKeyword := fun _ h => List.mem_cons_of_mem _ (List.mem_append_right _ h)
abbrev rm_X8_isKeyword : Room := { frames := 0, cells := 0, slots := 0, locals := 0 }
set_option maxRecDepth 100000 in
def f_X8_isKeyword (N : Nat) (x0 : Int32) (t_kind : Int32) (t_value : Int32) : Option (Int32) := if t_kind = 3 then (if t_value = x0 then (some 1) else (some 0)) else (some 0)
set_option maxHeartbeats 4000000 in
set_option maxRecDepth 100000 in
theorem c_X8_isKeyword (l : Launch) (G : va_G) (cy : Nat → ClassId) (E : Nat → Nat) (N : Nat) (q_t q_t_tape q_t_kinds q_t_places q_t_values q_t_words : Nat) (t_kind : Int32) (t_place : Int32) (t_value : Int32) (t_word : Int64) (t_fault : Int32) (t_faultPlace : Int32) (t_size : Int32) (t_taken : Int32) (x0 : Int32) (r : Int32) (h : f_X8_isKeyword N x0 t_kind t_value = some r) : zM l G cy E yX8_isKeyword wsX8_isKeyword rm_X8_isKeyword [.ref q_t, .int x0] (wd_X8_isKeyword cy q_t q_t_tape q_t_kinds q_t_places q_t_values q_t_words t_kind t_place t_value t_word t_fault t_faultPlace t_size t_taken) (wd_X8_isKeyword cy q_t q_t_tape q_t_kinds q_t_places q_t_values q_t_words t_kind t_place t_value t_word t_fault t_faultPlace t_size t_taken) (some (.int r)) 0 0 := by
  refine z_body (cc := cX8_isKeyword) (maxL := 2) (ret := some .boolean) (by decide) rfl (Nat.le_of_ble_eq_true rfl) ?_
  intro p e s m below meth c ls S hr hlocks hnm hF hH hl
  have S : CallFix p m c cX8_isKeyword 2 s ([.ref q_t, .int x0] : List Value).toArray wsX8_isKeyword RX8 := S
  obtain ⟨hx, hb, hml, hown, hts⟩ := id S
  have hl : lv_has ls 2 [(0, .ref q_t), (1, .int x0)] := hl
  rw [f_X8_isKeyword] at h
  refine lv_aload_n hx hb dX8_isKeyword_0 rfl (lv_at hl 0 rfl) ?_
  refine z_get S hF hH iX8_isKeyword_X8 0 rfl rfl 0 (by decide) (List.mem_of_getElem? (i := 1) rfl) rfl dX8_isKeyword_1 ?_
  refine lv_iconst (v := 3) hx hb dX8_isKeyword_4 (by decide) ?_
  refine lv_icmp_ne (tgt := 20) hx hb dX8_isKeyword_5 (by decide) (fun b5 => ?_) (fun b5 => ?_)
  · replace h := zif_f b5 h
    refine lv_iconst (v := 0) hx hb dX8_isKeyword_20 (by decide) ?_
    cases h
    exact z_zret S hr hlocks hH rfl dX8_isKeyword_21
  · replace h := zif_t b5 h
    refine lv_aload_n hx hb dX8_isKeyword_8 rfl (lv_at hl 0 rfl) ?_
    refine z_get S hF hH iX8_isKeyword_X8 0 rfl rfl 2 (by decide) (List.mem_of_getElem? (i := 2) rfl) rfl dX8_isKeyword_9 ?_
    refine lv_iload_n hx hb dX8_isKeyword_12 rfl (lv_at hl 1 rfl) ?_
    refine lv_icmp_ne (tgt := 20) hx hb dX8_isKeyword_13 (by decide) (fun b13 => ?_) (fun b13 => ?_)
    · replace h := zif_f b13 h
      refine lv_iconst (v := 0) hx hb dX8_isKeyword_20 (by decide) ?_
      cases h
      exact z_zret S hr hlocks hH rfl dX8_isKeyword_21
    · replace h := zif_t b13 h
      refine lv_iconst (v := 1) hx hb dX8_isKeyword_16 (by decide) ?_
      refine lv_goto (tgt := 21) hx hb dX8_isKeyword_17 (by decide) ?_
      cases h
      exact z_zret S hr hlocks hH rfl dX8_isKeyword_21
abbrev wd_X0_readSets (cy : Nat → ClassId) (q_t q_t_in q_t_burgh q_t_verb q_t_who q_t_what q_t_in_tape q_t_in_kinds q_t_in_places q_t_in_values q_t_in_words q_t_burgh_clockName q_t_burgh_clockCorner q_t_burgh_clockAhead q_t_burgh_clockGain q_t_burgh_masterName q_t_burgh_masterCorner q_t_burgh_masterLate q_t_burgh_masterClock q_t_burgh_masterMeets q_t_burgh_meetName q_t_burgh_meetDue : Nat) (t_lines : Int32) (t_judged : Int32) (t_why : Int32) (t_good : Int32) (t_minuteThen : Int32) (t_outThen : Int32) (t_in_kind : Int32) (t_in_place : Int32) (t_in_value : Int32) (t_in_word : Int64) (t_in_fault : Int32) (t_in_faultPlace : Int32) (t_in_size : Int32) (t_in_taken : Int32) (t_in_kinds : Nat → Int32) (t_in_places : Nat → Int32) (t_in_values : Nat → Int32) (t_in_words : Nat → Int64) (t_burgh_clocks : Int32) (t_burgh_masters : Int32) (t_burgh_meets : Int32) (t_burgh_patience : Int32) (t_burgh_clockName : Nat → Int64) (t_verb : Nat → Int32) (t_who : Nat → Int32) (t_what : Nat → Int32) : va_W := [(q_t, .inr (1, [.ref q_t_in, .ref q_t_burgh, .int t_lines, .ref q_t_verb, .ref q_t_who, .ref q_t_what, .int t_judged, .int t_why, .int t_good, .int t_minuteThen, .int t_outThen])), (q_t_in, .inr (9, [.int t_in_kind, .int t_in_place, .int t_in_value, .long t_in_word, .int t_in_fault, .int t_in_faultPlace, .ref q_t_in_tape, .int t_in_size, .int t_in_taken, .ref q_t_in_kinds, .ref q_t_in_places, .ref q_t_in_values, .ref q_t_in_words])), (q_t_in_kinds, .inl (cy 1, 901, .inl t_in_kinds)), (q_t_in_places, .inl (cy 1, 901, .inl t_in_places)), (q_t_in_values, .inl (cy 1, 901, .inl t_in_values)), (q_t_in_words, .inl (cy 2, 901, .inr (.inl t_in_words))), (q_t_burgh, .inr (2, [.int t_burgh_clocks, .int t_burgh_masters, .int t_burgh_meets, .int t_burgh_patience, .ref q_t_burgh_clockName, .ref q_t_burgh_clockCorner, .ref q_t_burgh_clockAhead, .ref q_t_burgh_clockGain, .ref q_t_burgh_masterName, .ref q_t_burgh_masterCorner, .ref q_t_burgh_masterLate, .ref q_t_burgh_masterClock, .ref q_t_burgh_masterMeets, .ref q_t_burgh_meetName, .ref q_t_burgh_meetDue])), (q_t_burgh_clockName, .inl (cy 2, 6, .inr (.inl t_burgh_clockName))), (q_t_verb, .inl (cy 1, 40, .inl t_verb)), (q_t_who, .inl (cy 1, 40, .inl t_who)), (q_t_what, .inl (cy 1, 40, .inl t_what))]
theorem iX0_readSets_X0 : ∀ w ∈ wsX00, w ∈ wsX0_readSets := fun _ h => List.mem_cons_of_mem _ (List.mem_append_left _ (List.mem_append_left _ (List.mem_append_right _ h)))
theorem iX0_readSets_X1 : ∀ w ∈ wsX10, w ∈ wsX0_readSets := fun _ h => List.mem_cons_of_mem _ (List.mem_append_left _ (List.mem_append_right _ h))
abbrev rm_X0_readSets : Room := { frames := 2, cells := 0, slots := 0, locals := 47 }
set_option maxRecDepth 100000 in
def f_X0_readSets (N : Nat) (x0 : Int32) (t_lines : Int32) (t_in_kind : Int32) (t_in_place : Int32) (t_in_value : Int32) (t_in_word : Int64) (t_in_fault : Int32) (t_in_faultPlace : Int32) (t_in_size : Int32) (t_in_taken : Int32) (t_in_kinds : Nat → Int32) (t_in_places : Nat → Int32) (t_in_values : Nat → Int32) (t_in_words : Nat → Int64) (t_burgh_clocks : Int32) (t_burgh_clockName : Nat → Int64) (t_verb : Nat → Int32) (t_who : Nat → Int32) (t_what : Nat → Int32) : Option (Int32 × Int32 × Int32 × Int32 × Int64 × Int32 × Int32 × Int32 × (Nat → Int32) × (Nat → Int32) × (Nat → Int32)) := zcl (f_X8_isKeyword N 9 t_in_kind t_in_value) fun z6 => if z6 = 0 then (zcl (f_X8_refuse N 1 t_in_place t_in_fault t_in_faultPlace) fun z17 => zck (zbo z17.1) <| some (z17.1, t_in_kind, t_in_place, t_in_value, t_in_word, z17.2.1, z17.2.2, t_in_taken, t_verb, t_who, t_what)) else (zcl (f_X8_advance N t_in_kind t_in_place t_in_value t_in_word t_in_size t_in_taken t_in_kinds t_in_places t_in_values t_in_words) fun z25 => zcl (f_X8_findName N t_burgh_clocks z25.1 z25.2.1 z25.2.2.2.1 t_in_fault t_in_faultPlace t_burgh_clockName) fun z46 => zcl (f_X8_advance N z25.1 z25.2.1 z25.2.2.1 z25.2.2.2.1 t_in_size z25.2.2.2.2 t_in_kinds t_in_places t_in_values t_in_words) fun z54 => if z46.1 = (-1) then (some (0, z54.1, z54.2.1, z54.2.2.1, z54.2.2.2.1, z46.2.1, z46.2.2, z54.2.2.2.2, t_verb, t_who, t_what)) else (zcl (f_X0_write N 9 x0 z46.1 t_lines t_verb t_who t_what) fun z67 => if z67.1 = 0 then (some (0, z54.1, z54.2.1, z54.2.2.1, z54.2.2.2.1, z46.2.1, z46.2.2, z54.2.2.2.2, z67.2.1, z67.2.2.1, z67.2.2.2)) else (some (1, z54.1, z54.2.1, z54.2.2.1, z54.2.2.2.1, z46.2.1, z46.2.2, z54.2.2.2.2, z67.2.1, z67.2.2.1, z67.2.2.2))))
set_option maxHeartbeats 4000000 in
set_option maxRecDepth 100000 in
theorem c_X0_readSets (l : Launch) (G : va_G) (cy : Nat → ClassId) (E : Nat → Nat) (N : Nat) (q_t q_t_in q_t_burgh q_t_verb q_t_who q_t_what q_t_in_tape q_t_in_kinds q_t_in_places q_t_in_values q_t_in_words q_t_burgh_clockName q_t_burgh_clockCorner q_t_burgh_clockAhead q_t_burgh_clockGain q_t_burgh_masterName q_t_burgh_masterCorner q_t_burgh_masterLate q_t_burgh_masterClock q_t_burgh_masterMeets q_t_burgh_meetName q_t_burgh_meetDue : Nat) (t_lines : Int32) (t_judged : Int32) (t_why : Int32) (t_good : Int32) (t_minuteThen : Int32) (t_outThen : Int32) (t_in_kind : Int32) (t_in_place : Int32) (t_in_value : Int32) (t_in_word : Int64) (t_in_fault : Int32) (t_in_faultPlace : Int32) (t_in_size : Int32) (t_in_taken : Int32) (t_in_kinds : Nat → Int32) (t_in_places : Nat → Int32) (t_in_values : Nat → Int32) (t_in_words : Nat → Int64) (t_burgh_clocks : Int32) (t_burgh_masters : Int32) (t_burgh_meets : Int32) (t_burgh_patience : Int32) (t_burgh_clockName : Nat → Int64) (t_verb : Nat → Int32) (t_who : Nat → Int32) (t_what : Nat → Int32) (x0 : Int32) (r : Int32) (r_t_in_kind : Int32) (r_t_in_place : Int32) (r_t_in_value : Int32) (r_t_in_word : Int64) (r_t_in_fault : Int32) (r_t_in_faultPlace : Int32) (r_t_in_taken : Int32) (r_t_verb : Nat → Int32) (r_t_who : Nat → Int32) (r_t_what : Nat → Int32) (h : f_X0_readSets N x0 t_lines t_in_kind t_in_place t_in_value t_in_word t_in_fault t_in_faultPlace t_in_size t_in_taken t_in_kinds t_in_places t_in_values t_in_words t_burgh_clocks t_burgh_clockName t_verb t_who t_what = some (r, r_t_in_kind, r_t_in_place, r_t_in_value, r_t_in_word, r_t_in_fault, r_t_in_faultPlace, r_t_in_taken, r_t_verb, r_t_who, r_t_what)) : zM l G cy E yX0_readSets wsX0_readSets rm_X0_readSets [.ref q_t, .int x0] (wd_X0_readSets cy q_t q_t_in q_t_burgh q_t_verb q_t_who q_t_what q_t_in_tape q_t_in_kinds q_t_in_places q_t_in_values q_t_in_words q_t_burgh_clockName q_t_burgh_clockCorner q_t_burgh_clockAhead q_t_burgh_clockGain q_t_burgh_masterName q_t_burgh_masterCorner q_t_burgh_masterLate q_t_burgh_masterClock q_t_burgh_masterMeets q_t_burgh_meetName q_t_burgh_meetDue t_lines t_judged t_why t_good t_minuteThen t_outThen t_in_kind t_in_place t_in_value t_in_word t_in_fault t_in_faultPlace t_in_size t_in_taken t_in_kinds t_in_places t_in_values t_in_words t_burgh_clocks t_burgh_masters t_burgh_meets t_burgh_patience t_burgh_clockName t_verb t_who t_what) (wd_X0_readSets cy q_t q_t_in q_t_burgh q_t_verb q_t_who q_t_what q_t_in_tape q_t_in_kinds q_t_in_places q_t_in_values q_t_in_words q_t_burgh_clockName q_t_burgh_clockCorner q_t_burgh_clockAhead q_t_burgh_clockGain q_t_burgh_masterName q_t_burgh_masterCorner q_t_burgh_masterLate q_t_burgh_masterClock q_t_burgh_masterMeets q_t_burgh_meetName q_t_burgh_meetDue t_lines t_judged t_why t_good t_minuteThen t_outThen r_t_in_kind r_t_in_place r_t_in_value r_t_in_word r_t_in_fault r_t_in_faultPlace t_in_size r_t_in_taken t_in_kinds t_in_places t_in_values t_in_words t_burgh_clocks t_burgh_masters t_burgh_meets t_burgh_patience t_burgh_clockName r_t_verb r_t_who r_t_what) (some (.int r)) 0 0 := by
  refine z_body (cc := cX0_readSets) (maxL := 3) (ret := some .boolean) (by decide) rfl (Nat.le_of_ble_eq_true rfl) ?_
  intro p e s m below meth c ls S hr hlocks hnm hF hH hl
  have S : CallFix p m c cX0_readSets 3 s ([.ref q_t, .int x0] : List Value).toArray wsX0_readSets RX0 := S
  obtain ⟨hx, hb, hml, hown, hts⟩ := id S
  have hl : lv_has ls 3 [(0, .ref q_t), (1, .int x0)] := hl
  rw [f_X0_readSets] at h
  refine lv_aload_n hx hb dX0_readSets_0 rfl (lv_at hl 0 rfl) ?_
  refine z_get S hF hH iX0_readSets_X0 0 rfl rfl 0 (by decide) (List.mem_of_getElem? (i := 1) rfl) rfl dX0_readSets_1 ?_
  refine lv_bipush (v := 9) hx hb dX0_readSets_4 (by decide) ?_
  obtain ⟨z6, hz6, h⟩ := zcl_e h
  refine z_callV (As := [.int 9]) (rest := []) (st1 := [.int z6]) (ws' := (wd_X0_readSets cy q_t q_t_in q_t_burgh q_t_verb q_t_who q_t_what q_t_in_tape q_t_in_kinds q_t_in_places q_t_in_values q_t_in_words q_t_burgh_clockName q_t_burgh_clockCorner q_t_burgh_clockAhead q_t_burgh_clockGain q_t_burgh_masterName q_t_burgh_masterCorner q_t_burgh_masterLate q_t_burgh_masterClock q_t_burgh_masterMeets q_t_burgh_meetName q_t_burgh_meetDue t_lines t_judged t_why t_good t_minuteThen t_outThen t_in_kind t_in_place t_in_value t_in_word t_in_fault t_in_faultPlace t_in_size t_in_taken t_in_kinds t_in_places t_in_values t_in_words t_burgh_clocks t_burgh_masters t_burgh_meets t_burgh_patience t_burgh_clockName t_verb t_who t_what)) S hF hH (c_X8_isKeyword l G cy E N q_t_in q_t_in_tape q_t_in_kinds q_t_in_places q_t_in_values q_t_in_words t_in_kind t_in_place t_in_value t_in_word t_in_fault t_in_faultPlace t_in_size t_in_taken 9 z6 hz6) (cwV 1 hts gX0_readSets_X8_isKeyword rfl rfl rfl (by decide +kernel) ⟨Nat.le_of_ble_eq_true rfl, Nat.le_of_ble_eq_true rfl⟩) 9 0 rfl rfl [1] rfl (by decide) rfl rfl rfl rfl rfl hl.1 (Nat.le_of_ble_eq_true rfl) dX0_readSets_6 ⟨Nat.le_of_ble_eq_true rfl, Nat.le_of_ble_eq_true rfl⟩ (fun H locs hH => ?_)
  refine lv_if_ne (tgt := 21) hx hb dX0_readSets_9 (by decide) (fun b9 => ?_) (fun b9 => ?_)
  · replace h := zif_f b9 h
    refine lv_aload_n hx hb dX0_readSets_21 rfl (lv_at hl 0 rfl) ?_
    refine z_get S hF hH iX0_readSets_X0 0 rfl rfl 0 (by decide) (List.mem_of_getElem? (i := 1) rfl) rfl dX0_readSets_22 ?_
    obtain ⟨z25, hz25, h⟩ := zcl_e h
    refine z_callV (As := []) (rest := []) (st1 := []) (ws' := (wd_X0_readSets cy q_t q_t_in q_t_burgh q_t_verb q_t_who q_t_what q_t_in_tape q_t_in_kinds q_t_in_places q_t_in_values q_t_in_words q_t_burgh_clockName q_t_burgh_clockCorner q_t_burgh_clockAhead q_t_burgh_clockGain q_t_burgh_masterName q_t_burgh_masterCorner q_t_burgh_masterLate q_t_burgh_masterClock q_t_burgh_masterMeets q_t_burgh_meetName q_t_burgh_meetDue t_lines t_judged t_why t_good t_minuteThen t_outThen z25.1 z25.2.1 z25.2.2.1 z25.2.2.2.1 t_in_fault t_in_faultPlace t_in_size z25.2.2.2.2 t_in_kinds t_in_places t_in_values t_in_words t_burgh_clocks t_burgh_masters t_burgh_meets t_burgh_patience t_burgh_clockName t_verb t_who t_what)) S hF hH (c_X8_advance l G cy E N q_t_in q_t_in_tape q_t_in_kinds q_t_in_places q_t_in_values q_t_in_words t_in_kind t_in_place t_in_value t_in_word t_in_fault t_in_faultPlace t_in_size t_in_taken t_in_kinds t_in_places t_in_values t_in_words z25.1 z25.2.1 z25.2.2.1 z25.2.2.2.1 z25.2.2.2.2 hz25) (cwV 0 hts gX0_readSets_X8_advance rfl rfl rfl (by decide +kernel) ⟨Nat.le_of_ble_eq_true rfl, Nat.le_of_ble_eq_true rfl⟩) 9 0 rfl rfl [1, 2, 3, 4, 5] rfl (by decide) rfl rfl rfl rfl rfl hl.1 (Nat.le_of_ble_eq_true rfl) dX0_readSets_25 ⟨Nat.le_of_ble_eq_true rfl, Nat.le_of_ble_eq_true rfl⟩ (fun H locs hH => ?_)
    refine lv_aload_n hx hb dX0_readSets_28 rfl (lv_at hl 0 rfl) ?_
    refine z_get S hF hH iX0_readSets_X0 0 rfl rfl 0 (by decide) (List.mem_of_getElem? (i := 1) rfl) rfl dX0_readSets_29 ?_
    refine lv_aload_n hx hb dX0_readSets_32 rfl (lv_at hl 0 rfl) ?_
    refine z_get S hF hH iX0_readSets_X0 0 rfl rfl 1 (by decide) (List.mem_of_getElem? (i := 2) rfl) rfl dX0_readSets_33 ?_
    refine z_get S hF hH iX0_readSets_X1 6 rfl rfl 4 (by decide) (List.mem_of_getElem? (i := 3) rfl) rfl dX0_readSets_36 ?_
    refine lv_aload_n hx hb dX0_readSets_39 rfl (lv_at hl 0 rfl) ?_
    refine z_get S hF hH iX0_readSets_X0 0 rfl rfl 1 (by decide) (List.mem_of_getElem? (i := 2) rfl) rfl dX0_readSets_40 ?_
    refine z_get S hF hH iX0_readSets_X1 6 rfl rfl 0 (by decide) (List.mem_of_getElem? (i := 4) rfl) rfl dX0_readSets_43 ?_
    obtain ⟨z46, hz46, h⟩ := zcl_e h
    refine z_callV (As := [.ref q_t_burgh_clockName, .int t_burgh_clocks]) (rest := []) (st1 := [.int z46.1]) (ws' := (wd_X0_readSets cy q_t q_t_in q_t_burgh q_t_verb q_t_who q_t_what q_t_in_tape q_t_in_kinds q_t_in_places q_t_in_values q_t_in_words q_t_burgh_clockName q_t_burgh_clockCorner q_t_burgh_clockAhead q_t_burgh_clockGain q_t_burgh_masterName q_t_burgh_masterCorner q_t_burgh_masterLate q_t_burgh_masterClock q_t_burgh_masterMeets q_t_burgh_meetName q_t_burgh_meetDue t_lines t_judged t_why t_good t_minuteThen t_outThen z25.1 z25.2.1 z25.2.2.1 z25.2.2.2.1 z46.2.1 z46.2.2 t_in_size z25.2.2.2.2 t_in_kinds t_in_places t_in_values t_in_words t_burgh_clocks t_burgh_masters t_burgh_meets t_burgh_patience t_burgh_clockName t_verb t_who t_what)) S hF hH (c_X8_findName l G cy E N q_t_in q_t_burgh_clockName q_t_in_tape q_t_in_kinds q_t_in_places q_t_in_values q_t_in_words z25.1 z25.2.1 z25.2.2.1 z25.2.2.2.1 t_in_fault t_in_faultPlace t_in_size z25.2.2.2.2 t_burgh_clockName t_burgh_clocks z46.1 z46.2.1 z46.2.2 hz46) (cwV 2 hts gX0_readSets_X8_findName rfl rfl rfl (by decide +kernel) ⟨Nat.le_of_ble_eq_true rfl, Nat.le_of_ble_eq_true rfl⟩) 9 0 rfl rfl [1, 7] rfl (by decide) rfl rfl rfl rfl rfl hl.1 (Nat.le_of_ble_eq_true rfl) dX0_readSets_46 ⟨Nat.le_of_ble_eq_true rfl, Nat.le_of_ble_eq_true rfl⟩ (fun H locs hH => ?_)
    refine lv_istore_n (lv' := [(2, .int z46.1), (0, .ref q_t), (1, .int x0)]) hx hb dX0_readSets_49 rfl hl (by decide) rfl (fun ls hl => ?_)
    refine lv_aload_n hx hb dX0_readSets_50 rfl (lv_at hl 1 rfl) ?_
    refine z_get S hF hH iX0_readSets_X0 0 rfl rfl 0 (by decide) (List.mem_of_getElem? (i := 1) rfl) rfl dX0_readSets_51 ?_
    obtain ⟨z54, hz54, h⟩ := zcl_e h
    refine z_callV (As := []) (rest := []) (st1 := []) (ws' := (wd_X0_readSets cy q_t q_t_in q_t_burgh q_t_verb q_t_who q_t_what q_t_in_tape q_t_in_kinds q_t_in_places q_t_in_values q_t_in_words q_t_burgh_clockName q_t_burgh_clockCorner q_t_burgh_clockAhead q_t_burgh_clockGain q_t_burgh_masterName q_t_burgh_masterCorner q_t_burgh_masterLate q_t_burgh_masterClock q_t_burgh_masterMeets q_t_burgh_meetName q_t_burgh_meetDue t_lines t_judged t_why t_good t_minuteThen t_outThen z54.1 z54.2.1 z54.2.2.1 z54.2.2.2.1 z46.2.1 z46.2.2 t_in_size z54.2.2.2.2 t_in_kinds t_in_places t_in_values t_in_words t_burgh_clocks t_burgh_masters t_burgh_meets t_burgh_patience t_burgh_clockName t_verb t_who t_what)) S hF hH (c_X8_advance l G cy E N q_t_in q_t_in_tape q_t_in_kinds q_t_in_places q_t_in_values q_t_in_words z25.1 z25.2.1 z25.2.2.1 z25.2.2.2.1 z46.2.1 z46.2.2 t_in_size z25.2.2.2.2 t_in_kinds t_in_places t_in_values t_in_words z54.1 z54.2.1 z54.2.2.1 z54.2.2.2.1 z54.2.2.2.2 hz54) (cwV 0 hts gX0_readSets_X8_advance rfl rfl rfl (by decide +kernel) ⟨Nat.le_of_ble_eq_true rfl, Nat.le_of_ble_eq_true rfl⟩) 9 0 rfl rfl [1, 2, 3, 4, 5] rfl (by decide) rfl rfl rfl rfl rfl hl.1 (Nat.le_of_ble_eq_true rfl) dX0_readSets_54 ⟨Nat.le_of_ble_eq_true rfl, Nat.le_of_ble_eq_true rfl⟩ (fun H locs hH => ?_)
    refine lv_iload_n hx hb dX0_readSets_57 rfl (lv_at hl 0 rfl) ?_
    refine lv_iconst (v := (-1)) hx hb dX0_readSets_58 (by decide) ?_
    refine lv_icmp_eq (tgt := 77) hx hb dX0_readSets_59 (by decide) (fun b59 => ?_) (fun b59 => ?_)
    · replace h := zif_t b59 h
      refine lv_iconst (v := 0) hx hb dX0_readSets_77 (by decide) ?_
      cases h
      exact z_zret S hr hlocks hH rfl dX0_readSets_78
    · replace h := zif_f b59 h
      refine lv_aload_n hx hb dX0_readSets_62 rfl (lv_at hl 1 rfl) ?_
      refine lv_bipush (v := 9) hx hb dX0_readSets_63 (by decide) ?_
      refine lv_iload_n hx hb dX0_readSets_65 rfl (lv_at hl 2 rfl) ?_
      refine lv_iload_n hx hb dX0_readSets_66 rfl (lv_at hl 0 rfl) ?_
      obtain ⟨z67, hz67, h⟩ := zcl_e h
      refine z_callV (As := [.int 9, .int x0, .int z46.1]) (rest := []) (st1 := [.int z67.1]) (ws' := (wd_X0_readSets cy q_t q_t_in q_t_burgh q_t_verb q_t_who q_t_what q_t_in_tape q_t_in_kinds q_t_in_places q_t_in_values q_t_in_words q_t_burgh_clockName q_t_burgh_clockCorner q_t_burgh_clockAhead q_t_burgh_clockGain q_t_burgh_masterName q_t_burgh_masterCorner q_t_burgh_masterLate q_t_burgh_masterClock q_t_burgh_masterMeets q_t_burgh_meetName q_t_burgh_meetDue t_lines t_judged t_why t_good t_minuteThen t_outThen z54.1 z54.2.1 z54.2.2.1 z54.2.2.2.1 z46.2.1 z46.2.2 t_in_size z54.2.2.2.2 t_in_kinds t_in_places t_in_values t_in_words t_burgh_clocks t_burgh_masters t_burgh_meets t_burgh_patience t_burgh_clockName z67.2.1 z67.2.2.1 z67.2.2.2)) S hF hH (c_X0_write l G cy E N q_t q_t_in q_t_burgh q_t_verb q_t_who q_t_what t_lines t_judged t_why t_good t_minuteThen t_outThen t_verb t_who t_what 9 x0 z46.1 z67.1 z67.2.1 z67.2.2.1 z67.2.2.2 hz67) (cwV 3 hts gX0_readSets_X0_write rfl rfl rfl (by decide +kernel) ⟨Nat.le_of_ble_eq_true rfl, Nat.le_of_ble_eq_true rfl⟩) 1 0 rfl rfl [0, 8, 9, 10] rfl (by decide) rfl rfl rfl rfl rfl hl.1 (Nat.le_of_ble_eq_true rfl) dX0_readSets_67 ⟨Nat.le_of_ble_eq_true rfl, Nat.le_of_ble_eq_true rfl⟩ (fun H locs hH => ?_)
      refine lv_if_eq (tgt := 77) hx hb dX0_readSets_70 (by decide) (fun b70 => ?_) (fun b70 => ?_)
      · replace h := zif_t b70 h
        refine lv_iconst (v := 0) hx hb dX0_readSets_77 (by decide) ?_
        cases h
        exact z_zret S hr hlocks hH rfl dX0_readSets_78
      · replace h := zif_f b70 h
        refine lv_iconst (v := 1) hx hb dX0_readSets_73 (by decide) ?_
        refine lv_goto (tgt := 78) hx hb dX0_readSets_74 (by decide) ?_
        cases h
        exact z_zret S hr hlocks hH rfl dX0_readSets_78
  · replace h := zif_t b9 h
    refine lv_aload_n hx hb dX0_readSets_12 rfl (lv_at hl 0 rfl) ?_
    refine z_get S hF hH iX0_readSets_X0 0 rfl rfl 0 (by decide) (List.mem_of_getElem? (i := 1) rfl) rfl dX0_readSets_13 ?_
    refine lv_iconst (v := 1) hx hb dX0_readSets_16 (by decide) ?_
    obtain ⟨z17, hz17, h⟩ := zcl_e h
    refine z_callV (As := [.int 1]) (rest := []) (st1 := [.int z17.1]) (ws' := (wd_X0_readSets cy q_t q_t_in q_t_burgh q_t_verb q_t_who q_t_what q_t_in_tape q_t_in_kinds q_t_in_places q_t_in_values q_t_in_words q_t_burgh_clockName q_t_burgh_clockCorner q_t_burgh_clockAhead q_t_burgh_clockGain q_t_burgh_masterName q_t_burgh_masterCorner q_t_burgh_masterLate q_t_burgh_masterClock q_t_burgh_masterMeets q_t_burgh_meetName q_t_burgh_meetDue t_lines t_judged t_why t_good t_minuteThen t_outThen t_in_kind t_in_place t_in_value t_in_word z17.2.1 z17.2.2 t_in_size t_in_taken t_in_kinds t_in_places t_in_values t_in_words t_burgh_clocks t_burgh_masters t_burgh_meets t_burgh_patience t_burgh_clockName t_verb t_who t_what)) S hF hH (c_X8_refuse l G cy E N q_t_in q_t_in_tape q_t_in_kinds q_t_in_places q_t_in_values q_t_in_words t_in_kind t_in_place t_in_value t_in_word t_in_fault t_in_faultPlace t_in_size t_in_taken 1 z17.1 z17.2.1 z17.2.2 hz17) (cwV 1 hts gX0_readSets_X8_refuse rfl rfl rfl (by decide +kernel) ⟨Nat.le_of_ble_eq_true rfl, Nat.le_of_ble_eq_true rfl⟩) 9 0 rfl rfl [1] rfl (by decide) rfl rfl rfl rfl rfl hl.1 (Nat.le_of_ble_eq_true rfl) dX0_readSets_17 ⟨Nat.le_of_ble_eq_true rfl, Nat.le_of_ble_eq_true rfl⟩ (fun H locs hH => ?_)
    obtain ⟨h20, h⟩ := zck_e h
    cases h
    exact z_zret S hr hlocks hH h20 dX0_readSets_20
abbrev wd_X0_readLine (cy : Nat → ClassId) (q_t q_t_in q_t_burgh q_t_verb q_t_who q_t_what q_t_in_tape q_t_in_kinds q_t_in_places q_t_in_values q_t_in_words q_t_burgh_clockName q_t_burgh_clockCorner q_t_burgh_clockAhead q_t_burgh_clockGain q_t_burgh_masterName q_t_burgh_masterCorner q_t_burgh_masterLate q_t_burgh_masterClock q_t_burgh_masterMeets q_t_burgh_meetName q_t_burgh_meetDue : Nat) (t_lines : Int32) (t_judged : Int32) (t_why : Int32) (t_good : Int32) (t_minuteThen : Int32) (t_outThen : Int32) (t_in_kind : Int32) (t_in_place : Int32) (t_in_value : Int32) (t_in_word : Int64) (t_in_fault : Int32) (t_in_faultPlace : Int32) (t_in_size : Int32) (t_in_taken : Int32) (t_burgh_clocks : Int32) (t_burgh_masters : Int32) (t_burgh_meets : Int32) (t_burgh_patience : Int32) (t_burgh_masterName : Nat → Int64) (t_in_kinds : Nat → Int32) (t_in_places : Nat → Int32) (t_in_values : Nat → Int32) (t_in_words : Nat → Int64) (t_verb : Nat → Int32) (t_who : Nat → Int32) (t_what : Nat → Int32) (t_burgh_meetName : Nat → Int64) (t_burgh_clockName : Nat → Int64) : va_W := [(q_t, .inr (1, [.ref q_t_in, .ref q_t_burgh, .int t_lines, .ref q_t_verb, .ref q_t_who, .ref q_t_what, .int t_judged, .int t_why, .int t_good, .int t_minuteThen, .int t_outThen])), (q_t_in, .inr (9, [.int t_in_kind, .int t_in_place, .int t_in_value, .long t_in_word, .int t_in_fault, .int t_in_faultPlace, .ref q_t_in_tape, .int t_in_size, .int t_in_taken, .ref q_t_in_kinds, .ref q_t_in_places, .ref q_t_in_values, .ref q_t_in_words])), (q_t_burgh, .inr (2, [.int t_burgh_clocks, .int t_burgh_masters, .int t_burgh_meets, .int t_burgh_patience, .ref q_t_burgh_clockName, .ref q_t_burgh_clockCorner, .ref q_t_burgh_clockAhead, .ref q_t_burgh_clockGain, .ref q_t_burgh_masterName, .ref q_t_burgh_masterCorner, .ref q_t_burgh_masterLate, .ref q_t_burgh_masterClock, .ref q_t_burgh_masterMeets, .ref q_t_burgh_meetName, .ref q_t_burgh_meetDue])), (q_t_burgh_masterName, .inl (cy 2, 6, .inr (.inl t_burgh_masterName))), (q_t_in_kinds, .inl (cy 1, 901, .inl t_in_kinds)), (q_t_in_places, .inl (cy 1, 901, .inl t_in_places)), (q_t_in_values, .inl (cy 1, 901, .inl t_in_values)), (q_t_in_words, .inl (cy 2, 901, .inr (.inl t_in_words))), (q_t_verb, .inl (cy 1, 40, .inl t_verb)), (q_t_who, .inl (cy 1, 40, .inl t_who)), (q_t_what, .inl (cy 1, 40, .inl t_what)), (q_t_burgh_meetName, .inl (cy 2, 6, .inr (.inl t_burgh_meetName))), (q_t_burgh_clockName, .inl (cy 2, 6, .inr (.inl t_burgh_clockName)))]
theorem iX0_readLine_X0 : ∀ w ∈ wsX00, w ∈ wsX0_readLine := fun _ h => List.mem_cons_of_mem _ (List.mem_append_left _ (List.mem_append_left _ (List.mem_append_right _ h)))
theorem iX0_readLine_X1 : ∀ w ∈ wsX10, w ∈ wsX0_readLine := fun _ h => List.mem_cons_of_mem _ (List.mem_append_right _ h)
theorem iX0_readLine_X8 : ∀ w ∈ wsX80, w ∈ wsX0_readLine := fun _ h => List.mem_cons_of_mem _ (List.mem_append_left _ (List.mem_append_right _ h))
abbrev rm_X0_readLine : Room := { frames := 3, cells := 0, slots := 0, locals := 70 }
set_option maxRecDepth 100000 in
def f_X0_readLine_77 (N : Nat) (t_lines : Int32) (t_in_size : Int32) (t_burgh_clocks : Int32) (t_burgh_masters : Int32) (t_burgh_meets : Int32) (t_burgh_masterName : Nat → Int64) (t_in_kinds : Nat → Int32) (t_in_places : Nat → Int32) (t_in_values : Nat → Int32) (t_in_words : Nat → Int64) (t_burgh_meetName : Nat → Int64) (t_burgh_clockName : Nat → Int64) (c_t_in_kind : Int32) (c_t_in_place : Int32) (c_t_in_value : Int32) (c_t_in_word : Int64) (c_t_in_fault : Int32) (c_t_in_faultPlace : Int32) (c_t_in_taken : Int32) (c_t_verb : Nat → Int32) (c_t_who : Nat → Int32) (c_t_what : Nat → Int32) : Option (Int32 × Int32 × Int32 × Int32 × Int64 × Int32 × Int32 × Int32 × (Nat → Int32) × (Nat → Int32) × (Nat → Int32)) := zcl (f_X8_refuse N 1 c_t_in_place c_t_in_fault c_t_in_faultPlace) fun z82 => zck (zbo z82.1) <| some (z82.1, c_t_in_kind, c_t_in_place, c_t_in_value, c_t_in_word, z82.2.1, z82.2.2, c_t_in_taken, c_t_verb, c_t_who, c_t_what)
set_option maxRecDepth 100000 in
def f_X0_readLine_86 (N : Nat) (t_lines : Int32) (t_in_size : Int32) (t_burgh_clocks : Int32) (t_burgh_masters : Int32) (t_burgh_meets : Int32) (t_burgh_masterName : Nat → Int64) (t_in_kinds : Nat → Int32) (t_in_places : Nat → Int32) (t_in_values : Nat → Int32) (t_in_words : Nat → Int64) (t_burgh_meetName : Nat → Int64) (t_burgh_clockName : Nat → Int64) (x1 : Int32) (c_t_in_kind : Int32) (c_t_in_place : Int32) (c_t_in_value : Int32) (c_t_in_word : Int64) (c_t_in_fault : Int32) (c_t_in_faultPlace : Int32) (c_t_in_taken : Int32) (c_t_verb : Nat → Int32) (c_t_who : Nat → Int32) (c_t_what : Nat → Int32) : Option (Int32 × Int32 × Int32 × Int32 × Int64 × Int32 × Int32 × Int32 × (Nat → Int32) × (Nat → Int32) × (Nat → Int32)) := if t_lines < 40 then (zcl (f_X8_advance N c_t_in_kind c_t_in_place c_t_in_value c_t_in_word t_in_size c_t_in_taken t_in_kinds t_in_places t_in_values t_in_words) fun z116 => if x1 = (-1) then (zcl (f_X0_readAct N c_t_in_value t_lines z116.1 z116.2.1 z116.2.2.1 z116.2.2.2.1 c_t_in_fault c_t_in_faultPlace t_in_size z116.2.2.2.2 t_in_kinds t_in_places t_in_values t_in_words c_t_verb c_t_who c_t_what t_burgh_clocks t_burgh_meets t_burgh_meetName t_burgh_clockName) fun z126 => zck (zbo z126.1) <| some (z126.1, z126.2.1, z126.2.2.1, z126.2.2.2.1, z126.2.2.2.2.1, z126.2.2.2.2.2.1, z126.2.2.2.2.2.2.1, z126.2.2.2.2.2.2.2.1, z126.2.2.2.2.2.2.2.2.1, z126.2.2.2.2.2.2.2.2.2.1, z126.2.2.2.2.2.2.2.2.2.2)) else (zcl (f_X0_readSets N x1 t_lines z116.1 z116.2.1 z116.2.2.1 z116.2.2.2.1 c_t_in_fault c_t_in_faultPlace t_in_size z116.2.2.2.2 t_in_kinds t_in_places t_in_values t_in_words t_burgh_clocks t_burgh_clockName c_t_verb c_t_who c_t_what) fun z134 => zck (zbo z134.1) <| some (z134.1, z134.2.1, z134.2.2.1, z134.2.2.2.1, z134.2.2.2.2.1, z134.2.2.2.2.2.1, z134.2.2.2.2.2.2.1, z134.2.2.2.2.2.2.2.1, z134.2.2.2.2.2.2.2.2.1, z134.2.2.2.2.2.2.2.2.2.1, z134.2.2.2.2.2.2.2.2.2.2))) else (zcl (f_X8_refuse N 4 c_t_in_place c_t_in_fault c_t_in_faultPlace) fun z100 => zck (zbo z100.1) <| some (z100.1, c_t_in_kind, c_t_in_place, c_t_in_value, c_t_in_word, z100.2.1, z100.2.2, c_t_in_taken, c_t_verb, c_t_who, c_t_what))
set_option maxRecDepth 100000 in
def f_X0_readLine (N : Nat) (t_lines : Int32) (t_in_kind : Int32) (t_in_place : Int32) (t_in_value : Int32) (t_in_word : Int64) (t_in_fault : Int32) (t_in_faultPlace : Int32) (t_in_size : Int32) (t_in_taken : Int32) (t_burgh_clocks : Int32) (t_burgh_masters : Int32) (t_burgh_meets : Int32) (t_burgh_masterName : Nat → Int64) (t_in_kinds : Nat → Int32) (t_in_places : Nat → Int32) (t_in_values : Nat → Int32) (t_in_words : Nat → Int64) (t_verb : Nat → Int32) (t_who : Nat → Int32) (t_what : Nat → Int32) (t_burgh_meetName : Nat → Int64) (t_burgh_clockName : Nat → Int64) : Option (Int32 × Int32 × Int32 × Int32 × Int64 × Int32 × Int32 × Int32 × (Nat → Int32) × (Nat → Int32) × (Nat → Int32)) := if t_in_kind = 2 then (zcl (f_X8_findName N t_burgh_masters t_in_kind t_in_place t_in_word t_in_fault t_in_faultPlace t_burgh_masterName) fun z31 => if z31.1 = (-1) then (some (0, t_in_kind, t_in_place, t_in_value, t_in_word, z31.2.1, z31.2.2, t_in_taken, t_verb, t_who, t_what)) else (f_X0_readLine_86 N t_lines t_in_size t_burgh_clocks t_burgh_masters t_burgh_meets t_burgh_masterName t_in_kinds t_in_places t_in_values t_in_words t_burgh_meetName t_burgh_clockName z31.1 t_in_kind t_in_place t_in_value t_in_word z31.2.1 z31.2.2 t_in_taken t_verb t_who t_what)) else (if t_in_kind = 3 then (if t_in_value < 10 then (f_X0_readLine_77 N t_lines t_in_size t_burgh_clocks t_burgh_masters t_burgh_meets t_burgh_masterName t_in_kinds t_in_places t_in_values t_in_words t_burgh_meetName t_burgh_clockName t_in_kind t_in_place t_in_value t_in_word t_in_fault t_in_faultPlace t_in_taken t_verb t_who t_what) else (if t_in_value ≤ 13 then (f_X0_readLine_86 N t_lines t_in_size t_burgh_clocks t_burgh_masters t_burgh_meets t_burgh_masterName t_in_kinds t_in_places t_in_values t_in_words t_burgh_meetName t_burgh_clockName (-1) t_in_kind t_in_place t_in_value t_in_word t_in_fault t_in_faultPlace t_in_taken t_verb t_who t_what) else (f_X0_readLine_77 N t_lines t_in_size t_burgh_clocks t_burgh_masters t_burgh_meets t_burgh_masterName t_in_kinds t_in_places t_in_values t_in_words t_burgh_meetName t_burgh_clockName t_in_kind t_in_place t_in_value t_in_word t_in_fault t_in_faultPlace t_in_taken t_verb t_who t_what))) else (f_X0_readLine_77 N t_lines t_in_size t_burgh_clocks t_burgh_masters t_burgh_meets t_burgh_masterName t_in_kinds t_in_places t_in_values t_in_words t_burgh_meetName t_burgh_clockName t_in_kind t_in_place t_in_value t_in_word t_in_fault t_in_faultPlace t_in_taken t_verb t_who t_what))
set_option maxHeartbeats 4000000 in
set_option maxRecDepth 100000 in
theorem w_X0_readLine_77 {p : Program} {l : Launch} {e : Env} {s : State} {m : MethodId} {args : Array Value} {below : List Frame} {meth : Method} {c : Code} {G : va_G} {cy : Nat → ClassId} {E : Nat → Nat} {w0 : va_W} {N : Nat} {q_t q_t_in q_t_burgh q_t_verb q_t_who q_t_what q_t_in_tape q_t_in_kinds q_t_in_places q_t_in_values q_t_in_words q_t_burgh_clockName q_t_burgh_clockCorner q_t_burgh_clockAhead q_t_burgh_clockGain q_t_burgh_masterName q_t_burgh_masterCorner q_t_burgh_masterLate q_t_burgh_masterClock q_t_burgh_masterMeets q_t_burgh_meetName q_t_burgh_meetDue : Nat} {t_lines : Int32} {t_judged : Int32} {t_why : Int32} {t_good : Int32} {t_minuteThen : Int32} {t_outThen : Int32} {t_in_size : Int32} {t_burgh_clocks : Int32} {t_burgh_masters : Int32} {t_burgh_meets : Int32} {t_burgh_patience : Int32} {t_burgh_masterName : Nat → Int64} {t_in_kinds : Nat → Int32} {t_in_places : Nat → Int32} {t_in_values : Nat → Int32} {t_in_words : Nat → Int64} {t_burgh_meetName : Nat → Int64} {t_burgh_clockName : Nat → Int64} {r : Int32} {r_t_in_kind : Int32} {r_t_in_place : Int32} {r_t_in_value : Int32} {r_t_in_word : Int64} {r_t_in_fault : Int32} {r_t_in_faultPlace : Int32} {r_t_in_taken : Int32} {r_t_verb : Nat → Int32} {r_t_who : Nat → Int32} {r_t_what : Nat → Int32} (S : CallFix p m c cX0_readLine 3 s args wsX0_readLine RX0) (hr : meth.sig.returnType = some .boolean) (hlocks : meth.locks = false) (hF : zF G cy E (va_A w0 s.heap.size) s) :
    ∀ (c_t_in_kind : Int32) (c_t_in_place : Int32) (c_t_in_value : Int32) (c_t_in_word : Int64) (c_t_in_fault : Int32) (c_t_in_faultPlace : Int32) (c_t_in_taken : Int32) (c_t_verb : Nat → Int32) (c_t_who : Nat → Int32) (c_t_what : Nat → Int32) (H : Heap) (locs : List Loc) (ls : Array Slot), zH G (va_A w0 s.heap.size) s H locs (wd_X0_readLine cy q_t q_t_in q_t_burgh q_t_verb q_t_who q_t_what q_t_in_tape q_t_in_kinds q_t_in_places q_t_in_values q_t_in_words q_t_burgh_clockName q_t_burgh_clockCorner q_t_burgh_clockAhead q_t_burgh_clockGain q_t_burgh_masterName q_t_burgh_masterCorner q_t_burgh_masterLate q_t_burgh_masterClock q_t_burgh_masterMeets q_t_burgh_meetName q_t_burgh_meetDue t_lines t_judged t_why t_good t_minuteThen t_outThen c_t_in_kind c_t_in_place c_t_in_value c_t_in_word c_t_in_fault c_t_in_faultPlace t_in_size c_t_in_taken t_burgh_clocks t_burgh_masters t_burgh_meets t_burgh_patience t_burgh_masterName t_in_kinds t_in_places t_in_values t_in_words c_t_verb c_t_who c_t_what t_burgh_meetName t_burgh_clockName) → lv_has ls 3 [(0, .ref q_t)] → f_X0_readLine_77 N t_lines t_in_size t_burgh_clocks t_burgh_masters t_burgh_meets t_burgh_masterName t_in_kinds t_in_places t_in_values t_in_words t_burgh_meetName t_burgh_clockName c_t_in_kind c_t_in_place c_t_in_value c_t_in_word c_t_in_fault c_t_in_faultPlace c_t_in_taken c_t_verb c_t_who c_t_what = some (r, r_t_in_kind, r_t_in_place, r_t_in_value, r_t_in_word, r_t_in_fault, r_t_in_faultPlace, r_t_in_taken, r_t_verb, r_t_who, r_t_what) → W p l e rm_X0_readLine s m args below meth c H locs 0 0 (MQ below (zQ G w0 (wd_X0_readLine cy q_t q_t_in q_t_burgh q_t_verb q_t_who q_t_what q_t_in_tape q_t_in_kinds q_t_in_places q_t_in_values q_t_in_words q_t_burgh_clockName q_t_burgh_clockCorner q_t_burgh_clockAhead q_t_burgh_clockGain q_t_burgh_masterName q_t_burgh_masterCorner q_t_burgh_masterLate q_t_burgh_masterClock q_t_burgh_masterMeets q_t_burgh_meetName q_t_burgh_meetDue t_lines t_judged t_why t_good t_minuteThen t_outThen r_t_in_kind r_t_in_place r_t_in_value r_t_in_word r_t_in_fault r_t_in_faultPlace t_in_size r_t_in_taken t_burgh_clocks t_burgh_masters t_burgh_meets t_burgh_patience t_burgh_masterName t_in_kinds t_in_places t_in_values t_in_words r_t_verb r_t_who r_t_what t_burgh_meetName t_burgh_clockName) s.heap.size (some (.int r))) args s 0 0 (va_A w0 s.heap.size)) (F0 m 77 ls []) := by
  obtain ⟨hx, hb, hml, hown, hts⟩ := id S
  intro c_t_in_kind c_t_in_place c_t_in_value c_t_in_word c_t_in_fault c_t_in_faultPlace c_t_in_taken c_t_verb c_t_who c_t_what H locs ls hH hl h
  rw [f_X0_readLine_77] at h
  refine lv_aload_n hx hb dX0_readLine_77 rfl (lv_at hl 0 rfl) ?_
  refine z_get S hF hH iX0_readLine_X0 0 rfl rfl 0 (by decide) (List.mem_of_getElem? (i := 1) rfl) rfl dX0_readLine_78 ?_
  refine lv_iconst (v := 1) hx hb dX0_readLine_81 (by decide) ?_
  obtain ⟨z82, hz82, h⟩ := zcl_e h
  refine z_callV (As := [.int 1]) (rest := []) (st1 := [.int z82.1]) (ws' := (wd_X0_readLine cy q_t q_t_in q_t_burgh q_t_verb q_t_who q_t_what q_t_in_tape q_t_in_kinds q_t_in_places q_t_in_values q_t_in_words q_t_burgh_clockName q_t_burgh_clockCorner q_t_burgh_clockAhead q_t_burgh_clockGain q_t_burgh_masterName q_t_burgh_masterCorner q_t_burgh_masterLate q_t_burgh_masterClock q_t_burgh_masterMeets q_t_burgh_meetName q_t_burgh_meetDue t_lines t_judged t_why t_good t_minuteThen t_outThen c_t_in_kind c_t_in_place c_t_in_value c_t_in_word z82.2.1 z82.2.2 t_in_size c_t_in_taken t_burgh_clocks t_burgh_masters t_burgh_meets t_burgh_patience t_burgh_masterName t_in_kinds t_in_places t_in_values t_in_words c_t_verb c_t_who c_t_what t_burgh_meetName t_burgh_clockName)) S hF hH (c_X8_refuse l G cy E N q_t_in q_t_in_tape q_t_in_kinds q_t_in_places q_t_in_values q_t_in_words c_t_in_kind c_t_in_place c_t_in_value c_t_in_word c_t_in_fault c_t_in_faultPlace t_in_size c_t_in_taken 1 z82.1 z82.2.1 z82.2.2 hz82) (cwV 1 hts gX0_readLine_X8_refuse rfl rfl rfl (by decide +kernel) ⟨Nat.le_of_ble_eq_true rfl, Nat.le_of_ble_eq_true rfl⟩) 9 0 rfl rfl [1] rfl (by decide) rfl rfl rfl rfl rfl hl.1 (Nat.le_of_ble_eq_true rfl) dX0_readLine_82 ⟨Nat.le_of_ble_eq_true rfl, Nat.le_of_ble_eq_true rfl⟩ (fun H locs hH => ?_)
  obtain ⟨h85, h⟩ := zck_e h
  cases h
  exact z_zret S hr hlocks hH h85 dX0_readLine_85
set_option maxHeartbeats 4000000 in
set_option maxRecDepth 100000 in
theorem w_X0_readLine_86 {p : Program} {l : Launch} {e : Env} {s : State} {m : MethodId} {args : Array Value} {below : List Frame} {meth : Method} {c : Code} {G : va_G} {cy : Nat → ClassId} {E : Nat → Nat} {w0 : va_W} {N : Nat} {q_t q_t_in q_t_burgh q_t_verb q_t_who q_t_what q_t_in_tape q_t_in_kinds q_t_in_places q_t_in_values q_t_in_words q_t_burgh_clockName q_t_burgh_clockCorner q_t_burgh_clockAhead q_t_burgh_clockGain q_t_burgh_masterName q_t_burgh_masterCorner q_t_burgh_masterLate q_t_burgh_masterClock q_t_burgh_masterMeets q_t_burgh_meetName q_t_burgh_meetDue : Nat} {t_lines : Int32} {t_judged : Int32} {t_why : Int32} {t_good : Int32} {t_minuteThen : Int32} {t_outThen : Int32} {t_in_size : Int32} {t_burgh_clocks : Int32} {t_burgh_masters : Int32} {t_burgh_meets : Int32} {t_burgh_patience : Int32} {t_burgh_masterName : Nat → Int64} {t_in_kinds : Nat → Int32} {t_in_places : Nat → Int32} {t_in_values : Nat → Int32} {t_in_words : Nat → Int64} {t_burgh_meetName : Nat → Int64} {t_burgh_clockName : Nat → Int64} {r : Int32} {r_t_in_kind : Int32} {r_t_in_place : Int32} {r_t_in_value : Int32} {r_t_in_word : Int64} {r_t_in_fault : Int32} {r_t_in_faultPlace : Int32} {r_t_in_taken : Int32} {r_t_verb : Nat → Int32} {r_t_who : Nat → Int32} {r_t_what : Nat → Int32} (S : CallFix p m c cX0_readLine 3 s args wsX0_readLine RX0) (hr : meth.sig.returnType = some .boolean) (hlocks : meth.locks = false) (hF : zF G cy E (va_A w0 s.heap.size) s) :
    ∀ (x1 : Int32) (c_t_in_kind : Int32) (c_t_in_place : Int32) (c_t_in_value : Int32) (c_t_in_word : Int64) (c_t_in_fault : Int32) (c_t_in_faultPlace : Int32) (c_t_in_taken : Int32) (c_t_verb : Nat → Int32) (c_t_who : Nat → Int32) (c_t_what : Nat → Int32) (H : Heap) (locs : List Loc) (ls : Array Slot), zH G (va_A w0 s.heap.size) s H locs (wd_X0_readLine cy q_t q_t_in q_t_burgh q_t_verb q_t_who q_t_what q_t_in_tape q_t_in_kinds q_t_in_places q_t_in_values q_t_in_words q_t_burgh_clockName q_t_burgh_clockCorner q_t_burgh_clockAhead q_t_burgh_clockGain q_t_burgh_masterName q_t_burgh_masterCorner q_t_burgh_masterLate q_t_burgh_masterClock q_t_burgh_masterMeets q_t_burgh_meetName q_t_burgh_meetDue t_lines t_judged t_why t_good t_minuteThen t_outThen c_t_in_kind c_t_in_place c_t_in_value c_t_in_word c_t_in_fault c_t_in_faultPlace t_in_size c_t_in_taken t_burgh_clocks t_burgh_masters t_burgh_meets t_burgh_patience t_burgh_masterName t_in_kinds t_in_places t_in_values t_in_words c_t_verb c_t_who c_t_what t_burgh_meetName t_burgh_clockName) → lv_has ls 3 [(0, .ref q_t), (1, .int x1)] → f_X0_readLine_86 N t_lines t_in_size t_burgh_clocks t_burgh_masters t_burgh_meets t_burgh_masterName t_in_kinds t_in_places t_in_values t_in_words t_burgh_meetName t_burgh_clockName x1 c_t_in_kind c_t_in_place c_t_in_value c_t_in_word c_t_in_fault c_t_in_faultPlace c_t_in_taken c_t_verb c_t_who c_t_what = some (r, r_t_in_kind, r_t_in_place, r_t_in_value, r_t_in_word, r_t_in_fault, r_t_in_faultPlace, r_t_in_taken, r_t_verb, r_t_who, r_t_what) → W p l e rm_X0_readLine s m args below meth c H locs 0 0 (MQ below (zQ G w0 (wd_X0_readLine cy q_t q_t_in q_t_burgh q_t_verb q_t_who q_t_what q_t_in_tape q_t_in_kinds q_t_in_places q_t_in_values q_t_in_words q_t_burgh_clockName q_t_burgh_clockCorner q_t_burgh_clockAhead q_t_burgh_clockGain q_t_burgh_masterName q_t_burgh_masterCorner q_t_burgh_masterLate q_t_burgh_masterClock q_t_burgh_masterMeets q_t_burgh_meetName q_t_burgh_meetDue t_lines t_judged t_why t_good t_minuteThen t_outThen r_t_in_kind r_t_in_place r_t_in_value r_t_in_word r_t_in_fault r_t_in_faultPlace t_in_size r_t_in_taken t_burgh_clocks t_burgh_masters t_burgh_meets t_burgh_patience t_burgh_masterName t_in_kinds t_in_places t_in_values t_in_words r_t_verb r_t_who r_t_what t_burgh_meetName t_burgh_clockName) s.heap.size (some (.int r))) args s 0 0 (va_A w0 s.heap.size)) (F0 m 86 ls []) := by
  obtain ⟨hx, hb, hml, hown, hts⟩ := id S
  intro x1 c_t_in_kind c_t_in_place c_t_in_value c_t_in_word c_t_in_fault c_t_in_faultPlace c_t_in_taken c_t_verb c_t_who c_t_what H locs ls hH hl h
  rw [f_X0_readLine_86] at h
  refine lv_aload_n hx hb dX0_readLine_86 rfl (lv_at hl 0 rfl) ?_
  refine z_get S hF hH iX0_readLine_X0 0 rfl rfl 2 (by decide) (List.mem_of_getElem? (i := 7) rfl) rfl dX0_readLine_87 ?_
  refine lv_bipush (v := 40) hx hb dX0_readLine_90 (by decide) ?_
  refine lv_icmp_lt (tgt := 104) hx hb dX0_readLine_92 (by decide) (fun b92 => ?_) (fun b92 => ?_)
  · replace h := zif_t b92 h
    refine lv_aload_n hx hb dX0_readLine_104 rfl (lv_at hl 0 rfl) ?_
    refine z_get S hF hH iX0_readLine_X0 0 rfl rfl 0 (by decide) (List.mem_of_getElem? (i := 1) rfl) rfl dX0_readLine_105 ?_
    refine z_get S hF hH iX0_readLine_X8 1 rfl rfl 2 (by decide) (List.mem_of_getElem? (i := 6) rfl) rfl dX0_readLine_108 ?_
    refine lv_istore_n (lv' := [(2, .int c_t_in_value), (0, .ref q_t), (1, .int x1)]) hx hb dX0_readLine_111 rfl hl (by decide) rfl (fun ls hl => ?_)
    refine lv_aload_n hx hb dX0_readLine_112 rfl (lv_at hl 1 rfl) ?_
    refine z_get S hF hH iX0_readLine_X0 0 rfl rfl 0 (by decide) (List.mem_of_getElem? (i := 1) rfl) rfl dX0_readLine_113 ?_
    obtain ⟨z116, hz116, h⟩ := zcl_e h
    refine z_callV (As := []) (rest := []) (st1 := []) (ws' := (wd_X0_readLine cy q_t q_t_in q_t_burgh q_t_verb q_t_who q_t_what q_t_in_tape q_t_in_kinds q_t_in_places q_t_in_values q_t_in_words q_t_burgh_clockName q_t_burgh_clockCorner q_t_burgh_clockAhead q_t_burgh_clockGain q_t_burgh_masterName q_t_burgh_masterCorner q_t_burgh_masterLate q_t_burgh_masterClock q_t_burgh_masterMeets q_t_burgh_meetName q_t_burgh_meetDue t_lines t_judged t_why t_good t_minuteThen t_outThen z116.1 z116.2.1 z116.2.2.1 z116.2.2.2.1 c_t_in_fault c_t_in_faultPlace t_in_size z116.2.2.2.2 t_burgh_clocks t_burgh_masters t_burgh_meets t_burgh_patience t_burgh_masterName t_in_kinds t_in_places t_in_values t_in_words c_t_verb c_t_who c_t_what t_burgh_meetName t_burgh_clockName)) S hF hH (c_X8_advance l G cy E N q_t_in q_t_in_tape q_t_in_kinds q_t_in_places q_t_in_values q_t_in_words c_t_in_kind c_t_in_place c_t_in_value c_t_in_word c_t_in_fault c_t_in_faultPlace t_in_size c_t_in_taken t_in_kinds t_in_places t_in_values t_in_words z116.1 z116.2.1 z116.2.2.1 z116.2.2.2.1 z116.2.2.2.2 hz116) (cwV 0 hts gX0_readLine_X8_advance rfl rfl rfl (by decide +kernel) ⟨Nat.le_of_ble_eq_true rfl, Nat.le_of_ble_eq_true rfl⟩) 9 0 rfl rfl [1, 4, 5, 6, 7] rfl (by decide) rfl rfl rfl rfl rfl hl.1 (Nat.le_of_ble_eq_true rfl) dX0_readLine_116 ⟨Nat.le_of_ble_eq_true rfl, Nat.le_of_ble_eq_true rfl⟩ (fun H locs hH => ?_)
    refine lv_iload_n hx hb dX0_readLine_119 rfl (lv_at hl 2 rfl) ?_
    refine lv_iconst (v := (-1)) hx hb dX0_readLine_120 (by decide) ?_
    refine lv_icmp_ne (tgt := 132) hx hb dX0_readLine_121 (by decide) (fun b121 => ?_) (fun b121 => ?_)
    · replace h := zif_f b121 h
      refine lv_aload_n hx hb dX0_readLine_132 rfl (lv_at hl 1 rfl) ?_
      refine lv_iload_n hx hb dX0_readLine_133 rfl (lv_at hl 2 rfl) ?_
      obtain ⟨z134, hz134, h⟩ := zcl_e h
      refine z_callV (As := [.int x1]) (rest := []) (st1 := [.int z134.1]) (ws' := (wd_X0_readLine cy q_t q_t_in q_t_burgh q_t_verb q_t_who q_t_what q_t_in_tape q_t_in_kinds q_t_in_places q_t_in_values q_t_in_words q_t_burgh_clockName q_t_burgh_clockCorner q_t_burgh_clockAhead q_t_burgh_clockGain q_t_burgh_masterName q_t_burgh_masterCorner q_t_burgh_masterLate q_t_burgh_masterClock q_t_burgh_masterMeets q_t_burgh_meetName q_t_burgh_meetDue t_lines t_judged t_why t_good t_minuteThen t_outThen z134.2.1 z134.2.2.1 z134.2.2.2.1 z134.2.2.2.2.1 z134.2.2.2.2.2.1 z134.2.2.2.2.2.2.1 t_in_size z134.2.2.2.2.2.2.2.1 t_burgh_clocks t_burgh_masters t_burgh_meets t_burgh_patience t_burgh_masterName t_in_kinds t_in_places t_in_values t_in_words z134.2.2.2.2.2.2.2.2.1 z134.2.2.2.2.2.2.2.2.2.1 z134.2.2.2.2.2.2.2.2.2.2 t_burgh_meetName t_burgh_clockName)) S hF hH (c_X0_readSets l G cy E N q_t q_t_in q_t_burgh q_t_verb q_t_who q_t_what q_t_in_tape q_t_in_kinds q_t_in_places q_t_in_values q_t_in_words q_t_burgh_clockName q_t_burgh_clockCorner q_t_burgh_clockAhead q_t_burgh_clockGain q_t_burgh_masterName q_t_burgh_masterCorner q_t_burgh_masterLate q_t_burgh_masterClock q_t_burgh_masterMeets q_t_burgh_meetName q_t_burgh_meetDue t_lines t_judged t_why t_good t_minuteThen t_outThen z116.1 z116.2.1 z116.2.2.1 z116.2.2.2.1 c_t_in_fault c_t_in_faultPlace t_in_size z116.2.2.2.2 t_in_kinds t_in_places t_in_values t_in_words t_burgh_clocks t_burgh_masters t_burgh_meets t_burgh_patience t_burgh_clockName c_t_verb c_t_who c_t_what x1 z134.1 z134.2.1 z134.2.2.1 z134.2.2.2.1 z134.2.2.2.2.1 z134.2.2.2.2.2.1 z134.2.2.2.2.2.2.1 z134.2.2.2.2.2.2.2.1 z134.2.2.2.2.2.2.2.2.1 z134.2.2.2.2.2.2.2.2.2.1 z134.2.2.2.2.2.2.2.2.2.2 hz134) (cwV 1 hts gX0_readLine_X0_readSets rfl rfl rfl (by decide +kernel) ⟨Nat.le_of_ble_eq_true rfl, Nat.le_of_ble_eq_true rfl⟩) 1 0 rfl rfl [0, 1, 4, 5, 6, 7, 2, 12, 8, 9, 10] rfl (by decide) rfl rfl rfl rfl rfl hl.1 (Nat.le_of_ble_eq_true rfl) dX0_readLine_134 ⟨Nat.le_of_ble_eq_true rfl, Nat.le_of_ble_eq_true rfl⟩ (fun H locs hH => ?_)
      obtain ⟨h137, h⟩ := zck_e h
      cases h
      exact z_zret S hr hlocks hH h137 dX0_readLine_137
    · replace h := zif_t b121 h
      refine lv_aload_n hx hb dX0_readLine_124 rfl (lv_at hl 1 rfl) ?_
      refine lv_iload_n hx hb dX0_readLine_125 rfl (lv_at hl 0 rfl) ?_
      obtain ⟨z126, hz126, h⟩ := zcl_e h
      refine z_callV (As := [.int c_t_in_value]) (rest := []) (st1 := [.int z126.1]) (ws' := (wd_X0_readLine cy q_t q_t_in q_t_burgh q_t_verb q_t_who q_t_what q_t_in_tape q_t_in_kinds q_t_in_places q_t_in_values q_t_in_words q_t_burgh_clockName q_t_burgh_clockCorner q_t_burgh_clockAhead q_t_burgh_clockGain q_t_burgh_masterName q_t_burgh_masterCorner q_t_burgh_masterLate q_t_burgh_masterClock q_t_burgh_masterMeets q_t_burgh_meetName q_t_burgh_meetDue t_lines t_judged t_why t_good t_minuteThen t_outThen z126.2.1 z126.2.2.1 z126.2.2.2.1 z126.2.2.2.2.1 z126.2.2.2.2.2.1 z126.2.2.2.2.2.2.1 t_in_size z126.2.2.2.2.2.2.2.1 t_burgh_clocks t_burgh_masters t_burgh_meets t_burgh_patience t_burgh_masterName t_in_kinds t_in_places t_in_values t_in_words z126.2.2.2.2.2.2.2.2.1 z126.2.2.2.2.2.2.2.2.2.1 z126.2.2.2.2.2.2.2.2.2.2 t_burgh_meetName t_burgh_clockName)) S hF hH (c_X0_readAct l G cy E N q_t q_t_in q_t_burgh q_t_verb q_t_who q_t_what q_t_in_tape q_t_in_kinds q_t_in_places q_t_in_values q_t_in_words q_t_burgh_clockName q_t_burgh_clockCorner q_t_burgh_clockAhead q_t_burgh_clockGain q_t_burgh_masterName q_t_burgh_masterCorner q_t_burgh_masterLate q_t_burgh_masterClock q_t_burgh_masterMeets q_t_burgh_meetName q_t_burgh_meetDue t_lines t_judged t_why t_good t_minuteThen t_outThen z116.1 z116.2.1 z116.2.2.1 z116.2.2.2.1 c_t_in_fault c_t_in_faultPlace t_in_size z116.2.2.2.2 t_in_kinds t_in_places t_in_values t_in_words c_t_verb c_t_who c_t_what t_burgh_clocks t_burgh_masters t_burgh_meets t_burgh_patience t_burgh_meetName t_burgh_clockName c_t_in_value z126.1 z126.2.1 z126.2.2.1 z126.2.2.2.1 z126.2.2.2.2.1 z126.2.2.2.2.2.1 z126.2.2.2.2.2.2.1 z126.2.2.2.2.2.2.2.1 z126.2.2.2.2.2.2.2.2.1 z126.2.2.2.2.2.2.2.2.2.1 z126.2.2.2.2.2.2.2.2.2.2 hz126) (cwV 1 hts gX0_readLine_X0_readAct rfl rfl rfl (by decide +kernel) ⟨Nat.le_of_ble_eq_true rfl, Nat.le_of_ble_eq_true rfl⟩) 1 0 rfl rfl [0, 1, 4, 5, 6, 7, 8, 9, 10, 2, 11, 12] rfl (by decide) rfl rfl rfl rfl rfl hl.1 (Nat.le_of_ble_eq_true rfl) dX0_readLine_126 ⟨Nat.le_of_ble_eq_true rfl, Nat.le_of_ble_eq_true rfl⟩ (fun H locs hH => ?_)
      refine lv_goto (tgt := 137) hx hb dX0_readLine_129 (by decide) ?_
      obtain ⟨h137, h⟩ := zck_e h
      cases h
      exact z_zret S hr hlocks hH h137 dX0_readLine_137
  · replace h := zif_f b92 h
    refine lv_aload_n hx hb dX0_readLine_95 rfl (lv_at hl 0 rfl) ?_
    refine z_get S hF hH iX0_readLine_X0 0 rfl rfl 0 (by decide) (List.mem_of_getElem? (i := 1) rfl) rfl dX0_readLine_96 ?_
    refine lv_iconst (v := 4) hx hb dX0_readLine_99 (by decide) ?_
    obtain ⟨z100, hz100, h⟩ := zcl_e h
    refine z_callV (As := [.int 4]) (rest := []) (st1 := [.int z100.1]) (ws' := (wd_X0_readLine cy q_t q_t_in q_t_burgh q_t_verb q_t_who q_t_what q_t_in_tape q_t_in_kinds q_t_in_places q_t_in_values q_t_in_words q_t_burgh_clockName q_t_burgh_clockCorner q_t_burgh_clockAhead q_t_burgh_clockGain q_t_burgh_masterName q_t_burgh_masterCorner q_t_burgh_masterLate q_t_burgh_masterClock q_t_burgh_masterMeets q_t_burgh_meetName q_t_burgh_meetDue t_lines t_judged t_why t_good t_minuteThen t_outThen c_t_in_kind c_t_in_place c_t_in_value c_t_in_word z100.2.1 z100.2.2 t_in_size c_t_in_taken t_burgh_clocks t_burgh_masters t_burgh_meets t_burgh_patience t_burgh_masterName t_in_kinds t_in_places t_in_values t_in_words c_t_verb c_t_who c_t_what t_burgh_meetName t_burgh_clockName)) S hF hH (c_X8_refuse l G cy E N q_t_in q_t_in_tape q_t_in_kinds q_t_in_places q_t_in_values q_t_in_words c_t_in_kind c_t_in_place c_t_in_value c_t_in_word c_t_in_fault c_t_in_faultPlace t_in_size c_t_in_taken 4 z100.1 z100.2.1 z100.2.2 hz100) (cwV 1 hts gX0_readLine_X8_refuse rfl rfl rfl (by decide +kernel) ⟨Nat.le_of_ble_eq_true rfl, Nat.le_of_ble_eq_true rfl⟩) 9 0 rfl rfl [1] rfl (by decide) rfl rfl rfl rfl rfl hl.1 (Nat.le_of_ble_eq_true rfl) dX0_readLine_100 ⟨Nat.le_of_ble_eq_true rfl, Nat.le_of_ble_eq_true rfl⟩ (fun H locs hH => ?_)
    obtain ⟨h103, h⟩ := zck_e h
    cases h
    exact z_zret S hr hlocks hH h103 dX0_readLine_103
set_option maxHeartbeats 4000000 in
set_option maxRecDepth 100000 in
theorem c_X0_readLine (l : Launch) (G : va_G) (cy : Nat → ClassId) (E : Nat → Nat) (N : Nat) (q_t q_t_in q_t_burgh q_t_verb q_t_who q_t_what q_t_in_tape q_t_in_kinds q_t_in_places q_t_in_values q_t_in_words q_t_burgh_clockName q_t_burgh_clockCorner q_t_burgh_clockAhead q_t_burgh_clockGain q_t_burgh_masterName q_t_burgh_masterCorner q_t_burgh_masterLate q_t_burgh_masterClock q_t_burgh_masterMeets q_t_burgh_meetName q_t_burgh_meetDue : Nat) (t_lines : Int32) (t_judged : Int32) (t_why : Int32) (t_good : Int32) (t_minuteThen : Int32) (t_outThen : Int32) (t_in_kind : Int32) (t_in_place : Int32) (t_in_value : Int32) (t_in_word : Int64) (t_in_fault : Int32) (t_in_faultPlace : Int32) (t_in_size : Int32) (t_in_taken : Int32) (t_burgh_clocks : Int32) (t_burgh_masters : Int32) (t_burgh_meets : Int32) (t_burgh_patience : Int32) (t_burgh_masterName : Nat → Int64) (t_in_kinds : Nat → Int32) (t_in_places : Nat → Int32) (t_in_values : Nat → Int32) (t_in_words : Nat → Int64) (t_verb : Nat → Int32) (t_who : Nat → Int32) (t_what : Nat → Int32) (t_burgh_meetName : Nat → Int64) (t_burgh_clockName : Nat → Int64) (r : Int32) (r_t_in_kind : Int32) (r_t_in_place : Int32) (r_t_in_value : Int32) (r_t_in_word : Int64) (r_t_in_fault : Int32) (r_t_in_faultPlace : Int32) (r_t_in_taken : Int32) (r_t_verb : Nat → Int32) (r_t_who : Nat → Int32) (r_t_what : Nat → Int32) (h : f_X0_readLine N t_lines t_in_kind t_in_place t_in_value t_in_word t_in_fault t_in_faultPlace t_in_size t_in_taken t_burgh_clocks t_burgh_masters t_burgh_meets t_burgh_masterName t_in_kinds t_in_places t_in_values t_in_words t_verb t_who t_what t_burgh_meetName t_burgh_clockName = some (r, r_t_in_kind, r_t_in_place, r_t_in_value, r_t_in_word, r_t_in_fault, r_t_in_faultPlace, r_t_in_taken, r_t_verb, r_t_who, r_t_what)) : zM l G cy E yX0_readLine wsX0_readLine rm_X0_readLine [.ref q_t] (wd_X0_readLine cy q_t q_t_in q_t_burgh q_t_verb q_t_who q_t_what q_t_in_tape q_t_in_kinds q_t_in_places q_t_in_values q_t_in_words q_t_burgh_clockName q_t_burgh_clockCorner q_t_burgh_clockAhead q_t_burgh_clockGain q_t_burgh_masterName q_t_burgh_masterCorner q_t_burgh_masterLate q_t_burgh_masterClock q_t_burgh_masterMeets q_t_burgh_meetName q_t_burgh_meetDue t_lines t_judged t_why t_good t_minuteThen t_outThen t_in_kind t_in_place t_in_value t_in_word t_in_fault t_in_faultPlace t_in_size t_in_taken t_burgh_clocks t_burgh_masters t_burgh_meets t_burgh_patience t_burgh_masterName t_in_kinds t_in_places t_in_values t_in_words t_verb t_who t_what t_burgh_meetName t_burgh_clockName) (wd_X0_readLine cy q_t q_t_in q_t_burgh q_t_verb q_t_who q_t_what q_t_in_tape q_t_in_kinds q_t_in_places q_t_in_values q_t_in_words q_t_burgh_clockName q_t_burgh_clockCorner q_t_burgh_clockAhead q_t_burgh_clockGain q_t_burgh_masterName q_t_burgh_masterCorner q_t_burgh_masterLate q_t_burgh_masterClock q_t_burgh_masterMeets q_t_burgh_meetName q_t_burgh_meetDue t_lines t_judged t_why t_good t_minuteThen t_outThen r_t_in_kind r_t_in_place r_t_in_value r_t_in_word r_t_in_fault r_t_in_faultPlace t_in_size r_t_in_taken t_burgh_clocks t_burgh_masters t_burgh_meets t_burgh_patience t_burgh_masterName t_in_kinds t_in_places t_in_values t_in_words r_t_verb r_t_who r_t_what t_burgh_meetName t_burgh_clockName) (some (.int r)) 0 0 := by
  refine z_body (cc := cX0_readLine) (maxL := 3) (ret := some .boolean) (by decide) rfl (Nat.le_of_ble_eq_true rfl) ?_
  intro p e s m below meth c ls S hr hlocks hnm hF hH hl
  have S : CallFix p m c cX0_readLine 3 s ([.ref q_t] : List Value).toArray wsX0_readLine RX0 := S
  obtain ⟨hx, hb, hml, hown, hts⟩ := id S
  have hl : lv_has ls 3 [(0, .ref q_t)] := hl
  rw [f_X0_readLine] at h
  refine lv_iconst (v := (-1)) hx hb dX0_readLine_0 (by decide) ?_
  refine lv_istore_n (lv' := [(1, .int (-1)), (0, .ref q_t)]) hx hb dX0_readLine_1 rfl hl (by decide) rfl (fun ls hl => ?_)
  refine lv_aload_n hx hb dX0_readLine_2 rfl (lv_at hl 1 rfl) ?_
  refine z_get S hF hH iX0_readLine_X0 0 rfl rfl 0 (by decide) (List.mem_of_getElem? (i := 1) rfl) rfl dX0_readLine_3 ?_
  refine z_get S hF hH iX0_readLine_X8 1 rfl rfl 0 (by decide) (List.mem_of_getElem? (i := 2) rfl) rfl dX0_readLine_6 ?_
  refine lv_iconst (v := 2) hx hb dX0_readLine_9 (by decide) ?_
  refine lv_icmp_ne (tgt := 42) hx hb dX0_readLine_10 (by decide) (fun b10 => ?_) (fun b10 => ?_)
  · replace h := zif_f b10 h
    refine lv_aload_n hx hb dX0_readLine_42 rfl (lv_at hl 1 rfl) ?_
    refine z_get S hF hH iX0_readLine_X0 0 rfl rfl 0 (by decide) (List.mem_of_getElem? (i := 1) rfl) rfl dX0_readLine_43 ?_
    refine z_get S hF hH iX0_readLine_X8 1 rfl rfl 0 (by decide) (List.mem_of_getElem? (i := 2) rfl) rfl dX0_readLine_46 ?_
    refine lv_iconst (v := 3) hx hb dX0_readLine_49 (by decide) ?_
    refine lv_icmp_ne (tgt := 77) hx hb dX0_readLine_50 (by decide) (fun b50 => ?_) (fun b50 => ?_)
    · replace h := zif_f b50 h
      exact w_X0_readLine_77 S hr hlocks hF t_in_kind t_in_place t_in_value t_in_word t_in_fault t_in_faultPlace t_in_taken t_verb t_who t_what _ _ _ hH (lv_sub hl [1] rfl) h
    · replace h := zif_t b50 h
      refine lv_aload_n hx hb dX0_readLine_53 rfl (lv_at hl 1 rfl) ?_
      refine z_get S hF hH iX0_readLine_X0 0 rfl rfl 0 (by decide) (List.mem_of_getElem? (i := 1) rfl) rfl dX0_readLine_54 ?_
      refine z_get S hF hH iX0_readLine_X8 1 rfl rfl 2 (by decide) (List.mem_of_getElem? (i := 6) rfl) rfl dX0_readLine_57 ?_
      refine lv_bipush (v := 10) hx hb dX0_readLine_60 (by decide) ?_
      refine lv_icmp_lt (tgt := 77) hx hb dX0_readLine_62 (by decide) (fun b62 => ?_) (fun b62 => ?_)
      · replace h := zif_t b62 h
        exact w_X0_readLine_77 S hr hlocks hF t_in_kind t_in_place t_in_value t_in_word t_in_fault t_in_faultPlace t_in_taken t_verb t_who t_what _ _ _ hH (lv_sub hl [1] rfl) h
      · replace h := zif_f b62 h
        refine lv_aload_n hx hb dX0_readLine_65 rfl (lv_at hl 1 rfl) ?_
        refine z_get S hF hH iX0_readLine_X0 0 rfl rfl 0 (by decide) (List.mem_of_getElem? (i := 1) rfl) rfl dX0_readLine_66 ?_
        refine z_get S hF hH iX0_readLine_X8 1 rfl rfl 2 (by decide) (List.mem_of_getElem? (i := 6) rfl) rfl dX0_readLine_69 ?_
        refine lv_bipush (v := 13) hx hb dX0_readLine_72 (by decide) ?_
        refine lv_icmp_le (tgt := 86) hx hb dX0_readLine_74 (by decide) (fun b74 => ?_) (fun b74 => ?_)
        · replace h := zif_t b74 h
          exact w_X0_readLine_86 S hr hlocks hF (-1) t_in_kind t_in_place t_in_value t_in_word t_in_fault t_in_faultPlace t_in_taken t_verb t_who t_what _ _ _ hH (lv_sub hl [1, 0] rfl) h
        · replace h := zif_f b74 h
          exact w_X0_readLine_77 S hr hlocks hF t_in_kind t_in_place t_in_value t_in_word t_in_fault t_in_faultPlace t_in_taken t_verb t_who t_what _ _ _ hH (lv_sub hl [1] rfl) h
  · replace h := zif_t b10 h
    refine lv_aload_n hx hb dX0_readLine_13 rfl (lv_at hl 1 rfl) ?_
    refine z_get S hF hH iX0_readLine_X0 0 rfl rfl 0 (by decide) (List.mem_of_getElem? (i := 1) rfl) rfl dX0_readLine_14 ?_
    refine lv_aload_n hx hb dX0_readLine_17 rfl (lv_at hl 1 rfl) ?_
    refine z_get S hF hH iX0_readLine_X0 0 rfl rfl 1 (by decide) (List.mem_of_getElem? (i := 3) rfl) rfl dX0_readLine_18 ?_
    refine z_get S hF hH iX0_readLine_X1 2 rfl rfl 8 (by decide) (List.mem_of_getElem? (i := 4) rfl) rfl dX0_readLine_21 ?_
    refine lv_aload_n hx hb dX0_readLine_24 rfl (lv_at hl 1 rfl) ?_
    refine z_get S hF hH iX0_readLine_X0 0 rfl rfl 1 (by decide) (List.mem_of_getElem? (i := 3) rfl) rfl dX0_readLine_25 ?_
    refine z_get S hF hH iX0_readLine_X1 2 rfl rfl 1 (by decide) (List.mem_of_getElem? (i := 5) rfl) rfl dX0_readLine_28 ?_
    obtain ⟨z31, hz31, h⟩ := zcl_e h
    refine z_callV (As := [.ref q_t_burgh_masterName, .int t_burgh_masters]) (rest := []) (st1 := [.int z31.1]) (ws' := (wd_X0_readLine cy q_t q_t_in q_t_burgh q_t_verb q_t_who q_t_what q_t_in_tape q_t_in_kinds q_t_in_places q_t_in_values q_t_in_words q_t_burgh_clockName q_t_burgh_clockCorner q_t_burgh_clockAhead q_t_burgh_clockGain q_t_burgh_masterName q_t_burgh_masterCorner q_t_burgh_masterLate q_t_burgh_masterClock q_t_burgh_masterMeets q_t_burgh_meetName q_t_burgh_meetDue t_lines t_judged t_why t_good t_minuteThen t_outThen t_in_kind t_in_place t_in_value t_in_word z31.2.1 z31.2.2 t_in_size t_in_taken t_burgh_clocks t_burgh_masters t_burgh_meets t_burgh_patience t_burgh_masterName t_in_kinds t_in_places t_in_values t_in_words t_verb t_who t_what t_burgh_meetName t_burgh_clockName)) S hF hH (c_X8_findName l G cy E N q_t_in q_t_burgh_masterName q_t_in_tape q_t_in_kinds q_t_in_places q_t_in_values q_t_in_words t_in_kind t_in_place t_in_value t_in_word t_in_fault t_in_faultPlace t_in_size t_in_taken t_burgh_masterName t_burgh_masters z31.1 z31.2.1 z31.2.2 hz31) (cwV 2 hts gX0_readLine_X8_findName rfl rfl rfl (by decide +kernel) ⟨Nat.le_of_ble_eq_true rfl, Nat.le_of_ble_eq_true rfl⟩) 9 0 rfl rfl [1, 3] rfl (by decide) rfl rfl rfl rfl rfl hl.1 (Nat.le_of_ble_eq_true rfl) dX0_readLine_31 ⟨Nat.le_of_ble_eq_true rfl, Nat.le_of_ble_eq_true rfl⟩ (fun H locs hH => ?_)
    refine lv_istore_n (lv' := [(1, .int z31.1), (0, .ref q_t)]) hx hb dX0_readLine_34 rfl hl (by decide) rfl (fun ls hl => ?_)
    refine lv_iload_n hx hb dX0_readLine_35 rfl (lv_at hl 0 rfl) ?_
    refine lv_iconst (v := (-1)) hx hb dX0_readLine_36 (by decide) ?_
    refine lv_icmp_ne (tgt := 86) hx hb dX0_readLine_37 (by decide) (fun b37 => ?_) (fun b37 => ?_)
    · replace h := zif_f b37 h
      exact w_X0_readLine_86 S hr hlocks hF z31.1 t_in_kind t_in_place t_in_value t_in_word z31.2.1 z31.2.2 t_in_taken t_verb t_who t_what _ _ _ hH (lv_sub hl [1, 0] rfl) h
    · replace h := zif_t b37 h
      refine lv_iconst (v := 0) hx hb dX0_readLine_40 (by decide) ?_
      cases h
      exact z_zret S hr hlocks hH rfl dX0_readLine_41
abbrev wd_X8_isAtEnd (cy : Nat → ClassId) (q_t q_t_tape q_t_kinds q_t_places q_t_values q_t_words : Nat) (t_kind : Int32) (t_place : Int32) (t_value : Int32) (t_word : Int64) (t_fault : Int32) (t_faultPlace : Int32) (t_size : Int32) (t_taken : Int32) : va_W := [(q_t, .inr (9, [.int t_kind, .int t_place, .int t_value, .long t_word, .int t_fault, .int t_faultPlace, .ref q_t_tape, .int t_size, .int t_taken, .ref q_t_kinds, .ref q_t_places, .ref q_t_values, .ref q_t_words]))]
theorem iX8_isAtEnd_X8 : ∀ w ∈ wsX80, w ∈ wsX8_isAtEnd := fun _ h => List.mem_cons_of_mem _ (List.mem_append_right _ h)
abbrev rm_X8_isAtEnd : Room := { frames := 0, cells := 0, slots := 0, locals := 0 }
set_option maxRecDepth 100000 in
def f_X8_isAtEnd (N : Nat) (t_kind : Int32) : Option (Int32) := if t_kind = 0 then (some 1) else (some 0)
set_option maxHeartbeats 4000000 in
set_option maxRecDepth 100000 in
theorem c_X8_isAtEnd (l : Launch) (G : va_G) (cy : Nat → ClassId) (E : Nat → Nat) (N : Nat) (q_t q_t_tape q_t_kinds q_t_places q_t_values q_t_words : Nat) (t_kind : Int32) (t_place : Int32) (t_value : Int32) (t_word : Int64) (t_fault : Int32) (t_faultPlace : Int32) (t_size : Int32) (t_taken : Int32) (r : Int32) (h : f_X8_isAtEnd N t_kind = some r) : zM l G cy E yX8_isAtEnd wsX8_isAtEnd rm_X8_isAtEnd [.ref q_t] (wd_X8_isAtEnd cy q_t q_t_tape q_t_kinds q_t_places q_t_values q_t_words t_kind t_place t_value t_word t_fault t_faultPlace t_size t_taken) (wd_X8_isAtEnd cy q_t q_t_tape q_t_kinds q_t_places q_t_values q_t_words t_kind t_place t_value t_word t_fault t_faultPlace t_size t_taken) (some (.int r)) 0 0 := by
  refine z_body (cc := cX8_isAtEnd) (maxL := 1) (ret := some .boolean) (by decide) rfl (Nat.le_of_ble_eq_true rfl) ?_
  intro p e s m below meth c ls S hr hlocks hnm hF hH hl
  have S : CallFix p m c cX8_isAtEnd 1 s ([.ref q_t] : List Value).toArray wsX8_isAtEnd RX8 := S
  obtain ⟨hx, hb, hml, hown, hts⟩ := id S
  have hl : lv_has ls 1 [(0, .ref q_t)] := hl
  rw [f_X8_isAtEnd] at h
  refine lv_aload_n hx hb dX8_isAtEnd_0 rfl (lv_at hl 0 rfl) ?_
  refine z_get S hF hH iX8_isAtEnd_X8 0 rfl rfl 0 (by decide) (List.mem_of_getElem? (i := 1) rfl) rfl dX8_isAtEnd_1 ?_
  refine lv_if_ne (tgt := 11) hx hb dX8_isAtEnd_4 (by decide) (fun b4 => ?_) (fun b4 => ?_)
  · replace h := zif_f b4 h
    refine lv_iconst (v := 0) hx hb dX8_isAtEnd_11 (by decide) ?_
    cases h
    exact z_zret S hr hlocks hH rfl dX8_isAtEnd_12
  · replace h := zif_t b4 h
    refine lv_iconst (v := 1) hx hb dX8_isAtEnd_7 (by decide) ?_
    refine lv_goto (tgt := 12) hx hb dX8_isAtEnd_8 (by decide) ?_
    cases h
    exact z_zret S hr hlocks hH rfl dX8_isAtEnd_12
abbrev wd_X8_put (cy : Nat → ClassId) (q_t q_t_tape q_t_kinds q_t_places q_t_values q_t_words : Nat) (t_kind : Int32) (t_place : Int32) (t_value : Int32) (t_word : Int64) (t_fault : Int32) (t_faultPlace : Int32) (t_size : Int32) (t_taken : Int32) (t_kinds : Nat → Int32) (t_places : Nat → Int32) (t_values : Nat → Int32) (t_words : Nat → Int64) : va_W := [(q_t, .inr (9, [.int t_kind, .int t_place, .int t_value, .long t_word, .int t_fault, .int t_faultPlace, .ref q_t_tape, .int t_size, .int t_taken, .ref q_t_kinds, .ref q_t_places, .ref q_t_values, .ref q_t_words])), (q_t_kinds, .inl (cy 1, 901, .inl t_kinds)), (q_t_places, .inl (cy 1, 901, .inl t_places)), (q_t_values, .inl (cy 1, 901, .inl t_values)), (q_t_words, .inl (cy 2, 901, .inr (.inl t_words)))]
theorem iX8_put_X8 : ∀ w ∈ wsX80, w ∈ wsX8_put := fun _ h => List.mem_cons_of_mem _ (List.mem_append_right _ h)
abbrev rm_X8_put : Room := { frames := 0, cells := 0, slots := 0, locals := 0 }
set_option maxRecDepth 100000 in
def f_X8_put (N : Nat) (x0 : Int32) (x1 : Int32) (x2 : Int32) (x3 : Int64) (t_size : Int32) (t_kinds : Nat → Int32) (t_places : Nat → Int32) (t_values : Nat → Int32) (t_words : Nat → Int64) : Option (Int32 × (Nat → Int32) × (Nat → Int32) × (Nat → Int32) × (Nat → Int64)) := if 901 ≤ t_size then (some (t_size, t_kinds, t_places, t_values, t_words)) else (zck (zin t_size 901) <| zbn (upd t_kinds (Int32.toNatClampNeg t_size) x0) fun f1 => zbn (upd t_places (Int32.toNatClampNeg t_size) x1) fun f2 => zbn (upd t_values (Int32.toNatClampNeg t_size) x2) fun f3 => zbn (vp_updL t_words (Int32.toNatClampNeg t_size) x3) fun f4 => zbn ((t_size + 1)) fun y5 => some (y5, f1, f2, f3, f4))
set_option maxHeartbeats 4000000 in
set_option maxRecDepth 100000 in
theorem c_X8_put (l : Launch) (G : va_G) (cy : Nat → ClassId) (E : Nat → Nat) (N : Nat) (q_t q_t_tape q_t_kinds q_t_places q_t_values q_t_words : Nat) (t_kind : Int32) (t_place : Int32) (t_value : Int32) (t_word : Int64) (t_fault : Int32) (t_faultPlace : Int32) (t_size : Int32) (t_taken : Int32) (t_kinds : Nat → Int32) (t_places : Nat → Int32) (t_values : Nat → Int32) (t_words : Nat → Int64) (x0 : Int32) (x1 : Int32) (x2 : Int32) (x3 : Int64) (r_t_size : Int32) (r_t_kinds : Nat → Int32) (r_t_places : Nat → Int32) (r_t_values : Nat → Int32) (r_t_words : Nat → Int64) (h : f_X8_put N x0 x1 x2 x3 t_size t_kinds t_places t_values t_words = some (r_t_size, r_t_kinds, r_t_places, r_t_values, r_t_words)) : zM l G cy E yX8_put wsX8_put rm_X8_put [.ref q_t, .int x0, .int x1, .int x2, .long x3] (wd_X8_put cy q_t q_t_tape q_t_kinds q_t_places q_t_values q_t_words t_kind t_place t_value t_word t_fault t_faultPlace t_size t_taken t_kinds t_places t_values t_words) (wd_X8_put cy q_t q_t_tape q_t_kinds q_t_places q_t_values q_t_words t_kind t_place t_value t_word t_fault t_faultPlace r_t_size t_taken r_t_kinds r_t_places r_t_values r_t_words) none 0 0 := by
  refine z_body (cc := cX8_put) (maxL := 6) (ret := none) (by decide) rfl (Nat.le_of_ble_eq_true rfl) ?_
  intro p e s m below meth c ls S hr hlocks hnm hF hH hl
  have S : CallFix p m c cX8_put 6 s ([.ref q_t, .int x0, .int x1, .int x2, .long x3] : List Value).toArray wsX8_put RX8 := S
  obtain ⟨hx, hb, hml, hown, hts⟩ := id S
  have hl : lv_has ls 6 [(0, .ref q_t), (1, .int x0), (2, .int x1), (3, .int x2), (4, .long x3)] := hl
  rw [f_X8_put] at h
  refine lv_aload_n hx hb dX8_put_0 rfl (lv_at hl 0 rfl) ?_
  refine z_get S hF hH iX8_put_X8 0 rfl rfl 7 (by decide) (List.mem_of_getElem? (i := 1) rfl) rfl dX8_put_1 ?_
  refine lv_aload_n hx hb dX8_put_4 rfl (lv_at hl 0 rfl) ?_
  refine z_get S hF hH iX8_put_X8 0 rfl rfl 9 (by decide) (List.mem_of_getElem? (i := 2) rfl) rfl dX8_put_5 ?_
  refine z_alen (v := 901) S hF hH 1 1 rfl rfl rfl dX8_put_8 ?_
  refine lv_icmp_ge (tgt := 63) hx hb dX8_put_9 (by decide) (fun b9 => ?_) (fun b9 => ?_)
  · replace h := zif_t b9 h
    cases h
    exact z_vret S hr hlocks hH dX8_put_63
  · replace h := zif_f b9 h
    refine lv_aload_n hx hb dX8_put_12 rfl (lv_at hl 0 rfl) ?_
    refine z_get S hF hH iX8_put_X8 0 rfl rfl 9 (by decide) (List.mem_of_getElem? (i := 2) rfl) rfl dX8_put_13 ?_
    refine lv_aload_n hx hb dX8_put_16 rfl (lv_at hl 0 rfl) ?_
    refine z_get S hF hH iX8_put_X8 0 rfl rfl 7 (by decide) (List.mem_of_getElem? (i := 1) rfl) rfl dX8_put_17 ?_
    refine lv_iload_n hx hb dX8_put_20 rfl (lv_at hl 1 rfl) ?_
    obtain ⟨h21, h⟩ := zck_e h
    obtain ⟨f1, ef1, h⟩ := zbn_e h
    refine z_iast (ws' := (wd_X8_put cy q_t q_t_tape q_t_kinds q_t_places q_t_values q_t_words t_kind t_place t_value t_word t_fault t_faultPlace t_size t_taken f1 t_places t_values t_words)) (j := (Int32.toNatClampNeg t_size)) S hF hH 1 rfl h21 rfl (by rw [ef1]; rfl) dX8_put_21 (fun H locs hH => ?_)
    clear ef1
    refine lv_aload_n hx hb dX8_put_22 rfl (lv_at hl 0 rfl) ?_
    refine z_get S hF hH iX8_put_X8 0 rfl rfl 10 (by decide) (List.mem_of_getElem? (i := 3) rfl) rfl dX8_put_23 ?_
    refine lv_aload_n hx hb dX8_put_26 rfl (lv_at hl 0 rfl) ?_
    refine z_get S hF hH iX8_put_X8 0 rfl rfl 7 (by decide) (List.mem_of_getElem? (i := 1) rfl) rfl dX8_put_27 ?_
    refine lv_iload_n hx hb dX8_put_30 rfl (lv_at hl 2 rfl) ?_
    obtain ⟨f2, ef2, h⟩ := zbn_e h
    refine z_iast (ws' := (wd_X8_put cy q_t q_t_tape q_t_kinds q_t_places q_t_values q_t_words t_kind t_place t_value t_word t_fault t_faultPlace t_size t_taken f1 f2 t_values t_words)) (j := (Int32.toNatClampNeg t_size)) S hF hH 2 rfl h21 rfl (by rw [ef2]; rfl) dX8_put_31 (fun H locs hH => ?_)
    clear ef2
    refine lv_aload_n hx hb dX8_put_32 rfl (lv_at hl 0 rfl) ?_
    refine z_get S hF hH iX8_put_X8 0 rfl rfl 11 (by decide) (List.mem_of_getElem? (i := 4) rfl) rfl dX8_put_33 ?_
    refine lv_aload_n hx hb dX8_put_36 rfl (lv_at hl 0 rfl) ?_
    refine z_get S hF hH iX8_put_X8 0 rfl rfl 7 (by decide) (List.mem_of_getElem? (i := 1) rfl) rfl dX8_put_37 ?_
    refine lv_iload_n hx hb dX8_put_40 rfl (lv_at hl 3 rfl) ?_
    obtain ⟨f3, ef3, h⟩ := zbn_e h
    refine z_iast (ws' := (wd_X8_put cy q_t q_t_tape q_t_kinds q_t_places q_t_values q_t_words t_kind t_place t_value t_word t_fault t_faultPlace t_size t_taken f1 f2 f3 t_words)) (j := (Int32.toNatClampNeg t_size)) S hF hH 3 rfl h21 rfl (by rw [ef3]; rfl) dX8_put_41 (fun H locs hH => ?_)
    clear ef3
    refine lv_aload_n hx hb dX8_put_42 rfl (lv_at hl 0 rfl) ?_
    refine z_get S hF hH iX8_put_X8 0 rfl rfl 12 (by decide) (List.mem_of_getElem? (i := 5) rfl) rfl dX8_put_43 ?_
    refine lv_aload_n hx hb dX8_put_46 rfl (lv_at hl 0 rfl) ?_
    refine z_get S hF hH iX8_put_X8 0 rfl rfl 7 (by decide) (List.mem_of_getElem? (i := 1) rfl) rfl dX8_put_47 ?_
    refine lv_lload hx hb dX8_put_50 (lv_at hl 4 rfl) ?_
    obtain ⟨f4, ef4, h⟩ := zbn_e h
    refine z_last (ws' := (wd_X8_put cy q_t q_t_tape q_t_kinds q_t_places q_t_values q_t_words t_kind t_place t_value t_word t_fault t_faultPlace t_size t_taken f1 f2 f3 f4)) (j := (Int32.toNatClampNeg t_size)) S hF hH 4 rfl h21 rfl (by rw [ef4]; rfl) dX8_put_52 (fun H locs hH => ?_)
    clear ef4
    refine lv_aload_n hx hb dX8_put_53 rfl (lv_at hl 0 rfl) ?_
    refine lv_dup hx hb dX8_put_54 rfl ?_
    refine z_get S hF hH iX8_put_X8 0 rfl rfl 7 (by decide) (List.mem_of_getElem? (i := 1) rfl) rfl dX8_put_55 ?_
    refine lv_iconst (v := 1) hx hb dX8_put_58 (by decide) ?_
    refine lv_iadd hx hb dX8_put_59 ?_
    obtain ⟨y5, ey5, h⟩ := zbn_e h
    refine z_top ey5 ?_
    clear ey5
    refine z_put (ws' := (wd_X8_put cy q_t q_t_tape q_t_kinds q_t_places q_t_values q_t_words t_kind t_place t_value t_word t_fault t_faultPlace y5 t_taken f1 f2 f3 f4)) S hF hH iX8_put_X8 tyX8 tyX8_ok nmX8 0 rfl rfl 7 (by decide) (List.mem_of_getElem? (i := 1) rfl) rfl rfl rfl (Nat.le_of_ble_eq_true rfl) rfl dX8_put_60 (fun H locs hH => ?_)
    cases h
    exact z_vret S hr hlocks hH dX8_put_63
abbrev wd_X7_at (cy : Nat → ClassId) (q_t q_t_bytes : Nat) (t_length : Int32) (t_bytes : Nat → Int32) : va_W := [(q_t, .inr (8, [.ref q_t_bytes, .int t_length])), (q_t_bytes, .inl (cy 0, 940, .inl t_bytes))]
theorem iX7_at_X7 : ∀ w ∈ wsX70, w ∈ wsX7_at := fun _ h => List.mem_cons_of_mem _ (List.mem_append_right _ h)
abbrev rm_X7_at : Room := { frames := 0, cells := 0, slots := 0, locals := 0 }
set_option maxRecDepth 100000 in
def f_X7_at (N : Nat) (x0 : Int32) (t_length : Int32) (t_bytes : Nat → Int32) : Option (Int32) := if x0 < 0 then (some (-1)) else (if x0 < t_length then (zck (zin x0 940) <| some ((t_bytes (Int32.toNatClampNeg x0)) &&& 255)) else (some (-1)))
set_option maxHeartbeats 4000000 in
set_option maxRecDepth 100000 in
theorem c_X7_at (l : Launch) (G : va_G) (cy : Nat → ClassId) (E : Nat → Nat) (N : Nat) (q_t q_t_bytes : Nat) (t_length : Int32) (t_bytes : Nat → Int32) (x0 : Int32) (r : Int32) (h : f_X7_at N x0 t_length t_bytes = some r) : zM l G cy E yX7_at wsX7_at rm_X7_at [.ref q_t, .int x0] (wd_X7_at cy q_t q_t_bytes t_length t_bytes) (wd_X7_at cy q_t q_t_bytes t_length t_bytes) (some (.int r)) 0 0 := by
  refine z_body (cc := cX7_at) (maxL := 2) (ret := some .int) (by decide) rfl (Nat.le_of_ble_eq_true rfl) ?_
  intro p e s m below meth c ls S hr hlocks hnm hF hH hl
  have S : CallFix p m c cX7_at 2 s ([.ref q_t, .int x0] : List Value).toArray wsX7_at RX7 := S
  obtain ⟨hx, hb, hml, hown, hts⟩ := id S
  have hl : lv_has ls 2 [(0, .ref q_t), (1, .int x0)] := hl
  rw [f_X7_at] at h
  refine lv_iload_n hx hb dX7_at_0 rfl (lv_at hl 1 rfl) ?_
  refine lv_if_lt (tgt := 12) hx hb dX7_at_1 (by decide) (fun b1 => ?_) (fun b1 => ?_)
  · replace h := zif_t b1 h
    refine lv_iconst (v := (-1)) hx hb dX7_at_12 (by decide) ?_
    refine lv_goto (tgt := 26) hx hb dX7_at_13 (by decide) ?_
    cases h
    exact z_iret S hr hlocks hH dX7_at_26
  · replace h := zif_f b1 h
    refine lv_iload_n hx hb dX7_at_4 rfl (lv_at hl 1 rfl) ?_
    refine lv_aload_n hx hb dX7_at_5 rfl (lv_at hl 0 rfl) ?_
    refine z_get S hF hH iX7_at_X7 0 rfl rfl 1 (by decide) (List.mem_of_getElem? (i := 1) rfl) rfl dX7_at_6 ?_
    refine lv_icmp_lt (tgt := 16) hx hb dX7_at_9 (by decide) (fun b9 => ?_) (fun b9 => ?_)
    · replace h := zif_t b9 h
      refine lv_aload_n hx hb dX7_at_16 rfl (lv_at hl 0 rfl) ?_
      refine z_get S hF hH iX7_at_X7 0 rfl rfl 0 (by decide) (List.mem_of_getElem? (i := 2) rfl) rfl dX7_at_17 ?_
      refine lv_iload_n hx hb dX7_at_20 rfl (lv_at hl 1 rfl) ?_
      obtain ⟨h21, h⟩ := zck_e h
      refine z_bald S hF hH 1 rfl h21 rfl dX7_at_21 ?_
      refine lv_sipush (v := 255) hx hb dX7_at_22 (by decide) ?_
      refine lv_iand hx hb dX7_at_25 ?_
      cases h
      exact z_iret S hr hlocks hH dX7_at_26
    · replace h := zif_f b9 h
      refine lv_iconst (v := (-1)) hx hb dX7_at_12 (by decide) ?_
      refine lv_goto (tgt := 26) hx hb dX7_at_13 (by decide) ?_
      cases h
      exact z_iret S hr hlocks hH dX7_at_26
abbrev rm_X8_isDigit : Room := { frames := 0, cells := 0, slots := 0, locals := 0 }
set_option maxRecDepth 100000 in
def f_X8_isDigit (N : Nat) (x0 : Int32) : Option (Int32) := if x0 < 48 then (some 0) else (if 57 < x0 then (some 0) else (some 1))
set_option maxHeartbeats 4000000 in
set_option maxRecDepth 100000 in
theorem c_X8_isDigit (l : Launch) (G : va_G) (cy : Nat → ClassId) (E : Nat → Nat) (N : Nat) (x0 : Int32) (r : Int32) (h : f_X8_isDigit N x0 = some r) : zM l G cy E yX8_isDigit wsX8_isDigit rm_X8_isDigit [.int x0] ([] : va_W) ([] : va_W) (some (.int r)) 0 0 := by
  refine z_body (cc := cX8_isDigit) (maxL := 1) (ret := some .boolean) (by decide) rfl (Nat.le_of_ble_eq_true rfl) ?_
  intro p e s m below meth c ls S hr hlocks hnm hF hH hl
  have S : CallFix p m c cX8_isDigit 1 s ([.int x0] : List Value).toArray wsX8_isDigit RX8 := S
  obtain ⟨hx, hb, hml, hown, hts⟩ := id S
  have hl : lv_has ls 1 [(0, .int x0)] := hl
  rw [f_X8_isDigit] at h
  refine lv_iload_n hx hb dX8_isDigit_0 rfl (lv_at hl 0 rfl) ?_
  refine lv_bipush (v := 48) hx hb dX8_isDigit_1 (by decide) ?_
  refine lv_icmp_lt (tgt := 16) hx hb dX8_isDigit_3 (by decide) (fun b3 => ?_) (fun b3 => ?_)
  · replace h := zif_t b3 h
    refine lv_iconst (v := 0) hx hb dX8_isDigit_16 (by decide) ?_
    cases h
    exact z_zret S hr hlocks hH rfl dX8_isDigit_17
  · replace h := zif_f b3 h
    refine lv_iload_n hx hb dX8_isDigit_6 rfl (lv_at hl 0 rfl) ?_
    refine lv_bipush (v := 57) hx hb dX8_isDigit_7 (by decide) ?_
    refine lv_icmp_gt (tgt := 16) hx hb dX8_isDigit_9 (by decide) (fun b9 => ?_) (fun b9 => ?_)
    · replace h := zif_t b9 h
      refine lv_iconst (v := 0) hx hb dX8_isDigit_16 (by decide) ?_
      cases h
      exact z_zret S hr hlocks hH rfl dX8_isDigit_17
    · replace h := zif_f b9 h
      refine lv_iconst (v := 1) hx hb dX8_isDigit_12 (by decide) ?_
      refine lv_goto (tgt := 17) hx hb dX8_isDigit_13 (by decide) ?_
      cases h
      exact z_zret S hr hlocks hH rfl dX8_isDigit_17
abbrev rm_X8_isLetter : Room := { frames := 0, cells := 0, slots := 0, locals := 0 }
set_option maxRecDepth 100000 in
def f_X8_isLetter (N : Nat) (x0 : Int32) : Option (Int32) := if x0 < 97 then (some 0) else (if 122 < x0 then (some 0) else (some 1))
set_option maxHeartbeats 4000000 in
set_option maxRecDepth 100000 in
theorem c_X8_isLetter (l : Launch) (G : va_G) (cy : Nat → ClassId) (E : Nat → Nat) (N : Nat) (x0 : Int32) (r : Int32) (h : f_X8_isLetter N x0 = some r) : zM l G cy E yX8_isLetter wsX8_isLetter rm_X8_isLetter [.int x0] ([] : va_W) ([] : va_W) (some (.int r)) 0 0 := by
  refine z_body (cc := cX8_isLetter) (maxL := 1) (ret := some .boolean) (by decide) rfl (Nat.le_of_ble_eq_true rfl) ?_
  intro p e s m below meth c ls S hr hlocks hnm hF hH hl
  have S : CallFix p m c cX8_isLetter 1 s ([.int x0] : List Value).toArray wsX8_isLetter RX8 := S
  obtain ⟨hx, hb, hml, hown, hts⟩ := id S
  have hl : lv_has ls 1 [(0, .int x0)] := hl
  rw [f_X8_isLetter] at h
  refine lv_iload_n hx hb dX8_isLetter_0 rfl (lv_at hl 0 rfl) ?_
  refine lv_bipush (v := 97) hx hb dX8_isLetter_1 (by decide) ?_
  refine lv_icmp_lt (tgt := 16) hx hb dX8_isLetter_3 (by decide) (fun b3 => ?_) (fun b3 => ?_)
  · replace h := zif_t b3 h
    refine lv_iconst (v := 0) hx hb dX8_isLetter_16 (by decide) ?_
    cases h
    exact z_zret S hr hlocks hH rfl dX8_isLetter_17
  · replace h := zif_f b3 h
    refine lv_iload_n hx hb dX8_isLetter_6 rfl (lv_at hl 0 rfl) ?_
    refine lv_bipush (v := 122) hx hb dX8_isLetter_7 (by decide) ?_
    refine lv_icmp_gt (tgt := 16) hx hb dX8_isLetter_9 (by decide) (fun b9 => ?_) (fun b9 => ?_)
    · replace h := zif_t b9 h
      refine lv_iconst (v := 0) hx hb dX8_isLetter_16 (by decide) ?_
      cases h
      exact z_zret S hr hlocks hH rfl dX8_isLetter_17
    · replace h := zif_f b9 h
      refine lv_iconst (v := 1) hx hb dX8_isLetter_12 (by decide) ?_
      refine lv_goto (tgt := 17) hx hb dX8_isLetter_13 (by decide) ?_
      cases h
      exact z_zret S hr hlocks hH rfl dX8_isLetter_17
abbrev rm_X8_isMark : Room := { frames := 0, cells := 0, slots := 0, locals := 0 }
set_option maxRecDepth 100000 in
def f_X8_isMark (N : Nat) (x0 : Int32) : Option (Int32) := if x0 = 59 then (some 1) else (if x0 = 40 then (some 1) else (if x0 = 41 then (some 1) else (if x0 = 60 then (some 1) else (if x0 = 61 then (some 1) else (if x0 = 62 then (some 1) else (some 0))))))
set_option maxHeartbeats 4000000 in
set_option maxRecDepth 100000 in
theorem c_X8_isMark (l : Launch) (G : va_G) (cy : Nat → ClassId) (E : Nat → Nat) (N : Nat) (x0 : Int32) (r : Int32) (h : f_X8_isMark N x0 = some r) : zM l G cy E yX8_isMark wsX8_isMark rm_X8_isMark [.int x0] ([] : va_W) ([] : va_W) (some (.int r)) 0 0 := by
  refine z_body (cc := cX8_isMark) (maxL := 1) (ret := some .boolean) (by decide) rfl (Nat.le_of_ble_eq_true rfl) ?_
  intro p e s m below meth c ls S hr hlocks hnm hF hH hl
  have S : CallFix p m c cX8_isMark 1 s ([.int x0] : List Value).toArray wsX8_isMark RX8 := S
  obtain ⟨hx, hb, hml, hown, hts⟩ := id S
  have hl : lv_has ls 1 [(0, .int x0)] := hl
  rw [f_X8_isMark] at h
  refine lv_iload_n hx hb dX8_isMark_0 rfl (lv_at hl 0 rfl) ?_
  refine lv_bipush (v := 59) hx hb dX8_isMark_1 (by decide) ?_
  refine lv_icmp_eq (tgt := 36) hx hb dX8_isMark_3 (by decide) (fun b3 => ?_) (fun b3 => ?_)
  · replace h := zif_t b3 h
    refine lv_iconst (v := 1) hx hb dX8_isMark_36 (by decide) ?_
    refine lv_goto (tgt := 41) hx hb dX8_isMark_37 (by decide) ?_
    cases h
    exact z_zret S hr hlocks hH rfl dX8_isMark_41
  · replace h := zif_f b3 h
    refine lv_iload_n hx hb dX8_isMark_6 rfl (lv_at hl 0 rfl) ?_
    refine lv_bipush (v := 40) hx hb dX8_isMark_7 (by decide) ?_
    refine lv_icmp_eq (tgt := 36) hx hb dX8_isMark_9 (by decide) (fun b9 => ?_) (fun b9 => ?_)
    · replace h := zif_t b9 h
      refine lv_iconst (v := 1) hx hb dX8_isMark_36 (by decide) ?_
      refine lv_goto (tgt := 41) hx hb dX8_isMark_37 (by decide) ?_
      cases h
      exact z_zret S hr hlocks hH rfl dX8_isMark_41
    · replace h := zif_f b9 h
      refine lv_iload_n hx hb dX8_isMark_12 rfl (lv_at hl 0 rfl) ?_
      refine lv_bipush (v := 41) hx hb dX8_isMark_13 (by decide) ?_
      refine lv_icmp_eq (tgt := 36) hx hb dX8_isMark_15 (by decide) (fun b15 => ?_) (fun b15 => ?_)
      · replace h := zif_t b15 h
        refine lv_iconst (v := 1) hx hb dX8_isMark_36 (by decide) ?_
        refine lv_goto (tgt := 41) hx hb dX8_isMark_37 (by decide) ?_
        cases h
        exact z_zret S hr hlocks hH rfl dX8_isMark_41
      · replace h := zif_f b15 h
        refine lv_iload_n hx hb dX8_isMark_18 rfl (lv_at hl 0 rfl) ?_
        refine lv_bipush (v := 60) hx hb dX8_isMark_19 (by decide) ?_
        refine lv_icmp_eq (tgt := 36) hx hb dX8_isMark_21 (by decide) (fun b21 => ?_) (fun b21 => ?_)
        · replace h := zif_t b21 h
          refine lv_iconst (v := 1) hx hb dX8_isMark_36 (by decide) ?_
          refine lv_goto (tgt := 41) hx hb dX8_isMark_37 (by decide) ?_
          cases h
          exact z_zret S hr hlocks hH rfl dX8_isMark_41
        · replace h := zif_f b21 h
          refine lv_iload_n hx hb dX8_isMark_24 rfl (lv_at hl 0 rfl) ?_
          refine lv_bipush (v := 61) hx hb dX8_isMark_25 (by decide) ?_
          refine lv_icmp_eq (tgt := 36) hx hb dX8_isMark_27 (by decide) (fun b27 => ?_) (fun b27 => ?_)
          · replace h := zif_t b27 h
            refine lv_iconst (v := 1) hx hb dX8_isMark_36 (by decide) ?_
            refine lv_goto (tgt := 41) hx hb dX8_isMark_37 (by decide) ?_
            cases h
            exact z_zret S hr hlocks hH rfl dX8_isMark_41
          · replace h := zif_f b27 h
            refine lv_iload_n hx hb dX8_isMark_30 rfl (lv_at hl 0 rfl) ?_
            refine lv_bipush (v := 62) hx hb dX8_isMark_31 (by decide) ?_
            refine lv_icmp_ne (tgt := 40) hx hb dX8_isMark_33 (by decide) (fun b33 => ?_) (fun b33 => ?_)
            · replace h := zif_f b33 h
              refine lv_iconst (v := 0) hx hb dX8_isMark_40 (by decide) ?_
              cases h
              exact z_zret S hr hlocks hH rfl dX8_isMark_41
            · replace h := zif_t b33 h
              refine lv_iconst (v := 1) hx hb dX8_isMark_36 (by decide) ?_
              refine lv_goto (tgt := 41) hx hb dX8_isMark_37 (by decide) ?_
              cases h
              exact z_zret S hr hlocks hH rfl dX8_isMark_41
abbrev rm_X8_keywordOf : Room := { frames := 4, cells := 0, slots := 0, locals := 85 }
set_option maxRecDepth 100000 in
def f_X8_keywordOf_8 (N : Nat) : Nat → Int64 → Int64 → Int32 → Int32 → Option (Int32)
  | 0, _, _, _, _ => none
  | n + 1, x0, x2, x4, x5 => if 136 ≤ x5 then (some (-1)) else (zck (zin x5 136) <| zbn ((zch 0 (Int32.toNatClampNeg x5))) fun y1 => if y1 = 32 then (if (lg_cmp x2 x0) = 0 then (some x4) else (zbn (x4 + 1) fun y2 => zbn (x5 + 1) fun y3 => f_X8_keywordOf_8 N n x0 0 y2 y3)) else (zbn (((zlshl x2 8) ||| y1.toInt64)) fun y4 => zbn (x5 + 1) fun y5 => f_X8_keywordOf_8 N n x0 y4 x4 y5))
set_option maxRecDepth 100000 in
def f_X8_keywordOf (N : Nat) (x0 : Int64) : Option (Int32) := f_X8_keywordOf_8 N N x0 0 0 0
set_option maxHeartbeats 4000000 in
set_option maxRecDepth 100000 in
theorem w_X8_keywordOf_8 {p : Program} {l : Launch} {e : Env} {s : State} {m : MethodId} {args : Array Value} {below : List Frame} {meth : Method} {c : Code} {G : va_G} {cy : Nat → ClassId} {E : Nat → Nat} {w0 : va_W} {N : Nat} {r : Int32} (S : CallFix p m c cX8_keywordOf 7 s args wsX8_keywordOf RX8) (hr : meth.sig.returnType = some .int) (hlocks : meth.locks = false) (hF : zF G cy E (va_A w0 s.heap.size) s) :
    ∀ (n : Nat) (x0 : Int64) (x2 : Int64) (x4 : Int32) (x5 : Int32) (H : Heap) (locs : List Loc) (ls : Array Slot), zH G (va_A w0 s.heap.size) s H locs ([] : va_W) → lv_has ls 7 [(0, .long x0), (2, .long x2), (4, .int x4), (5, .int x5)] → f_X8_keywordOf_8 N n x0 x2 x4 x5 = some r → W p l e rm_X8_keywordOf s m args below meth c H locs 0 0 (MQ below (zQ G w0 ([] : va_W) s.heap.size (some (.int r))) args s 0 0 (va_A w0 s.heap.size)) (F0 m 8 ls []) := by
  obtain ⟨hx, hb, hml, hown, hts⟩ := id S
  intro n
  induction n with
  | zero =>
    intro x0 x2 x4 x5 H locs ls hH hl h
    rw [f_X8_keywordOf_8] at h
    cases h
  | succ n ih =>
    intro x0 x2 x4 x5 H locs ls hH hl h
    rw [f_X8_keywordOf_8] at h
    refine lv_iload hx hb dX8_keywordOf_8 (lv_at hl 3 rfl) ?_
    refine va_ldcS hx hb hown (hF.2.1.2.2.2.2.2.1 0 _ rfl) dX8_keywordOf_10 ?_
    refine z_callVr (As := []) (rest := [.int x5]) (st1 := [.int 136, .int x5]) (ws' := ([] : va_W)) S hF hH (c_J0_length_8abf5 l G cy E 0 (by decide)) (cwV 0 hts gX8_keywordOf_J0_length_8abf5 rfl rfl rfl (by decide +kernel) ⟨Nat.le_of_ble_eq_true rfl, Nat.le_of_ble_eq_true rfl⟩) (z_srec hF hH (by decide)) [] rfl (by decide) rfl rfl rfl rfl rfl hl.1 (Nat.le_of_ble_eq_true rfl) dX8_keywordOf_12 ⟨Nat.le_of_ble_eq_true rfl, Nat.le_of_ble_eq_true rfl⟩ (fun H locs hH => ?_)
    refine lv_icmp_ge (tgt := 66) hx hb dX8_keywordOf_15 (by decide) (fun b15 => ?_) (fun b15 => ?_)
    · replace h := zif_t b15 h
      refine lv_iconst (v := (-1)) hx hb dX8_keywordOf_66 (by decide) ?_
      cases h
      exact z_iret S hr hlocks hH dX8_keywordOf_67
    · replace h := zif_f b15 h
      refine va_ldcS hx hb hown (hF.2.1.2.2.2.2.2.1 0 _ rfl) dX8_keywordOf_18 ?_
      refine lv_iload hx hb dX8_keywordOf_20 (lv_at hl 3 rfl) ?_
      obtain ⟨h22, h⟩ := zck_e h
      refine z_callVr (As := [.int x5]) (rest := []) (st1 := [.int (zch 0 (Int32.toNatClampNeg x5))]) (ws' := ([] : va_W)) S hF hH (c_J0_charAt_5068e l G cy E 0 (by decide) x5 h22) (cwV 1 hts gX8_keywordOf_J0_charAt_5068e rfl rfl rfl (by decide +kernel) ⟨Nat.le_of_ble_eq_true rfl, Nat.le_of_ble_eq_true rfl⟩) (z_srec hF hH (by decide)) [] rfl (by decide) rfl rfl rfl rfl rfl hl.1 (Nat.le_of_ble_eq_true rfl) dX8_keywordOf_22 ⟨Nat.le_of_ble_eq_true rfl, Nat.le_of_ble_eq_true rfl⟩ (fun H locs hH => ?_)
      obtain ⟨y1, ey1, h⟩ := zbn_e h
      refine z_top ey1 ?_
      clear ey1
      refine lv_istore (lv' := [(6, .int y1), (0, .long x0), (2, .long x2), (4, .int x4), (5, .int x5)]) hx hb dX8_keywordOf_25 hl (by decide) rfl (fun ls hl => ?_)
      refine lv_iload hx hb dX8_keywordOf_27 (lv_at hl 0 rfl) ?_
      refine lv_bipush (v := 32) hx hb dX8_keywordOf_29 (by decide) ?_
      refine lv_icmp_eq (tgt := 46) hx hb dX8_keywordOf_31 (by decide) (fun b31 => ?_) (fun b31 => ?_)
      · replace h := zif_t b31 h
        refine lv_lload_n hx hb dX8_keywordOf_46 rfl (lv_at hl 2 rfl) ?_
        refine lv_lload_n hx hb dX8_keywordOf_47 rfl (lv_at hl 1 rfl) ?_
        refine W.lcmp hx hb dX8_keywordOf_48 ?_
        refine lv_if_ne (tgt := 55) hx hb dX8_keywordOf_49 (by decide) (fun b49 => ?_) (fun b49 => ?_)
        · replace h := zif_f b49 h
          refine lv_lconst (v := 0) hx hb dX8_keywordOf_55 (by decide) ?_
          refine lv_lstore_n (lv' := [(2, .long 0), (6, .int y1), (0, .long x0), (4, .int x4), (5, .int x5)]) hx hb dX8_keywordOf_56 rfl hl (by decide) rfl (fun ls hl => ?_)
          obtain ⟨y2, ey2, h⟩ := zbn_e h
          refine lv_iinc (v := y2) (lv' := [(4, .int y2), (2, .long 0), (6, .int y1), (0, .long x0), (5, .int x5)]) hx hb dX8_keywordOf_57 hl (k := 3) rfl (by rw [ey2]; exact congrArg (fun z => x4 + z) (by decide)) (by decide) rfl (fun ls hl => ?_)
          clear ey2
          obtain ⟨y3, ey3, h⟩ := zbn_e h
          refine lv_iinc (v := y3) (lv' := [(5, .int y3), (4, .int y2), (2, .long 0), (6, .int y1), (0, .long x0)]) hx hb dX8_keywordOf_60 hl (k := 4) rfl (by rw [ey3]; exact congrArg (fun z => x5 + z) (by decide)) (by decide) rfl (fun ls hl => ?_)
          clear ey3
          refine lv_goto (tgt := 8) hx hb dX8_keywordOf_63 (by decide) ?_
          exact ih x0 0 y2 y3 _ _ _ hH (lv_sub hl [4, 2, 1, 0] rfl) h
        · replace h := zif_t b49 h
          refine lv_iload hx hb dX8_keywordOf_52 (lv_at hl 3 rfl) ?_
          cases h
          exact z_iret S hr hlocks hH dX8_keywordOf_54
      · replace h := zif_f b31 h
        refine lv_lload_n hx hb dX8_keywordOf_34 rfl (lv_at hl 2 rfl) ?_
        refine lv_bipush (v := 8) hx hb dX8_keywordOf_35 (by decide) ?_
        refine lv_lshl (v := zlshl x2 8) hx hb dX8_keywordOf_37 rfl ?_
        refine lv_iload hx hb dX8_keywordOf_38 (lv_at hl 0 rfl) ?_
        refine lv_i2l (v := y1.toInt64) hx hb dX8_keywordOf_40 rfl ?_
        refine lv_lor hx hb dX8_keywordOf_41 ?_
        obtain ⟨y4, ey4, h⟩ := zbn_e h
        refine z_topl ey4 ?_
        clear ey4
        refine lv_lstore_n (lv' := [(2, .long y4), (6, .int y1), (0, .long x0), (4, .int x4), (5, .int x5)]) hx hb dX8_keywordOf_42 rfl hl (by decide) rfl (fun ls hl => ?_)
        refine lv_goto (tgt := 60) hx hb dX8_keywordOf_43 (by decide) ?_
        obtain ⟨y5, ey5, h⟩ := zbn_e h
        refine lv_iinc (v := y5) (lv' := [(5, .int y5), (2, .long y4), (6, .int y1), (0, .long x0), (4, .int x4)]) hx hb dX8_keywordOf_60 hl (k := 4) rfl (by rw [ey5]; exact congrArg (fun z => x5 + z) (by decide)) (by decide) rfl (fun ls hl => ?_)
        clear ey5
        refine lv_goto (tgt := 8) hx hb dX8_keywordOf_63 (by decide) ?_
        exact ih x0 y4 x4 y5 _ _ _ hH (lv_sub hl [3, 1, 4, 0] rfl) h
set_option maxHeartbeats 4000000 in
set_option maxRecDepth 100000 in
theorem c_X8_keywordOf (l : Launch) (G : va_G) (cy : Nat → ClassId) (E : Nat → Nat) (N : Nat) (x0 : Int64) (r : Int32) (h : f_X8_keywordOf N x0 = some r) : zM l G cy E yX8_keywordOf wsX8_keywordOf rm_X8_keywordOf [.long x0] ([] : va_W) ([] : va_W) (some (.int r)) 0 0 := by
  refine z_body (cc := cX8_keywordOf) (maxL := 7) (ret := some .int) (by decide) rfl (Nat.le_of_ble_eq_true rfl) ?_
  intro p e s m below meth c ls S hr hlocks hnm hF hH hl
  have S : CallFix p m c cX8_keywordOf 7 s ([.long x0] : List Value).toArray wsX8_keywordOf RX8 := S
  obtain ⟨hx, hb, hml, hown, hts⟩ := id S
  have hl : lv_has ls 7 [(0, .long x0)] := hl
  rw [f_X8_keywordOf] at h
  refine lv_lconst (v := 0) hx hb dX8_keywordOf_0 (by decide) ?_
  refine lv_lstore_n (lv' := [(2, .long 0), (0, .long x0)]) hx hb dX8_keywordOf_1 rfl hl (by decide) rfl (fun ls hl => ?_)
  refine lv_iconst (v := 0) hx hb dX8_keywordOf_2 (by decide) ?_
  refine lv_istore (lv' := [(4, .int 0), (2, .long 0), (0, .long x0)]) hx hb dX8_keywordOf_3 hl (by decide) rfl (fun ls hl => ?_)
  refine lv_iconst (v := 0) hx hb dX8_keywordOf_5 (by decide) ?_
  refine lv_istore (lv' := [(5, .int 0), (4, .int 0), (2, .long 0), (0, .long x0)]) hx hb dX8_keywordOf_6 hl (by decide) rfl (fun ls hl => ?_)
  exact w_X8_keywordOf_8 S hr hlocks hF N x0 0 0 0 _ _ _ hH (lv_sub hl [3, 2, 1, 0] rfl) h
abbrev wd_X8_readRun (cy : Nat → ClassId) (q_t q_t_tape q_t_kinds q_t_places q_t_values q_t_words q_t_tape_bytes : Nat) (t_kind : Int32) (t_place : Int32) (t_value : Int32) (t_word : Int64) (t_fault : Int32) (t_faultPlace : Int32) (t_size : Int32) (t_taken : Int32) (t_tape_length : Int32) (t_tape_bytes : Nat → Int32) (t_kinds : Nat → Int32) (t_places : Nat → Int32) (t_values : Nat → Int32) (t_words : Nat → Int64) : va_W := [(q_t, .inr (9, [.int t_kind, .int t_place, .int t_value, .long t_word, .int t_fault, .int t_faultPlace, .ref q_t_tape, .int t_size, .int t_taken, .ref q_t_kinds, .ref q_t_places, .ref q_t_values, .ref q_t_words])), (q_t_tape, .inr (8, [.ref q_t_tape_bytes, .int t_tape_length])), (q_t_tape_bytes, .inl (cy 0, 940, .inl t_tape_bytes)), (q_t_kinds, .inl (cy 1, 901, .inl t_kinds)), (q_t_places, .inl (cy 1, 901, .inl t_places)), (q_t_values, .inl (cy 1, 901, .inl t_values)), (q_t_words, .inl (cy 2, 901, .inr (.inl t_words)))]
theorem iX8_readRun_X7 : ∀ w ∈ wsX70, w ∈ wsX8_readRun := fun _ h => List.mem_cons_of_mem _ (List.mem_append_right _ h)
theorem iX8_readRun_X8 : ∀ w ∈ wsX80, w ∈ wsX8_readRun := fun _ h => List.mem_cons_of_mem _ (List.mem_append_left _ (List.mem_append_right _ h))
abbrev rm_X8_readRun : Room := { frames := 5, cells := 0, slots := 0, locals := 111 }
set_option maxRecDepth 100000 in
def f_X8_readRun_145 (N : Nat) (t_tape_length : Int32) (t_tape_bytes : Nat → Int32) (x1 : Int32) (x4 : Int64) (x7 : Int32) (x8 : Int32) (sk0 : Int32) (c_t_size : Int32) (c_t_kinds : Nat → Int32) (c_t_places : Nat → Int32) (c_t_values : Nat → Int32) (c_t_words : Nat → Int64) : Option (Int32 × Int32 × (Nat → Int32) × (Nat → Int32) × (Nat → Int32) × (Nat → Int64)) := zcl (f_X8_put N sk0 x1 x8 x4 c_t_size c_t_kinds c_t_places c_t_values c_t_words) fun z150 => some (x7, z150.1, z150.2.1, z150.2.2.1, z150.2.2.2.1, z150.2.2.2.2)
set_option maxRecDepth 100000 in
def f_X8_readRun_77 (N : Nat) (t_tape_length : Int32) (t_tape_bytes : Nat → Int32) (k_10 : Int32 → Int32 → Int32 → Int64 → Int32 → Int32 → (Nat → Int32) → (Nat → Int32) → (Nat → Int32) → (Nat → Int64) → (Option (Int32 × Int32 × (Nat → Int32) × (Nat → Int32) × (Nat → Int32) × (Nat → Int64)))) (x1 : Int32) (x3 : Int32) (x4 : Int64) (x6 : Int32) (x7 : Int32) (sk0 : Int32) (sk1 : Int32) (c_t_size : Int32) (c_t_kinds : Nat → Int32) (c_t_places : Nat → Int32) (c_t_values : Nat → Int32) (c_t_words : Nat → Int64) : Option (Int32 × Int32 × (Nat → Int32) × (Nat → Int32) × (Nat → Int32) × (Nat → Int64)) := zbn ((sk1 + sk0)) fun y1 => zbn ((((x3 * 10) + x7) - 48)) fun y2 => zbn (((zlshl x4 8) ||| x7.toInt64)) fun y3 => zbn (x6 + 1) fun y4 => k_10 x1 y1 y2 y3 y4 c_t_size c_t_kinds c_t_places c_t_values c_t_words
set_option maxRecDepth 100000 in
def f_X8_readRun_171 (N : Nat) (t_tape_length : Int32) (t_tape_bytes : Nat → Int32) (k_172 : Int32 → Int32 → Int32 → Int32 → Int32 → (Nat → Int32) → (Nat → Int32) → (Nat → Int32) → (Nat → Int64) → (Option (Int32 × Int32 × (Nat → Int32) × (Nat → Int32) × (Nat → Int32) × (Nat → Int64)))) (x1 : Int32) (x3 : Int32) (x7 : Int32) (c_t_size : Int32) (c_t_kinds : Nat → Int32) (c_t_places : Nat → Int32) (c_t_values : Nat → Int32) (c_t_words : Nat → Int64) : Option (Int32 × Int32 × (Nat → Int32) × (Nat → Int32) × (Nat → Int32) × (Nat → Int64)) := k_172 x1 x3 x7 1 c_t_size c_t_kinds c_t_places c_t_values c_t_words
set_option maxRecDepth 100000 in
def f_X8_readRun_172 (N : Nat) (t_tape_length : Int32) (t_tape_bytes : Nat → Int32) (x1 : Int32) (x3 : Int32) (x7 : Int32) (sk0 : Int32) (c_t_size : Int32) (c_t_kinds : Nat → Int32) (c_t_places : Nat → Int32) (c_t_values : Nat → Int32) (c_t_words : Nat → Int64) : Option (Int32 × Int32 × (Nat → Int32) × (Nat → Int32) × (Nat → Int32) × (Nat → Int64)) := zcl (f_X8_put N sk0 x1 x3 0 c_t_size c_t_kinds c_t_places c_t_values c_t_words) fun z175 => some (x7, z175.1, z175.2.1, z175.2.2.1, z175.2.2.2.1, z175.2.2.2.2)
set_option maxRecDepth 100000 in
def f_X8_readRun_156 (N : Nat) (t_tape_length : Int32) (t_tape_bytes : Nat → Int32) (x1 : Int32) (x2 : Int32) (x3 : Int32) (x7 : Int32) (c_t_size : Int32) (c_t_kinds : Nat → Int32) (c_t_places : Nat → Int32) (c_t_values : Nat → Int32) (c_t_words : Nat → Int64) : Option (Int32 × Int32 × (Nat → Int32) × (Nat → Int32) × (Nat → Int32) × (Nat → Int64)) := if x2 = 0 then (if 3 < x7 then (f_X8_readRun_171 N t_tape_length t_tape_bytes (f_X8_readRun_172 N t_tape_length t_tape_bytes) x1 x3 x7 c_t_size c_t_kinds c_t_places c_t_values c_t_words) else (f_X8_readRun_172 N t_tape_length t_tape_bytes x1 x3 x7 4 c_t_size c_t_kinds c_t_places c_t_values c_t_words)) else (f_X8_readRun_171 N t_tape_length t_tape_bytes (f_X8_readRun_172 N t_tape_length t_tape_bytes) x1 x3 x7 c_t_size c_t_kinds c_t_places c_t_values c_t_words)
set_option maxRecDepth 100000 in
def f_X8_readRun_52 (N : Nat) (t_tape_length : Int32) (t_tape_bytes : Nat → Int32) (k_10 : Int32 → Int32 → Int32 → Int64 → Int32 → Int32 → (Nat → Int32) → (Nat → Int32) → (Nat → Int32) → (Nat → Int64) → (Option (Int32 × Int32 × (Nat → Int32) × (Nat → Int32) × (Nat → Int32) × (Nat → Int64)))) (x1 : Int32) (x2 : Int32) (x3 : Int32) (x4 : Int64) (x6 : Int32) (c_t_size : Int32) (c_t_kinds : Nat → Int32) (c_t_places : Nat → Int32) (c_t_values : Nat → Int32) (c_t_words : Nat → Int64) : Option (Int32 × Int32 × (Nat → Int32) × (Nat → Int32) × (Nat → Int32) × (Nat → Int64)) := zcl (f_X7_at N x6 t_tape_length t_tape_bytes) fun z58 => zcl (f_X8_isLetter N z58) fun z66 => if z66 = 0 then (f_X8_readRun_77 N t_tape_length t_tape_bytes k_10 x1 x3 x4 x6 z58 0 x2 c_t_size c_t_kinds c_t_places c_t_values c_t_words) else (f_X8_readRun_77 N t_tape_length t_tape_bytes k_10 x1 x3 x4 x6 z58 1 x2 c_t_size c_t_kinds c_t_places c_t_values c_t_words)
set_option maxRecDepth 100000 in
def f_X8_readRun_107 (N : Nat) (t_tape_length : Int32) (t_tape_bytes : Nat → Int32) (x1 : Int32) (x2 : Int32) (x3 : Int32) (x4 : Int64) (x6 : Int32) (c_t_size : Int32) (c_t_kinds : Nat → Int32) (c_t_places : Nat → Int32) (c_t_values : Nat → Int32) (c_t_words : Nat → Int64) : Option (Int32 × Int32 × (Nat → Int32) × (Nat → Int32) × (Nat → Int32) × (Nat → Int64)) := zbn ((x6 - x1)) fun y1 => if x2 = y1 then (if 7 < y1 then (f_X8_readRun_156 N t_tape_length t_tape_bytes x1 x2 x3 y1 c_t_size c_t_kinds c_t_places c_t_values c_t_words) else (zcl (f_X8_keywordOf N x4) fun z128 => if z128 = (-1) then (f_X8_readRun_145 N t_tape_length t_tape_bytes x1 x4 y1 z128 2 c_t_size c_t_kinds c_t_places c_t_values c_t_words) else (f_X8_readRun_145 N t_tape_length t_tape_bytes x1 x4 y1 z128 3 c_t_size c_t_kinds c_t_places c_t_values c_t_words))) else (f_X8_readRun_156 N t_tape_length t_tape_bytes x1 x2 x3 y1 c_t_size c_t_kinds c_t_places c_t_values c_t_words)
set_option maxRecDepth 100000 in
def f_X8_readRun_10 (N : Nat) (t_tape_length : Int32) (t_tape_bytes : Nat → Int32) : Nat → Int32 → Int32 → Int32 → Int64 → Int32 → Int32 → (Nat → Int32) → (Nat → Int32) → (Nat → Int32) → (Nat → Int64) → (Option (Int32 × Int32 × (Nat → Int32) × (Nat → Int32) × (Nat → Int32) × (Nat → Int64)))
  | 0, _, _, _, _, _, _, _, _, _, _ => none
  | n + 1, x1, x2, x3, x4, x6, c_t_size, c_t_kinds, c_t_places, c_t_values, c_t_words => if t_tape_length ≤ x6 then (f_X8_readRun_107 N t_tape_length t_tape_bytes x1 x2 x3 x4 x6 c_t_size c_t_kinds c_t_places c_t_values c_t_words) else (zcl (f_X7_at N x6 t_tape_length t_tape_bytes) fun z28 => zcl (f_X8_isLetter N z28) fun z31 => if z31 = 0 then (zcl (f_X7_at N x6 t_tape_length t_tape_bytes) fun z43 => zcl (f_X8_isDigit N z43) fun z46 => if z46 = 0 then (f_X8_readRun_107 N t_tape_length t_tape_bytes x1 x2 x3 x4 x6 c_t_size c_t_kinds c_t_places c_t_values c_t_words) else (f_X8_readRun_52 N t_tape_length t_tape_bytes (f_X8_readRun_10 N t_tape_length t_tape_bytes n) x1 x2 x3 x4 x6 c_t_size c_t_kinds c_t_places c_t_values c_t_words)) else (f_X8_readRun_52 N t_tape_length t_tape_bytes (f_X8_readRun_10 N t_tape_length t_tape_bytes n) x1 x2 x3 x4 x6 c_t_size c_t_kinds c_t_places c_t_values c_t_words))
set_option maxRecDepth 100000 in
def f_X8_readRun (N : Nat) (x0 : Int32) (t_size : Int32) (t_tape_length : Int32) (t_tape_bytes : Nat → Int32) (t_kinds : Nat → Int32) (t_places : Nat → Int32) (t_values : Nat → Int32) (t_words : Nat → Int64) : Option (Int32 × Int32 × (Nat → Int32) × (Nat → Int32) × (Nat → Int32) × (Nat → Int64)) := f_X8_readRun_10 N t_tape_length t_tape_bytes N x0 0 0 0 x0 t_size t_kinds t_places t_values t_words
set_option maxHeartbeats 4000000 in
set_option maxRecDepth 100000 in
theorem w_X8_readRun_145 {p : Program} {l : Launch} {e : Env} {s : State} {m : MethodId} {args : Array Value} {below : List Frame} {meth : Method} {c : Code} {G : va_G} {cy : Nat → ClassId} {E : Nat → Nat} {w0 : va_W} {N : Nat} {q_t q_t_tape q_t_kinds q_t_places q_t_values q_t_words q_t_tape_bytes : Nat} {t_kind : Int32} {t_place : Int32} {t_value : Int32} {t_word : Int64} {t_fault : Int32} {t_faultPlace : Int32} {t_taken : Int32} {t_tape_length : Int32} {t_tape_bytes : Nat → Int32} {r : Int32} {r_t_size : Int32} {r_t_kinds : Nat → Int32} {r_t_places : Nat → Int32} {r_t_values : Nat → Int32} {r_t_words : Nat → Int64} (S : CallFix p m c cX8_readRun 9 s args wsX8_readRun RX8) (hr : meth.sig.returnType = some .int) (hlocks : meth.locks = false) (hF : zF G cy E (va_A w0 s.heap.size) s) :
    ∀ (x1 : Int32) (x4 : Int64) (x7 : Int32) (x8 : Int32) (sk0 : Int32) (c_t_size : Int32) (c_t_kinds : Nat → Int32) (c_t_places : Nat → Int32) (c_t_values : Nat → Int32) (c_t_words : Nat → Int64) (H : Heap) (locs : List Loc) (ls : Array Slot), zH G (va_A w0 s.heap.size) s H locs (wd_X8_readRun cy q_t q_t_tape q_t_kinds q_t_places q_t_values q_t_words q_t_tape_bytes t_kind t_place t_value t_word t_fault t_faultPlace c_t_size t_taken t_tape_length t_tape_bytes c_t_kinds c_t_places c_t_values c_t_words) → lv_has ls 9 [(1, .int x1), (4, .long x4), (7, .int x7), (8, .int x8)] → f_X8_readRun_145 N t_tape_length t_tape_bytes x1 x4 x7 x8 sk0 c_t_size c_t_kinds c_t_places c_t_values c_t_words = some (r, r_t_size, r_t_kinds, r_t_places, r_t_values, r_t_words) → W p l e rm_X8_readRun s m args below meth c H locs 0 0 (MQ below (zQ G w0 (wd_X8_readRun cy q_t q_t_tape q_t_kinds q_t_places q_t_values q_t_words q_t_tape_bytes t_kind t_place t_value t_word t_fault t_faultPlace r_t_size t_taken t_tape_length t_tape_bytes r_t_kinds r_t_places r_t_values r_t_words) s.heap.size (some (.int r))) args s 0 0 (va_A w0 s.heap.size)) (F0 m 145 ls [.int sk0, .ref q_t]) := by
  obtain ⟨hx, hb, hml, hown, hts⟩ := id S
  intro x1 x4 x7 x8 sk0 c_t_size c_t_kinds c_t_places c_t_values c_t_words H locs ls hH hl h
  rw [f_X8_readRun_145] at h
  refine lv_iload_n hx hb dX8_readRun_145 rfl (lv_at hl 0 rfl) ?_
  refine lv_iload hx hb dX8_readRun_146 (lv_at hl 3 rfl) ?_
  refine lv_lload hx hb dX8_readRun_148 (lv_at hl 1 rfl) ?_
  obtain ⟨z150, hz150, h⟩ := zcl_e h
  refine z_callV (As := [.int sk0, .int x1, .int x8, .long x4]) (rest := []) (st1 := []) (ws' := (wd_X8_readRun cy q_t q_t_tape q_t_kinds q_t_places q_t_values q_t_words q_t_tape_bytes t_kind t_place t_value t_word t_fault t_faultPlace z150.1 t_taken t_tape_length t_tape_bytes z150.2.1 z150.2.2.1 z150.2.2.2.1 z150.2.2.2.2)) S hF hH (c_X8_put l G cy E N q_t q_t_tape q_t_kinds q_t_places q_t_values q_t_words t_kind t_place t_value t_word t_fault t_faultPlace c_t_size t_taken c_t_kinds c_t_places c_t_values c_t_words sk0 x1 x8 x4 z150.1 z150.2.1 z150.2.2.1 z150.2.2.2.1 z150.2.2.2.2 hz150) (cwV 4 hts gX8_readRun_X8_put rfl rfl rfl (by decide +kernel) ⟨Nat.le_of_ble_eq_true rfl, Nat.le_of_ble_eq_true rfl⟩) 9 0 rfl rfl [0, 3, 4, 5, 6] rfl (by decide) rfl rfl rfl rfl rfl hl.1 (Nat.le_of_ble_eq_true rfl) dX8_readRun_150 ⟨Nat.le_of_ble_eq_true rfl, Nat.le_of_ble_eq_true rfl⟩ (fun H locs hH => ?_)
  refine lv_goto (tgt := 178) hx hb dX8_readRun_153 (by decide) ?_
  refine lv_iload hx hb dX8_readRun_178 (lv_at hl 2 rfl) ?_
  cases h
  exact z_iret S hr hlocks hH dX8_readRun_180
set_option maxHeartbeats 4000000 in
set_option maxRecDepth 100000 in
theorem w_X8_readRun_77 {p : Program} {l : Launch} {e : Env} {s : State} {m : MethodId} {args : Array Value} {below : List Frame} {meth : Method} {c : Code} {G : va_G} {cy : Nat → ClassId} {E : Nat → Nat} {w0 : va_W} {N : Nat} {q_t q_t_tape q_t_kinds q_t_places q_t_values q_t_words q_t_tape_bytes : Nat} {t_kind : Int32} {t_place : Int32} {t_value : Int32} {t_word : Int64} {t_fault : Int32} {t_faultPlace : Int32} {t_taken : Int32} {t_tape_length : Int32} {t_tape_bytes : Nat → Int32} {r : Int32} {r_t_size : Int32} {r_t_kinds : Nat → Int32} {r_t_places : Nat → Int32} {r_t_values : Nat → Int32} {r_t_words : Nat → Int64} {k_10 : Int32 → Int32 → Int32 → Int64 → Int32 → Int32 → (Nat → Int32) → (Nat → Int32) → (Nat → Int32) → (Nat → Int64) → (Option (Int32 × Int32 × (Nat → Int32) × (Nat → Int32) × (Nat → Int32) × (Nat → Int64)))} (S : CallFix p m c cX8_readRun 9 s args wsX8_readRun RX8) (hr : meth.sig.returnType = some .int) (hlocks : meth.locks = false) (hF : zF G cy E (va_A w0 s.heap.size) s) (hk_10 : ∀ (x1 : Int32) (x2 : Int32) (x3 : Int32) (x4 : Int64) (x6 : Int32) (c_t_size : Int32) (c_t_kinds : Nat → Int32) (c_t_places : Nat → Int32) (c_t_values : Nat → Int32) (c_t_words : Nat → Int64) (H : Heap) (locs : List Loc) (ls : Array Slot), zH G (va_A w0 s.heap.size) s H locs (wd_X8_readRun cy q_t q_t_tape q_t_kinds q_t_places q_t_values q_t_words q_t_tape_bytes t_kind t_place t_value t_word t_fault t_faultPlace c_t_size t_taken t_tape_length t_tape_bytes c_t_kinds c_t_places c_t_values c_t_words) → lv_has ls 9 [(0, .ref q_t), (1, .int x1), (2, .int x2), (3, .int x3), (4, .long x4), (6, .int x6)] → k_10 x1 x2 x3 x4 x6 c_t_size c_t_kinds c_t_places c_t_values c_t_words = some (r, r_t_size, r_t_kinds, r_t_places, r_t_values, r_t_words) → W p l e rm_X8_readRun s m args below meth c H locs 0 0 (MQ below (zQ G w0 (wd_X8_readRun cy q_t q_t_tape q_t_kinds q_t_places q_t_values q_t_words q_t_tape_bytes t_kind t_place t_value t_word t_fault t_faultPlace r_t_size t_taken t_tape_length t_tape_bytes r_t_kinds r_t_places r_t_values r_t_words) s.heap.size (some (.int r))) args s 0 0 (va_A w0 s.heap.size)) (F0 m 10 ls [])) :
    ∀ (x1 : Int32) (x3 : Int32) (x4 : Int64) (x6 : Int32) (x7 : Int32) (sk0 : Int32) (sk1 : Int32) (c_t_size : Int32) (c_t_kinds : Nat → Int32) (c_t_places : Nat → Int32) (c_t_values : Nat → Int32) (c_t_words : Nat → Int64) (H : Heap) (locs : List Loc) (ls : Array Slot), zH G (va_A w0 s.heap.size) s H locs (wd_X8_readRun cy q_t q_t_tape q_t_kinds q_t_places q_t_values q_t_words q_t_tape_bytes t_kind t_place t_value t_word t_fault t_faultPlace c_t_size t_taken t_tape_length t_tape_bytes c_t_kinds c_t_places c_t_values c_t_words) → lv_has ls 9 [(0, .ref q_t), (1, .int x1), (3, .int x3), (4, .long x4), (6, .int x6), (7, .int x7)] → f_X8_readRun_77 N t_tape_length t_tape_bytes k_10 x1 x3 x4 x6 x7 sk0 sk1 c_t_size c_t_kinds c_t_places c_t_values c_t_words = some (r, r_t_size, r_t_kinds, r_t_places, r_t_values, r_t_words) → W p l e rm_X8_readRun s m args below meth c H locs 0 0 (MQ below (zQ G w0 (wd_X8_readRun cy q_t q_t_tape q_t_kinds q_t_places q_t_values q_t_words q_t_tape_bytes t_kind t_place t_value t_word t_fault t_faultPlace r_t_size t_taken t_tape_length t_tape_bytes r_t_kinds r_t_places r_t_values r_t_words) s.heap.size (some (.int r))) args s 0 0 (va_A w0 s.heap.size)) (F0 m 77 ls [.int sk0, .int sk1]) := by
  obtain ⟨hx, hb, hml, hown, hts⟩ := id S
  intro x1 x3 x4 x6 x7 sk0 sk1 c_t_size c_t_kinds c_t_places c_t_values c_t_words H locs ls hH hl h
  rw [f_X8_readRun_77] at h
  refine lv_iadd hx hb dX8_readRun_77 ?_
  obtain ⟨y1, ey1, h⟩ := zbn_e h
  refine z_top ey1 ?_
  clear ey1
  refine lv_istore_n (lv' := [(2, .int y1), (0, .ref q_t), (1, .int x1), (3, .int x3), (4, .long x4), (6, .int x6), (7, .int x7)]) hx hb dX8_readRun_78 rfl hl (by decide) rfl (fun ls hl => ?_)
  refine lv_iload_n hx hb dX8_readRun_79 rfl (lv_at hl 3 rfl) ?_
  refine lv_bipush (v := 10) hx hb dX8_readRun_80 (by decide) ?_
  refine lv_imul hx hb dX8_readRun_82 ?_
  refine lv_iload hx hb dX8_readRun_83 (lv_at hl 6 rfl) ?_
  refine lv_iadd hx hb dX8_readRun_85 ?_
  refine lv_bipush (v := 48) hx hb dX8_readRun_86 (by decide) ?_
  refine lv_isub hx hb dX8_readRun_88 ?_
  obtain ⟨y2, ey2, h⟩ := zbn_e h
  refine z_top ey2 ?_
  clear ey2
  refine lv_istore_n (lv' := [(3, .int y2), (2, .int y1), (0, .ref q_t), (1, .int x1), (4, .long x4), (6, .int x6), (7, .int x7)]) hx hb dX8_readRun_89 rfl hl (by decide) rfl (fun ls hl => ?_)
  refine lv_lload hx hb dX8_readRun_90 (lv_at hl 4 rfl) ?_
  refine lv_bipush (v := 8) hx hb dX8_readRun_92 (by decide) ?_
  refine lv_lshl (v := zlshl x4 8) hx hb dX8_readRun_94 rfl ?_
  refine lv_iload hx hb dX8_readRun_95 (lv_at hl 6 rfl) ?_
  refine lv_i2l (v := x7.toInt64) hx hb dX8_readRun_97 rfl ?_
  refine lv_lor hx hb dX8_readRun_98 ?_
  obtain ⟨y3, ey3, h⟩ := zbn_e h
  refine z_topl ey3 ?_
  clear ey3
  refine lv_lstore (lv' := [(4, .long y3), (3, .int y2), (2, .int y1), (0, .ref q_t), (1, .int x1), (6, .int x6), (7, .int x7)]) hx hb dX8_readRun_99 hl (by decide) rfl (fun ls hl => ?_)
  obtain ⟨y4, ey4, h⟩ := zbn_e h
  refine lv_iinc (v := y4) (lv' := [(6, .int y4), (4, .long y3), (3, .int y2), (2, .int y1), (0, .ref q_t), (1, .int x1), (7, .int x7)]) hx hb dX8_readRun_101 hl (k := 5) rfl (by rw [ey4]; exact congrArg (fun z => x6 + z) (by decide)) (by decide) rfl (fun ls hl => ?_)
  clear ey4
  refine lv_goto (tgt := 10) hx hb dX8_readRun_104 (by decide) ?_
  exact hk_10 x1 y1 y2 y3 y4 c_t_size c_t_kinds c_t_places c_t_values c_t_words _ _ _ hH (lv_sub hl [4, 5, 3, 2, 1, 0] rfl) h
set_option maxHeartbeats 4000000 in
set_option maxRecDepth 100000 in
theorem w_X8_readRun_171 {p : Program} {l : Launch} {e : Env} {s : State} {m : MethodId} {args : Array Value} {below : List Frame} {meth : Method} {c : Code} {G : va_G} {cy : Nat → ClassId} {E : Nat → Nat} {w0 : va_W} {N : Nat} {q_t q_t_tape q_t_kinds q_t_places q_t_values q_t_words q_t_tape_bytes : Nat} {t_kind : Int32} {t_place : Int32} {t_value : Int32} {t_word : Int64} {t_fault : Int32} {t_faultPlace : Int32} {t_taken : Int32} {t_tape_length : Int32} {t_tape_bytes : Nat → Int32} {r : Int32} {r_t_size : Int32} {r_t_kinds : Nat → Int32} {r_t_places : Nat → Int32} {r_t_values : Nat → Int32} {r_t_words : Nat → Int64} {k_172 : Int32 → Int32 → Int32 → Int32 → Int32 → (Nat → Int32) → (Nat → Int32) → (Nat → Int32) → (Nat → Int64) → (Option (Int32 × Int32 × (Nat → Int32) × (Nat → Int32) × (Nat → Int32) × (Nat → Int64)))} (S : CallFix p m c cX8_readRun 9 s args wsX8_readRun RX8) (hr : meth.sig.returnType = some .int) (hlocks : meth.locks = false) (hF : zF G cy E (va_A w0 s.heap.size) s) (hk_172 : ∀ (x1 : Int32) (x3 : Int32) (x7 : Int32) (sk0 : Int32) (c_t_size : Int32) (c_t_kinds : Nat → Int32) (c_t_places : Nat → Int32) (c_t_values : Nat → Int32) (c_t_words : Nat → Int64) (H : Heap) (locs : List Loc) (ls : Array Slot), zH G (va_A w0 s.heap.size) s H locs (wd_X8_readRun cy q_t q_t_tape q_t_kinds q_t_places q_t_values q_t_words q_t_tape_bytes t_kind t_place t_value t_word t_fault t_faultPlace c_t_size t_taken t_tape_length t_tape_bytes c_t_kinds c_t_places c_t_values c_t_words) → lv_has ls 9 [(1, .int x1), (3, .int x3), (7, .int x7)] → k_172 x1 x3 x7 sk0 c_t_size c_t_kinds c_t_places c_t_values c_t_words = some (r, r_t_size, r_t_kinds, r_t_places, r_t_values, r_t_words) → W p l e rm_X8_readRun s m args below meth c H locs 0 0 (MQ below (zQ G w0 (wd_X8_readRun cy q_t q_t_tape q_t_kinds q_t_places q_t_values q_t_words q_t_tape_bytes t_kind t_place t_value t_word t_fault t_faultPlace r_t_size t_taken t_tape_length t_tape_bytes r_t_kinds r_t_places r_t_values r_t_words) s.heap.size (some (.int r))) args s 0 0 (va_A w0 s.heap.size)) (F0 m 172 ls [.int sk0, .ref q_t])) :
    ∀ (x1 : Int32) (x3 : Int32) (x7 : Int32) (c_t_size : Int32) (c_t_kinds : Nat → Int32) (c_t_places : Nat → Int32) (c_t_values : Nat → Int32) (c_t_words : Nat → Int64) (H : Heap) (locs : List Loc) (ls : Array Slot), zH G (va_A w0 s.heap.size) s H locs (wd_X8_readRun cy q_t q_t_tape q_t_kinds q_t_places q_t_values q_t_words q_t_tape_bytes t_kind t_place t_value t_word t_fault t_faultPlace c_t_size t_taken t_tape_length t_tape_bytes c_t_kinds c_t_places c_t_values c_t_words) → lv_has ls 9 [(1, .int x1), (3, .int x3), (7, .int x7)] → f_X8_readRun_171 N t_tape_length t_tape_bytes k_172 x1 x3 x7 c_t_size c_t_kinds c_t_places c_t_values c_t_words = some (r, r_t_size, r_t_kinds, r_t_places, r_t_values, r_t_words) → W p l e rm_X8_readRun s m args below meth c H locs 0 0 (MQ below (zQ G w0 (wd_X8_readRun cy q_t q_t_tape q_t_kinds q_t_places q_t_values q_t_words q_t_tape_bytes t_kind t_place t_value t_word t_fault t_faultPlace r_t_size t_taken t_tape_length t_tape_bytes r_t_kinds r_t_places r_t_values r_t_words) s.heap.size (some (.int r))) args s 0 0 (va_A w0 s.heap.size)) (F0 m 171 ls [.ref q_t]) := by
  obtain ⟨hx, hb, hml, hown, hts⟩ := id S
  intro x1 x3 x7 c_t_size c_t_kinds c_t_places c_t_values c_t_words H locs ls hH hl h
  rw [f_X8_readRun_171] at h
  refine lv_iconst (v := 1) hx hb dX8_readRun_171 (by decide) ?_
  exact hk_172 x1 x3 x7 1 c_t_size c_t_kinds c_t_places c_t_values c_t_words _ _ _ hH (lv_sub hl [0, 1, 2] rfl) h
set_option maxHeartbeats 4000000 in
set_option maxRecDepth 100000 in
theorem w_X8_readRun_172 {p : Program} {l : Launch} {e : Env} {s : State} {m : MethodId} {args : Array Value} {below : List Frame} {meth : Method} {c : Code} {G : va_G} {cy : Nat → ClassId} {E : Nat → Nat} {w0 : va_W} {N : Nat} {q_t q_t_tape q_t_kinds q_t_places q_t_values q_t_words q_t_tape_bytes : Nat} {t_kind : Int32} {t_place : Int32} {t_value : Int32} {t_word : Int64} {t_fault : Int32} {t_faultPlace : Int32} {t_taken : Int32} {t_tape_length : Int32} {t_tape_bytes : Nat → Int32} {r : Int32} {r_t_size : Int32} {r_t_kinds : Nat → Int32} {r_t_places : Nat → Int32} {r_t_values : Nat → Int32} {r_t_words : Nat → Int64} (S : CallFix p m c cX8_readRun 9 s args wsX8_readRun RX8) (hr : meth.sig.returnType = some .int) (hlocks : meth.locks = false) (hF : zF G cy E (va_A w0 s.heap.size) s) :
    ∀ (x1 : Int32) (x3 : Int32) (x7 : Int32) (sk0 : Int32) (c_t_size : Int32) (c_t_kinds : Nat → Int32) (c_t_places : Nat → Int32) (c_t_values : Nat → Int32) (c_t_words : Nat → Int64) (H : Heap) (locs : List Loc) (ls : Array Slot), zH G (va_A w0 s.heap.size) s H locs (wd_X8_readRun cy q_t q_t_tape q_t_kinds q_t_places q_t_values q_t_words q_t_tape_bytes t_kind t_place t_value t_word t_fault t_faultPlace c_t_size t_taken t_tape_length t_tape_bytes c_t_kinds c_t_places c_t_values c_t_words) → lv_has ls 9 [(1, .int x1), (3, .int x3), (7, .int x7)] → f_X8_readRun_172 N t_tape_length t_tape_bytes x1 x3 x7 sk0 c_t_size c_t_kinds c_t_places c_t_values c_t_words = some (r, r_t_size, r_t_kinds, r_t_places, r_t_values, r_t_words) → W p l e rm_X8_readRun s m args below meth c H locs 0 0 (MQ below (zQ G w0 (wd_X8_readRun cy q_t q_t_tape q_t_kinds q_t_places q_t_values q_t_words q_t_tape_bytes t_kind t_place t_value t_word t_fault t_faultPlace r_t_size t_taken t_tape_length t_tape_bytes r_t_kinds r_t_places r_t_values r_t_words) s.heap.size (some (.int r))) args s 0 0 (va_A w0 s.heap.size)) (F0 m 172 ls [.int sk0, .ref q_t]) := by
  obtain ⟨hx, hb, hml, hown, hts⟩ := id S
  intro x1 x3 x7 sk0 c_t_size c_t_kinds c_t_places c_t_values c_t_words H locs ls hH hl h
  rw [f_X8_readRun_172] at h
  refine lv_iload_n hx hb dX8_readRun_172 rfl (lv_at hl 0 rfl) ?_
  refine lv_iload_n hx hb dX8_readRun_173 rfl (lv_at hl 1 rfl) ?_
  refine lv_lconst (v := 0) hx hb dX8_readRun_174 (by decide) ?_
  obtain ⟨z175, hz175, h⟩ := zcl_e h
  refine z_callV (As := [.int sk0, .int x1, .int x3, .long 0]) (rest := []) (st1 := []) (ws' := (wd_X8_readRun cy q_t q_t_tape q_t_kinds q_t_places q_t_values q_t_words q_t_tape_bytes t_kind t_place t_value t_word t_fault t_faultPlace z175.1 t_taken t_tape_length t_tape_bytes z175.2.1 z175.2.2.1 z175.2.2.2.1 z175.2.2.2.2)) S hF hH (c_X8_put l G cy E N q_t q_t_tape q_t_kinds q_t_places q_t_values q_t_words t_kind t_place t_value t_word t_fault t_faultPlace c_t_size t_taken c_t_kinds c_t_places c_t_values c_t_words sk0 x1 x3 0 z175.1 z175.2.1 z175.2.2.1 z175.2.2.2.1 z175.2.2.2.2 hz175) (cwV 4 hts gX8_readRun_X8_put rfl rfl rfl (by decide +kernel) ⟨Nat.le_of_ble_eq_true rfl, Nat.le_of_ble_eq_true rfl⟩) 9 0 rfl rfl [0, 3, 4, 5, 6] rfl (by decide) rfl rfl rfl rfl rfl hl.1 (Nat.le_of_ble_eq_true rfl) dX8_readRun_175 ⟨Nat.le_of_ble_eq_true rfl, Nat.le_of_ble_eq_true rfl⟩ (fun H locs hH => ?_)
  refine lv_iload hx hb dX8_readRun_178 (lv_at hl 2 rfl) ?_
  cases h
  exact z_iret S hr hlocks hH dX8_readRun_180
set_option maxHeartbeats 4000000 in
set_option maxRecDepth 100000 in
theorem w_X8_readRun_156 {p : Program} {l : Launch} {e : Env} {s : State} {m : MethodId} {args : Array Value} {below : List Frame} {meth : Method} {c : Code} {G : va_G} {cy : Nat → ClassId} {E : Nat → Nat} {w0 : va_W} {N : Nat} {q_t q_t_tape q_t_kinds q_t_places q_t_values q_t_words q_t_tape_bytes : Nat} {t_kind : Int32} {t_place : Int32} {t_value : Int32} {t_word : Int64} {t_fault : Int32} {t_faultPlace : Int32} {t_taken : Int32} {t_tape_length : Int32} {t_tape_bytes : Nat → Int32} {r : Int32} {r_t_size : Int32} {r_t_kinds : Nat → Int32} {r_t_places : Nat → Int32} {r_t_values : Nat → Int32} {r_t_words : Nat → Int64} (S : CallFix p m c cX8_readRun 9 s args wsX8_readRun RX8) (hr : meth.sig.returnType = some .int) (hlocks : meth.locks = false) (hF : zF G cy E (va_A w0 s.heap.size) s) :
    ∀ (x1 : Int32) (x2 : Int32) (x3 : Int32) (x7 : Int32) (c_t_size : Int32) (c_t_kinds : Nat → Int32) (c_t_places : Nat → Int32) (c_t_values : Nat → Int32) (c_t_words : Nat → Int64) (H : Heap) (locs : List Loc) (ls : Array Slot), zH G (va_A w0 s.heap.size) s H locs (wd_X8_readRun cy q_t q_t_tape q_t_kinds q_t_places q_t_values q_t_words q_t_tape_bytes t_kind t_place t_value t_word t_fault t_faultPlace c_t_size t_taken t_tape_length t_tape_bytes c_t_kinds c_t_places c_t_values c_t_words) → lv_has ls 9 [(0, .ref q_t), (1, .int x1), (2, .int x2), (3, .int x3), (7, .int x7)] → f_X8_readRun_156 N t_tape_length t_tape_bytes x1 x2 x3 x7 c_t_size c_t_kinds c_t_places c_t_values c_t_words = some (r, r_t_size, r_t_kinds, r_t_places, r_t_values, r_t_words) → W p l e rm_X8_readRun s m args below meth c H locs 0 0 (MQ below (zQ G w0 (wd_X8_readRun cy q_t q_t_tape q_t_kinds q_t_places q_t_values q_t_words q_t_tape_bytes t_kind t_place t_value t_word t_fault t_faultPlace r_t_size t_taken t_tape_length t_tape_bytes r_t_kinds r_t_places r_t_values r_t_words) s.heap.size (some (.int r))) args s 0 0 (va_A w0 s.heap.size)) (F0 m 156 ls []) := by
  obtain ⟨hx, hb, hml, hown, hts⟩ := id S
  intro x1 x2 x3 x7 c_t_size c_t_kinds c_t_places c_t_values c_t_words H locs ls hH hl h
  rw [f_X8_readRun_156] at h
  refine lv_aload_n hx hb dX8_readRun_156 rfl (lv_at hl 0 rfl) ?_
  refine lv_iload_n hx hb dX8_readRun_157 rfl (lv_at hl 2 rfl) ?_
  refine lv_if_ne (tgt := 171) hx hb dX8_readRun_158 (by decide) (fun b158 => ?_) (fun b158 => ?_)
  · replace h := zif_f b158 h
    exact w_X8_readRun_171 S hr hlocks hF (w_X8_readRun_172 S hr hlocks hF) x1 x3 x7 c_t_size c_t_kinds c_t_places c_t_values c_t_words _ _ _ hH (lv_sub hl [1, 3, 4] rfl) h
  · replace h := zif_t b158 h
    refine lv_iload hx hb dX8_readRun_161 (lv_at hl 4 rfl) ?_
    refine lv_iconst (v := 3) hx hb dX8_readRun_163 (by decide) ?_
    refine lv_icmp_gt (tgt := 171) hx hb dX8_readRun_164 (by decide) (fun b164 => ?_) (fun b164 => ?_)
    · replace h := zif_t b164 h
      exact w_X8_readRun_171 S hr hlocks hF (w_X8_readRun_172 S hr hlocks hF) x1 x3 x7 c_t_size c_t_kinds c_t_places c_t_values c_t_words _ _ _ hH (lv_sub hl [1, 3, 4] rfl) h
    · replace h := zif_f b164 h
      refine lv_iconst (v := 4) hx hb dX8_readRun_167 (by decide) ?_
      refine lv_goto (tgt := 172) hx hb dX8_readRun_168 (by decide) ?_
      exact w_X8_readRun_172 S hr hlocks hF x1 x3 x7 4 c_t_size c_t_kinds c_t_places c_t_values c_t_words _ _ _ hH (lv_sub hl [1, 3, 4] rfl) h
set_option maxHeartbeats 4000000 in
set_option maxRecDepth 100000 in
theorem w_X8_readRun_52 {p : Program} {l : Launch} {e : Env} {s : State} {m : MethodId} {args : Array Value} {below : List Frame} {meth : Method} {c : Code} {G : va_G} {cy : Nat → ClassId} {E : Nat → Nat} {w0 : va_W} {N : Nat} {q_t q_t_tape q_t_kinds q_t_places q_t_values q_t_words q_t_tape_bytes : Nat} {t_kind : Int32} {t_place : Int32} {t_value : Int32} {t_word : Int64} {t_fault : Int32} {t_faultPlace : Int32} {t_taken : Int32} {t_tape_length : Int32} {t_tape_bytes : Nat → Int32} {r : Int32} {r_t_size : Int32} {r_t_kinds : Nat → Int32} {r_t_places : Nat → Int32} {r_t_values : Nat → Int32} {r_t_words : Nat → Int64} {k_10 : Int32 → Int32 → Int32 → Int64 → Int32 → Int32 → (Nat → Int32) → (Nat → Int32) → (Nat → Int32) → (Nat → Int64) → (Option (Int32 × Int32 × (Nat → Int32) × (Nat → Int32) × (Nat → Int32) × (Nat → Int64)))} (S : CallFix p m c cX8_readRun 9 s args wsX8_readRun RX8) (hr : meth.sig.returnType = some .int) (hlocks : meth.locks = false) (hF : zF G cy E (va_A w0 s.heap.size) s) (hk_10 : ∀ (x1 : Int32) (x2 : Int32) (x3 : Int32) (x4 : Int64) (x6 : Int32) (c_t_size : Int32) (c_t_kinds : Nat → Int32) (c_t_places : Nat → Int32) (c_t_values : Nat → Int32) (c_t_words : Nat → Int64) (H : Heap) (locs : List Loc) (ls : Array Slot), zH G (va_A w0 s.heap.size) s H locs (wd_X8_readRun cy q_t q_t_tape q_t_kinds q_t_places q_t_values q_t_words q_t_tape_bytes t_kind t_place t_value t_word t_fault t_faultPlace c_t_size t_taken t_tape_length t_tape_bytes c_t_kinds c_t_places c_t_values c_t_words) → lv_has ls 9 [(0, .ref q_t), (1, .int x1), (2, .int x2), (3, .int x3), (4, .long x4), (6, .int x6)] → k_10 x1 x2 x3 x4 x6 c_t_size c_t_kinds c_t_places c_t_values c_t_words = some (r, r_t_size, r_t_kinds, r_t_places, r_t_values, r_t_words) → W p l e rm_X8_readRun s m args below meth c H locs 0 0 (MQ below (zQ G w0 (wd_X8_readRun cy q_t q_t_tape q_t_kinds q_t_places q_t_values q_t_words q_t_tape_bytes t_kind t_place t_value t_word t_fault t_faultPlace r_t_size t_taken t_tape_length t_tape_bytes r_t_kinds r_t_places r_t_values r_t_words) s.heap.size (some (.int r))) args s 0 0 (va_A w0 s.heap.size)) (F0 m 10 ls [])) :
    ∀ (x1 : Int32) (x2 : Int32) (x3 : Int32) (x4 : Int64) (x6 : Int32) (c_t_size : Int32) (c_t_kinds : Nat → Int32) (c_t_places : Nat → Int32) (c_t_values : Nat → Int32) (c_t_words : Nat → Int64) (H : Heap) (locs : List Loc) (ls : Array Slot), zH G (va_A w0 s.heap.size) s H locs (wd_X8_readRun cy q_t q_t_tape q_t_kinds q_t_places q_t_values q_t_words q_t_tape_bytes t_kind t_place t_value t_word t_fault t_faultPlace c_t_size t_taken t_tape_length t_tape_bytes c_t_kinds c_t_places c_t_values c_t_words) → lv_has ls 9 [(0, .ref q_t), (1, .int x1), (2, .int x2), (3, .int x3), (4, .long x4), (6, .int x6)] → f_X8_readRun_52 N t_tape_length t_tape_bytes k_10 x1 x2 x3 x4 x6 c_t_size c_t_kinds c_t_places c_t_values c_t_words = some (r, r_t_size, r_t_kinds, r_t_places, r_t_values, r_t_words) → W p l e rm_X8_readRun s m args below meth c H locs 0 0 (MQ below (zQ G w0 (wd_X8_readRun cy q_t q_t_tape q_t_kinds q_t_places q_t_values q_t_words q_t_tape_bytes t_kind t_place t_value t_word t_fault t_faultPlace r_t_size t_taken t_tape_length t_tape_bytes r_t_kinds r_t_places r_t_values r_t_words) s.heap.size (some (.int r))) args s 0 0 (va_A w0 s.heap.size)) (F0 m 52 ls []) := by
  obtain ⟨hx, hb, hml, hown, hts⟩ := id S
  intro x1 x2 x3 x4 x6 c_t_size c_t_kinds c_t_places c_t_values c_t_words H locs ls hH hl h
  rw [f_X8_readRun_52] at h
  refine lv_aload_n hx hb dX8_readRun_52 rfl (lv_at hl 0 rfl) ?_
  refine z_get S hF hH iX8_readRun_X8 0 rfl rfl 6 (by decide) (List.mem_of_getElem? (i := 1) rfl) rfl dX8_readRun_53 ?_
  refine lv_iload hx hb dX8_readRun_56 (lv_at hl 5 rfl) ?_
  obtain ⟨z58, hz58, h⟩ := zcl_e h
  refine z_callV (As := [.int x6]) (rest := []) (st1 := [.int z58]) (ws' := (wd_X8_readRun cy q_t q_t_tape q_t_kinds q_t_places q_t_values q_t_words q_t_tape_bytes t_kind t_place t_value t_word t_fault t_faultPlace c_t_size t_taken t_tape_length t_tape_bytes c_t_kinds c_t_places c_t_values c_t_words)) S hF hH (c_X7_at l G cy E N q_t_tape q_t_tape_bytes t_tape_length t_tape_bytes x6 z58 hz58) (cwV 1 hts gX8_readRun_X7_at rfl rfl rfl (by decide +kernel) ⟨Nat.le_of_ble_eq_true rfl, Nat.le_of_ble_eq_true rfl⟩) 8 0 rfl rfl [1, 2] rfl (by decide) rfl rfl rfl rfl rfl hl.1 (Nat.le_of_ble_eq_true rfl) dX8_readRun_58 ⟨Nat.le_of_ble_eq_true rfl, Nat.le_of_ble_eq_true rfl⟩ (fun H locs hH => ?_)
  refine lv_istore (lv' := [(7, .int z58), (0, .ref q_t), (1, .int x1), (2, .int x2), (3, .int x3), (4, .long x4), (6, .int x6)]) hx hb dX8_readRun_61 hl (by decide) rfl (fun ls hl => ?_)
  refine lv_iload_n hx hb dX8_readRun_63 rfl (lv_at hl 3 rfl) ?_
  refine lv_iload hx hb dX8_readRun_64 (lv_at hl 0 rfl) ?_
  obtain ⟨z66, hz66, h⟩ := zcl_e h
  refine z_callS (As := [.int z58]) (rest := [.int x2]) (st1 := [.int z66, .int x2]) (ws' := (wd_X8_readRun cy q_t q_t_tape q_t_kinds q_t_places q_t_values q_t_words q_t_tape_bytes t_kind t_place t_value t_word t_fault t_faultPlace c_t_size t_taken t_tape_length t_tape_bytes c_t_kinds c_t_places c_t_values c_t_words)) S hF hH (c_X8_isLetter l G cy E N z58 z66 hz66) (cwS 1 hts gX8_readRun_X8_isLetter rfl rfl rfl (by decide +kernel) ⟨Nat.le_of_ble_eq_true rfl, Nat.le_of_ble_eq_true rfl⟩) [] rfl (by decide) rfl rfl rfl rfl rfl hl.1 (Nat.le_of_ble_eq_true rfl) dX8_readRun_66 ⟨Nat.le_of_ble_eq_true rfl, Nat.le_of_ble_eq_true rfl⟩ (fun H locs hH => ?_)
  refine lv_if_eq (tgt := 76) hx hb dX8_readRun_69 (by decide) (fun b69 => ?_) (fun b69 => ?_)
  · replace h := zif_t b69 h
    refine lv_iconst (v := 0) hx hb dX8_readRun_76 (by decide) ?_
    exact w_X8_readRun_77 S hr hlocks hF hk_10 x1 x3 x4 x6 z58 0 x2 c_t_size c_t_kinds c_t_places c_t_values c_t_words _ _ _ hH (lv_sub hl [1, 2, 4, 5, 6, 0] rfl) h
  · replace h := zif_f b69 h
    refine lv_iconst (v := 1) hx hb dX8_readRun_72 (by decide) ?_
    refine lv_goto (tgt := 77) hx hb dX8_readRun_73 (by decide) ?_
    exact w_X8_readRun_77 S hr hlocks hF hk_10 x1 x3 x4 x6 z58 1 x2 c_t_size c_t_kinds c_t_places c_t_values c_t_words _ _ _ hH (lv_sub hl [1, 2, 4, 5, 6, 0] rfl) h
set_option maxHeartbeats 4000000 in
set_option maxRecDepth 100000 in
theorem w_X8_readRun_107 {p : Program} {l : Launch} {e : Env} {s : State} {m : MethodId} {args : Array Value} {below : List Frame} {meth : Method} {c : Code} {G : va_G} {cy : Nat → ClassId} {E : Nat → Nat} {w0 : va_W} {N : Nat} {q_t q_t_tape q_t_kinds q_t_places q_t_values q_t_words q_t_tape_bytes : Nat} {t_kind : Int32} {t_place : Int32} {t_value : Int32} {t_word : Int64} {t_fault : Int32} {t_faultPlace : Int32} {t_taken : Int32} {t_tape_length : Int32} {t_tape_bytes : Nat → Int32} {r : Int32} {r_t_size : Int32} {r_t_kinds : Nat → Int32} {r_t_places : Nat → Int32} {r_t_values : Nat → Int32} {r_t_words : Nat → Int64} (S : CallFix p m c cX8_readRun 9 s args wsX8_readRun RX8) (hr : meth.sig.returnType = some .int) (hlocks : meth.locks = false) (hF : zF G cy E (va_A w0 s.heap.size) s) :
    ∀ (x1 : Int32) (x2 : Int32) (x3 : Int32) (x4 : Int64) (x6 : Int32) (c_t_size : Int32) (c_t_kinds : Nat → Int32) (c_t_places : Nat → Int32) (c_t_values : Nat → Int32) (c_t_words : Nat → Int64) (H : Heap) (locs : List Loc) (ls : Array Slot), zH G (va_A w0 s.heap.size) s H locs (wd_X8_readRun cy q_t q_t_tape q_t_kinds q_t_places q_t_values q_t_words q_t_tape_bytes t_kind t_place t_value t_word t_fault t_faultPlace c_t_size t_taken t_tape_length t_tape_bytes c_t_kinds c_t_places c_t_values c_t_words) → lv_has ls 9 [(0, .ref q_t), (1, .int x1), (2, .int x2), (3, .int x3), (4, .long x4), (6, .int x6)] → f_X8_readRun_107 N t_tape_length t_tape_bytes x1 x2 x3 x4 x6 c_t_size c_t_kinds c_t_places c_t_values c_t_words = some (r, r_t_size, r_t_kinds, r_t_places, r_t_values, r_t_words) → W p l e rm_X8_readRun s m args below meth c H locs 0 0 (MQ below (zQ G w0 (wd_X8_readRun cy q_t q_t_tape q_t_kinds q_t_places q_t_values q_t_words q_t_tape_bytes t_kind t_place t_value t_word t_fault t_faultPlace r_t_size t_taken t_tape_length t_tape_bytes r_t_kinds r_t_places r_t_values r_t_words) s.heap.size (some (.int r))) args s 0 0 (va_A w0 s.heap.size)) (F0 m 107 ls []) := by
  obtain ⟨hx, hb, hml, hown, hts⟩ := id S
  intro x1 x2 x3 x4 x6 c_t_size c_t_kinds c_t_places c_t_values c_t_words H locs ls hH hl h
  rw [f_X8_readRun_107] at h
  refine lv_iload hx hb dX8_readRun_107 (lv_at hl 5 rfl) ?_
  refine lv_iload_n hx hb dX8_readRun_109 rfl (lv_at hl 1 rfl) ?_
  refine lv_isub hx hb dX8_readRun_110 ?_
  obtain ⟨y1, ey1, h⟩ := zbn_e h
  refine z_top ey1 ?_
  clear ey1
  refine lv_istore (lv' := [(7, .int y1), (0, .ref q_t), (1, .int x1), (2, .int x2), (3, .int x3), (4, .long x4), (6, .int x6)]) hx hb dX8_readRun_111 hl (by decide) rfl (fun ls hl => ?_)
  refine lv_iload_n hx hb dX8_readRun_113 rfl (lv_at hl 3 rfl) ?_
  refine lv_iload hx hb dX8_readRun_114 (lv_at hl 0 rfl) ?_
  refine lv_icmp_ne (tgt := 156) hx hb dX8_readRun_116 (by decide) (fun b116 => ?_) (fun b116 => ?_)
  · replace h := zif_f b116 h
    exact w_X8_readRun_156 S hr hlocks hF x1 x2 x3 y1 c_t_size c_t_kinds c_t_places c_t_values c_t_words _ _ _ hH (lv_sub hl [1, 2, 3, 4, 0] rfl) h
  · replace h := zif_t b116 h
    refine lv_iload hx hb dX8_readRun_119 (lv_at hl 0 rfl) ?_
    refine lv_bipush (v := 7) hx hb dX8_readRun_121 (by decide) ?_
    refine lv_icmp_gt (tgt := 156) hx hb dX8_readRun_123 (by decide) (fun b123 => ?_) (fun b123 => ?_)
    · replace h := zif_t b123 h
      exact w_X8_readRun_156 S hr hlocks hF x1 x2 x3 y1 c_t_size c_t_kinds c_t_places c_t_values c_t_words _ _ _ hH (lv_sub hl [1, 2, 3, 4, 0] rfl) h
    · replace h := zif_f b123 h
      refine lv_lload hx hb dX8_readRun_126 (lv_at hl 5 rfl) ?_
      obtain ⟨z128, hz128, h⟩ := zcl_e h
      refine z_callS (As := [.long x4]) (rest := []) (st1 := [.int z128]) (ws' := (wd_X8_readRun cy q_t q_t_tape q_t_kinds q_t_places q_t_values q_t_words q_t_tape_bytes t_kind t_place t_value t_word t_fault t_faultPlace c_t_size t_taken t_tape_length t_tape_bytes c_t_kinds c_t_places c_t_values c_t_words)) S hF hH (c_X8_keywordOf l G cy E N x4 z128 hz128) (cwS 1 hts gX8_readRun_X8_keywordOf rfl rfl rfl (by decide +kernel) ⟨Nat.le_of_ble_eq_true rfl, Nat.le_of_ble_eq_true rfl⟩) [] rfl (by decide) rfl rfl rfl rfl rfl hl.1 (Nat.le_of_ble_eq_true rfl) dX8_readRun_128 ⟨Nat.le_of_ble_eq_true rfl, Nat.le_of_ble_eq_true rfl⟩ (fun H locs hH => ?_)
      refine lv_istore (lv' := [(8, .int z128), (7, .int y1), (0, .ref q_t), (1, .int x1), (2, .int x2), (3, .int x3), (4, .long x4), (6, .int x6)]) hx hb dX8_readRun_131 hl (by decide) rfl (fun ls hl => ?_)
      refine lv_aload_n hx hb dX8_readRun_133 rfl (lv_at hl 2 rfl) ?_
      refine lv_iload hx hb dX8_readRun_134 (lv_at hl 0 rfl) ?_
      refine lv_iconst (v := (-1)) hx hb dX8_readRun_136 (by decide) ?_
      refine lv_icmp_ne (tgt := 144) hx hb dX8_readRun_137 (by decide) (fun b137 => ?_) (fun b137 => ?_)
      · replace h := zif_f b137 h
        refine lv_iconst (v := 3) hx hb dX8_readRun_144 (by decide) ?_
        exact w_X8_readRun_145 S hr hlocks hF x1 x4 y1 z128 3 c_t_size c_t_kinds c_t_places c_t_values c_t_words _ _ _ hH (lv_sub hl [3, 6, 1, 0] rfl) h
      · replace h := zif_t b137 h
        refine lv_iconst (v := 2) hx hb dX8_readRun_140 (by decide) ?_
        refine lv_goto (tgt := 145) hx hb dX8_readRun_141 (by decide) ?_
        exact w_X8_readRun_145 S hr hlocks hF x1 x4 y1 z128 2 c_t_size c_t_kinds c_t_places c_t_values c_t_words _ _ _ hH (lv_sub hl [3, 6, 1, 0] rfl) h
set_option maxHeartbeats 4000000 in
set_option maxRecDepth 100000 in
theorem w_X8_readRun_10 {p : Program} {l : Launch} {e : Env} {s : State} {m : MethodId} {args : Array Value} {below : List Frame} {meth : Method} {c : Code} {G : va_G} {cy : Nat → ClassId} {E : Nat → Nat} {w0 : va_W} {N : Nat} {q_t q_t_tape q_t_kinds q_t_places q_t_values q_t_words q_t_tape_bytes : Nat} {t_kind : Int32} {t_place : Int32} {t_value : Int32} {t_word : Int64} {t_fault : Int32} {t_faultPlace : Int32} {t_taken : Int32} {t_tape_length : Int32} {t_tape_bytes : Nat → Int32} {r : Int32} {r_t_size : Int32} {r_t_kinds : Nat → Int32} {r_t_places : Nat → Int32} {r_t_values : Nat → Int32} {r_t_words : Nat → Int64} (S : CallFix p m c cX8_readRun 9 s args wsX8_readRun RX8) (hr : meth.sig.returnType = some .int) (hlocks : meth.locks = false) (hF : zF G cy E (va_A w0 s.heap.size) s) :
    ∀ (n : Nat) (x1 : Int32) (x2 : Int32) (x3 : Int32) (x4 : Int64) (x6 : Int32) (c_t_size : Int32) (c_t_kinds : Nat → Int32) (c_t_places : Nat → Int32) (c_t_values : Nat → Int32) (c_t_words : Nat → Int64) (H : Heap) (locs : List Loc) (ls : Array Slot), zH G (va_A w0 s.heap.size) s H locs (wd_X8_readRun cy q_t q_t_tape q_t_kinds q_t_places q_t_values q_t_words q_t_tape_bytes t_kind t_place t_value t_word t_fault t_faultPlace c_t_size t_taken t_tape_length t_tape_bytes c_t_kinds c_t_places c_t_values c_t_words) → lv_has ls 9 [(0, .ref q_t), (1, .int x1), (2, .int x2), (3, .int x3), (4, .long x4), (6, .int x6)] → f_X8_readRun_10 N t_tape_length t_tape_bytes n x1 x2 x3 x4 x6 c_t_size c_t_kinds c_t_places c_t_values c_t_words = some (r, r_t_size, r_t_kinds, r_t_places, r_t_values, r_t_words) → W p l e rm_X8_readRun s m args below meth c H locs 0 0 (MQ below (zQ G w0 (wd_X8_readRun cy q_t q_t_tape q_t_kinds q_t_places q_t_values q_t_words q_t_tape_bytes t_kind t_place t_value t_word t_fault t_faultPlace r_t_size t_taken t_tape_length t_tape_bytes r_t_kinds r_t_places r_t_values r_t_words) s.heap.size (some (.int r))) args s 0 0 (va_A w0 s.heap.size)) (F0 m 10 ls []) := by
  obtain ⟨hx, hb, hml, hown, hts⟩ := id S
  intro n
  induction n with
  | zero =>
    intro x1 x2 x3 x4 x6 c_t_size c_t_kinds c_t_places c_t_values c_t_words H locs ls hH hl h
    rw [f_X8_readRun_10] at h
    cases h
  | succ n ih =>
    intro x1 x2 x3 x4 x6 c_t_size c_t_kinds c_t_places c_t_values c_t_words H locs ls hH hl h
    rw [f_X8_readRun_10] at h
    refine lv_iload hx hb dX8_readRun_10 (lv_at hl 5 rfl) ?_
    refine lv_aload_n hx hb dX8_readRun_12 rfl (lv_at hl 0 rfl) ?_
    refine z_get S hF hH iX8_readRun_X8 0 rfl rfl 6 (by decide) (List.mem_of_getElem? (i := 1) rfl) rfl dX8_readRun_13 ?_
    refine z_get S hF hH iX8_readRun_X7 1 rfl rfl 1 (by decide) (List.mem_of_getElem? (i := 2) rfl) rfl dX8_readRun_16 ?_
    refine lv_icmp_ge (tgt := 107) hx hb dX8_readRun_19 (by decide) (fun b19 => ?_) (fun b19 => ?_)
    · replace h := zif_t b19 h
      exact w_X8_readRun_107 S hr hlocks hF x1 x2 x3 x4 x6 c_t_size c_t_kinds c_t_places c_t_values c_t_words _ _ _ hH (lv_sub hl [0, 1, 2, 3, 4, 5] rfl) h
    · replace h := zif_f b19 h
      refine lv_aload_n hx hb dX8_readRun_22 rfl (lv_at hl 0 rfl) ?_
      refine z_get S hF hH iX8_readRun_X8 0 rfl rfl 6 (by decide) (List.mem_of_getElem? (i := 1) rfl) rfl dX8_readRun_23 ?_
      refine lv_iload hx hb dX8_readRun_26 (lv_at hl 5 rfl) ?_
      obtain ⟨z28, hz28, h⟩ := zcl_e h
      refine z_callV (As := [.int x6]) (rest := []) (st1 := [.int z28]) (ws' := (wd_X8_readRun cy q_t q_t_tape q_t_kinds q_t_places q_t_values q_t_words q_t_tape_bytes t_kind t_place t_value t_word t_fault t_faultPlace c_t_size t_taken t_tape_length t_tape_bytes c_t_kinds c_t_places c_t_values c_t_words)) S hF hH (c_X7_at l G cy E N q_t_tape q_t_tape_bytes t_tape_length t_tape_bytes x6 z28 hz28) (cwV 1 hts gX8_readRun_X7_at rfl rfl rfl (by decide +kernel) ⟨Nat.le_of_ble_eq_true rfl, Nat.le_of_ble_eq_true rfl⟩) 8 0 rfl rfl [1, 2] rfl (by decide) rfl rfl rfl rfl rfl hl.1 (Nat.le_of_ble_eq_true rfl) dX8_readRun_28 ⟨Nat.le_of_ble_eq_true rfl, Nat.le_of_ble_eq_true rfl⟩ (fun H locs hH => ?_)
      obtain ⟨z31, hz31, h⟩ := zcl_e h
      refine z_callS (As := [.int z28]) (rest := []) (st1 := [.int z31]) (ws' := (wd_X8_readRun cy q_t q_t_tape q_t_kinds q_t_places q_t_values q_t_words q_t_tape_bytes t_kind t_place t_value t_word t_fault t_faultPlace c_t_size t_taken t_tape_length t_tape_bytes c_t_kinds c_t_places c_t_values c_t_words)) S hF hH (c_X8_isLetter l G cy E N z28 z31 hz31) (cwS 1 hts gX8_readRun_X8_isLetter rfl rfl rfl (by decide +kernel) ⟨Nat.le_of_ble_eq_true rfl, Nat.le_of_ble_eq_true rfl⟩) [] rfl (by decide) rfl rfl rfl rfl rfl hl.1 (Nat.le_of_ble_eq_true rfl) dX8_readRun_31 ⟨Nat.le_of_ble_eq_true rfl, Nat.le_of_ble_eq_true rfl⟩ (fun H locs hH => ?_)
      refine lv_if_ne (tgt := 52) hx hb dX8_readRun_34 (by decide) (fun b34 => ?_) (fun b34 => ?_)
      · replace h := zif_f b34 h
        exact w_X8_readRun_52 S hr hlocks hF ih x1 x2 x3 x4 x6 c_t_size c_t_kinds c_t_places c_t_values c_t_words _ _ _ hH (lv_sub hl [0, 1, 2, 3, 4, 5] rfl) h
      · replace h := zif_t b34 h
        refine lv_aload_n hx hb dX8_readRun_37 rfl (lv_at hl 0 rfl) ?_
        refine z_get S hF hH iX8_readRun_X8 0 rfl rfl 6 (by decide) (List.mem_of_getElem? (i := 1) rfl) rfl dX8_readRun_38 ?_
        refine lv_iload hx hb dX8_readRun_41 (lv_at hl 5 rfl) ?_
        obtain ⟨z43, hz43, h⟩ := zcl_e h
        refine z_callV (As := [.int x6]) (rest := []) (st1 := [.int z43]) (ws' := (wd_X8_readRun cy q_t q_t_tape q_t_kinds q_t_places q_t_values q_t_words q_t_tape_bytes t_kind t_place t_value t_word t_fault t_faultPlace c_t_size t_taken t_tape_length t_tape_bytes c_t_kinds c_t_places c_t_values c_t_words)) S hF hH (c_X7_at l G cy E N q_t_tape q_t_tape_bytes t_tape_length t_tape_bytes x6 z43 hz43) (cwV 1 hts gX8_readRun_X7_at rfl rfl rfl (by decide +kernel) ⟨Nat.le_of_ble_eq_true rfl, Nat.le_of_ble_eq_true rfl⟩) 8 0 rfl rfl [1, 2] rfl (by decide) rfl rfl rfl rfl rfl hl.1 (Nat.le_of_ble_eq_true rfl) dX8_readRun_43 ⟨Nat.le_of_ble_eq_true rfl, Nat.le_of_ble_eq_true rfl⟩ (fun H locs hH => ?_)
        obtain ⟨z46, hz46, h⟩ := zcl_e h
        refine z_callS (As := [.int z43]) (rest := []) (st1 := [.int z46]) (ws' := (wd_X8_readRun cy q_t q_t_tape q_t_kinds q_t_places q_t_values q_t_words q_t_tape_bytes t_kind t_place t_value t_word t_fault t_faultPlace c_t_size t_taken t_tape_length t_tape_bytes c_t_kinds c_t_places c_t_values c_t_words)) S hF hH (c_X8_isDigit l G cy E N z43 z46 hz46) (cwS 1 hts gX8_readRun_X8_isDigit rfl rfl rfl (by decide +kernel) ⟨Nat.le_of_ble_eq_true rfl, Nat.le_of_ble_eq_true rfl⟩) [] rfl (by decide) rfl rfl rfl rfl rfl hl.1 (Nat.le_of_ble_eq_true rfl) dX8_readRun_46 ⟨Nat.le_of_ble_eq_true rfl, Nat.le_of_ble_eq_true rfl⟩ (fun H locs hH => ?_)
        refine lv_if_eq (tgt := 107) hx hb dX8_readRun_49 (by decide) (fun b49 => ?_) (fun b49 => ?_)
        · replace h := zif_t b49 h
          exact w_X8_readRun_107 S hr hlocks hF x1 x2 x3 x4 x6 c_t_size c_t_kinds c_t_places c_t_values c_t_words _ _ _ hH (lv_sub hl [0, 1, 2, 3, 4, 5] rfl) h
        · replace h := zif_f b49 h
          exact w_X8_readRun_52 S hr hlocks hF ih x1 x2 x3 x4 x6 c_t_size c_t_kinds c_t_places c_t_values c_t_words _ _ _ hH (lv_sub hl [0, 1, 2, 3, 4, 5] rfl) h
set_option maxHeartbeats 4000000 in
set_option maxRecDepth 100000 in
theorem c_X8_readRun (l : Launch) (G : va_G) (cy : Nat → ClassId) (E : Nat → Nat) (N : Nat) (q_t q_t_tape q_t_kinds q_t_places q_t_values q_t_words q_t_tape_bytes : Nat) (t_kind : Int32) (t_place : Int32) (t_value : Int32) (t_word : Int64) (t_fault : Int32) (t_faultPlace : Int32) (t_size : Int32) (t_taken : Int32) (t_tape_length : Int32) (t_tape_bytes : Nat → Int32) (t_kinds : Nat → Int32) (t_places : Nat → Int32) (t_values : Nat → Int32) (t_words : Nat → Int64) (x0 : Int32) (r : Int32) (r_t_size : Int32) (r_t_kinds : Nat → Int32) (r_t_places : Nat → Int32) (r_t_values : Nat → Int32) (r_t_words : Nat → Int64) (h : f_X8_readRun N x0 t_size t_tape_length t_tape_bytes t_kinds t_places t_values t_words = some (r, r_t_size, r_t_kinds, r_t_places, r_t_values, r_t_words)) : zM l G cy E yX8_readRun wsX8_readRun rm_X8_readRun [.ref q_t, .int x0] (wd_X8_readRun cy q_t q_t_tape q_t_kinds q_t_places q_t_values q_t_words q_t_tape_bytes t_kind t_place t_value t_word t_fault t_faultPlace t_size t_taken t_tape_length t_tape_bytes t_kinds t_places t_values t_words) (wd_X8_readRun cy q_t q_t_tape q_t_kinds q_t_places q_t_values q_t_words q_t_tape_bytes t_kind t_place t_value t_word t_fault t_faultPlace r_t_size t_taken t_tape_length t_tape_bytes r_t_kinds r_t_places r_t_values r_t_words) (some (.int r)) 0 0 := by
  refine z_body (cc := cX8_readRun) (maxL := 9) (ret := some .int) (by decide) rfl (Nat.le_of_ble_eq_true rfl) ?_
  intro p e s m below meth c ls S hr hlocks hnm hF hH hl
  have S : CallFix p m c cX8_readRun 9 s ([.ref q_t, .int x0] : List Value).toArray wsX8_readRun RX8 := S
  obtain ⟨hx, hb, hml, hown, hts⟩ := id S
  have hl : lv_has ls 9 [(0, .ref q_t), (1, .int x0)] := hl
  rw [f_X8_readRun] at h
  refine lv_iconst (v := 0) hx hb dX8_readRun_0 (by decide) ?_
  refine lv_istore_n (lv' := [(2, .int 0), (0, .ref q_t), (1, .int x0)]) hx hb dX8_readRun_1 rfl hl (by decide) rfl (fun ls hl => ?_)
  refine lv_iconst (v := 0) hx hb dX8_readRun_2 (by decide) ?_
  refine lv_istore_n (lv' := [(3, .int 0), (2, .int 0), (0, .ref q_t), (1, .int x0)]) hx hb dX8_readRun_3 rfl hl (by decide) rfl (fun ls hl => ?_)
  refine lv_lconst (v := 0) hx hb dX8_readRun_4 (by decide) ?_
  refine lv_lstore (lv' := [(4, .long 0), (3, .int 0), (2, .int 0), (0, .ref q_t), (1, .int x0)]) hx hb dX8_readRun_5 hl (by decide) rfl (fun ls hl => ?_)
  refine lv_iload_n hx hb dX8_readRun_7 rfl (lv_at hl 4 rfl) ?_
  refine lv_istore (lv' := [(6, .int x0), (4, .long 0), (3, .int 0), (2, .int 0), (0, .ref q_t), (1, .int x0)]) hx hb dX8_readRun_8 hl (by decide) rfl (fun ls hl => ?_)
  exact w_X8_readRun_10 S hr hlocks hF N x0 0 0 0 x0 t_size t_kinds t_places t_values t_words _ _ _ hH (lv_sub hl [4, 5, 3, 2, 1, 0] rfl) h
abbrev wd_X8_readAt (cy : Nat → ClassId) (q_t q_t_tape q_t_kinds q_t_places q_t_values q_t_words q_t_tape_bytes : Nat) (t_kind : Int32) (t_place : Int32) (t_value : Int32) (t_word : Int64) (t_fault : Int32) (t_faultPlace : Int32) (t_size : Int32) (t_taken : Int32) (t_tape_length : Int32) (t_tape_bytes : Nat → Int32) (t_kinds : Nat → Int32) (t_places : Nat → Int32) (t_values : Nat → Int32) (t_words : Nat → Int64) : va_W := [(q_t, .inr (9, [.int t_kind, .int t_place, .int t_value, .long t_word, .int t_fault, .int t_faultPlace, .ref q_t_tape, .int t_size, .int t_taken, .ref q_t_kinds, .ref q_t_places, .ref q_t_values, .ref q_t_words])), (q_t_tape, .inr (8, [.ref q_t_tape_bytes, .int t_tape_length])), (q_t_tape_bytes, .inl (cy 0, 940, .inl t_tape_bytes)), (q_t_kinds, .inl (cy 1, 901, .inl t_kinds)), (q_t_places, .inl (cy 1, 901, .inl t_places)), (q_t_values, .inl (cy 1, 901, .inl t_values)), (q_t_words, .inl (cy 2, 901, .inr (.inl t_words)))]
theorem iX8_readAt_X8 : ∀ w ∈ wsX80, w ∈ wsX8_readAt := fun _ h => List.mem_cons_of_mem _ (List.mem_append_left _ (List.mem_append_right _ h))
abbrev rm_X8_readAt : Room := { frames := 6, cells := 0, slots := 0, locals := 139 }
set_option maxRecDepth 100000 in
def f_X8_readAt_54 (N : Nat) (t_tape_length : Int32) (t_tape_bytes : Nat → Int32) (x1 : Int32) (x2 : Int32) (sk0 : Int32) (c_t_size : Int32) (c_t_kinds : Nat → Int32) (c_t_places : Nat → Int32) (c_t_values : Nat → Int32) (c_t_words : Nat → Int64) : Option (Int32 × Int32 × (Nat → Int32) × (Nat → Int32) × (Nat → Int32) × (Nat → Int64)) := zcl (f_X8_put N sk0 x1 x2 0 c_t_size c_t_kinds c_t_places c_t_values c_t_words) fun z57 => some (1, z57.1, z57.2.1, z57.2.2.1, z57.2.2.2.1, z57.2.2.2.2)
set_option maxRecDepth 100000 in
def f_X8_readAt_23 (N : Nat) (t_tape_length : Int32) (t_tape_bytes : Nat → Int32) (x1 : Int32) (c_t_size : Int32) (c_t_kinds : Nat → Int32) (c_t_places : Nat → Int32) (c_t_values : Nat → Int32) (c_t_words : Nat → Int64) : Option (Int32 × Int32 × (Nat → Int32) × (Nat → Int32) × (Nat → Int32) × (Nat → Int64)) := zcl (f_X8_readRun N x1 c_t_size t_tape_length t_tape_bytes c_t_kinds c_t_places c_t_values c_t_words) fun z25 => some (z25.1, z25.2.1, z25.2.2.1, z25.2.2.2.1, z25.2.2.2.2.1, z25.2.2.2.2.2)
set_option maxRecDepth 100000 in
def f_X8_readAt (N : Nat) (x0 : Int32) (t_size : Int32) (t_tape_length : Int32) (t_tape_bytes : Nat → Int32) (t_kinds : Nat → Int32) (t_places : Nat → Int32) (t_values : Nat → Int32) (t_words : Nat → Int64) : Option (Int32 × Int32 × (Nat → Int32) × (Nat → Int32) × (Nat → Int32) × (Nat → Int64)) := zcl (f_X7_at N x0 t_tape_length t_tape_bytes) fun z5 => zcl (f_X8_isLetter N z5) fun z10 => if z10 = 0 then (zcl (f_X8_isDigit N z5) fun z17 => if z17 = 0 then (if z5 = 32 then (some (1, t_size, t_kinds, t_places, t_values, t_words)) else (if z5 = 10 then (some (1, t_size, t_kinds, t_places, t_values, t_words)) else (zcl (f_X8_isMark N z5) fun z43 => if z43 = 0 then (f_X8_readAt_54 N t_tape_length t_tape_bytes x0 z5 1 t_size t_kinds t_places t_values t_words) else (f_X8_readAt_54 N t_tape_length t_tape_bytes x0 z5 5 t_size t_kinds t_places t_values t_words)))) else (f_X8_readAt_23 N t_tape_length t_tape_bytes x0 t_size t_kinds t_places t_values t_words)) else (f_X8_readAt_23 N t_tape_length t_tape_bytes x0 t_size t_kinds t_places t_values t_words)
set_option maxHeartbeats 4000000 in
set_option maxRecDepth 100000 in
theorem w_X8_readAt_54 {p : Program} {l : Launch} {e : Env} {s : State} {m : MethodId} {args : Array Value} {below : List Frame} {meth : Method} {c : Code} {G : va_G} {cy : Nat → ClassId} {E : Nat → Nat} {w0 : va_W} {N : Nat} {q_t q_t_tape q_t_kinds q_t_places q_t_values q_t_words q_t_tape_bytes : Nat} {t_kind : Int32} {t_place : Int32} {t_value : Int32} {t_word : Int64} {t_fault : Int32} {t_faultPlace : Int32} {t_taken : Int32} {t_tape_length : Int32} {t_tape_bytes : Nat → Int32} {r : Int32} {r_t_size : Int32} {r_t_kinds : Nat → Int32} {r_t_places : Nat → Int32} {r_t_values : Nat → Int32} {r_t_words : Nat → Int64} (S : CallFix p m c cX8_readAt 3 s args wsX8_readAt RX8) (hr : meth.sig.returnType = some .int) (hlocks : meth.locks = false) (hF : zF G cy E (va_A w0 s.heap.size) s) :
    ∀ (x1 : Int32) (x2 : Int32) (sk0 : Int32) (c_t_size : Int32) (c_t_kinds : Nat → Int32) (c_t_places : Nat → Int32) (c_t_values : Nat → Int32) (c_t_words : Nat → Int64) (H : Heap) (locs : List Loc) (ls : Array Slot), zH G (va_A w0 s.heap.size) s H locs (wd_X8_readAt cy q_t q_t_tape q_t_kinds q_t_places q_t_values q_t_words q_t_tape_bytes t_kind t_place t_value t_word t_fault t_faultPlace c_t_size t_taken t_tape_length t_tape_bytes c_t_kinds c_t_places c_t_values c_t_words) → lv_has ls 3 [(1, .int x1), (2, .int x2)] → f_X8_readAt_54 N t_tape_length t_tape_bytes x1 x2 sk0 c_t_size c_t_kinds c_t_places c_t_values c_t_words = some (r, r_t_size, r_t_kinds, r_t_places, r_t_values, r_t_words) → W p l e rm_X8_readAt s m args below meth c H locs 0 0 (MQ below (zQ G w0 (wd_X8_readAt cy q_t q_t_tape q_t_kinds q_t_places q_t_values q_t_words q_t_tape_bytes t_kind t_place t_value t_word t_fault t_faultPlace r_t_size t_taken t_tape_length t_tape_bytes r_t_kinds r_t_places r_t_values r_t_words) s.heap.size (some (.int r))) args s 0 0 (va_A w0 s.heap.size)) (F0 m 54 ls [.int sk0, .ref q_t]) := by
  obtain ⟨hx, hb, hml, hown, hts⟩ := id S
  intro x1 x2 sk0 c_t_size c_t_kinds c_t_places c_t_values c_t_words H locs ls hH hl h
  rw [f_X8_readAt_54] at h
  refine lv_iload_n hx hb dX8_readAt_54 rfl (lv_at hl 0 rfl) ?_
  refine lv_iload_n hx hb dX8_readAt_55 rfl (lv_at hl 1 rfl) ?_
  refine lv_lconst (v := 0) hx hb dX8_readAt_56 (by decide) ?_
  obtain ⟨z57, hz57, h⟩ := zcl_e h
  refine z_callV (As := [.int sk0, .int x1, .int x2, .long 0]) (rest := []) (st1 := []) (ws' := (wd_X8_readAt cy q_t q_t_tape q_t_kinds q_t_places q_t_values q_t_words q_t_tape_bytes t_kind t_place t_value t_word t_fault t_faultPlace z57.1 t_taken t_tape_length t_tape_bytes z57.2.1 z57.2.2.1 z57.2.2.2.1 z57.2.2.2.2)) S hF hH (c_X8_put l G cy E N q_t q_t_tape q_t_kinds q_t_places q_t_values q_t_words t_kind t_place t_value t_word t_fault t_faultPlace c_t_size t_taken c_t_kinds c_t_places c_t_values c_t_words sk0 x1 x2 0 z57.1 z57.2.1 z57.2.2.1 z57.2.2.2.1 z57.2.2.2.2 hz57) (cwV 4 hts gX8_readAt_X8_put rfl rfl rfl (by decide +kernel) ⟨Nat.le_of_ble_eq_true rfl, Nat.le_of_ble_eq_true rfl⟩) 9 0 rfl rfl [0, 3, 4, 5, 6] rfl (by decide) rfl rfl rfl rfl rfl hl.1 (Nat.le_of_ble_eq_true rfl) dX8_readAt_57 ⟨Nat.le_of_ble_eq_true rfl, Nat.le_of_ble_eq_true rfl⟩ (fun H locs hH => ?_)
  refine lv_iconst (v := 1) hx hb dX8_readAt_60 (by decide) ?_
  cases h
  exact z_iret S hr hlocks hH dX8_readAt_61
set_option maxHeartbeats 4000000 in
set_option maxRecDepth 100000 in
theorem w_X8_readAt_23 {p : Program} {l : Launch} {e : Env} {s : State} {m : MethodId} {args : Array Value} {below : List Frame} {meth : Method} {c : Code} {G : va_G} {cy : Nat → ClassId} {E : Nat → Nat} {w0 : va_W} {N : Nat} {q_t q_t_tape q_t_kinds q_t_places q_t_values q_t_words q_t_tape_bytes : Nat} {t_kind : Int32} {t_place : Int32} {t_value : Int32} {t_word : Int64} {t_fault : Int32} {t_faultPlace : Int32} {t_taken : Int32} {t_tape_length : Int32} {t_tape_bytes : Nat → Int32} {r : Int32} {r_t_size : Int32} {r_t_kinds : Nat → Int32} {r_t_places : Nat → Int32} {r_t_values : Nat → Int32} {r_t_words : Nat → Int64} (S : CallFix p m c cX8_readAt 3 s args wsX8_readAt RX8) (hr : meth.sig.returnType = some .int) (hlocks : meth.locks = false) (hF : zF G cy E (va_A w0 s.heap.size) s) :
    ∀ (x1 : Int32) (c_t_size : Int32) (c_t_kinds : Nat → Int32) (c_t_places : Nat → Int32) (c_t_values : Nat → Int32) (c_t_words : Nat → Int64) (H : Heap) (locs : List Loc) (ls : Array Slot), zH G (va_A w0 s.heap.size) s H locs (wd_X8_readAt cy q_t q_t_tape q_t_kinds q_t_places q_t_values q_t_words q_t_tape_bytes t_kind t_place t_value t_word t_fault t_faultPlace c_t_size t_taken t_tape_length t_tape_bytes c_t_kinds c_t_places c_t_values c_t_words) → lv_has ls 3 [(0, .ref q_t), (1, .int x1)] → f_X8_readAt_23 N t_tape_length t_tape_bytes x1 c_t_size c_t_kinds c_t_places c_t_values c_t_words = some (r, r_t_size, r_t_kinds, r_t_places, r_t_values, r_t_words) → W p l e rm_X8_readAt s m args below meth c H locs 0 0 (MQ below (zQ G w0 (wd_X8_readAt cy q_t q_t_tape q_t_kinds q_t_places q_t_values q_t_words q_t_tape_bytes t_kind t_place t_value t_word t_fault t_faultPlace r_t_size t_taken t_tape_length t_tape_bytes r_t_kinds r_t_places r_t_values r_t_words) s.heap.size (some (.int r))) args s 0 0 (va_A w0 s.heap.size)) (F0 m 23 ls []) := by
  obtain ⟨hx, hb, hml, hown, hts⟩ := id S
  intro x1 c_t_size c_t_kinds c_t_places c_t_values c_t_words H locs ls hH hl h
  rw [f_X8_readAt_23] at h
  refine lv_aload_n hx hb dX8_readAt_23 rfl (lv_at hl 0 rfl) ?_
  refine lv_iload_n hx hb dX8_readAt_24 rfl (lv_at hl 1 rfl) ?_
  obtain ⟨z25, hz25, h⟩ := zcl_e h
  refine z_callV (As := [.int x1]) (rest := []) (st1 := [.int z25.1]) (ws' := (wd_X8_readAt cy q_t q_t_tape q_t_kinds q_t_places q_t_values q_t_words q_t_tape_bytes t_kind t_place t_value t_word t_fault t_faultPlace z25.2.1 t_taken t_tape_length t_tape_bytes z25.2.2.1 z25.2.2.2.1 z25.2.2.2.2.1 z25.2.2.2.2.2)) S hF hH (c_X8_readRun l G cy E N q_t q_t_tape q_t_kinds q_t_places q_t_values q_t_words q_t_tape_bytes t_kind t_place t_value t_word t_fault t_faultPlace c_t_size t_taken t_tape_length t_tape_bytes c_t_kinds c_t_places c_t_values c_t_words x1 z25.1 z25.2.1 z25.2.2.1 z25.2.2.2.1 z25.2.2.2.2.1 z25.2.2.2.2.2 hz25) (cwV 1 hts gX8_readAt_X8_readRun rfl rfl rfl (by decide +kernel) ⟨Nat.le_of_ble_eq_true rfl, Nat.le_of_ble_eq_true rfl⟩) 9 0 rfl rfl [0, 1, 2, 3, 4, 5, 6] rfl (by decide) rfl rfl rfl rfl rfl hl.1 (Nat.le_of_ble_eq_true rfl) dX8_readAt_25 ⟨Nat.le_of_ble_eq_true rfl, Nat.le_of_ble_eq_true rfl⟩ (fun H locs hH => ?_)
  cases h
  exact z_iret S hr hlocks hH dX8_readAt_28
set_option maxHeartbeats 4000000 in
set_option maxRecDepth 100000 in
theorem c_X8_readAt (l : Launch) (G : va_G) (cy : Nat → ClassId) (E : Nat → Nat) (N : Nat) (q_t q_t_tape q_t_kinds q_t_places q_t_values q_t_words q_t_tape_bytes : Nat) (t_kind : Int32) (t_place : Int32) (t_value : Int32) (t_word : Int64) (t_fault : Int32) (t_faultPlace : Int32) (t_size : Int32) (t_taken : Int32) (t_tape_length : Int32) (t_tape_bytes : Nat → Int32) (t_kinds : Nat → Int32) (t_places : Nat → Int32) (t_values : Nat → Int32) (t_words : Nat → Int64) (x0 : Int32) (r : Int32) (r_t_size : Int32) (r_t_kinds : Nat → Int32) (r_t_places : Nat → Int32) (r_t_values : Nat → Int32) (r_t_words : Nat → Int64) (h : f_X8_readAt N x0 t_size t_tape_length t_tape_bytes t_kinds t_places t_values t_words = some (r, r_t_size, r_t_kinds, r_t_places, r_t_values, r_t_words)) : zM l G cy E yX8_readAt wsX8_readAt rm_X8_readAt [.ref q_t, .int x0] (wd_X8_readAt cy q_t q_t_tape q_t_kinds q_t_places q_t_values q_t_words q_t_tape_bytes t_kind t_place t_value t_word t_fault t_faultPlace t_size t_taken t_tape_length t_tape_bytes t_kinds t_places t_values t_words) (wd_X8_readAt cy q_t q_t_tape q_t_kinds q_t_places q_t_values q_t_words q_t_tape_bytes t_kind t_place t_value t_word t_fault t_faultPlace r_t_size t_taken t_tape_length t_tape_bytes r_t_kinds r_t_places r_t_values r_t_words) (some (.int r)) 0 0 := by
  refine z_body (cc := cX8_readAt) (maxL := 3) (ret := some .int) (by decide) rfl (Nat.le_of_ble_eq_true rfl) ?_
  intro p e s m below meth c ls S hr hlocks hnm hF hH hl
  have S : CallFix p m c cX8_readAt 3 s ([.ref q_t, .int x0] : List Value).toArray wsX8_readAt RX8 := S
  obtain ⟨hx, hb, hml, hown, hts⟩ := id S
  have hl : lv_has ls 3 [(0, .ref q_t), (1, .int x0)] := hl
  rw [f_X8_readAt] at h
  refine lv_aload_n hx hb dX8_readAt_0 rfl (lv_at hl 0 rfl) ?_
  refine z_get S hF hH iX8_readAt_X8 0 rfl rfl 6 (by decide) (List.mem_of_getElem? (i := 1) rfl) rfl dX8_readAt_1 ?_
  refine lv_iload_n hx hb dX8_readAt_4 rfl (lv_at hl 1 rfl) ?_
  obtain ⟨z5, hz5, h⟩ := zcl_e h
  refine z_callV (As := [.int x0]) (rest := []) (st1 := [.int z5]) (ws' := (wd_X8_readAt cy q_t q_t_tape q_t_kinds q_t_places q_t_values q_t_words q_t_tape_bytes t_kind t_place t_value t_word t_fault t_faultPlace t_size t_taken t_tape_length t_tape_bytes t_kinds t_places t_values t_words)) S hF hH (c_X7_at l G cy E N q_t_tape q_t_tape_bytes t_tape_length t_tape_bytes x0 z5 hz5) (cwV 1 hts gX8_readAt_X7_at rfl rfl rfl (by decide +kernel) ⟨Nat.le_of_ble_eq_true rfl, Nat.le_of_ble_eq_true rfl⟩) 8 0 rfl rfl [1, 2] rfl (by decide) rfl rfl rfl rfl rfl hl.1 (Nat.le_of_ble_eq_true rfl) dX8_readAt_5 ⟨Nat.le_of_ble_eq_true rfl, Nat.le_of_ble_eq_true rfl⟩ (fun H locs hH => ?_)
  refine lv_istore_n (lv' := [(2, .int z5), (0, .ref q_t), (1, .int x0)]) hx hb dX8_readAt_8 rfl hl (by decide) rfl (fun ls hl => ?_)
  refine lv_iload_n hx hb dX8_readAt_9 rfl (lv_at hl 0 rfl) ?_
  obtain ⟨z10, hz10, h⟩ := zcl_e h
  refine z_callS (As := [.int z5]) (rest := []) (st1 := [.int z10]) (ws' := (wd_X8_readAt cy q_t q_t_tape q_t_kinds q_t_places q_t_values q_t_words q_t_tape_bytes t_kind t_place t_value t_word t_fault t_faultPlace t_size t_taken t_tape_length t_tape_bytes t_kinds t_places t_values t_words)) S hF hH (c_X8_isLetter l G cy E N z5 z10 hz10) (cwS 1 hts gX8_readAt_X8_isLetter rfl rfl rfl (by decide +kernel) ⟨Nat.le_of_ble_eq_true rfl, Nat.le_of_ble_eq_true rfl⟩) [] rfl (by decide) rfl rfl rfl rfl rfl hl.1 (Nat.le_of_ble_eq_true rfl) dX8_readAt_10 ⟨Nat.le_of_ble_eq_true rfl, Nat.le_of_ble_eq_true rfl⟩ (fun H locs hH => ?_)
  refine lv_if_ne (tgt := 23) hx hb dX8_readAt_13 (by decide) (fun b13 => ?_) (fun b13 => ?_)
  · replace h := zif_f b13 h
    exact w_X8_readAt_23 S hr hlocks hF x0 t_size t_kinds t_places t_values t_words _ _ _ hH (lv_sub hl [1, 2] rfl) h
  · replace h := zif_t b13 h
    refine lv_iload_n hx hb dX8_readAt_16 rfl (lv_at hl 0 rfl) ?_
    obtain ⟨z17, hz17, h⟩ := zcl_e h
    refine z_callS (As := [.int z5]) (rest := []) (st1 := [.int z17]) (ws' := (wd_X8_readAt cy q_t q_t_tape q_t_kinds q_t_places q_t_values q_t_words q_t_tape_bytes t_kind t_place t_value t_word t_fault t_faultPlace t_size t_taken t_tape_length t_tape_bytes t_kinds t_places t_values t_words)) S hF hH (c_X8_isDigit l G cy E N z5 z17 hz17) (cwS 1 hts gX8_readAt_X8_isDigit rfl rfl rfl (by decide +kernel) ⟨Nat.le_of_ble_eq_true rfl, Nat.le_of_ble_eq_true rfl⟩) [] rfl (by decide) rfl rfl rfl rfl rfl hl.1 (Nat.le_of_ble_eq_true rfl) dX8_readAt_17 ⟨Nat.le_of_ble_eq_true rfl, Nat.le_of_ble_eq_true rfl⟩ (fun H locs hH => ?_)
    refine lv_if_eq (tgt := 29) hx hb dX8_readAt_20 (by decide) (fun b20 => ?_) (fun b20 => ?_)
    · replace h := zif_t b20 h
      refine lv_iload_n hx hb dX8_readAt_29 rfl (lv_at hl 0 rfl) ?_
      refine lv_bipush (v := 32) hx hb dX8_readAt_30 (by decide) ?_
      refine lv_icmp_eq (tgt := 60) hx hb dX8_readAt_32 (by decide) (fun b32 => ?_) (fun b32 => ?_)
      · replace h := zif_t b32 h
        refine lv_iconst (v := 1) hx hb dX8_readAt_60 (by decide) ?_
        cases h
        exact z_iret S hr hlocks hH dX8_readAt_61
      · replace h := zif_f b32 h
        refine lv_iload_n hx hb dX8_readAt_35 rfl (lv_at hl 0 rfl) ?_
        refine lv_bipush (v := 10) hx hb dX8_readAt_36 (by decide) ?_
        refine lv_icmp_eq (tgt := 60) hx hb dX8_readAt_38 (by decide) (fun b38 => ?_) (fun b38 => ?_)
        · replace h := zif_t b38 h
          refine lv_iconst (v := 1) hx hb dX8_readAt_60 (by decide) ?_
          cases h
          exact z_iret S hr hlocks hH dX8_readAt_61
        · replace h := zif_f b38 h
          refine lv_aload_n hx hb dX8_readAt_41 rfl (lv_at hl 1 rfl) ?_
          refine lv_iload_n hx hb dX8_readAt_42 rfl (lv_at hl 0 rfl) ?_
          obtain ⟨z43, hz43, h⟩ := zcl_e h
          refine z_callS (As := [.int z5]) (rest := [.ref q_t]) (st1 := [.int z43, .ref q_t]) (ws' := (wd_X8_readAt cy q_t q_t_tape q_t_kinds q_t_places q_t_values q_t_words q_t_tape_bytes t_kind t_place t_value t_word t_fault t_faultPlace t_size t_taken t_tape_length t_tape_bytes t_kinds t_places t_values t_words)) S hF hH (c_X8_isMark l G cy E N z5 z43 hz43) (cwS 1 hts gX8_readAt_X8_isMark rfl rfl rfl (by decide +kernel) ⟨Nat.le_of_ble_eq_true rfl, Nat.le_of_ble_eq_true rfl⟩) [] rfl (by decide) rfl rfl rfl rfl rfl hl.1 (Nat.le_of_ble_eq_true rfl) dX8_readAt_43 ⟨Nat.le_of_ble_eq_true rfl, Nat.le_of_ble_eq_true rfl⟩ (fun H locs hH => ?_)
          refine lv_if_eq (tgt := 53) hx hb dX8_readAt_46 (by decide) (fun b46 => ?_) (fun b46 => ?_)
          · replace h := zif_t b46 h
            refine lv_iconst (v := 1) hx hb dX8_readAt_53 (by decide) ?_
            exact w_X8_readAt_54 S hr hlocks hF x0 z5 1 t_size t_kinds t_places t_values t_words _ _ _ hH (lv_sub hl [2, 0] rfl) h
          · replace h := zif_f b46 h
            refine lv_iconst (v := 5) hx hb dX8_readAt_49 (by decide) ?_
            refine lv_goto (tgt := 54) hx hb dX8_readAt_50 (by decide) ?_
            exact w_X8_readAt_54 S hr hlocks hF x0 z5 5 t_size t_kinds t_places t_values t_words _ _ _ hH (lv_sub hl [2, 0] rfl) h
    · replace h := zif_f b20 h
      exact w_X8_readAt_23 S hr hlocks hF x0 t_size t_kinds t_places t_values t_words _ _ _ hH (lv_sub hl [1, 2] rfl) h
abbrev wd_X8_open (cy : Nat → ClassId) (q_t q_t_tape q_t_kinds q_t_places q_t_values q_t_words q_t_tape_bytes : Nat) (t_kind : Int32) (t_place : Int32) (t_value : Int32) (t_word : Int64) (t_fault : Int32) (t_faultPlace : Int32) (t_size : Int32) (t_taken : Int32) (t_tape_length : Int32) (t_tape_bytes : Nat → Int32) (t_kinds : Nat → Int32) (t_places : Nat → Int32) (t_values : Nat → Int32) (t_words : Nat → Int64) : va_W := [(q_t, .inr (9, [.int t_kind, .int t_place, .int t_value, .long t_word, .int t_fault, .int t_faultPlace, .ref q_t_tape, .int t_size, .int t_taken, .ref q_t_kinds, .ref q_t_places, .ref q_t_values, .ref q_t_words])), (q_t_tape, .inr (8, [.ref q_t_tape_bytes, .int t_tape_length])), (q_t_tape_bytes, .inl (cy 0, 940, .inl t_tape_bytes)), (q_t_kinds, .inl (cy 1, 901, .inl t_kinds)), (q_t_places, .inl (cy 1, 901, .inl t_places)), (q_t_values, .inl (cy 1, 901, .inl t_values)), (q_t_words, .inl (cy 2, 901, .inr (.inl t_words)))]
theorem iX8_open_X7 : ∀ w ∈ wsX70, w ∈ wsX8_open := fun _ h => List.mem_cons_of_mem _ (List.mem_append_right _ h)
theorem iX8_open_X8 : ∀ w ∈ wsX80, w ∈ wsX8_open := fun _ h => List.mem_cons_of_mem _ (List.mem_append_left _ (List.mem_append_right _ h))
abbrev rm_X8_open : Room := { frames := 7, cells := 0, slots := 0, locals := 161 }
set_option maxRecDepth 100000 in
def f_X8_open_56 (N : Nat) (t_tape_length : Int32) (t_tape_bytes : Nat → Int32) (x2 : Int32) (sk0 : Int32) (c_t_kind : Int32) (c_t_place : Int32) (c_t_value : Int32) (c_t_word : Int64) (c_t_fault : Int32) (c_t_faultPlace : Int32) (c_t_size : Int32) (c_t_taken : Int32) (c_t_kinds : Nat → Int32) (c_t_places : Nat → Int32) (c_t_values : Nat → Int32) (c_t_words : Nat → Int64) : Option (Int32 × Int32 × Int32 × Int64 × Int32 × Int32 × Int32 × Int32 × (Nat → Int32) × (Nat → Int32) × (Nat → Int32) × (Nat → Int64)) := zcl (f_X8_put N sk0 x2 0 0 c_t_size c_t_kinds c_t_places c_t_values c_t_words) fun z59 => zcl (f_X8_advance N c_t_kind c_t_place c_t_value c_t_word z59.1 0 z59.2.1 z59.2.2.1 z59.2.2.2.1 z59.2.2.2.2) fun z78 => some (z78.1, z78.2.1, z78.2.2.1, z78.2.2.2.1, 0, 0, z59.1, z78.2.2.2.2, z59.2.1, z59.2.2.1, z59.2.2.2.1, z59.2.2.2.2)
set_option maxRecDepth 100000 in
def f_X8_open_19 (N : Nat) (t_tape_length : Int32) (t_tape_bytes : Nat → Int32) : Nat → Int32 → Int32 → Int32 → Int32 → Int32 → Int32 → Int64 → Int32 → Int32 → Int32 → Int32 → (Nat → Int32) → (Nat → Int32) → (Nat → Int32) → (Nat → Int64) → (Option (Int32 × Int32 × Int32 × Int64 × Int32 × Int32 × Int32 × Int32 × (Nat → Int32) × (Nat → Int32) × (Nat → Int32) × (Nat → Int64)))
  | 0, _, _, _, _, _, _, _, _, _, _, _, _, _, _, _ => none
  | n + 1, x1, x2, x3, c_t_kind, c_t_place, c_t_value, c_t_word, c_t_fault, c_t_faultPlace, c_t_size, c_t_taken, c_t_kinds, c_t_places, c_t_values, c_t_words => if x2 ≤ x3 then (if t_tape_length ≤ x1 then (f_X8_open_56 N t_tape_length t_tape_bytes x2 0 c_t_kind c_t_place c_t_value c_t_word c_t_fault c_t_faultPlace c_t_size c_t_taken c_t_kinds c_t_places c_t_values c_t_words) else (f_X8_open_56 N t_tape_length t_tape_bytes x2 1 c_t_kind c_t_place c_t_value c_t_word c_t_fault c_t_faultPlace c_t_size c_t_taken c_t_kinds c_t_places c_t_values c_t_words)) else (zcl (f_X8_readAt N x3 c_t_size t_tape_length t_tape_bytes c_t_kinds c_t_places c_t_values c_t_words) fun z28 => zbn ((x3 + (zmax 1 z28.1))) fun y1 => f_X8_open_19 N t_tape_length t_tape_bytes n x1 x2 y1 c_t_kind c_t_place c_t_value c_t_word c_t_fault c_t_faultPlace z28.2.1 c_t_taken z28.2.2.1 z28.2.2.2.1 z28.2.2.2.2.1 z28.2.2.2.2.2)
set_option maxRecDepth 100000 in
def f_X8_open (N : Nat) (x0 : Int32) (t_kind : Int32) (t_place : Int32) (t_value : Int32) (t_word : Int64) (t_fault : Int32) (t_faultPlace : Int32) (t_size : Int32) (t_taken : Int32) (t_tape_length : Int32) (t_tape_bytes : Nat → Int32) (t_kinds : Nat → Int32) (t_places : Nat → Int32) (t_values : Nat → Int32) (t_words : Nat → Int64) : Option (Int32 × Int32 × Int32 × Int64 × Int32 × Int32 × Int32 × Int32 × (Nat → Int32) × (Nat → Int32) × (Nat → Int32) × (Nat → Int64)) := zbn ((zmin t_tape_length x0)) fun y1 => f_X8_open_19 N t_tape_length t_tape_bytes N x0 y1 0 t_kind t_place t_value t_word t_fault t_faultPlace 0 t_taken t_kinds t_places t_values t_words
set_option maxHeartbeats 4000000 in
set_option maxRecDepth 100000 in
theorem w_X8_open_56 {p : Program} {l : Launch} {e : Env} {s : State} {m : MethodId} {args : Array Value} {below : List Frame} {meth : Method} {c : Code} {G : va_G} {cy : Nat → ClassId} {E : Nat → Nat} {w0 : va_W} {N : Nat} {q_t q_t_tape q_t_kinds q_t_places q_t_values q_t_words q_t_tape_bytes : Nat} {t_tape_length : Int32} {t_tape_bytes : Nat → Int32} {r_t_kind : Int32} {r_t_place : Int32} {r_t_value : Int32} {r_t_word : Int64} {r_t_fault : Int32} {r_t_faultPlace : Int32} {r_t_size : Int32} {r_t_taken : Int32} {r_t_kinds : Nat → Int32} {r_t_places : Nat → Int32} {r_t_values : Nat → Int32} {r_t_words : Nat → Int64} (S : CallFix p m c cX8_open 4 s args wsX8_open RX8) (hr : meth.sig.returnType = none) (hlocks : meth.locks = false) (hF : zF G cy E (va_A w0 s.heap.size) s) :
    ∀ (x2 : Int32) (sk0 : Int32) (c_t_kind : Int32) (c_t_place : Int32) (c_t_value : Int32) (c_t_word : Int64) (c_t_fault : Int32) (c_t_faultPlace : Int32) (c_t_size : Int32) (c_t_taken : Int32) (c_t_kinds : Nat → Int32) (c_t_places : Nat → Int32) (c_t_values : Nat → Int32) (c_t_words : Nat → Int64) (H : Heap) (locs : List Loc) (ls : Array Slot), zH G (va_A w0 s.heap.size) s H locs (wd_X8_open cy q_t q_t_tape q_t_kinds q_t_places q_t_values q_t_words q_t_tape_bytes c_t_kind c_t_place c_t_value c_t_word c_t_fault c_t_faultPlace c_t_size c_t_taken t_tape_length t_tape_bytes c_t_kinds c_t_places c_t_values c_t_words) → lv_has ls 4 [(0, .ref q_t), (2, .int x2)] → f_X8_open_56 N t_tape_length t_tape_bytes x2 sk0 c_t_kind c_t_place c_t_value c_t_word c_t_fault c_t_faultPlace c_t_size c_t_taken c_t_kinds c_t_places c_t_values c_t_words = some (r_t_kind, r_t_place, r_t_value, r_t_word, r_t_fault, r_t_faultPlace, r_t_size, r_t_taken, r_t_kinds, r_t_places, r_t_values, r_t_words) → W p l e rm_X8_open s m args below meth c H locs 0 0 (MQ below (zQ G w0 (wd_X8_open cy q_t q_t_tape q_t_kinds q_t_places q_t_values q_t_words q_t_tape_bytes r_t_kind r_t_place r_t_value r_t_word r_t_fault r_t_faultPlace r_t_size r_t_taken t_tape_length t_tape_bytes r_t_kinds r_t_places r_t_values r_t_words) s.heap.size none) args s 0 0 (va_A w0 s.heap.size)) (F0 m 56 ls [.int sk0, .ref q_t]) := by
  obtain ⟨hx, hb, hml, hown, hts⟩ := id S
  intro x2 sk0 c_t_kind c_t_place c_t_value c_t_word c_t_fault c_t_faultPlace c_t_size c_t_taken c_t_kinds c_t_places c_t_values c_t_words H locs ls hH hl h
  rw [f_X8_open_56] at h
  refine lv_iload_n hx hb dX8_open_56 rfl (lv_at hl 1 rfl) ?_
  refine lv_iconst (v := 0) hx hb dX8_open_57 (by decide) ?_
  refine lv_lconst (v := 0) hx hb dX8_open_58 (by decide) ?_
  obtain ⟨z59, hz59, h⟩ := zcl_e h
  refine z_callV (As := [.int sk0, .int x2, .int 0, .long 0]) (rest := []) (st1 := []) (ws' := (wd_X8_open cy q_t q_t_tape q_t_kinds q_t_places q_t_values q_t_words q_t_tape_bytes c_t_kind c_t_place c_t_value c_t_word c_t_fault c_t_faultPlace z59.1 c_t_taken t_tape_length t_tape_bytes z59.2.1 z59.2.2.1 z59.2.2.2.1 z59.2.2.2.2)) S hF hH (c_X8_put l G cy E N q_t q_t_tape q_t_kinds q_t_places q_t_values q_t_words c_t_kind c_t_place c_t_value c_t_word c_t_fault c_t_faultPlace c_t_size c_t_taken c_t_kinds c_t_places c_t_values c_t_words sk0 x2 0 0 z59.1 z59.2.1 z59.2.2.1 z59.2.2.2.1 z59.2.2.2.2 hz59) (cwV 4 hts gX8_open_X8_put rfl rfl rfl (by decide +kernel) ⟨Nat.le_of_ble_eq_true rfl, Nat.le_of_ble_eq_true rfl⟩) 9 0 rfl rfl [0, 3, 4, 5, 6] rfl (by decide) rfl rfl rfl rfl rfl hl.1 (Nat.le_of_ble_eq_true rfl) dX8_open_59 ⟨Nat.le_of_ble_eq_true rfl, Nat.le_of_ble_eq_true rfl⟩ (fun H locs hH => ?_)
  refine lv_aload_n hx hb dX8_open_62 rfl (lv_at hl 0 rfl) ?_
  refine lv_iconst (v := 0) hx hb dX8_open_63 (by decide) ?_
  refine z_put (ws' := (wd_X8_open cy q_t q_t_tape q_t_kinds q_t_places q_t_values q_t_words q_t_tape_bytes c_t_kind c_t_place c_t_value c_t_word 0 c_t_faultPlace z59.1 c_t_taken t_tape_length t_tape_bytes z59.2.1 z59.2.2.1 z59.2.2.2.1 z59.2.2.2.2)) S hF hH iX8_open_X8 tyX8 tyX8_ok nmX8 0 rfl rfl 4 (by decide) (List.mem_of_getElem? (i := 11) rfl) rfl rfl rfl (Nat.le_of_ble_eq_true rfl) rfl dX8_open_64 (fun H locs hH => ?_)
  refine lv_aload_n hx hb dX8_open_67 rfl (lv_at hl 0 rfl) ?_
  refine lv_iconst (v := 0) hx hb dX8_open_68 (by decide) ?_
  refine z_put (ws' := (wd_X8_open cy q_t q_t_tape q_t_kinds q_t_places q_t_values q_t_words q_t_tape_bytes c_t_kind c_t_place c_t_value c_t_word 0 0 z59.1 c_t_taken t_tape_length t_tape_bytes z59.2.1 z59.2.2.1 z59.2.2.2.1 z59.2.2.2.2)) S hF hH iX8_open_X8 tyX8 tyX8_ok nmX8 0 rfl rfl 5 (by decide) (List.mem_of_getElem? (i := 12) rfl) rfl rfl rfl (Nat.le_of_ble_eq_true rfl) rfl dX8_open_69 (fun H locs hH => ?_)
  refine lv_aload_n hx hb dX8_open_72 rfl (lv_at hl 0 rfl) ?_
  refine lv_iconst (v := 0) hx hb dX8_open_73 (by decide) ?_
  refine z_put (ws' := (wd_X8_open cy q_t q_t_tape q_t_kinds q_t_places q_t_values q_t_words q_t_tape_bytes c_t_kind c_t_place c_t_value c_t_word 0 0 z59.1 0 t_tape_length t_tape_bytes z59.2.1 z59.2.2.1 z59.2.2.2.1 z59.2.2.2.2)) S hF hH iX8_open_X8 tyX8 tyX8_ok nmX8 0 rfl rfl 8 (by decide) (List.mem_of_getElem? (i := 13) rfl) rfl rfl rfl (Nat.le_of_ble_eq_true rfl) rfl dX8_open_74 (fun H locs hH => ?_)
  refine lv_aload_n hx hb dX8_open_77 rfl (lv_at hl 0 rfl) ?_
  obtain ⟨z78, hz78, h⟩ := zcl_e h
  refine z_callV (As := []) (rest := []) (st1 := []) (ws' := (wd_X8_open cy q_t q_t_tape q_t_kinds q_t_places q_t_values q_t_words q_t_tape_bytes z78.1 z78.2.1 z78.2.2.1 z78.2.2.2.1 0 0 z59.1 z78.2.2.2.2 t_tape_length t_tape_bytes z59.2.1 z59.2.2.1 z59.2.2.2.1 z59.2.2.2.2)) S hF hH (c_X8_advance l G cy E N q_t q_t_tape q_t_kinds q_t_places q_t_values q_t_words c_t_kind c_t_place c_t_value c_t_word 0 0 z59.1 0 z59.2.1 z59.2.2.1 z59.2.2.2.1 z59.2.2.2.2 z78.1 z78.2.1 z78.2.2.1 z78.2.2.2.1 z78.2.2.2.2 hz78) (cwV 0 hts gX8_open_X8_advance rfl rfl rfl (by decide +kernel) ⟨Nat.le_of_ble_eq_true rfl, Nat.le_of_ble_eq_true rfl⟩) 9 0 rfl rfl [0, 3, 4, 5, 6] rfl (by decide) rfl rfl rfl rfl rfl hl.1 (Nat.le_of_ble_eq_true rfl) dX8_open_78 ⟨Nat.le_of_ble_eq_true rfl, Nat.le_of_ble_eq_true rfl⟩ (fun H locs hH => ?_)
  cases h
  exact z_vret S hr hlocks hH dX8_open_81
set_option maxHeartbeats 4000000 in
set_option maxRecDepth 100000 in
theorem w_X8_open_19 {p : Program} {l : Launch} {e : Env} {s : State} {m : MethodId} {args : Array Value} {below : List Frame} {meth : Method} {c : Code} {G : va_G} {cy : Nat → ClassId} {E : Nat → Nat} {w0 : va_W} {N : Nat} {q_t q_t_tape q_t_kinds q_t_places q_t_values q_t_words q_t_tape_bytes : Nat} {t_tape_length : Int32} {t_tape_bytes : Nat → Int32} {r_t_kind : Int32} {r_t_place : Int32} {r_t_value : Int32} {r_t_word : Int64} {r_t_fault : Int32} {r_t_faultPlace : Int32} {r_t_size : Int32} {r_t_taken : Int32} {r_t_kinds : Nat → Int32} {r_t_places : Nat → Int32} {r_t_values : Nat → Int32} {r_t_words : Nat → Int64} (S : CallFix p m c cX8_open 4 s args wsX8_open RX8) (hr : meth.sig.returnType = none) (hlocks : meth.locks = false) (hF : zF G cy E (va_A w0 s.heap.size) s) :
    ∀ (n : Nat) (x1 : Int32) (x2 : Int32) (x3 : Int32) (c_t_kind : Int32) (c_t_place : Int32) (c_t_value : Int32) (c_t_word : Int64) (c_t_fault : Int32) (c_t_faultPlace : Int32) (c_t_size : Int32) (c_t_taken : Int32) (c_t_kinds : Nat → Int32) (c_t_places : Nat → Int32) (c_t_values : Nat → Int32) (c_t_words : Nat → Int64) (H : Heap) (locs : List Loc) (ls : Array Slot), zH G (va_A w0 s.heap.size) s H locs (wd_X8_open cy q_t q_t_tape q_t_kinds q_t_places q_t_values q_t_words q_t_tape_bytes c_t_kind c_t_place c_t_value c_t_word c_t_fault c_t_faultPlace c_t_size c_t_taken t_tape_length t_tape_bytes c_t_kinds c_t_places c_t_values c_t_words) → lv_has ls 4 [(0, .ref q_t), (1, .int x1), (2, .int x2), (3, .int x3)] → f_X8_open_19 N t_tape_length t_tape_bytes n x1 x2 x3 c_t_kind c_t_place c_t_value c_t_word c_t_fault c_t_faultPlace c_t_size c_t_taken c_t_kinds c_t_places c_t_values c_t_words = some (r_t_kind, r_t_place, r_t_value, r_t_word, r_t_fault, r_t_faultPlace, r_t_size, r_t_taken, r_t_kinds, r_t_places, r_t_values, r_t_words) → W p l e rm_X8_open s m args below meth c H locs 0 0 (MQ below (zQ G w0 (wd_X8_open cy q_t q_t_tape q_t_kinds q_t_places q_t_values q_t_words q_t_tape_bytes r_t_kind r_t_place r_t_value r_t_word r_t_fault r_t_faultPlace r_t_size r_t_taken t_tape_length t_tape_bytes r_t_kinds r_t_places r_t_values r_t_words) s.heap.size none) args s 0 0 (va_A w0 s.heap.size)) (F0 m 19 ls []) := by
  obtain ⟨hx, hb, hml, hown, hts⟩ := id S
  intro n
  induction n with
  | zero =>
    intro x1 x2 x3 c_t_kind c_t_place c_t_value c_t_word c_t_fault c_t_faultPlace c_t_size c_t_taken c_t_kinds c_t_places c_t_values c_t_words H locs ls hH hl h
    rw [f_X8_open_19] at h
    cases h
  | succ n ih =>
    intro x1 x2 x3 c_t_kind c_t_place c_t_value c_t_word c_t_fault c_t_faultPlace c_t_size c_t_taken c_t_kinds c_t_places c_t_values c_t_words H locs ls hH hl h
    rw [f_X8_open_19] at h
    refine lv_iload_n hx hb dX8_open_19 rfl (lv_at hl 3 rfl) ?_
    refine lv_iload_n hx hb dX8_open_20 rfl (lv_at hl 2 rfl) ?_
    refine lv_icmp_ge (tgt := 39) hx hb dX8_open_21 (by decide) (fun b21 => ?_) (fun b21 => ?_)
    · replace h := zif_t b21 h
      refine lv_aload_n hx hb dX8_open_39 rfl (lv_at hl 0 rfl) ?_
      refine lv_aload_n hx hb dX8_open_40 rfl (lv_at hl 0 rfl) ?_
      refine z_get S hF hH iX8_open_X8 0 rfl rfl 6 (by decide) (List.mem_of_getElem? (i := 1) rfl) rfl dX8_open_41 ?_
      refine z_get S hF hH iX8_open_X7 1 rfl rfl 1 (by decide) (List.mem_of_getElem? (i := 2) rfl) rfl dX8_open_44 ?_
      refine lv_iload_n hx hb dX8_open_47 rfl (lv_at hl 1 rfl) ?_
      refine lv_icmp_le (tgt := 55) hx hb dX8_open_48 (by decide) (fun b48 => ?_) (fun b48 => ?_)
      · replace h := zif_t b48 h
        refine lv_iconst (v := 0) hx hb dX8_open_55 (by decide) ?_
        exact w_X8_open_56 S hr hlocks hF x2 0 c_t_kind c_t_place c_t_value c_t_word c_t_fault c_t_faultPlace c_t_size c_t_taken c_t_kinds c_t_places c_t_values c_t_words _ _ _ hH (lv_sub hl [0, 2] rfl) h
      · replace h := zif_f b48 h
        refine lv_iconst (v := 1) hx hb dX8_open_51 (by decide) ?_
        refine lv_goto (tgt := 56) hx hb dX8_open_52 (by decide) ?_
        exact w_X8_open_56 S hr hlocks hF x2 1 c_t_kind c_t_place c_t_value c_t_word c_t_fault c_t_faultPlace c_t_size c_t_taken c_t_kinds c_t_places c_t_values c_t_words _ _ _ hH (lv_sub hl [0, 2] rfl) h
    · replace h := zif_f b21 h
      refine lv_iload_n hx hb dX8_open_24 rfl (lv_at hl 3 rfl) ?_
      refine lv_iconst (v := 1) hx hb dX8_open_25 (by decide) ?_
      refine lv_aload_n hx hb dX8_open_26 rfl (lv_at hl 0 rfl) ?_
      refine lv_iload_n hx hb dX8_open_27 rfl (lv_at hl 3 rfl) ?_
      obtain ⟨z28, hz28, h⟩ := zcl_e h
      refine z_callV (As := [.int x3]) (rest := [.int 1, .int x3]) (st1 := [.int z28.1, .int 1, .int x3]) (ws' := (wd_X8_open cy q_t q_t_tape q_t_kinds q_t_places q_t_values q_t_words q_t_tape_bytes c_t_kind c_t_place c_t_value c_t_word c_t_fault c_t_faultPlace z28.2.1 c_t_taken t_tape_length t_tape_bytes z28.2.2.1 z28.2.2.2.1 z28.2.2.2.2.1 z28.2.2.2.2.2)) S hF hH (c_X8_readAt l G cy E N q_t q_t_tape q_t_kinds q_t_places q_t_values q_t_words q_t_tape_bytes c_t_kind c_t_place c_t_value c_t_word c_t_fault c_t_faultPlace c_t_size c_t_taken t_tape_length t_tape_bytes c_t_kinds c_t_places c_t_values c_t_words x3 z28.1 z28.2.1 z28.2.2.1 z28.2.2.2.1 z28.2.2.2.2.1 z28.2.2.2.2.2 hz28) (cwV 1 hts gX8_open_X8_readAt rfl rfl rfl (by decide +kernel) ⟨Nat.le_of_ble_eq_true rfl, Nat.le_of_ble_eq_true rfl⟩) 9 0 rfl rfl [0, 1, 2, 3, 4, 5, 6] rfl (by decide) rfl rfl rfl rfl rfl hl.1 (Nat.le_of_ble_eq_true rfl) dX8_open_28 ⟨Nat.le_of_ble_eq_true rfl, Nat.le_of_ble_eq_true rfl⟩ (fun H locs hH => ?_)
      refine z_mmax S hl.1 (List.mem_of_getElem? (i := 8) rfl) (List.mem_of_getElem? (i := 9) rfl) (List.mem_of_getElem? (i := 5) rfl) (List.mem_of_getElem? (i := 10) rfl) (Nat.le_of_ble_eq_true rfl) (Nat.le_of_ble_eq_true rfl) (Nat.le_of_ble_eq_true rfl) (Nat.le_of_ble_eq_true rfl) dX8_open_31 ?_
      refine lv_iadd hx hb dX8_open_34 ?_
      obtain ⟨y1, ey1, h⟩ := zbn_e h
      refine z_top ey1 ?_
      clear ey1
      refine lv_istore_n (lv' := [(3, .int y1), (0, .ref q_t), (1, .int x1), (2, .int x2)]) hx hb dX8_open_35 rfl hl (by decide) rfl (fun ls hl => ?_)
      refine lv_goto (tgt := 19) hx hb dX8_open_36 (by decide) ?_
      exact ih x1 x2 y1 c_t_kind c_t_place c_t_value c_t_word c_t_fault c_t_faultPlace z28.2.1 c_t_taken z28.2.2.1 z28.2.2.2.1 z28.2.2.2.2.1 z28.2.2.2.2.2 _ _ _ hH (lv_sub hl [1, 2, 3, 0] rfl) h
set_option maxHeartbeats 4000000 in
set_option maxRecDepth 100000 in
theorem c_X8_open (l : Launch) (G : va_G) (cy : Nat → ClassId) (E : Nat → Nat) (N : Nat) (q_t q_t_tape q_t_kinds q_t_places q_t_values q_t_words q_t_tape_bytes : Nat) (t_kind : Int32) (t_place : Int32) (t_value : Int32) (t_word : Int64) (t_fault : Int32) (t_faultPlace : Int32) (t_size : Int32) (t_taken : Int32) (t_tape_length : Int32) (t_tape_bytes : Nat → Int32) (t_kinds : Nat → Int32) (t_places : Nat → Int32) (t_values : Nat → Int32) (t_words : Nat → Int64) (x0 : Int32) (r_t_kind : Int32) (r_t_place : Int32) (r_t_value : Int32) (r_t_word : Int64) (r_t_fault : Int32) (r_t_faultPlace : Int32) (r_t_size : Int32) (r_t_taken : Int32) (r_t_kinds : Nat → Int32) (r_t_places : Nat → Int32) (r_t_values : Nat → Int32) (r_t_words : Nat → Int64) (h : f_X8_open N x0 t_kind t_place t_value t_word t_fault t_faultPlace t_size t_taken t_tape_length t_tape_bytes t_kinds t_places t_values t_words = some (r_t_kind, r_t_place, r_t_value, r_t_word, r_t_fault, r_t_faultPlace, r_t_size, r_t_taken, r_t_kinds, r_t_places, r_t_values, r_t_words)) : zM l G cy E yX8_open wsX8_open rm_X8_open [.ref q_t, .int x0] (wd_X8_open cy q_t q_t_tape q_t_kinds q_t_places q_t_values q_t_words q_t_tape_bytes t_kind t_place t_value t_word t_fault t_faultPlace t_size t_taken t_tape_length t_tape_bytes t_kinds t_places t_values t_words) (wd_X8_open cy q_t q_t_tape q_t_kinds q_t_places q_t_values q_t_words q_t_tape_bytes r_t_kind r_t_place r_t_value r_t_word r_t_fault r_t_faultPlace r_t_size r_t_taken t_tape_length t_tape_bytes r_t_kinds r_t_places r_t_values r_t_words) none 0 0 := by
  refine z_body (cc := cX8_open) (maxL := 4) (ret := none) (by decide) rfl (Nat.le_of_ble_eq_true rfl) ?_
  intro p e s m below meth c ls S hr hlocks hnm hF hH hl
  have S : CallFix p m c cX8_open 4 s ([.ref q_t, .int x0] : List Value).toArray wsX8_open RX8 := S
  obtain ⟨hx, hb, hml, hown, hts⟩ := id S
  have hl : lv_has ls 4 [(0, .ref q_t), (1, .int x0)] := hl
  rw [f_X8_open] at h
  refine lv_aload_n hx hb dX8_open_0 rfl (lv_at hl 0 rfl) ?_
  refine z_get S hF hH iX8_open_X8 0 rfl rfl 6 (by decide) (List.mem_of_getElem? (i := 1) rfl) rfl dX8_open_1 ?_
  refine z_get S hF hH iX8_open_X7 1 rfl rfl 1 (by decide) (List.mem_of_getElem? (i := 2) rfl) rfl dX8_open_4 ?_
  refine lv_iload_n hx hb dX8_open_7 rfl (lv_at hl 1 rfl) ?_
  refine z_mmin S hl.1 (List.mem_of_getElem? (i := 3) rfl) (List.mem_of_getElem? (i := 4) rfl) (List.mem_of_getElem? (i := 5) rfl) (List.mem_of_getElem? (i := 6) rfl) (Nat.le_of_ble_eq_true rfl) (Nat.le_of_ble_eq_true rfl) (Nat.le_of_ble_eq_true rfl) (Nat.le_of_ble_eq_true rfl) dX8_open_8 ?_
  obtain ⟨y1, ey1, h⟩ := zbn_e h
  refine z_top ey1 ?_
  clear ey1
  refine lv_istore_n (lv' := [(2, .int y1), (0, .ref q_t), (1, .int x0)]) hx hb dX8_open_11 rfl hl (by decide) rfl (fun ls hl => ?_)
  refine lv_aload_n hx hb dX8_open_12 rfl (lv_at hl 1 rfl) ?_
  refine lv_iconst (v := 0) hx hb dX8_open_13 (by decide) ?_
  refine z_put (ws' := (wd_X8_open cy q_t q_t_tape q_t_kinds q_t_places q_t_values q_t_words q_t_tape_bytes t_kind t_place t_value t_word t_fault t_faultPlace 0 t_taken t_tape_length t_tape_bytes t_kinds t_places t_values t_words)) S hF hH iX8_open_X8 tyX8 tyX8_ok nmX8 0 rfl rfl 7 (by decide) (List.mem_of_getElem? (i := 7) rfl) rfl rfl rfl (Nat.le_of_ble_eq_true rfl) rfl dX8_open_14 (fun H locs hH => ?_)
  refine lv_iconst (v := 0) hx hb dX8_open_17 (by decide) ?_
  refine lv_istore_n (lv' := [(3, .int 0), (2, .int y1), (0, .ref q_t), (1, .int x0)]) hx hb dX8_open_18 rfl hl (by decide) rfl (fun ls hl => ?_)
  exact w_X8_open_19 S hr hlocks hF N x0 y1 0 t_kind t_place t_value t_word t_fault t_faultPlace 0 t_taken t_kinds t_places t_values t_words _ _ _ hH (lv_sub hl [2, 3, 1, 0] rfl) h
abbrev wd_X8_isSymbol (cy : Nat → ClassId) (q_t q_t_tape q_t_kinds q_t_places q_t_values q_t_words : Nat) (t_kind : Int32) (t_place : Int32) (t_value : Int32) (t_word : Int64) (t_fault : Int32) (t_faultPlace : Int32) (t_size : Int32) (t_taken : Int32) : va_W := [(q_t, .inr (9, [.int t_kind, .int t_place, .int t_value, .long t_word, .int t_fault, .int t_faultPlace, .ref q_t_tape, .int t_size, .int t_taken, .ref q_t_kinds, .ref q_t_places, .ref q_t_values, .ref q_t_words]))]
theorem iX8_isSymbol_X8 : ∀ w ∈ wsX80, w ∈ wsX8_isSymbol := fun _ h => List.mem_cons_of_mem _ (List.mem_append_right _ h)
abbrev rm_X8_isSymbol : Room := { frames := 0, cells := 0, slots := 0, locals := 0 }
set_option maxRecDepth 100000 in
def f_X8_isSymbol (N : Nat) (x0 : Int32) (t_kind : Int32) (t_value : Int32) : Option (Int32) := if t_kind = 5 then (if t_value = x0 then (some 1) else (some 0)) else (some 0)
set_option maxHeartbeats 4000000 in
set_option maxRecDepth 100000 in
theorem c_X8_isSymbol (l : Launch) (G : va_G) (cy : Nat → ClassId) (E : Nat → Nat) (N : Nat) (q_t q_t_tape q_t_kinds q_t_places q_t_values q_t_words : Nat) (t_kind : Int32) (t_place : Int32) (t_value : Int32) (t_word : Int64) (t_fault : Int32) (t_faultPlace : Int32) (t_size : Int32) (t_taken : Int32) (x0 : Int32) (r : Int32) (h : f_X8_isSymbol N x0 t_kind t_value = some r) : zM l G cy E yX8_isSymbol wsX8_isSymbol rm_X8_isSymbol [.ref q_t, .int x0] (wd_X8_isSymbol cy q_t q_t_tape q_t_kinds q_t_places q_t_values q_t_words t_kind t_place t_value t_word t_fault t_faultPlace t_size t_taken) (wd_X8_isSymbol cy q_t q_t_tape q_t_kinds q_t_places q_t_values q_t_words t_kind t_place t_value t_word t_fault t_faultPlace t_size t_taken) (some (.int r)) 0 0 := by
  refine z_body (cc := cX8_isSymbol) (maxL := 2) (ret := some .boolean) (by decide) rfl (Nat.le_of_ble_eq_true rfl) ?_
  intro p e s m below meth c ls S hr hlocks hnm hF hH hl
  have S : CallFix p m c cX8_isSymbol 2 s ([.ref q_t, .int x0] : List Value).toArray wsX8_isSymbol RX8 := S
  obtain ⟨hx, hb, hml, hown, hts⟩ := id S
  have hl : lv_has ls 2 [(0, .ref q_t), (1, .int x0)] := hl
  rw [f_X8_isSymbol] at h
  refine lv_aload_n hx hb dX8_isSymbol_0 rfl (lv_at hl 0 rfl) ?_
  refine z_get S hF hH iX8_isSymbol_X8 0 rfl rfl 0 (by decide) (List.mem_of_getElem? (i := 1) rfl) rfl dX8_isSymbol_1 ?_
  refine lv_iconst (v := 5) hx hb dX8_isSymbol_4 (by decide) ?_
  refine lv_icmp_ne (tgt := 20) hx hb dX8_isSymbol_5 (by decide) (fun b5 => ?_) (fun b5 => ?_)
  · replace h := zif_f b5 h
    refine lv_iconst (v := 0) hx hb dX8_isSymbol_20 (by decide) ?_
    cases h
    exact z_zret S hr hlocks hH rfl dX8_isSymbol_21
  · replace h := zif_t b5 h
    refine lv_aload_n hx hb dX8_isSymbol_8 rfl (lv_at hl 0 rfl) ?_
    refine z_get S hF hH iX8_isSymbol_X8 0 rfl rfl 2 (by decide) (List.mem_of_getElem? (i := 2) rfl) rfl dX8_isSymbol_9 ?_
    refine lv_iload_n hx hb dX8_isSymbol_12 rfl (lv_at hl 1 rfl) ?_
    refine lv_icmp_ne (tgt := 20) hx hb dX8_isSymbol_13 (by decide) (fun b13 => ?_) (fun b13 => ?_)
    · replace h := zif_f b13 h
      refine lv_iconst (v := 0) hx hb dX8_isSymbol_20 (by decide) ?_
      cases h
      exact z_zret S hr hlocks hH rfl dX8_isSymbol_21
    · replace h := zif_t b13 h
      refine lv_iconst (v := 1) hx hb dX8_isSymbol_16 (by decide) ?_
      refine lv_goto (tgt := 21) hx hb dX8_isSymbol_17 (by decide) ?_
      cases h
      exact z_zret S hr hlocks hH rfl dX8_isSymbol_21
abbrev wd_X8_takeSymbol (cy : Nat → ClassId) (q_t q_t_tape q_t_kinds q_t_places q_t_values q_t_words : Nat) (t_kind : Int32) (t_place : Int32) (t_value : Int32) (t_word : Int64) (t_fault : Int32) (t_faultPlace : Int32) (t_size : Int32) (t_taken : Int32) (t_kinds : Nat → Int32) (t_places : Nat → Int32) (t_values : Nat → Int32) (t_words : Nat → Int64) : va_W := [(q_t, .inr (9, [.int t_kind, .int t_place, .int t_value, .long t_word, .int t_fault, .int t_faultPlace, .ref q_t_tape, .int t_size, .int t_taken, .ref q_t_kinds, .ref q_t_places, .ref q_t_values, .ref q_t_words])), (q_t_kinds, .inl (cy 1, 901, .inl t_kinds)), (q_t_places, .inl (cy 1, 901, .inl t_places)), (q_t_values, .inl (cy 1, 901, .inl t_values)), (q_t_words, .inl (cy 2, 901, .inr (.inl t_words)))]
abbrev rm_X8_takeSymbol : Room := { frames := 1, cells := 0, slots := 0, locals := 21 }
set_option maxRecDepth 100000 in
def f_X8_takeSymbol (N : Nat) (x0 : Int32) (t_kind : Int32) (t_place : Int32) (t_value : Int32) (t_word : Int64) (t_fault : Int32) (t_faultPlace : Int32) (t_size : Int32) (t_taken : Int32) (t_kinds : Nat → Int32) (t_places : Nat → Int32) (t_values : Nat → Int32) (t_words : Nat → Int64) : Option (Int32 × Int32 × Int32 × Int32 × Int64 × Int32 × Int32 × Int32) := zcl (f_X8_isSymbol N x0 t_kind t_value) fun z2 => if z2 = 0 then (zcl (f_X8_refuse N 1 t_place t_fault t_faultPlace) fun z10 => zck (zbo z10.1) <| some (z10.1, t_kind, t_place, t_value, t_word, z10.2.1, z10.2.2, t_taken)) else (zcl (f_X8_advance N t_kind t_place t_value t_word t_size t_taken t_kinds t_places t_values t_words) fun z15 => some (1, z15.1, z15.2.1, z15.2.2.1, z15.2.2.2.1, t_fault, t_faultPlace, z15.2.2.2.2))
set_option maxHeartbeats 4000000 in
set_option maxRecDepth 100000 in
theorem c_X8_takeSymbol (l : Launch) (G : va_G) (cy : Nat → ClassId) (E : Nat → Nat) (N : Nat) (q_t q_t_tape q_t_kinds q_t_places q_t_values q_t_words : Nat) (t_kind : Int32) (t_place : Int32) (t_value : Int32) (t_word : Int64) (t_fault : Int32) (t_faultPlace : Int32) (t_size : Int32) (t_taken : Int32) (t_kinds : Nat → Int32) (t_places : Nat → Int32) (t_values : Nat → Int32) (t_words : Nat → Int64) (x0 : Int32) (r : Int32) (r_t_kind : Int32) (r_t_place : Int32) (r_t_value : Int32) (r_t_word : Int64) (r_t_fault : Int32) (r_t_faultPlace : Int32) (r_t_taken : Int32) (h : f_X8_takeSymbol N x0 t_kind t_place t_value t_word t_fault t_faultPlace t_size t_taken t_kinds t_places t_values t_words = some (r, r_t_kind, r_t_place, r_t_value, r_t_word, r_t_fault, r_t_faultPlace, r_t_taken)) : zM l G cy E yX8_takeSymbol wsX8_takeSymbol rm_X8_takeSymbol [.ref q_t, .int x0] (wd_X8_takeSymbol cy q_t q_t_tape q_t_kinds q_t_places q_t_values q_t_words t_kind t_place t_value t_word t_fault t_faultPlace t_size t_taken t_kinds t_places t_values t_words) (wd_X8_takeSymbol cy q_t q_t_tape q_t_kinds q_t_places q_t_values q_t_words r_t_kind r_t_place r_t_value r_t_word r_t_fault r_t_faultPlace t_size r_t_taken t_kinds t_places t_values t_words) (some (.int r)) 0 0 := by
  refine z_body (cc := cX8_takeSymbol) (maxL := 2) (ret := some .boolean) (by decide) rfl (Nat.le_of_ble_eq_true rfl) ?_
  intro p e s m below meth c ls S hr hlocks hnm hF hH hl
  have S : CallFix p m c cX8_takeSymbol 2 s ([.ref q_t, .int x0] : List Value).toArray wsX8_takeSymbol RX8 := S
  obtain ⟨hx, hb, hml, hown, hts⟩ := id S
  have hl : lv_has ls 2 [(0, .ref q_t), (1, .int x0)] := hl
  rw [f_X8_takeSymbol] at h
  refine lv_aload_n hx hb dX8_takeSymbol_0 rfl (lv_at hl 0 rfl) ?_
  refine lv_iload_n hx hb dX8_takeSymbol_1 rfl (lv_at hl 1 rfl) ?_
  obtain ⟨z2, hz2, h⟩ := zcl_e h
  refine z_callV (As := [.int x0]) (rest := []) (st1 := [.int z2]) (ws' := (wd_X8_takeSymbol cy q_t q_t_tape q_t_kinds q_t_places q_t_values q_t_words t_kind t_place t_value t_word t_fault t_faultPlace t_size t_taken t_kinds t_places t_values t_words)) S hF hH (c_X8_isSymbol l G cy E N q_t q_t_tape q_t_kinds q_t_places q_t_values q_t_words t_kind t_place t_value t_word t_fault t_faultPlace t_size t_taken x0 z2 hz2) (cwV 1 hts gX8_takeSymbol_X8_isSymbol rfl rfl rfl (by decide +kernel) ⟨Nat.le_of_ble_eq_true rfl, Nat.le_of_ble_eq_true rfl⟩) 9 0 rfl rfl [0] rfl (by decide) rfl rfl rfl rfl rfl hl.1 (Nat.le_of_ble_eq_true rfl) dX8_takeSymbol_2 ⟨Nat.le_of_ble_eq_true rfl, Nat.le_of_ble_eq_true rfl⟩ (fun H locs hH => ?_)
  refine lv_if_ne (tgt := 14) hx hb dX8_takeSymbol_5 (by decide) (fun b5 => ?_) (fun b5 => ?_)
  · replace h := zif_f b5 h
    refine lv_aload_n hx hb dX8_takeSymbol_14 rfl (lv_at hl 0 rfl) ?_
    obtain ⟨z15, hz15, h⟩ := zcl_e h
    refine z_callV (As := []) (rest := []) (st1 := []) (ws' := (wd_X8_takeSymbol cy q_t q_t_tape q_t_kinds q_t_places q_t_values q_t_words z15.1 z15.2.1 z15.2.2.1 z15.2.2.2.1 t_fault t_faultPlace t_size z15.2.2.2.2 t_kinds t_places t_values t_words)) S hF hH (c_X8_advance l G cy E N q_t q_t_tape q_t_kinds q_t_places q_t_values q_t_words t_kind t_place t_value t_word t_fault t_faultPlace t_size t_taken t_kinds t_places t_values t_words z15.1 z15.2.1 z15.2.2.1 z15.2.2.2.1 z15.2.2.2.2 hz15) (cwV 0 hts gX8_takeSymbol_X8_advance rfl rfl rfl (by decide +kernel) ⟨Nat.le_of_ble_eq_true rfl, Nat.le_of_ble_eq_true rfl⟩) 9 0 rfl rfl [0, 1, 2, 3, 4] rfl (by decide) rfl rfl rfl rfl rfl hl.1 (Nat.le_of_ble_eq_true rfl) dX8_takeSymbol_15 ⟨Nat.le_of_ble_eq_true rfl, Nat.le_of_ble_eq_true rfl⟩ (fun H locs hH => ?_)
    refine lv_iconst (v := 1) hx hb dX8_takeSymbol_18 (by decide) ?_
    cases h
    exact z_zret S hr hlocks hH rfl dX8_takeSymbol_19
  · replace h := zif_t b5 h
    refine lv_aload_n hx hb dX8_takeSymbol_8 rfl (lv_at hl 0 rfl) ?_
    refine lv_iconst (v := 1) hx hb dX8_takeSymbol_9 (by decide) ?_
    obtain ⟨z10, hz10, h⟩ := zcl_e h
    refine z_callV (As := [.int 1]) (rest := []) (st1 := [.int z10.1]) (ws' := (wd_X8_takeSymbol cy q_t q_t_tape q_t_kinds q_t_places q_t_values q_t_words t_kind t_place t_value t_word z10.2.1 z10.2.2 t_size t_taken t_kinds t_places t_values t_words)) S hF hH (c_X8_refuse l G cy E N q_t q_t_tape q_t_kinds q_t_places q_t_values q_t_words t_kind t_place t_value t_word t_fault t_faultPlace t_size t_taken 1 z10.1 z10.2.1 z10.2.2 hz10) (cwV 1 hts gX8_takeSymbol_X8_refuse rfl rfl rfl (by decide +kernel) ⟨Nat.le_of_ble_eq_true rfl, Nat.le_of_ble_eq_true rfl⟩) 9 0 rfl rfl [0] rfl (by decide) rfl rfl rfl rfl rfl hl.1 (Nat.le_of_ble_eq_true rfl) dX8_takeSymbol_10 ⟨Nat.le_of_ble_eq_true rfl, Nat.le_of_ble_eq_true rfl⟩ (fun H locs hH => ?_)
    obtain ⟨h13, h⟩ := zck_e h
    cases h
    exact z_zret S hr hlocks hH h13 dX8_takeSymbol_13
abbrev wd_X0_read (cy : Nat → ClassId) (q_t q_t_in q_t_burgh q_t_verb q_t_who q_t_what q_t_in_tape q_t_in_kinds q_t_in_places q_t_in_values q_t_in_words q_t_in_tape_bytes q_t_burgh_clockName q_t_burgh_clockCorner q_t_burgh_clockAhead q_t_burgh_clockGain q_t_burgh_masterName q_t_burgh_masterCorner q_t_burgh_masterLate q_t_burgh_masterClock q_t_burgh_masterMeets q_t_burgh_meetName q_t_burgh_meetDue : Nat) (t_lines : Int32) (t_judged : Int32) (t_why : Int32) (t_good : Int32) (t_minuteThen : Int32) (t_outThen : Int32) (t_in_kind : Int32) (t_in_place : Int32) (t_in_value : Int32) (t_in_word : Int64) (t_in_fault : Int32) (t_in_faultPlace : Int32) (t_in_size : Int32) (t_in_taken : Int32) (t_in_tape_length : Int32) (t_in_tape_bytes : Nat → Int32) (t_in_kinds : Nat → Int32) (t_in_places : Nat → Int32) (t_in_values : Nat → Int32) (t_in_words : Nat → Int64) (t_burgh_clocks : Int32) (t_burgh_masters : Int32) (t_burgh_meets : Int32) (t_burgh_patience : Int32) (t_burgh_masterName : Nat → Int64) (t_verb : Nat → Int32) (t_who : Nat → Int32) (t_what : Nat → Int32) (t_burgh_meetName : Nat → Int64) (t_burgh_clockName : Nat → Int64) : va_W := [(q_t, .inr (1, [.ref q_t_in, .ref q_t_burgh, .int t_lines, .ref q_t_verb, .ref q_t_who, .ref q_t_what, .int t_judged, .int t_why, .int t_good, .int t_minuteThen, .int t_outThen])), (q_t_in, .inr (9, [.int t_in_kind, .int t_in_place, .int t_in_value, .long t_in_word, .int t_in_fault, .int t_in_faultPlace, .ref q_t_in_tape, .int t_in_size, .int t_in_taken, .ref q_t_in_kinds, .ref q_t_in_places, .ref q_t_in_values, .ref q_t_in_words])), (q_t_in_tape, .inr (8, [.ref q_t_in_tape_bytes, .int t_in_tape_length])), (q_t_in_tape_bytes, .inl (cy 0, 940, .inl t_in_tape_bytes)), (q_t_in_kinds, .inl (cy 1, 901, .inl t_in_kinds)), (q_t_in_places, .inl (cy 1, 901, .inl t_in_places)), (q_t_in_values, .inl (cy 1, 901, .inl t_in_values)), (q_t_in_words, .inl (cy 2, 901, .inr (.inl t_in_words))), (q_t_burgh, .inr (2, [.int t_burgh_clocks, .int t_burgh_masters, .int t_burgh_meets, .int t_burgh_patience, .ref q_t_burgh_clockName, .ref q_t_burgh_clockCorner, .ref q_t_burgh_clockAhead, .ref q_t_burgh_clockGain, .ref q_t_burgh_masterName, .ref q_t_burgh_masterCorner, .ref q_t_burgh_masterLate, .ref q_t_burgh_masterClock, .ref q_t_burgh_masterMeets, .ref q_t_burgh_meetName, .ref q_t_burgh_meetDue])), (q_t_burgh_masterName, .inl (cy 2, 6, .inr (.inl t_burgh_masterName))), (q_t_verb, .inl (cy 1, 40, .inl t_verb)), (q_t_who, .inl (cy 1, 40, .inl t_who)), (q_t_what, .inl (cy 1, 40, .inl t_what)), (q_t_burgh_meetName, .inl (cy 2, 6, .inr (.inl t_burgh_meetName))), (q_t_burgh_clockName, .inl (cy 2, 6, .inr (.inl t_burgh_clockName)))]
theorem iX0_read_X0 : ∀ w ∈ wsX00, w ∈ wsX0_read := fun _ h => List.mem_cons_of_mem _ (List.mem_append_left _ (List.mem_append_left _ (List.mem_append_left _ (List.mem_append_right _ h))))
abbrev rm_X0_read : Room := { frames := 8, cells := 0, slots := 0, locals := 184 }
set_option maxRecDepth 100000 in
def f_X0_read_15 (N : Nat) (t_in_tape_length : Int32) (t_in_tape_bytes : Nat → Int32) (t_burgh_clocks : Int32) (t_burgh_masters : Int32) (t_burgh_meets : Int32) (t_burgh_masterName : Nat → Int64) (t_burgh_meetName : Nat → Int64) (t_burgh_clockName : Nat → Int64) : Nat → Int32 → Int32 → Int32 → Int32 → Int64 → Int32 → Int32 → Int32 → Int32 → (Nat → Int32) → (Nat → Int32) → (Nat → Int32) → (Nat → Int64) → (Nat → Int32) → (Nat → Int32) → (Nat → Int32) → (Option (Int32 × Int32 × Int32 × Int32 × Int64 × Int32 × Int32 × Int32 × Int32 × (Nat → Int32) × (Nat → Int32) × (Nat → Int32) × (Nat → Int64) × (Nat → Int32) × (Nat → Int32) × (Nat → Int32)))
  | 0, _, _, _, _, _, _, _, _, _, _, _, _, _, _, _, _ => none
  | n + 1, c_t_lines, c_t_in_kind, c_t_in_place, c_t_in_value, c_t_in_word, c_t_in_fault, c_t_in_faultPlace, c_t_in_size, c_t_in_taken, c_t_in_kinds, c_t_in_places, c_t_in_values, c_t_in_words, c_t_verb, c_t_who, c_t_what => if 40 < c_t_lines then (some (c_t_lines, c_t_in_kind, c_t_in_place, c_t_in_value, c_t_in_word, c_t_in_fault, c_t_in_faultPlace, c_t_in_size, c_t_in_taken, c_t_in_kinds, c_t_in_places, c_t_in_values, c_t_in_words, c_t_verb, c_t_who, c_t_what)) else (zcl (f_X8_isAtEnd N c_t_in_kind) fun z28 => if z28 = 0 then (zcl (f_X0_readLine N c_t_lines c_t_in_kind c_t_in_place c_t_in_value c_t_in_word c_t_in_fault c_t_in_faultPlace c_t_in_size c_t_in_taken t_burgh_clocks t_burgh_masters t_burgh_meets t_burgh_masterName c_t_in_kinds c_t_in_places c_t_in_values c_t_in_words c_t_verb c_t_who c_t_what t_burgh_meetName t_burgh_clockName) fun z35 => if z35.1 = 0 then (some (c_t_lines, z35.2.1, z35.2.2.1, z35.2.2.2.1, z35.2.2.2.2.1, z35.2.2.2.2.2.1, z35.2.2.2.2.2.2.1, c_t_in_size, z35.2.2.2.2.2.2.2.1, c_t_in_kinds, c_t_in_places, c_t_in_values, c_t_in_words, z35.2.2.2.2.2.2.2.2.1, z35.2.2.2.2.2.2.2.2.2.1, z35.2.2.2.2.2.2.2.2.2.2)) else (zcl (f_X8_takeSymbol N 59 z35.2.1 z35.2.2.1 z35.2.2.2.1 z35.2.2.2.2.1 z35.2.2.2.2.2.1 z35.2.2.2.2.2.2.1 c_t_in_size z35.2.2.2.2.2.2.2.1 c_t_in_kinds c_t_in_places c_t_in_values c_t_in_words) fun z47 => if z47.1 = 0 then (some (c_t_lines, z47.2.1, z47.2.2.1, z47.2.2.2.1, z47.2.2.2.2.1, z47.2.2.2.2.2.1, z47.2.2.2.2.2.2.1, c_t_in_size, z47.2.2.2.2.2.2.2, c_t_in_kinds, c_t_in_places, c_t_in_values, c_t_in_words, z35.2.2.2.2.2.2.2.2.1, z35.2.2.2.2.2.2.2.2.2.1, z35.2.2.2.2.2.2.2.2.2.2)) else (zbn ((c_t_lines + 1)) fun y1 => f_X0_read_15 N t_in_tape_length t_in_tape_bytes t_burgh_clocks t_burgh_masters t_burgh_meets t_burgh_masterName t_burgh_meetName t_burgh_clockName n y1 z47.2.1 z47.2.2.1 z47.2.2.2.1 z47.2.2.2.2.1 z47.2.2.2.2.2.1 z47.2.2.2.2.2.2.1 c_t_in_size z47.2.2.2.2.2.2.2 c_t_in_kinds c_t_in_places c_t_in_values c_t_in_words z35.2.2.2.2.2.2.2.2.1 z35.2.2.2.2.2.2.2.2.2.1 z35.2.2.2.2.2.2.2.2.2.2))) else (some (c_t_lines, c_t_in_kind, c_t_in_place, c_t_in_value, c_t_in_word, c_t_in_fault, c_t_in_faultPlace, c_t_in_size, c_t_in_taken, c_t_in_kinds, c_t_in_places, c_t_in_values, c_t_in_words, c_t_verb, c_t_who, c_t_what)))
set_option maxRecDepth 100000 in
def f_X0_read (N : Nat) (t_lines : Int32) (t_in_kind : Int32) (t_in_place : Int32) (t_in_value : Int32) (t_in_word : Int64) (t_in_fault : Int32) (t_in_faultPlace : Int32) (t_in_size : Int32) (t_in_taken : Int32) (t_in_tape_length : Int32) (t_in_tape_bytes : Nat → Int32) (t_in_kinds : Nat → Int32) (t_in_places : Nat → Int32) (t_in_values : Nat → Int32) (t_in_words : Nat → Int64) (t_burgh_clocks : Int32) (t_burgh_masters : Int32) (t_burgh_meets : Int32) (t_burgh_masterName : Nat → Int64) (t_verb : Nat → Int32) (t_who : Nat → Int32) (t_what : Nat → Int32) (t_burgh_meetName : Nat → Int64) (t_burgh_clockName : Nat → Int64) : Option (Int32 × Int32 × Int32 × Int32 × Int64 × Int32 × Int32 × Int32 × Int32 × (Nat → Int32) × (Nat → Int32) × (Nat → Int32) × (Nat → Int64) × (Nat → Int32) × (Nat → Int32) × (Nat → Int32)) := zcl (f_X8_open N 400 t_in_kind t_in_place t_in_value t_in_word t_in_fault t_in_faultPlace t_in_size t_in_taken t_in_tape_length t_in_tape_bytes t_in_kinds t_in_places t_in_values t_in_words) fun z12 => f_X0_read_15 N t_in_tape_length t_in_tape_bytes t_burgh_clocks t_burgh_masters t_burgh_meets t_burgh_masterName t_burgh_meetName t_burgh_clockName N 0 z12.1 z12.2.1 z12.2.2.1 z12.2.2.2.1 z12.2.2.2.2.1 z12.2.2.2.2.2.1 z12.2.2.2.2.2.2.1 z12.2.2.2.2.2.2.2.1 z12.2.2.2.2.2.2.2.2.1 z12.2.2.2.2.2.2.2.2.2.1 z12.2.2.2.2.2.2.2.2.2.2.1 z12.2.2.2.2.2.2.2.2.2.2.2 t_verb t_who t_what
set_option maxHeartbeats 4000000 in
set_option maxRecDepth 100000 in
theorem w_X0_read_15 {p : Program} {l : Launch} {e : Env} {s : State} {m : MethodId} {args : Array Value} {below : List Frame} {meth : Method} {c : Code} {G : va_G} {cy : Nat → ClassId} {E : Nat → Nat} {w0 : va_W} {N : Nat} {q_t q_t_in q_t_burgh q_t_verb q_t_who q_t_what q_t_in_tape q_t_in_kinds q_t_in_places q_t_in_values q_t_in_words q_t_in_tape_bytes q_t_burgh_clockName q_t_burgh_clockCorner q_t_burgh_clockAhead q_t_burgh_clockGain q_t_burgh_masterName q_t_burgh_masterCorner q_t_burgh_masterLate q_t_burgh_masterClock q_t_burgh_masterMeets q_t_burgh_meetName q_t_burgh_meetDue : Nat} {t_judged : Int32} {t_why : Int32} {t_good : Int32} {t_minuteThen : Int32} {t_outThen : Int32} {t_in_tape_length : Int32} {t_in_tape_bytes : Nat → Int32} {t_burgh_clocks : Int32} {t_burgh_masters : Int32} {t_burgh_meets : Int32} {t_burgh_patience : Int32} {t_burgh_masterName : Nat → Int64} {t_burgh_meetName : Nat → Int64} {t_burgh_clockName : Nat → Int64} {r_t_lines : Int32} {r_t_in_kind : Int32} {r_t_in_place : Int32} {r_t_in_value : Int32} {r_t_in_word : Int64} {r_t_in_fault : Int32} {r_t_in_faultPlace : Int32} {r_t_in_size : Int32} {r_t_in_taken : Int32} {r_t_in_kinds : Nat → Int32} {r_t_in_places : Nat → Int32} {r_t_in_values : Nat → Int32} {r_t_in_words : Nat → Int64} {r_t_verb : Nat → Int32} {r_t_who : Nat → Int32} {r_t_what : Nat → Int32} (S : CallFix p m c cX0_read 1 s args wsX0_read RX0) (hr : meth.sig.returnType = none) (hlocks : meth.locks = false) (hF : zF G cy E (va_A w0 s.heap.size) s) :
    ∀ (n : Nat) (c_t_lines : Int32) (c_t_in_kind : Int32) (c_t_in_place : Int32) (c_t_in_value : Int32) (c_t_in_word : Int64) (c_t_in_fault : Int32) (c_t_in_faultPlace : Int32) (c_t_in_size : Int32) (c_t_in_taken : Int32) (c_t_in_kinds : Nat → Int32) (c_t_in_places : Nat → Int32) (c_t_in_values : Nat → Int32) (c_t_in_words : Nat → Int64) (c_t_verb : Nat → Int32) (c_t_who : Nat → Int32) (c_t_what : Nat → Int32) (H : Heap) (locs : List Loc) (ls : Array Slot), zH G (va_A w0 s.heap.size) s H locs (wd_X0_read cy q_t q_t_in q_t_burgh q_t_verb q_t_who q_t_what q_t_in_tape q_t_in_kinds q_t_in_places q_t_in_values q_t_in_words q_t_in_tape_bytes q_t_burgh_clockName q_t_burgh_clockCorner q_t_burgh_clockAhead q_t_burgh_clockGain q_t_burgh_masterName q_t_burgh_masterCorner q_t_burgh_masterLate q_t_burgh_masterClock q_t_burgh_masterMeets q_t_burgh_meetName q_t_burgh_meetDue c_t_lines t_judged t_why t_good t_minuteThen t_outThen c_t_in_kind c_t_in_place c_t_in_value c_t_in_word c_t_in_fault c_t_in_faultPlace c_t_in_size c_t_in_taken t_in_tape_length t_in_tape_bytes c_t_in_kinds c_t_in_places c_t_in_values c_t_in_words t_burgh_clocks t_burgh_masters t_burgh_meets t_burgh_patience t_burgh_masterName c_t_verb c_t_who c_t_what t_burgh_meetName t_burgh_clockName) → lv_has ls 1 [(0, .ref q_t)] → f_X0_read_15 N t_in_tape_length t_in_tape_bytes t_burgh_clocks t_burgh_masters t_burgh_meets t_burgh_masterName t_burgh_meetName t_burgh_clockName n c_t_lines c_t_in_kind c_t_in_place c_t_in_value c_t_in_word c_t_in_fault c_t_in_faultPlace c_t_in_size c_t_in_taken c_t_in_kinds c_t_in_places c_t_in_values c_t_in_words c_t_verb c_t_who c_t_what = some (r_t_lines, r_t_in_kind, r_t_in_place, r_t_in_value, r_t_in_word, r_t_in_fault, r_t_in_faultPlace, r_t_in_size, r_t_in_taken, r_t_in_kinds, r_t_in_places, r_t_in_values, r_t_in_words, r_t_verb, r_t_who, r_t_what) → W p l e rm_X0_read s m args below meth c H locs 0 0 (MQ below (zQ G w0 (wd_X0_read cy q_t q_t_in q_t_burgh q_t_verb q_t_who q_t_what q_t_in_tape q_t_in_kinds q_t_in_places q_t_in_values q_t_in_words q_t_in_tape_bytes q_t_burgh_clockName q_t_burgh_clockCorner q_t_burgh_clockAhead q_t_burgh_clockGain q_t_burgh_masterName q_t_burgh_masterCorner q_t_burgh_masterLate q_t_burgh_masterClock q_t_burgh_masterMeets q_t_burgh_meetName q_t_burgh_meetDue r_t_lines t_judged t_why t_good t_minuteThen t_outThen r_t_in_kind r_t_in_place r_t_in_value r_t_in_word r_t_in_fault r_t_in_faultPlace r_t_in_size r_t_in_taken t_in_tape_length t_in_tape_bytes r_t_in_kinds r_t_in_places r_t_in_values r_t_in_words t_burgh_clocks t_burgh_masters t_burgh_meets t_burgh_patience t_burgh_masterName r_t_verb r_t_who r_t_what t_burgh_meetName t_burgh_clockName) s.heap.size none) args s 0 0 (va_A w0 s.heap.size)) (F0 m 15 ls []) := by
  obtain ⟨hx, hb, hml, hown, hts⟩ := id S
  intro n
  induction n with
  | zero =>
    intro c_t_lines c_t_in_kind c_t_in_place c_t_in_value c_t_in_word c_t_in_fault c_t_in_faultPlace c_t_in_size c_t_in_taken c_t_in_kinds c_t_in_places c_t_in_values c_t_in_words c_t_verb c_t_who c_t_what H locs ls hH hl h
    rw [f_X0_read_15] at h
    cases h
  | succ n ih =>
    intro c_t_lines c_t_in_kind c_t_in_place c_t_in_value c_t_in_word c_t_in_fault c_t_in_faultPlace c_t_in_size c_t_in_taken c_t_in_kinds c_t_in_places c_t_in_values c_t_in_words c_t_verb c_t_who c_t_what H locs ls hH hl h
    rw [f_X0_read_15] at h
    refine lv_aload_n hx hb dX0_read_15 rfl (lv_at hl 0 rfl) ?_
    refine z_get S hF hH iX0_read_X0 0 rfl rfl 2 (by decide) (List.mem_of_getElem? (i := 1) rfl) rfl dX0_read_16 ?_
    refine lv_bipush (v := 40) hx hb dX0_read_19 (by decide) ?_
    refine lv_icmp_gt (tgt := 66) hx hb dX0_read_21 (by decide) (fun b21 => ?_) (fun b21 => ?_)
    · replace h := zif_t b21 h
      cases h
      exact z_vret S hr hlocks hH dX0_read_66
    · replace h := zif_f b21 h
      refine lv_aload_n hx hb dX0_read_24 rfl (lv_at hl 0 rfl) ?_
      refine z_get S hF hH iX0_read_X0 0 rfl rfl 0 (by decide) (List.mem_of_getElem? (i := 2) rfl) rfl dX0_read_25 ?_
      obtain ⟨z28, hz28, h⟩ := zcl_e h
      refine z_callV (As := []) (rest := []) (st1 := [.int z28]) (ws' := (wd_X0_read cy q_t q_t_in q_t_burgh q_t_verb q_t_who q_t_what q_t_in_tape q_t_in_kinds q_t_in_places q_t_in_values q_t_in_words q_t_in_tape_bytes q_t_burgh_clockName q_t_burgh_clockCorner q_t_burgh_clockAhead q_t_burgh_clockGain q_t_burgh_masterName q_t_burgh_masterCorner q_t_burgh_masterLate q_t_burgh_masterClock q_t_burgh_masterMeets q_t_burgh_meetName q_t_burgh_meetDue c_t_lines t_judged t_why t_good t_minuteThen t_outThen c_t_in_kind c_t_in_place c_t_in_value c_t_in_word c_t_in_fault c_t_in_faultPlace c_t_in_size c_t_in_taken t_in_tape_length t_in_tape_bytes c_t_in_kinds c_t_in_places c_t_in_values c_t_in_words t_burgh_clocks t_burgh_masters t_burgh_meets t_burgh_patience t_burgh_masterName c_t_verb c_t_who c_t_what t_burgh_meetName t_burgh_clockName)) S hF hH (c_X8_isAtEnd l G cy E N q_t_in q_t_in_tape q_t_in_kinds q_t_in_places q_t_in_values q_t_in_words c_t_in_kind c_t_in_place c_t_in_value c_t_in_word c_t_in_fault c_t_in_faultPlace c_t_in_size c_t_in_taken z28 hz28) (cwV 0 hts gX0_read_X8_isAtEnd rfl rfl rfl (by decide +kernel) ⟨Nat.le_of_ble_eq_true rfl, Nat.le_of_ble_eq_true rfl⟩) 9 0 rfl rfl [1] rfl (by decide) rfl rfl rfl rfl rfl hl.1 (Nat.le_of_ble_eq_true rfl) dX0_read_28 ⟨Nat.le_of_ble_eq_true rfl, Nat.le_of_ble_eq_true rfl⟩ (fun H locs hH => ?_)
      refine lv_if_ne (tgt := 66) hx hb dX0_read_31 (by decide) (fun b31 => ?_) (fun b31 => ?_)
      · replace h := zif_f b31 h
        cases h
        exact z_vret S hr hlocks hH dX0_read_66
      · replace h := zif_t b31 h
        refine lv_aload_n hx hb dX0_read_34 rfl (lv_at hl 0 rfl) ?_
        obtain ⟨z35, hz35, h⟩ := zcl_e h
        refine z_callV (As := []) (rest := []) (st1 := [.int z35.1]) (ws' := (wd_X0_read cy q_t q_t_in q_t_burgh q_t_verb q_t_who q_t_what q_t_in_tape q_t_in_kinds q_t_in_places q_t_in_values q_t_in_words q_t_in_tape_bytes q_t_burgh_clockName q_t_burgh_clockCorner q_t_burgh_clockAhead q_t_burgh_clockGain q_t_burgh_masterName q_t_burgh_masterCorner q_t_burgh_masterLate q_t_burgh_masterClock q_t_burgh_masterMeets q_t_burgh_meetName q_t_burgh_meetDue c_t_lines t_judged t_why t_good t_minuteThen t_outThen z35.2.1 z35.2.2.1 z35.2.2.2.1 z35.2.2.2.2.1 z35.2.2.2.2.2.1 z35.2.2.2.2.2.2.1 c_t_in_size z35.2.2.2.2.2.2.2.1 t_in_tape_length t_in_tape_bytes c_t_in_kinds c_t_in_places c_t_in_values c_t_in_words t_burgh_clocks t_burgh_masters t_burgh_meets t_burgh_patience t_burgh_masterName z35.2.2.2.2.2.2.2.2.1 z35.2.2.2.2.2.2.2.2.2.1 z35.2.2.2.2.2.2.2.2.2.2 t_burgh_meetName t_burgh_clockName)) S hF hH (c_X0_readLine l G cy E N q_t q_t_in q_t_burgh q_t_verb q_t_who q_t_what q_t_in_tape q_t_in_kinds q_t_in_places q_t_in_values q_t_in_words q_t_burgh_clockName q_t_burgh_clockCorner q_t_burgh_clockAhead q_t_burgh_clockGain q_t_burgh_masterName q_t_burgh_masterCorner q_t_burgh_masterLate q_t_burgh_masterClock q_t_burgh_masterMeets q_t_burgh_meetName q_t_burgh_meetDue c_t_lines t_judged t_why t_good t_minuteThen t_outThen c_t_in_kind c_t_in_place c_t_in_value c_t_in_word c_t_in_fault c_t_in_faultPlace c_t_in_size c_t_in_taken t_burgh_clocks t_burgh_masters t_burgh_meets t_burgh_patience t_burgh_masterName c_t_in_kinds c_t_in_places c_t_in_values c_t_in_words c_t_verb c_t_who c_t_what t_burgh_meetName t_burgh_clockName z35.1 z35.2.1 z35.2.2.1 z35.2.2.2.1 z35.2.2.2.2.1 z35.2.2.2.2.2.1 z35.2.2.2.2.2.2.1 z35.2.2.2.2.2.2.2.1 z35.2.2.2.2.2.2.2.2.1 z35.2.2.2.2.2.2.2.2.2.1 z35.2.2.2.2.2.2.2.2.2.2 hz35) (cwV 0 hts gX0_read_X0_readLine rfl rfl rfl (by decide +kernel) ⟨Nat.le_of_ble_eq_true rfl, Nat.le_of_ble_eq_true rfl⟩) 1 0 rfl rfl [0, 1, 8, 9, 4, 5, 6, 7, 10, 11, 12, 13, 14] rfl (by decide) rfl rfl rfl rfl rfl hl.1 (Nat.le_of_ble_eq_true rfl) dX0_read_35 ⟨Nat.le_of_ble_eq_true rfl, Nat.le_of_ble_eq_true rfl⟩ (fun H locs hH => ?_)
        refine lv_if_eq (tgt := 66) hx hb dX0_read_38 (by decide) (fun b38 => ?_) (fun b38 => ?_)
        · replace h := zif_t b38 h
          cases h
          exact z_vret S hr hlocks hH dX0_read_66
        · replace h := zif_f b38 h
          refine lv_aload_n hx hb dX0_read_41 rfl (lv_at hl 0 rfl) ?_
          refine z_get S hF hH iX0_read_X0 0 rfl rfl 0 (by decide) (List.mem_of_getElem? (i := 2) rfl) rfl dX0_read_42 ?_
          refine lv_bipush (v := 59) hx hb dX0_read_45 (by decide) ?_
          obtain ⟨z47, hz47, h⟩ := zcl_e h
          refine z_callV (As := [.int 59]) (rest := []) (st1 := [.int z47.1]) (ws' := (wd_X0_read cy q_t q_t_in q_t_burgh q_t_verb q_t_who q_t_what q_t_in_tape q_t_in_kinds q_t_in_places q_t_in_values q_t_in_words q_t_in_tape_bytes q_t_burgh_clockName q_t_burgh_clockCorner q_t_burgh_clockAhead q_t_burgh_clockGain q_t_burgh_masterName q_t_burgh_masterCorner q_t_burgh_masterLate q_t_burgh_masterClock q_t_burgh_masterMeets q_t_burgh_meetName q_t_burgh_meetDue c_t_lines t_judged t_why t_good t_minuteThen t_outThen z47.2.1 z47.2.2.1 z47.2.2.2.1 z47.2.2.2.2.1 z47.2.2.2.2.2.1 z47.2.2.2.2.2.2.1 c_t_in_size z47.2.2.2.2.2.2.2 t_in_tape_length t_in_tape_bytes c_t_in_kinds c_t_in_places c_t_in_values c_t_in_words t_burgh_clocks t_burgh_masters t_burgh_meets t_burgh_patience t_burgh_masterName z35.2.2.2.2.2.2.2.2.1 z35.2.2.2.2.2.2.2.2.2.1 z35.2.2.2.2.2.2.2.2.2.2 t_burgh_meetName t_burgh_clockName)) S hF hH (c_X8_takeSymbol l G cy E N q_t_in q_t_in_tape q_t_in_kinds q_t_in_places q_t_in_values q_t_in_words z35.2.1 z35.2.2.1 z35.2.2.2.1 z35.2.2.2.2.1 z35.2.2.2.2.2.1 z35.2.2.2.2.2.2.1 c_t_in_size z35.2.2.2.2.2.2.2.1 c_t_in_kinds c_t_in_places c_t_in_values c_t_in_words 59 z47.1 z47.2.1 z47.2.2.1 z47.2.2.2.1 z47.2.2.2.2.1 z47.2.2.2.2.2.1 z47.2.2.2.2.2.2.1 z47.2.2.2.2.2.2.2 hz47) (cwV 1 hts gX0_read_X8_takeSymbol rfl rfl rfl (by decide +kernel) ⟨Nat.le_of_ble_eq_true rfl, Nat.le_of_ble_eq_true rfl⟩) 9 0 rfl rfl [1, 4, 5, 6, 7] rfl (by decide) rfl rfl rfl rfl rfl hl.1 (Nat.le_of_ble_eq_true rfl) dX0_read_47 ⟨Nat.le_of_ble_eq_true rfl, Nat.le_of_ble_eq_true rfl⟩ (fun H locs hH => ?_)
          refine lv_if_eq (tgt := 66) hx hb dX0_read_50 (by decide) (fun b50 => ?_) (fun b50 => ?_)
          · replace h := zif_t b50 h
            cases h
            exact z_vret S hr hlocks hH dX0_read_66
          · replace h := zif_f b50 h
            refine lv_aload_n hx hb dX0_read_53 rfl (lv_at hl 0 rfl) ?_
            refine lv_dup hx hb dX0_read_54 rfl ?_
            refine z_get S hF hH iX0_read_X0 0 rfl rfl 2 (by decide) (List.mem_of_getElem? (i := 1) rfl) rfl dX0_read_55 ?_
            refine lv_iconst (v := 1) hx hb dX0_read_58 (by decide) ?_
            refine lv_iadd hx hb dX0_read_59 ?_
            obtain ⟨y1, ey1, h⟩ := zbn_e h
            refine z_top ey1 ?_
            clear ey1
            refine z_put (ws' := (wd_X0_read cy q_t q_t_in q_t_burgh q_t_verb q_t_who q_t_what q_t_in_tape q_t_in_kinds q_t_in_places q_t_in_values q_t_in_words q_t_in_tape_bytes q_t_burgh_clockName q_t_burgh_clockCorner q_t_burgh_clockAhead q_t_burgh_clockGain q_t_burgh_masterName q_t_burgh_masterCorner q_t_burgh_masterLate q_t_burgh_masterClock q_t_burgh_masterMeets q_t_burgh_meetName q_t_burgh_meetDue y1 t_judged t_why t_good t_minuteThen t_outThen z47.2.1 z47.2.2.1 z47.2.2.2.1 z47.2.2.2.2.1 z47.2.2.2.2.2.1 z47.2.2.2.2.2.2.1 c_t_in_size z47.2.2.2.2.2.2.2 t_in_tape_length t_in_tape_bytes c_t_in_kinds c_t_in_places c_t_in_values c_t_in_words t_burgh_clocks t_burgh_masters t_burgh_meets t_burgh_patience t_burgh_masterName z35.2.2.2.2.2.2.2.2.1 z35.2.2.2.2.2.2.2.2.2.1 z35.2.2.2.2.2.2.2.2.2.2 t_burgh_meetName t_burgh_clockName)) S hF hH iX0_read_X0 tyX0 tyX0_ok nmX0 0 rfl rfl 2 (by decide) (List.mem_of_getElem? (i := 1) rfl) rfl rfl rfl (Nat.le_of_ble_eq_true rfl) rfl dX0_read_60 (fun H locs hH => ?_)
            refine lv_goto (tgt := 15) hx hb dX0_read_63 (by decide) ?_
            exact ih y1 z47.2.1 z47.2.2.1 z47.2.2.2.1 z47.2.2.2.2.1 z47.2.2.2.2.2.1 z47.2.2.2.2.2.2.1 c_t_in_size z47.2.2.2.2.2.2.2 c_t_in_kinds c_t_in_places c_t_in_values c_t_in_words z35.2.2.2.2.2.2.2.2.1 z35.2.2.2.2.2.2.2.2.2.1 z35.2.2.2.2.2.2.2.2.2.2 _ _ _ hH (lv_sub hl [0] rfl) h
set_option maxHeartbeats 4000000 in
set_option maxRecDepth 100000 in
theorem c_X0_read (l : Launch) (G : va_G) (cy : Nat → ClassId) (E : Nat → Nat) (N : Nat) (q_t q_t_in q_t_burgh q_t_verb q_t_who q_t_what q_t_in_tape q_t_in_kinds q_t_in_places q_t_in_values q_t_in_words q_t_in_tape_bytes q_t_burgh_clockName q_t_burgh_clockCorner q_t_burgh_clockAhead q_t_burgh_clockGain q_t_burgh_masterName q_t_burgh_masterCorner q_t_burgh_masterLate q_t_burgh_masterClock q_t_burgh_masterMeets q_t_burgh_meetName q_t_burgh_meetDue : Nat) (t_lines : Int32) (t_judged : Int32) (t_why : Int32) (t_good : Int32) (t_minuteThen : Int32) (t_outThen : Int32) (t_in_kind : Int32) (t_in_place : Int32) (t_in_value : Int32) (t_in_word : Int64) (t_in_fault : Int32) (t_in_faultPlace : Int32) (t_in_size : Int32) (t_in_taken : Int32) (t_in_tape_length : Int32) (t_in_tape_bytes : Nat → Int32) (t_in_kinds : Nat → Int32) (t_in_places : Nat → Int32) (t_in_values : Nat → Int32) (t_in_words : Nat → Int64) (t_burgh_clocks : Int32) (t_burgh_masters : Int32) (t_burgh_meets : Int32) (t_burgh_patience : Int32) (t_burgh_masterName : Nat → Int64) (t_verb : Nat → Int32) (t_who : Nat → Int32) (t_what : Nat → Int32) (t_burgh_meetName : Nat → Int64) (t_burgh_clockName : Nat → Int64) (r_t_lines : Int32) (r_t_in_kind : Int32) (r_t_in_place : Int32) (r_t_in_value : Int32) (r_t_in_word : Int64) (r_t_in_fault : Int32) (r_t_in_faultPlace : Int32) (r_t_in_size : Int32) (r_t_in_taken : Int32) (r_t_in_kinds : Nat → Int32) (r_t_in_places : Nat → Int32) (r_t_in_values : Nat → Int32) (r_t_in_words : Nat → Int64) (r_t_verb : Nat → Int32) (r_t_who : Nat → Int32) (r_t_what : Nat → Int32) (h : f_X0_read N t_lines t_in_kind t_in_place t_in_value t_in_word t_in_fault t_in_faultPlace t_in_size t_in_taken t_in_tape_length t_in_tape_bytes t_in_kinds t_in_places t_in_values t_in_words t_burgh_clocks t_burgh_masters t_burgh_meets t_burgh_masterName t_verb t_who t_what t_burgh_meetName t_burgh_clockName = some (r_t_lines, r_t_in_kind, r_t_in_place, r_t_in_value, r_t_in_word, r_t_in_fault, r_t_in_faultPlace, r_t_in_size, r_t_in_taken, r_t_in_kinds, r_t_in_places, r_t_in_values, r_t_in_words, r_t_verb, r_t_who, r_t_what)) : zM l G cy E yX0_read wsX0_read rm_X0_read [.ref q_t] (wd_X0_read cy q_t q_t_in q_t_burgh q_t_verb q_t_who q_t_what q_t_in_tape q_t_in_kinds q_t_in_places q_t_in_values q_t_in_words q_t_in_tape_bytes q_t_burgh_clockName q_t_burgh_clockCorner q_t_burgh_clockAhead q_t_burgh_clockGain q_t_burgh_masterName q_t_burgh_masterCorner q_t_burgh_masterLate q_t_burgh_masterClock q_t_burgh_masterMeets q_t_burgh_meetName q_t_burgh_meetDue t_lines t_judged t_why t_good t_minuteThen t_outThen t_in_kind t_in_place t_in_value t_in_word t_in_fault t_in_faultPlace t_in_size t_in_taken t_in_tape_length t_in_tape_bytes t_in_kinds t_in_places t_in_values t_in_words t_burgh_clocks t_burgh_masters t_burgh_meets t_burgh_patience t_burgh_masterName t_verb t_who t_what t_burgh_meetName t_burgh_clockName) (wd_X0_read cy q_t q_t_in q_t_burgh q_t_verb q_t_who q_t_what q_t_in_tape q_t_in_kinds q_t_in_places q_t_in_values q_t_in_words q_t_in_tape_bytes q_t_burgh_clockName q_t_burgh_clockCorner q_t_burgh_clockAhead q_t_burgh_clockGain q_t_burgh_masterName q_t_burgh_masterCorner q_t_burgh_masterLate q_t_burgh_masterClock q_t_burgh_masterMeets q_t_burgh_meetName q_t_burgh_meetDue r_t_lines t_judged t_why t_good t_minuteThen t_outThen r_t_in_kind r_t_in_place r_t_in_value r_t_in_word r_t_in_fault r_t_in_faultPlace r_t_in_size r_t_in_taken t_in_tape_length t_in_tape_bytes r_t_in_kinds r_t_in_places r_t_in_values r_t_in_words t_burgh_clocks t_burgh_masters t_burgh_meets t_burgh_patience t_burgh_masterName r_t_verb r_t_who r_t_what t_burgh_meetName t_burgh_clockName) none 0 0 := by
  refine z_body (cc := cX0_read) (maxL := 1) (ret := none) (by decide) rfl (Nat.le_of_ble_eq_true rfl) ?_
  intro p e s m below meth c ls S hr hlocks hnm hF hH hl
  have S : CallFix p m c cX0_read 1 s ([.ref q_t] : List Value).toArray wsX0_read RX0 := S
  obtain ⟨hx, hb, hml, hown, hts⟩ := id S
  have hl : lv_has ls 1 [(0, .ref q_t)] := hl
  rw [f_X0_read] at h
  refine lv_aload_n hx hb dX0_read_0 rfl (lv_at hl 0 rfl) ?_
  refine lv_iconst (v := 0) hx hb dX0_read_1 (by decide) ?_
  refine z_put (ws' := (wd_X0_read cy q_t q_t_in q_t_burgh q_t_verb q_t_who q_t_what q_t_in_tape q_t_in_kinds q_t_in_places q_t_in_values q_t_in_words q_t_in_tape_bytes q_t_burgh_clockName q_t_burgh_clockCorner q_t_burgh_clockAhead q_t_burgh_clockGain q_t_burgh_masterName q_t_burgh_masterCorner q_t_burgh_masterLate q_t_burgh_masterClock q_t_burgh_masterMeets q_t_burgh_meetName q_t_burgh_meetDue 0 t_judged t_why t_good t_minuteThen t_outThen t_in_kind t_in_place t_in_value t_in_word t_in_fault t_in_faultPlace t_in_size t_in_taken t_in_tape_length t_in_tape_bytes t_in_kinds t_in_places t_in_values t_in_words t_burgh_clocks t_burgh_masters t_burgh_meets t_burgh_patience t_burgh_masterName t_verb t_who t_what t_burgh_meetName t_burgh_clockName)) S hF hH iX0_read_X0 tyX0 tyX0_ok nmX0 0 rfl rfl 2 (by decide) (List.mem_of_getElem? (i := 1) rfl) rfl rfl rfl (Nat.le_of_ble_eq_true rfl) rfl dX0_read_2 (fun H locs hH => ?_)
  refine lv_aload_n hx hb dX0_read_5 rfl (lv_at hl 0 rfl) ?_
  refine z_get S hF hH iX0_read_X0 0 rfl rfl 0 (by decide) (List.mem_of_getElem? (i := 2) rfl) rfl dX0_read_6 ?_
  refine lv_sipush (v := 400) hx hb dX0_read_9 (by decide) ?_
  obtain ⟨z12, hz12, h⟩ := zcl_e h
  refine z_callV (As := [.int 400]) (rest := []) (st1 := []) (ws' := (wd_X0_read cy q_t q_t_in q_t_burgh q_t_verb q_t_who q_t_what q_t_in_tape q_t_in_kinds q_t_in_places q_t_in_values q_t_in_words q_t_in_tape_bytes q_t_burgh_clockName q_t_burgh_clockCorner q_t_burgh_clockAhead q_t_burgh_clockGain q_t_burgh_masterName q_t_burgh_masterCorner q_t_burgh_masterLate q_t_burgh_masterClock q_t_burgh_masterMeets q_t_burgh_meetName q_t_burgh_meetDue 0 t_judged t_why t_good t_minuteThen t_outThen z12.1 z12.2.1 z12.2.2.1 z12.2.2.2.1 z12.2.2.2.2.1 z12.2.2.2.2.2.1 z12.2.2.2.2.2.2.1 z12.2.2.2.2.2.2.2.1 t_in_tape_length t_in_tape_bytes z12.2.2.2.2.2.2.2.2.1 z12.2.2.2.2.2.2.2.2.2.1 z12.2.2.2.2.2.2.2.2.2.2.1 z12.2.2.2.2.2.2.2.2.2.2.2 t_burgh_clocks t_burgh_masters t_burgh_meets t_burgh_patience t_burgh_masterName t_verb t_who t_what t_burgh_meetName t_burgh_clockName)) S hF hH (c_X8_open l G cy E N q_t_in q_t_in_tape q_t_in_kinds q_t_in_places q_t_in_values q_t_in_words q_t_in_tape_bytes t_in_kind t_in_place t_in_value t_in_word t_in_fault t_in_faultPlace t_in_size t_in_taken t_in_tape_length t_in_tape_bytes t_in_kinds t_in_places t_in_values t_in_words 400 z12.1 z12.2.1 z12.2.2.1 z12.2.2.2.1 z12.2.2.2.2.1 z12.2.2.2.2.2.1 z12.2.2.2.2.2.2.1 z12.2.2.2.2.2.2.2.1 z12.2.2.2.2.2.2.2.2.1 z12.2.2.2.2.2.2.2.2.2.1 z12.2.2.2.2.2.2.2.2.2.2.1 z12.2.2.2.2.2.2.2.2.2.2.2 hz12) (cwV 1 hts gX0_read_X8_open rfl rfl rfl (by decide +kernel) ⟨Nat.le_of_ble_eq_true rfl, Nat.le_of_ble_eq_true rfl⟩) 9 0 rfl rfl [1, 2, 3, 4, 5, 6, 7] rfl (by decide) rfl rfl rfl rfl rfl hl.1 (Nat.le_of_ble_eq_true rfl) dX0_read_12 ⟨Nat.le_of_ble_eq_true rfl, Nat.le_of_ble_eq_true rfl⟩ (fun H locs hH => ?_)
  exact w_X0_read_15 S hr hlocks hF N 0 z12.1 z12.2.1 z12.2.2.1 z12.2.2.2.1 z12.2.2.2.2.1 z12.2.2.2.2.2.1 z12.2.2.2.2.2.2.1 z12.2.2.2.2.2.2.2.1 z12.2.2.2.2.2.2.2.2.1 z12.2.2.2.2.2.2.2.2.2.1 z12.2.2.2.2.2.2.2.2.2.2.1 z12.2.2.2.2.2.2.2.2.2.2.2 t_verb t_who t_what _ _ _ hH (lv_sub hl [0] rfl) h
abbrev wd_X3_adjust (cy : Nat → ClassId) (q_t q_t_burgh q_t_ahead q_t_since q_t_stood q_t_due q_t_left q_t_came q_t_burgh_clockName q_t_burgh_clockCorner q_t_burgh_clockAhead q_t_burgh_clockGain q_t_burgh_masterName q_t_burgh_masterCorner q_t_burgh_masterLate q_t_burgh_masterClock q_t_burgh_masterMeets q_t_burgh_meetName q_t_burgh_meetDue : Nat) (t_minute : Int32) (t_out : Int32) (t_stopped : Int32) (t_burgh_clocks : Int32) (t_burgh_masters : Int32) (t_burgh_meets : Int32) (t_burgh_patience : Int32) (t_burgh_masterLate : Nat → Int32) (t_ahead : Nat → Int32) (t_since : Nat → Int32) : va_W := [(q_t, .inr (4, [.ref q_t_burgh, .int t_minute, .int t_out, .int t_stopped, .ref q_t_ahead, .ref q_t_since, .ref q_t_stood, .ref q_t_due, .ref q_t_left, .ref q_t_came])), (q_t_burgh, .inr (2, [.int t_burgh_clocks, .int t_burgh_masters, .int t_burgh_meets, .int t_burgh_patience, .ref q_t_burgh_clockName, .ref q_t_burgh_clockCorner, .ref q_t_burgh_clockAhead, .ref q_t_burgh_clockGain, .ref q_t_burgh_masterName, .ref q_t_burgh_masterCorner, .ref q_t_burgh_masterLate, .ref q_t_burgh_masterClock, .ref q_t_burgh_masterMeets, .ref q_t_burgh_meetName, .ref q_t_burgh_meetDue])), (q_t_burgh_masterLate, .inl (cy 1, 6, .inl t_burgh_masterLate)), (q_t_ahead, .inl (cy 1, 6, .inl t_ahead)), (q_t_since, .inl (cy 1, 6, .inl t_since))]
theorem iX3_adjust_X1 : ∀ w ∈ wsX10, w ∈ wsX3_adjust := fun _ h => List.mem_cons_of_mem _ (List.mem_append_right _ h)
theorem iX3_adjust_X3 : ∀ w ∈ wsX30, w ∈ wsX3_adjust := fun _ h => List.mem_cons_of_mem _ (List.mem_append_left _ (List.mem_append_right _ h))
abbrev rm_X3_adjust : Room := { frames := 0, cells := 0, slots := 0, locals := 0 }
set_option maxRecDepth 100000 in
def f_X3_adjust (N : Nat) (x0 : Int32) (x1 : Int32) (t_minute : Int32) (t_burgh_masterLate : Nat → Int32) (t_ahead : Nat → Int32) (t_since : Nat → Int32) : Option ((Nat → Int32) × (Nat → Int32)) := zck (zin x0 6) <| zbn ((-(t_burgh_masterLate (Int32.toNatClampNeg x0)))) fun y1 => zck (zin x1 6) <| zbn (upd t_ahead (Int32.toNatClampNeg x1) y1) fun f2 => zbn (upd t_since (Int32.toNatClampNeg x1) t_minute) fun f3 => some (f2, f3)
set_option maxHeartbeats 4000000 in
set_option maxRecDepth 100000 in
theorem c_X3_adjust (l : Launch) (G : va_G) (cy : Nat → ClassId) (E : Nat → Nat) (N : Nat) (q_t q_t_burgh q_t_ahead q_t_since q_t_stood q_t_due q_t_left q_t_came q_t_burgh_clockName q_t_burgh_clockCorner q_t_burgh_clockAhead q_t_burgh_clockGain q_t_burgh_masterName q_t_burgh_masterCorner q_t_burgh_masterLate q_t_burgh_masterClock q_t_burgh_masterMeets q_t_burgh_meetName q_t_burgh_meetDue : Nat) (t_minute : Int32) (t_out : Int32) (t_stopped : Int32) (t_burgh_clocks : Int32) (t_burgh_masters : Int32) (t_burgh_meets : Int32) (t_burgh_patience : Int32) (t_burgh_masterLate : Nat → Int32) (t_ahead : Nat → Int32) (t_since : Nat → Int32) (x0 : Int32) (x1 : Int32) (r_t_ahead : Nat → Int32) (r_t_since : Nat → Int32) (h : f_X3_adjust N x0 x1 t_minute t_burgh_masterLate t_ahead t_since = some (r_t_ahead, r_t_since)) : zM l G cy E yX3_adjust wsX3_adjust rm_X3_adjust [.ref q_t, .int x0, .int x1] (wd_X3_adjust cy q_t q_t_burgh q_t_ahead q_t_since q_t_stood q_t_due q_t_left q_t_came q_t_burgh_clockName q_t_burgh_clockCorner q_t_burgh_clockAhead q_t_burgh_clockGain q_t_burgh_masterName q_t_burgh_masterCorner q_t_burgh_masterLate q_t_burgh_masterClock q_t_burgh_masterMeets q_t_burgh_meetName q_t_burgh_meetDue t_minute t_out t_stopped t_burgh_clocks t_burgh_masters t_burgh_meets t_burgh_patience t_burgh_masterLate t_ahead t_since) (wd_X3_adjust cy q_t q_t_burgh q_t_ahead q_t_since q_t_stood q_t_due q_t_left q_t_came q_t_burgh_clockName q_t_burgh_clockCorner q_t_burgh_clockAhead q_t_burgh_clockGain q_t_burgh_masterName q_t_burgh_masterCorner q_t_burgh_masterLate q_t_burgh_masterClock q_t_burgh_masterMeets q_t_burgh_meetName q_t_burgh_meetDue t_minute t_out t_stopped t_burgh_clocks t_burgh_masters t_burgh_meets t_burgh_patience t_burgh_masterLate r_t_ahead r_t_since) none 0 0 := by
  refine z_body (cc := cX3_adjust) (maxL := 3) (ret := none) (by decide) rfl (Nat.le_of_ble_eq_true rfl) ?_
  intro p e s m below meth c ls S hr hlocks hnm hF hH hl
  have S : CallFix p m c cX3_adjust 3 s ([.ref q_t, .int x0, .int x1] : List Value).toArray wsX3_adjust RX3 := S
  obtain ⟨hx, hb, hml, hown, hts⟩ := id S
  have hl : lv_has ls 3 [(0, .ref q_t), (1, .int x0), (2, .int x1)] := hl
  rw [f_X3_adjust] at h
  refine lv_aload_n hx hb dX3_adjust_0 rfl (lv_at hl 0 rfl) ?_
  refine z_get S hF hH iX3_adjust_X3 0 rfl rfl 4 (by decide) (List.mem_of_getElem? (i := 1) rfl) rfl dX3_adjust_1 ?_
  refine lv_iload_n hx hb dX3_adjust_4 rfl (lv_at hl 2 rfl) ?_
  refine lv_aload_n hx hb dX3_adjust_5 rfl (lv_at hl 0 rfl) ?_
  refine z_get S hF hH iX3_adjust_X3 0 rfl rfl 0 (by decide) (List.mem_of_getElem? (i := 2) rfl) rfl dX3_adjust_6 ?_
  refine z_get S hF hH iX3_adjust_X1 1 rfl rfl 10 (by decide) (List.mem_of_getElem? (i := 3) rfl) rfl dX3_adjust_9 ?_
  refine lv_iload_n hx hb dX3_adjust_12 rfl (lv_at hl 1 rfl) ?_
  obtain ⟨h13, h⟩ := zck_e h
  refine z_iald S hF hH 2 rfl h13 rfl dX3_adjust_13 ?_
  refine lv_ineg hx hb dX3_adjust_14 ?_
  obtain ⟨y1, ey1, h⟩ := zbn_e h
  refine z_top ey1 ?_
  clear ey1
  obtain ⟨h15, h⟩ := zck_e h
  obtain ⟨f2, ef2, h⟩ := zbn_e h
  refine z_iast (ws' := (wd_X3_adjust cy q_t q_t_burgh q_t_ahead q_t_since q_t_stood q_t_due q_t_left q_t_came q_t_burgh_clockName q_t_burgh_clockCorner q_t_burgh_clockAhead q_t_burgh_clockGain q_t_burgh_masterName q_t_burgh_masterCorner q_t_burgh_masterLate q_t_burgh_masterClock q_t_burgh_masterMeets q_t_burgh_meetName q_t_burgh_meetDue t_minute t_out t_stopped t_burgh_clocks t_burgh_masters t_burgh_meets t_burgh_patience t_burgh_masterLate f2 t_since)) (j := (Int32.toNatClampNeg x1)) S hF hH 3 rfl h15 rfl (by rw [ef2]; rfl) dX3_adjust_15 (fun H locs hH => ?_)
  clear ef2
  refine lv_aload_n hx hb dX3_adjust_16 rfl (lv_at hl 0 rfl) ?_
  refine z_get S hF hH iX3_adjust_X3 0 rfl rfl 5 (by decide) (List.mem_of_getElem? (i := 4) rfl) rfl dX3_adjust_17 ?_
  refine lv_iload_n hx hb dX3_adjust_20 rfl (lv_at hl 2 rfl) ?_
  refine lv_aload_n hx hb dX3_adjust_21 rfl (lv_at hl 0 rfl) ?_
  refine z_get S hF hH iX3_adjust_X3 0 rfl rfl 1 (by decide) (List.mem_of_getElem? (i := 5) rfl) rfl dX3_adjust_22 ?_
  obtain ⟨f3, ef3, h⟩ := zbn_e h
  refine z_iast (ws' := (wd_X3_adjust cy q_t q_t_burgh q_t_ahead q_t_since q_t_stood q_t_due q_t_left q_t_came q_t_burgh_clockName q_t_burgh_clockCorner q_t_burgh_clockAhead q_t_burgh_clockGain q_t_burgh_masterName q_t_burgh_masterCorner q_t_burgh_masterLate q_t_burgh_masterClock q_t_burgh_masterMeets q_t_burgh_meetName q_t_burgh_meetDue t_minute t_out t_stopped t_burgh_clocks t_burgh_masters t_burgh_meets t_burgh_patience t_burgh_masterLate f2 f3)) (j := (Int32.toNatClampNeg x1)) S hF hH 4 rfl h15 rfl (by rw [ef3]; rfl) dX3_adjust_25 (fun H locs hH => ?_)
  clear ef3
  cases h
  exact z_vret S hr hlocks hH dX3_adjust_26
abbrev wd_X3_isStopped (cy : Nat → ClassId) (q_t q_t_burgh q_t_ahead q_t_since q_t_stood q_t_due q_t_left q_t_came : Nat) (t_minute : Int32) (t_out : Int32) (t_stopped : Int32) : va_W := [(q_t, .inr (4, [.ref q_t_burgh, .int t_minute, .int t_out, .int t_stopped, .ref q_t_ahead, .ref q_t_since, .ref q_t_stood, .ref q_t_due, .ref q_t_left, .ref q_t_came]))]
theorem iX3_isStopped_X3 : ∀ w ∈ wsX30, w ∈ wsX3_isStopped := fun _ h => List.mem_cons_of_mem _ (List.mem_append_right _ h)
abbrev rm_X3_isStopped : Room := { frames := 0, cells := 0, slots := 0, locals := 0 }
set_option maxRecDepth 100000 in
def f_X3_isStopped (N : Nat) (x0 : Int32) (t_stopped : Int32) : Option (Int32) := if ((t_stopped >>> (x0 &&& 31)) &&& 1) = 0 then (some 0) else (some 1)
set_option maxHeartbeats 4000000 in
set_option maxRecDepth 100000 in
theorem c_X3_isStopped (l : Launch) (G : va_G) (cy : Nat → ClassId) (E : Nat → Nat) (N : Nat) (q_t q_t_burgh q_t_ahead q_t_since q_t_stood q_t_due q_t_left q_t_came : Nat) (t_minute : Int32) (t_out : Int32) (t_stopped : Int32) (x0 : Int32) (r : Int32) (h : f_X3_isStopped N x0 t_stopped = some r) : zM l G cy E yX3_isStopped wsX3_isStopped rm_X3_isStopped [.ref q_t, .int x0] (wd_X3_isStopped cy q_t q_t_burgh q_t_ahead q_t_since q_t_stood q_t_due q_t_left q_t_came t_minute t_out t_stopped) (wd_X3_isStopped cy q_t q_t_burgh q_t_ahead q_t_since q_t_stood q_t_due q_t_left q_t_came t_minute t_out t_stopped) (some (.int r)) 0 0 := by
  refine z_body (cc := cX3_isStopped) (maxL := 2) (ret := some .boolean) (by decide) rfl (Nat.le_of_ble_eq_true rfl) ?_
  intro p e s m below meth c ls S hr hlocks hnm hF hH hl
  have S : CallFix p m c cX3_isStopped 2 s ([.ref q_t, .int x0] : List Value).toArray wsX3_isStopped RX3 := S
  obtain ⟨hx, hb, hml, hown, hts⟩ := id S
  have hl : lv_has ls 2 [(0, .ref q_t), (1, .int x0)] := hl
  rw [f_X3_isStopped] at h
  refine lv_aload_n hx hb dX3_isStopped_0 rfl (lv_at hl 0 rfl) ?_
  refine z_get S hF hH iX3_isStopped_X3 0 rfl rfl 3 (by decide) (List.mem_of_getElem? (i := 1) rfl) rfl dX3_isStopped_1 ?_
  refine lv_iload_n hx hb dX3_isStopped_4 rfl (lv_at hl 1 rfl) ?_
  refine lv_ishr hx hb dX3_isStopped_5 ?_
  refine lv_iconst (v := 1) hx hb dX3_isStopped_6 (by decide) ?_
  refine lv_iand hx hb dX3_isStopped_7 ?_
  refine lv_if_eq (tgt := 15) hx hb dX3_isStopped_8 (by decide) (fun b8 => ?_) (fun b8 => ?_)
  · replace h := zif_t b8 h
    refine lv_iconst (v := 0) hx hb dX3_isStopped_15 (by decide) ?_
    cases h
    exact z_zret S hr hlocks hH rfl dX3_isStopped_16
  · replace h := zif_f b8 h
    refine lv_iconst (v := 1) hx hb dX3_isStopped_11 (by decide) ?_
    refine lv_goto (tgt := 16) hx hb dX3_isStopped_12 (by decide) ?_
    cases h
    exact z_zret S hr hlocks hH rfl dX3_isStopped_16
abbrev wd_X3_reads (cy : Nat → ClassId) (q_t q_t_burgh q_t_ahead q_t_since q_t_stood q_t_due q_t_left q_t_came q_t_burgh_clockName q_t_burgh_clockCorner q_t_burgh_clockAhead q_t_burgh_clockGain q_t_burgh_masterName q_t_burgh_masterCorner q_t_burgh_masterLate q_t_burgh_masterClock q_t_burgh_masterMeets q_t_burgh_meetName q_t_burgh_meetDue : Nat) (t_minute : Int32) (t_out : Int32) (t_stopped : Int32) (t_stood : Nat → Int32) (t_ahead : Nat → Int32) (t_burgh_clocks : Int32) (t_burgh_masters : Int32) (t_burgh_meets : Int32) (t_burgh_patience : Int32) (t_burgh_clockGain : Nat → Int32) (t_since : Nat → Int32) : va_W := [(q_t, .inr (4, [.ref q_t_burgh, .int t_minute, .int t_out, .int t_stopped, .ref q_t_ahead, .ref q_t_since, .ref q_t_stood, .ref q_t_due, .ref q_t_left, .ref q_t_came])), (q_t_stood, .inl (cy 1, 6, .inl t_stood)), (q_t_ahead, .inl (cy 1, 6, .inl t_ahead)), (q_t_burgh, .inr (2, [.int t_burgh_clocks, .int t_burgh_masters, .int t_burgh_meets, .int t_burgh_patience, .ref q_t_burgh_clockName, .ref q_t_burgh_clockCorner, .ref q_t_burgh_clockAhead, .ref q_t_burgh_clockGain, .ref q_t_burgh_masterName, .ref q_t_burgh_masterCorner, .ref q_t_burgh_masterLate, .ref q_t_burgh_masterClock, .ref q_t_burgh_masterMeets, .ref q_t_burgh_meetName, .ref q_t_burgh_meetDue])), (q_t_burgh_clockGain, .inl (cy 1, 6, .inl t_burgh_clockGain)), (q_t_since, .inl (cy 1, 6, .inl t_since))]
theorem iX3_reads_X1 : ∀ w ∈ wsX10, w ∈ wsX3_reads := fun _ h => List.mem_cons_of_mem _ (List.mem_append_right _ h)
theorem iX3_reads_X3 : ∀ w ∈ wsX30, w ∈ wsX3_reads := fun _ h => List.mem_cons_of_mem _ (List.mem_append_left _ (List.mem_append_right _ h))
abbrev rm_X3_reads : Room := { frames := 1, cells := 0, slots := 0, locals := 21 }
set_option maxRecDepth 100000 in
def f_X3_reads (N : Nat) (x0 : Int32) (x1 : Int32) (t_stopped : Int32) (t_stood : Nat → Int32) (t_ahead : Nat → Int32) (t_burgh_clockGain : Nat → Int32) (t_since : Nat → Int32) : Option (Int32) := zcl (f_X3_isStopped N x0 t_stopped) fun z2 => if z2 = 0 then (zck (zin x0 6) <| some ((x1 + (t_ahead (Int32.toNatClampNeg x0))) + ((t_burgh_clockGain (Int32.toNatClampNeg x0)) * ((x1 - (t_since (Int32.toNatClampNeg x0))) / 60)))) else (zck (zin x0 6) <| some (t_stood (Int32.toNatClampNeg x0)))
set_option maxHeartbeats 4000000 in
set_option maxRecDepth 100000 in
theorem c_X3_reads (l : Launch) (G : va_G) (cy : Nat → ClassId) (E : Nat → Nat) (N : Nat) (q_t q_t_burgh q_t_ahead q_t_since q_t_stood q_t_due q_t_left q_t_came q_t_burgh_clockName q_t_burgh_clockCorner q_t_burgh_clockAhead q_t_burgh_clockGain q_t_burgh_masterName q_t_burgh_masterCorner q_t_burgh_masterLate q_t_burgh_masterClock q_t_burgh_masterMeets q_t_burgh_meetName q_t_burgh_meetDue : Nat) (t_minute : Int32) (t_out : Int32) (t_stopped : Int32) (t_stood : Nat → Int32) (t_ahead : Nat → Int32) (t_burgh_clocks : Int32) (t_burgh_masters : Int32) (t_burgh_meets : Int32) (t_burgh_patience : Int32) (t_burgh_clockGain : Nat → Int32) (t_since : Nat → Int32) (x0 : Int32) (x1 : Int32) (r : Int32) (h : f_X3_reads N x0 x1 t_stopped t_stood t_ahead t_burgh_clockGain t_since = some r) : zM l G cy E yX3_reads wsX3_reads rm_X3_reads [.ref q_t, .int x0, .int x1] (wd_X3_reads cy q_t q_t_burgh q_t_ahead q_t_since q_t_stood q_t_due q_t_left q_t_came q_t_burgh_clockName q_t_burgh_clockCorner q_t_burgh_clockAhead q_t_burgh_clockGain q_t_burgh_masterName q_t_burgh_masterCorner q_t_burgh_masterLate q_t_burgh_masterClock q_t_burgh_masterMeets q_t_burgh_meetName q_t_burgh_meetDue t_minute t_out t_stopped t_stood t_ahead t_burgh_clocks t_burgh_masters t_burgh_meets t_burgh_patience t_burgh_clockGain t_since) (wd_X3_reads cy q_t q_t_burgh q_t_ahead q_t_since q_t_stood q_t_due q_t_left q_t_came q_t_burgh_clockName q_t_burgh_clockCorner q_t_burgh_clockAhead q_t_burgh_clockGain q_t_burgh_masterName q_t_burgh_masterCorner q_t_burgh_masterLate q_t_burgh_masterClock q_t_burgh_masterMeets q_t_burgh_meetName q_t_burgh_meetDue t_minute t_out t_stopped t_stood t_ahead t_burgh_clocks t_burgh_masters t_burgh_meets t_burgh_patience t_burgh_clockGain t_since) (some (.int r)) 0 0 := by
  refine z_body (cc := cX3_reads) (maxL := 3) (ret := some .int) (by decide) rfl (Nat.le_of_ble_eq_true rfl) ?_
  intro p e s m below meth c ls S hr hlocks hnm hF hH hl
  have S : CallFix p m c cX3_reads 3 s ([.ref q_t, .int x0, .int x1] : List Value).toArray wsX3_reads RX3 := S
  obtain ⟨hx, hb, hml, hown, hts⟩ := id S
  have hl : lv_has ls 3 [(0, .ref q_t), (1, .int x0), (2, .int x1)] := hl
  rw [f_X3_reads] at h
  refine lv_aload_n hx hb dX3_reads_0 rfl (lv_at hl 0 rfl) ?_
  refine lv_iload_n hx hb dX3_reads_1 rfl (lv_at hl 1 rfl) ?_
  obtain ⟨z2, hz2, h⟩ := zcl_e h
  refine z_callV (As := [.int x0]) (rest := []) (st1 := [.int z2]) (ws' := (wd_X3_reads cy q_t q_t_burgh q_t_ahead q_t_since q_t_stood q_t_due q_t_left q_t_came q_t_burgh_clockName q_t_burgh_clockCorner q_t_burgh_clockAhead q_t_burgh_clockGain q_t_burgh_masterName q_t_burgh_masterCorner q_t_burgh_masterLate q_t_burgh_masterClock q_t_burgh_masterMeets q_t_burgh_meetName q_t_burgh_meetDue t_minute t_out t_stopped t_stood t_ahead t_burgh_clocks t_burgh_masters t_burgh_meets t_burgh_patience t_burgh_clockGain t_since)) S hF hH (c_X3_isStopped l G cy E N q_t q_t_burgh q_t_ahead q_t_since q_t_stood q_t_due q_t_left q_t_came t_minute t_out t_stopped x0 z2 hz2) (cwV 1 hts gX3_reads_X3_isStopped rfl rfl rfl (by decide +kernel) ⟨Nat.le_of_ble_eq_true rfl, Nat.le_of_ble_eq_true rfl⟩) 4 0 rfl rfl [0] rfl (by decide) rfl rfl rfl rfl rfl hl.1 (Nat.le_of_ble_eq_true rfl) dX3_reads_2 ⟨Nat.le_of_ble_eq_true rfl, Nat.le_of_ble_eq_true rfl⟩ (fun H locs hH => ?_)
  refine lv_if_eq (tgt := 15) hx hb dX3_reads_5 (by decide) (fun b5 => ?_) (fun b5 => ?_)
  · replace h := zif_t b5 h
    refine lv_iload_n hx hb dX3_reads_15 rfl (lv_at hl 2 rfl) ?_
    refine lv_aload_n hx hb dX3_reads_16 rfl (lv_at hl 0 rfl) ?_
    refine z_get S hF hH iX3_reads_X3 0 rfl rfl 4 (by decide) (List.mem_of_getElem? (i := 2) rfl) rfl dX3_reads_17 ?_
    refine lv_iload_n hx hb dX3_reads_20 rfl (lv_at hl 1 rfl) ?_
    obtain ⟨h21, h⟩ := zck_e h
    refine z_iald S hF hH 2 rfl h21 rfl dX3_reads_21 ?_
    refine lv_iadd hx hb dX3_reads_22 ?_
    refine lv_aload_n hx hb dX3_reads_23 rfl (lv_at hl 0 rfl) ?_
    refine z_get S hF hH iX3_reads_X3 0 rfl rfl 0 (by decide) (List.mem_of_getElem? (i := 3) rfl) rfl dX3_reads_24 ?_
    refine z_get S hF hH iX3_reads_X1 3 rfl rfl 7 (by decide) (List.mem_of_getElem? (i := 4) rfl) rfl dX3_reads_27 ?_
    refine lv_iload_n hx hb dX3_reads_30 rfl (lv_at hl 1 rfl) ?_
    refine z_iald S hF hH 4 rfl h21 rfl dX3_reads_31 ?_
    refine lv_iload_n hx hb dX3_reads_32 rfl (lv_at hl 2 rfl) ?_
    refine lv_aload_n hx hb dX3_reads_33 rfl (lv_at hl 0 rfl) ?_
    refine z_get S hF hH iX3_reads_X3 0 rfl rfl 5 (by decide) (List.mem_of_getElem? (i := 5) rfl) rfl dX3_reads_34 ?_
    refine lv_iload_n hx hb dX3_reads_37 rfl (lv_at hl 1 rfl) ?_
    refine z_iald S hF hH 5 rfl h21 rfl dX3_reads_38 ?_
    refine lv_isub hx hb dX3_reads_39 ?_
    refine lv_bipush (v := 60) hx hb dX3_reads_40 (by decide) ?_
    refine lv_idiv hx hb dX3_reads_42 (by decide) ?_
    refine lv_imul hx hb dX3_reads_43 ?_
    refine lv_iadd hx hb dX3_reads_44 ?_
    cases h
    exact z_iret S hr hlocks hH dX3_reads_45
  · replace h := zif_f b5 h
    refine lv_aload_n hx hb dX3_reads_8 rfl (lv_at hl 0 rfl) ?_
    refine z_get S hF hH iX3_reads_X3 0 rfl rfl 6 (by decide) (List.mem_of_getElem? (i := 1) rfl) rfl dX3_reads_9 ?_
    refine lv_iload_n hx hb dX3_reads_12 rfl (lv_at hl 1 rfl) ?_
    obtain ⟨h13, h⟩ := zck_e h
    refine z_iald S hF hH 1 rfl h13 rfl dX3_reads_13 ?_
    cases h
    exact z_iret S hr hlocks hH dX3_reads_14
abbrev wd_X3_halt (cy : Nat → ClassId) (q_t q_t_burgh q_t_ahead q_t_since q_t_stood q_t_due q_t_left q_t_came q_t_burgh_clockName q_t_burgh_clockCorner q_t_burgh_clockAhead q_t_burgh_clockGain q_t_burgh_masterName q_t_burgh_masterCorner q_t_burgh_masterLate q_t_burgh_masterClock q_t_burgh_masterMeets q_t_burgh_meetName q_t_burgh_meetDue : Nat) (t_minute : Int32) (t_out : Int32) (t_stopped : Int32) (t_stood : Nat → Int32) (t_ahead : Nat → Int32) (t_burgh_clocks : Int32) (t_burgh_masters : Int32) (t_burgh_meets : Int32) (t_burgh_patience : Int32) (t_burgh_clockGain : Nat → Int32) (t_since : Nat → Int32) : va_W := [(q_t, .inr (4, [.ref q_t_burgh, .int t_minute, .int t_out, .int t_stopped, .ref q_t_ahead, .ref q_t_since, .ref q_t_stood, .ref q_t_due, .ref q_t_left, .ref q_t_came])), (q_t_stood, .inl (cy 1, 6, .inl t_stood)), (q_t_ahead, .inl (cy 1, 6, .inl t_ahead)), (q_t_burgh, .inr (2, [.int t_burgh_clocks, .int t_burgh_masters, .int t_burgh_meets, .int t_burgh_patience, .ref q_t_burgh_clockName, .ref q_t_burgh_clockCorner, .ref q_t_burgh_clockAhead, .ref q_t_burgh_clockGain, .ref q_t_burgh_masterName, .ref q_t_burgh_masterCorner, .ref q_t_burgh_masterLate, .ref q_t_burgh_masterClock, .ref q_t_burgh_masterMeets, .ref q_t_burgh_meetName, .ref q_t_burgh_meetDue])), (q_t_burgh_clockGain, .inl (cy 1, 6, .inl t_burgh_clockGain)), (q_t_since, .inl (cy 1, 6, .inl t_since))]
theorem iX3_halt_X3 : ∀ w ∈ wsX30, w ∈ wsX3_halt := fun _ h => List.mem_cons_of_mem _ (List.mem_append_left _ (List.mem_append_right _ h))
abbrev rm_X3_halt : Room := { frames := 2, cells := 0, slots := 0, locals := 43 }
set_option maxRecDepth 100000 in
def f_X3_halt (N : Nat) (x0 : Int32) (t_minute : Int32) (t_stopped : Int32) (t_stood : Nat → Int32) (t_ahead : Nat → Int32) (t_burgh_clockGain : Nat → Int32) (t_since : Nat → Int32) : Option (Int32 × (Nat → Int32)) := zcl (f_X3_reads N x0 t_minute t_stopped t_stood t_ahead t_burgh_clockGain t_since) fun z11 => zck (zin x0 6) <| zbn (upd t_stood (Int32.toNatClampNeg x0) z11) fun f1 => zbn ((t_stopped ||| (1 <<< (x0 &&& 31)))) fun y2 => some (y2, f1)
set_option maxHeartbeats 4000000 in
set_option maxRecDepth 100000 in
theorem c_X3_halt (l : Launch) (G : va_G) (cy : Nat → ClassId) (E : Nat → Nat) (N : Nat) (q_t q_t_burgh q_t_ahead q_t_since q_t_stood q_t_due q_t_left q_t_came q_t_burgh_clockName q_t_burgh_clockCorner q_t_burgh_clockAhead q_t_burgh_clockGain q_t_burgh_masterName q_t_burgh_masterCorner q_t_burgh_masterLate q_t_burgh_masterClock q_t_burgh_masterMeets q_t_burgh_meetName q_t_burgh_meetDue : Nat) (t_minute : Int32) (t_out : Int32) (t_stopped : Int32) (t_stood : Nat → Int32) (t_ahead : Nat → Int32) (t_burgh_clocks : Int32) (t_burgh_masters : Int32) (t_burgh_meets : Int32) (t_burgh_patience : Int32) (t_burgh_clockGain : Nat → Int32) (t_since : Nat → Int32) (x0 : Int32) (r_t_stopped : Int32) (r_t_stood : Nat → Int32) (h : f_X3_halt N x0 t_minute t_stopped t_stood t_ahead t_burgh_clockGain t_since = some (r_t_stopped, r_t_stood)) : zM l G cy E yX3_halt wsX3_halt rm_X3_halt [.ref q_t, .int x0] (wd_X3_halt cy q_t q_t_burgh q_t_ahead q_t_since q_t_stood q_t_due q_t_left q_t_came q_t_burgh_clockName q_t_burgh_clockCorner q_t_burgh_clockAhead q_t_burgh_clockGain q_t_burgh_masterName q_t_burgh_masterCorner q_t_burgh_masterLate q_t_burgh_masterClock q_t_burgh_masterMeets q_t_burgh_meetName q_t_burgh_meetDue t_minute t_out t_stopped t_stood t_ahead t_burgh_clocks t_burgh_masters t_burgh_meets t_burgh_patience t_burgh_clockGain t_since) (wd_X3_halt cy q_t q_t_burgh q_t_ahead q_t_since q_t_stood q_t_due q_t_left q_t_came q_t_burgh_clockName q_t_burgh_clockCorner q_t_burgh_clockAhead q_t_burgh_clockGain q_t_burgh_masterName q_t_burgh_masterCorner q_t_burgh_masterLate q_t_burgh_masterClock q_t_burgh_masterMeets q_t_burgh_meetName q_t_burgh_meetDue t_minute t_out r_t_stopped r_t_stood t_ahead t_burgh_clocks t_burgh_masters t_burgh_meets t_burgh_patience t_burgh_clockGain t_since) none 0 0 := by
  refine z_body (cc := cX3_halt) (maxL := 2) (ret := none) (by decide) rfl (Nat.le_of_ble_eq_true rfl) ?_
  intro p e s m below meth c ls S hr hlocks hnm hF hH hl
  have S : CallFix p m c cX3_halt 2 s ([.ref q_t, .int x0] : List Value).toArray wsX3_halt RX3 := S
  obtain ⟨hx, hb, hml, hown, hts⟩ := id S
  have hl : lv_has ls 2 [(0, .ref q_t), (1, .int x0)] := hl
  rw [f_X3_halt] at h
  refine lv_aload_n hx hb dX3_halt_0 rfl (lv_at hl 0 rfl) ?_
  refine z_get S hF hH iX3_halt_X3 0 rfl rfl 6 (by decide) (List.mem_of_getElem? (i := 1) rfl) rfl dX3_halt_1 ?_
  refine lv_iload_n hx hb dX3_halt_4 rfl (lv_at hl 1 rfl) ?_
  refine lv_aload_n hx hb dX3_halt_5 rfl (lv_at hl 0 rfl) ?_
  refine lv_iload_n hx hb dX3_halt_6 rfl (lv_at hl 1 rfl) ?_
  refine lv_aload_n hx hb dX3_halt_7 rfl (lv_at hl 0 rfl) ?_
  refine z_get S hF hH iX3_halt_X3 0 rfl rfl 1 (by decide) (List.mem_of_getElem? (i := 2) rfl) rfl dX3_halt_8 ?_
  obtain ⟨z11, hz11, h⟩ := zcl_e h
  refine z_callV (As := [.int x0, .int t_minute]) (rest := [.int x0, .ref q_t_stood]) (st1 := [.int z11, .int x0, .ref q_t_stood]) (ws' := (wd_X3_halt cy q_t q_t_burgh q_t_ahead q_t_since q_t_stood q_t_due q_t_left q_t_came q_t_burgh_clockName q_t_burgh_clockCorner q_t_burgh_clockAhead q_t_burgh_clockGain q_t_burgh_masterName q_t_burgh_masterCorner q_t_burgh_masterLate q_t_burgh_masterClock q_t_burgh_masterMeets q_t_burgh_meetName q_t_burgh_meetDue t_minute t_out t_stopped t_stood t_ahead t_burgh_clocks t_burgh_masters t_burgh_meets t_burgh_patience t_burgh_clockGain t_since)) S hF hH (c_X3_reads l G cy E N q_t q_t_burgh q_t_ahead q_t_since q_t_stood q_t_due q_t_left q_t_came q_t_burgh_clockName q_t_burgh_clockCorner q_t_burgh_clockAhead q_t_burgh_clockGain q_t_burgh_masterName q_t_burgh_masterCorner q_t_burgh_masterLate q_t_burgh_masterClock q_t_burgh_masterMeets q_t_burgh_meetName q_t_burgh_meetDue t_minute t_out t_stopped t_stood t_ahead t_burgh_clocks t_burgh_masters t_burgh_meets t_burgh_patience t_burgh_clockGain t_since x0 t_minute z11 hz11) (cwV 2 hts gX3_halt_X3_reads rfl rfl rfl (by decide +kernel) ⟨Nat.le_of_ble_eq_true rfl, Nat.le_of_ble_eq_true rfl⟩) 4 0 rfl rfl [0, 1, 2, 3, 4, 5] rfl (by decide) rfl rfl rfl rfl rfl hl.1 (Nat.le_of_ble_eq_true rfl) dX3_halt_11 ⟨Nat.le_of_ble_eq_true rfl, Nat.le_of_ble_eq_true rfl⟩ (fun H locs hH => ?_)
  obtain ⟨h14, h⟩ := zck_e h
  obtain ⟨f1, ef1, h⟩ := zbn_e h
  refine z_iast (ws' := (wd_X3_halt cy q_t q_t_burgh q_t_ahead q_t_since q_t_stood q_t_due q_t_left q_t_came q_t_burgh_clockName q_t_burgh_clockCorner q_t_burgh_clockAhead q_t_burgh_clockGain q_t_burgh_masterName q_t_burgh_masterCorner q_t_burgh_masterLate q_t_burgh_masterClock q_t_burgh_masterMeets q_t_burgh_meetName q_t_burgh_meetDue t_minute t_out t_stopped f1 t_ahead t_burgh_clocks t_burgh_masters t_burgh_meets t_burgh_patience t_burgh_clockGain t_since)) (j := (Int32.toNatClampNeg x0)) S hF hH 1 rfl h14 rfl (by rw [ef1]; rfl) dX3_halt_14 (fun H locs hH => ?_)
  clear ef1
  refine lv_aload_n hx hb dX3_halt_15 rfl (lv_at hl 0 rfl) ?_
  refine lv_dup hx hb dX3_halt_16 rfl ?_
  refine z_get S hF hH iX3_halt_X3 0 rfl rfl 3 (by decide) (List.mem_of_getElem? (i := 3) rfl) rfl dX3_halt_17 ?_
  refine lv_iconst (v := 1) hx hb dX3_halt_20 (by decide) ?_
  refine lv_iload_n hx hb dX3_halt_21 rfl (lv_at hl 1 rfl) ?_
  refine lv_ishl hx hb dX3_halt_22 ?_
  refine lv_ior hx hb dX3_halt_23 ?_
  obtain ⟨y2, ey2, h⟩ := zbn_e h
  refine z_top ey2 ?_
  clear ey2
  refine z_put (ws' := (wd_X3_halt cy q_t q_t_burgh q_t_ahead q_t_since q_t_stood q_t_due q_t_left q_t_came q_t_burgh_clockName q_t_burgh_clockCorner q_t_burgh_clockAhead q_t_burgh_clockGain q_t_burgh_masterName q_t_burgh_masterCorner q_t_burgh_masterLate q_t_burgh_masterClock q_t_burgh_masterMeets q_t_burgh_meetName q_t_burgh_meetDue t_minute t_out y2 f1 t_ahead t_burgh_clocks t_burgh_masters t_burgh_meets t_burgh_patience t_burgh_clockGain t_since)) S hF hH iX3_halt_X3 tyX3 tyX3_ok nmX3 0 rfl rfl 3 (by decide) (List.mem_of_getElem? (i := 3) rfl) rfl rfl rfl (Nat.le_of_ble_eq_true rfl) rfl dX3_halt_24 (fun H locs hH => ?_)
  cases h
  exact z_vret S hr hlocks hH dX3_halt_27
abbrev rm_X11_hasBit : Room := { frames := 0, cells := 0, slots := 0, locals := 0 }
set_option maxRecDepth 100000 in
def f_X11_hasBit (N : Nat) (x0 : Int32) (x1 : Int32) : Option (Int32) := if ((x0 >>> (x1 &&& 31)) &&& 1) = 0 then (some 0) else (some 1)
set_option maxHeartbeats 4000000 in
set_option maxRecDepth 100000 in
theorem c_X11_hasBit (l : Launch) (G : va_G) (cy : Nat → ClassId) (E : Nat → Nat) (N : Nat) (x0 : Int32) (x1 : Int32) (r : Int32) (h : f_X11_hasBit N x0 x1 = some r) : zM l G cy E yX11_hasBit wsX11_hasBit rm_X11_hasBit [.int x0, .int x1] ([] : va_W) ([] : va_W) (some (.int r)) 0 0 := by
  refine z_body (cc := cX11_hasBit) (maxL := 2) (ret := some .boolean) (by decide) rfl (Nat.le_of_ble_eq_true rfl) ?_
  intro p e s m below meth c ls S hr hlocks hnm hF hH hl
  have S : CallFix p m c cX11_hasBit 2 s ([.int x0, .int x1] : List Value).toArray wsX11_hasBit RX11 := S
  obtain ⟨hx, hb, hml, hown, hts⟩ := id S
  have hl : lv_has ls 2 [(0, .int x0), (1, .int x1)] := hl
  rw [f_X11_hasBit] at h
  refine lv_iload_n hx hb dX11_hasBit_0 rfl (lv_at hl 0 rfl) ?_
  refine lv_iload_n hx hb dX11_hasBit_1 rfl (lv_at hl 1 rfl) ?_
  refine lv_ishr hx hb dX11_hasBit_2 ?_
  refine lv_iconst (v := 1) hx hb dX11_hasBit_3 (by decide) ?_
  refine lv_iand hx hb dX11_hasBit_4 ?_
  refine lv_if_eq (tgt := 12) hx hb dX11_hasBit_5 (by decide) (fun b5 => ?_) (fun b5 => ?_)
  · replace h := zif_t b5 h
    refine lv_iconst (v := 0) hx hb dX11_hasBit_12 (by decide) ?_
    cases h
    exact z_zret S hr hlocks hH rfl dX11_hasBit_13
  · replace h := zif_f b5 h
    refine lv_iconst (v := 1) hx hb dX11_hasBit_8 (by decide) ?_
    refine lv_goto (tgt := 13) hx hb dX11_hasBit_9 (by decide) ?_
    cases h
    exact z_zret S hr hlocks hH rfl dX11_hasBit_13
abbrev wd_X1_isToCome (cy : Nat → ClassId) (q_t q_t_clockName q_t_clockCorner q_t_clockAhead q_t_clockGain q_t_masterName q_t_masterCorner q_t_masterLate q_t_masterClock q_t_masterMeets q_t_meetName q_t_meetDue : Nat) (t_clocks : Int32) (t_masters : Int32) (t_meets : Int32) (t_patience : Int32) (t_masterMeets : Nat → Int32) : va_W := [(q_t, .inr (2, [.int t_clocks, .int t_masters, .int t_meets, .int t_patience, .ref q_t_clockName, .ref q_t_clockCorner, .ref q_t_clockAhead, .ref q_t_clockGain, .ref q_t_masterName, .ref q_t_masterCorner, .ref q_t_masterLate, .ref q_t_masterClock, .ref q_t_masterMeets, .ref q_t_meetName, .ref q_t_meetDue])), (q_t_masterMeets, .inl (cy 1, 6, .inl t_masterMeets))]
theorem iX1_isToCome_X1 : ∀ w ∈ wsX10, w ∈ wsX1_isToCome := fun _ h => List.mem_cons_of_mem _ (List.mem_append_right _ h)
abbrev rm_X1_isToCome : Room := { frames := 1, cells := 0, slots := 0, locals := 21 }
set_option maxRecDepth 100000 in
def f_X1_isToCome (N : Nat) (x0 : Int32) (x1 : Int32) (t_masterMeets : Nat → Int32) : Option (Int32) := zck (zin x0 6) <| zcl (f_X11_hasBit N (t_masterMeets (Int32.toNatClampNeg x0)) x1) fun z7 => zck (zbo z7) <| some z7
set_option maxHeartbeats 4000000 in
set_option maxRecDepth 100000 in
theorem c_X1_isToCome (l : Launch) (G : va_G) (cy : Nat → ClassId) (E : Nat → Nat) (N : Nat) (q_t q_t_clockName q_t_clockCorner q_t_clockAhead q_t_clockGain q_t_masterName q_t_masterCorner q_t_masterLate q_t_masterClock q_t_masterMeets q_t_meetName q_t_meetDue : Nat) (t_clocks : Int32) (t_masters : Int32) (t_meets : Int32) (t_patience : Int32) (t_masterMeets : Nat → Int32) (x0 : Int32) (x1 : Int32) (r : Int32) (h : f_X1_isToCome N x0 x1 t_masterMeets = some r) : zM l G cy E yX1_isToCome wsX1_isToCome rm_X1_isToCome [.ref q_t, .int x0, .int x1] (wd_X1_isToCome cy q_t q_t_clockName q_t_clockCorner q_t_clockAhead q_t_clockGain q_t_masterName q_t_masterCorner q_t_masterLate q_t_masterClock q_t_masterMeets q_t_meetName q_t_meetDue t_clocks t_masters t_meets t_patience t_masterMeets) (wd_X1_isToCome cy q_t q_t_clockName q_t_clockCorner q_t_clockAhead q_t_clockGain q_t_masterName q_t_masterCorner q_t_masterLate q_t_masterClock q_t_masterMeets q_t_meetName q_t_meetDue t_clocks t_masters t_meets t_patience t_masterMeets) (some (.int r)) 0 0 := by
  refine z_body (cc := cX1_isToCome) (maxL := 3) (ret := some .boolean) (by decide) rfl (Nat.le_of_ble_eq_true rfl) ?_
  intro p e s m below meth c ls S hr hlocks hnm hF hH hl
  have S : CallFix p m c cX1_isToCome 3 s ([.ref q_t, .int x0, .int x1] : List Value).toArray wsX1_isToCome RX1 := S
  obtain ⟨hx, hb, hml, hown, hts⟩ := id S
  have hl : lv_has ls 3 [(0, .ref q_t), (1, .int x0), (2, .int x1)] := hl
  rw [f_X1_isToCome] at h
  refine lv_aload_n hx hb dX1_isToCome_0 rfl (lv_at hl 0 rfl) ?_
  refine z_get S hF hH iX1_isToCome_X1 0 rfl rfl 12 (by decide) (List.mem_of_getElem? (i := 1) rfl) rfl dX1_isToCome_1 ?_
  refine lv_iload_n hx hb dX1_isToCome_4 rfl (lv_at hl 1 rfl) ?_
  obtain ⟨h5, h⟩ := zck_e h
  refine z_iald S hF hH 1 rfl h5 rfl dX1_isToCome_5 ?_
  refine lv_iload_n hx hb dX1_isToCome_6 rfl (lv_at hl 2 rfl) ?_
  obtain ⟨z7, hz7, h⟩ := zcl_e h
  refine z_callSN (As := [.int (t_masterMeets (Int32.toNatClampNeg x0)), .int x1]) (rest := []) (st1 := [.int z7]) (ws' := (wd_X1_isToCome cy q_t q_t_clockName q_t_clockCorner q_t_clockAhead q_t_clockGain q_t_masterName q_t_masterCorner q_t_masterLate q_t_masterClock q_t_masterMeets q_t_meetName q_t_meetDue t_clocks t_masters t_meets t_patience t_masterMeets)) S hF hH (c_X11_hasBit l G cy E N (t_masterMeets (Int32.toNatClampNeg x0)) x1 z7 hz7) ⟨va_cnB 2 hts gX1_isToCome_X11_hasBit_n69 rfl rfl rfl (hF.2.1.1 _ (List.mem_of_getElem? (i := 7) rfl)) (hts _ (List.mem_of_getElem? (i := 3) rfl)) (by decide +kernel) ⟨Nat.le_of_ble_eq_true rfl, Nat.le_of_ble_eq_true rfl⟩, hts _ (List.mem_of_getElem? (i := 2) rfl), trivial⟩ [] rfl (by decide) rfl rfl rfl rfl rfl hl.1 (Nat.le_of_ble_eq_true rfl) dX1_isToCome_7 ⟨Nat.le_of_ble_eq_true rfl, Nat.le_of_ble_eq_true rfl⟩ (fun H locs hH => ?_)
  obtain ⟨h10, h⟩ := zck_e h
  cases h
  exact z_zret S hr hlocks hH h10 dX1_isToCome_10
abbrev rm_X11_slot : Room := { frames := 0, cells := 0, slots := 0, locals := 0 }
set_option maxRecDepth 100000 in
def f_X11_slot (N : Nat) (x0 : Int32) (x1 : Int32) : Option (Int32) := some ((x0 * 6) + x1)
set_option maxHeartbeats 4000000 in
set_option maxRecDepth 100000 in
theorem c_X11_slot (l : Launch) (G : va_G) (cy : Nat → ClassId) (E : Nat → Nat) (N : Nat) (x0 : Int32) (x1 : Int32) (r : Int32) (h : f_X11_slot N x0 x1 = some r) : zM l G cy E yX11_slot wsX11_slot rm_X11_slot [.int x0, .int x1] ([] : va_W) ([] : va_W) (some (.int r)) 0 0 := by
  refine z_body (cc := cX11_slot) (maxL := 2) (ret := some .int) (by decide) rfl (Nat.le_of_ble_eq_true rfl) ?_
  intro p e s m below meth c ls S hr hlocks hnm hF hH hl
  have S : CallFix p m c cX11_slot 2 s ([.int x0, .int x1] : List Value).toArray wsX11_slot RX11 := S
  obtain ⟨hx, hb, hml, hown, hts⟩ := id S
  have hl : lv_has ls 2 [(0, .int x0), (1, .int x1)] := hl
  rw [f_X11_slot] at h
  refine lv_iload_n hx hb dX11_slot_0 rfl (lv_at hl 0 rfl) ?_
  refine lv_bipush (v := 6) hx hb dX11_slot_1 (by decide) ?_
  refine lv_imul hx hb dX11_slot_3 ?_
  refine lv_iload_n hx hb dX11_slot_4 rfl (lv_at hl 1 rfl) ?_
  refine lv_iadd hx hb dX11_slot_5 ?_
  cases h
  exact z_iret S hr hlocks hH dX11_slot_6
abbrev wd_X3_isOut (cy : Nat → ClassId) (q_t q_t_burgh q_t_ahead q_t_since q_t_stood q_t_due q_t_left q_t_came : Nat) (t_minute : Int32) (t_out : Int32) (t_stopped : Int32) : va_W := [(q_t, .inr (4, [.ref q_t_burgh, .int t_minute, .int t_out, .int t_stopped, .ref q_t_ahead, .ref q_t_since, .ref q_t_stood, .ref q_t_due, .ref q_t_left, .ref q_t_came]))]
theorem iX3_isOut_X3 : ∀ w ∈ wsX30, w ∈ wsX3_isOut := fun _ h => List.mem_cons_of_mem _ (List.mem_append_right _ h)
abbrev rm_X3_isOut : Room := { frames := 0, cells := 0, slots := 0, locals := 0 }
set_option maxRecDepth 100000 in
def f_X3_isOut (N : Nat) (x0 : Int32) (t_out : Int32) : Option (Int32) := if ((t_out >>> (x0 &&& 31)) &&& 1) = 0 then (some 0) else (some 1)
set_option maxHeartbeats 4000000 in
set_option maxRecDepth 100000 in
theorem c_X3_isOut (l : Launch) (G : va_G) (cy : Nat → ClassId) (E : Nat → Nat) (N : Nat) (q_t q_t_burgh q_t_ahead q_t_since q_t_stood q_t_due q_t_left q_t_came : Nat) (t_minute : Int32) (t_out : Int32) (t_stopped : Int32) (x0 : Int32) (r : Int32) (h : f_X3_isOut N x0 t_out = some r) : zM l G cy E yX3_isOut wsX3_isOut rm_X3_isOut [.ref q_t, .int x0] (wd_X3_isOut cy q_t q_t_burgh q_t_ahead q_t_since q_t_stood q_t_due q_t_left q_t_came t_minute t_out t_stopped) (wd_X3_isOut cy q_t q_t_burgh q_t_ahead q_t_since q_t_stood q_t_due q_t_left q_t_came t_minute t_out t_stopped) (some (.int r)) 0 0 := by
  refine z_body (cc := cX3_isOut) (maxL := 2) (ret := some .boolean) (by decide) rfl (Nat.le_of_ble_eq_true rfl) ?_
  intro p e s m below meth c ls S hr hlocks hnm hF hH hl
  have S : CallFix p m c cX3_isOut 2 s ([.ref q_t, .int x0] : List Value).toArray wsX3_isOut RX3 := S
  obtain ⟨hx, hb, hml, hown, hts⟩ := id S
  have hl : lv_has ls 2 [(0, .ref q_t), (1, .int x0)] := hl
  rw [f_X3_isOut] at h
  refine lv_aload_n hx hb dX3_isOut_0 rfl (lv_at hl 0 rfl) ?_
  refine z_get S hF hH iX3_isOut_X3 0 rfl rfl 2 (by decide) (List.mem_of_getElem? (i := 1) rfl) rfl dX3_isOut_1 ?_
  refine lv_iload_n hx hb dX3_isOut_4 rfl (lv_at hl 1 rfl) ?_
  refine lv_ishr hx hb dX3_isOut_5 ?_
  refine lv_iconst (v := 1) hx hb dX3_isOut_6 (by decide) ?_
  refine lv_iand hx hb dX3_isOut_7 ?_
  refine lv_if_eq (tgt := 15) hx hb dX3_isOut_8 (by decide) (fun b8 => ?_) (fun b8 => ?_)
  · replace h := zif_t b8 h
    refine lv_iconst (v := 0) hx hb dX3_isOut_15 (by decide) ?_
    cases h
    exact z_zret S hr hlocks hH rfl dX3_isOut_16
  · replace h := zif_f b8 h
    refine lv_iconst (v := 1) hx hb dX3_isOut_11 (by decide) ?_
    refine lv_goto (tgt := 16) hx hb dX3_isOut_12 (by decide) ?_
    cases h
    exact z_zret S hr hlocks hH rfl dX3_isOut_16
abbrev wd_X3_go (cy : Nat → ClassId) (q_t q_t_burgh q_t_ahead q_t_since q_t_stood q_t_due q_t_left q_t_came q_t_burgh_clockName q_t_burgh_clockCorner q_t_burgh_clockAhead q_t_burgh_clockGain q_t_burgh_masterName q_t_burgh_masterCorner q_t_burgh_masterLate q_t_burgh_masterClock q_t_burgh_masterMeets q_t_burgh_meetName q_t_burgh_meetDue : Nat) (t_minute : Int32) (t_out : Int32) (t_stopped : Int32) (t_left : Nat → Int32) (t_burgh_clocks : Int32) (t_burgh_masters : Int32) (t_burgh_meets : Int32) (t_burgh_patience : Int32) (t_burgh_masterClock : Nat → Int32) (t_stood : Nat → Int32) (t_ahead : Nat → Int32) (t_burgh_clockGain : Nat → Int32) (t_since : Nat → Int32) (t_due : Nat → Int32) (t_burgh_masterLate : Nat → Int32) (t_burgh_masterCorner : Nat → Int32) (t_came : Nat → Int32) : va_W := [(q_t, .inr (4, [.ref q_t_burgh, .int t_minute, .int t_out, .int t_stopped, .ref q_t_ahead, .ref q_t_since, .ref q_t_stood, .ref q_t_due, .ref q_t_left, .ref q_t_came])), (q_t_left, .inl (cy 1, 36, .inl t_left)), (q_t_burgh, .inr (2, [.int t_burgh_clocks, .int t_burgh_masters, .int t_burgh_meets, .int t_burgh_patience, .ref q_t_burgh_clockName, .ref q_t_burgh_clockCorner, .ref q_t_burgh_clockAhead, .ref q_t_burgh_clockGain, .ref q_t_burgh_masterName, .ref q_t_burgh_masterCorner, .ref q_t_burgh_masterLate, .ref q_t_burgh_masterClock, .ref q_t_burgh_masterMeets, .ref q_t_burgh_meetName, .ref q_t_burgh_meetDue])), (q_t_burgh_masterClock, .inl (cy 1, 6, .inl t_burgh_masterClock)), (q_t_stood, .inl (cy 1, 6, .inl t_stood)), (q_t_ahead, .inl (cy 1, 6, .inl t_ahead)), (q_t_burgh_clockGain, .inl (cy 1, 6, .inl t_burgh_clockGain)), (q_t_since, .inl (cy 1, 6, .inl t_since)), (q_t_due, .inl (cy 1, 6, .inl t_due)), (q_t_burgh_masterLate, .inl (cy 1, 6, .inl t_burgh_masterLate)), (q_t_burgh_masterCorner, .inl (cy 1, 6, .inl t_burgh_masterCorner)), (q_t_came, .inl (cy 1, 36, .inl t_came))]
theorem iX3_go_X1 : ∀ w ∈ wsX10, w ∈ wsX3_go := fun _ h => List.mem_cons_of_mem _ (List.mem_append_right _ h)
theorem iX3_go_X3 : ∀ w ∈ wsX30, w ∈ wsX3_go := fun _ h => List.mem_cons_of_mem _ (List.mem_append_left _ (List.mem_append_right _ h))
abbrev rm_X3_go : Room := { frames := 2, cells := 0, slots := 0, locals := 43 }
set_option maxRecDepth 100000 in
def f_X3_go_67 (N : Nat) (t_stopped : Int32) (t_burgh_masterClock : Nat → Int32) (t_stood : Nat → Int32) (t_ahead : Nat → Int32) (t_burgh_clockGain : Nat → Int32) (t_since : Nat → Int32) (t_due : Nat → Int32) (t_burgh_masterLate : Nat → Int32) (t_burgh_masterCorner : Nat → Int32) (x1 : Int32) (x2 : Int32) (x3 : Int32) (x4 : Int32) (c_t_out : Int32) (c_t_left : Nat → Int32) (c_t_came : Nat → Int32) : Option (Int32 × (Nat → Int32) × (Nat → Int32)) := zck (zin x4 36) <| if (c_t_left (Int32.toNatClampNeg x4)) = (-1) then (some (c_t_out, c_t_left, c_t_came)) else (zck (zin x1 6) <| if ((c_t_left (Int32.toNatClampNeg x4)) + (t_burgh_masterCorner (Int32.toNatClampNeg x1))) = x3 then (zbn (upd c_t_came (Int32.toNatClampNeg x4) x3) fun f1 => zck (zin x2 6) <| if (t_due (Int32.toNatClampNeg x2)) < x3 then (some (c_t_out, c_t_left, f1)) else (zbn ((c_t_out ||| (1 <<< (x1 &&& 31)))) fun y2 => some (y2, c_t_left, f1))) else (some (c_t_out, c_t_left, c_t_came)))
set_option maxRecDepth 100000 in
def f_X3_go (N : Nat) (x0 : Int32) (x1 : Int32) (x2 : Int32) (t_out : Int32) (t_stopped : Int32) (t_left : Nat → Int32) (t_burgh_masterClock : Nat → Int32) (t_stood : Nat → Int32) (t_ahead : Nat → Int32) (t_burgh_clockGain : Nat → Int32) (t_since : Nat → Int32) (t_due : Nat → Int32) (t_burgh_masterLate : Nat → Int32) (t_burgh_masterCorner : Nat → Int32) (t_came : Nat → Int32) : Option (Int32 × (Nat → Int32) × (Nat → Int32)) := zcl (f_X11_slot N x0 x1) fun z2 => zcl (f_X3_isOut N x0 t_out) fun z9 => if z9 = 0 then (zck (zin z2 36) <| if (t_left (Int32.toNatClampNeg z2)) = (-1) then (zck (zin x0 6) <| zcl (f_X3_reads N (t_burgh_masterClock (Int32.toNatClampNeg x0)) x2 t_stopped t_stood t_ahead t_burgh_clockGain t_since) fun z37 => zck (zin x1 6) <| if z37 < ((t_due (Int32.toNatClampNeg x1)) + (t_burgh_masterLate (Int32.toNatClampNeg x0))) then (f_X3_go_67 N t_stopped t_burgh_masterClock t_stood t_ahead t_burgh_clockGain t_since t_due t_burgh_masterLate t_burgh_masterCorner x0 x1 x2 z2 t_out t_left t_came) else (zbn (upd t_left (Int32.toNatClampNeg z2) x2) fun f1 => f_X3_go_67 N t_stopped t_burgh_masterClock t_stood t_ahead t_burgh_clockGain t_since t_due t_burgh_masterLate t_burgh_masterCorner x0 x1 x2 z2 t_out f1 t_came)) else (f_X3_go_67 N t_stopped t_burgh_masterClock t_stood t_ahead t_burgh_clockGain t_since t_due t_burgh_masterLate t_burgh_masterCorner x0 x1 x2 z2 t_out t_left t_came)) else (f_X3_go_67 N t_stopped t_burgh_masterClock t_stood t_ahead t_burgh_clockGain t_since t_due t_burgh_masterLate t_burgh_masterCorner x0 x1 x2 z2 t_out t_left t_came)
set_option maxHeartbeats 4000000 in
set_option maxRecDepth 100000 in
theorem w_X3_go_67 {p : Program} {l : Launch} {e : Env} {s : State} {m : MethodId} {args : Array Value} {below : List Frame} {meth : Method} {c : Code} {G : va_G} {cy : Nat → ClassId} {E : Nat → Nat} {w0 : va_W} {N : Nat} {q_t q_t_burgh q_t_ahead q_t_since q_t_stood q_t_due q_t_left q_t_came q_t_burgh_clockName q_t_burgh_clockCorner q_t_burgh_clockAhead q_t_burgh_clockGain q_t_burgh_masterName q_t_burgh_masterCorner q_t_burgh_masterLate q_t_burgh_masterClock q_t_burgh_masterMeets q_t_burgh_meetName q_t_burgh_meetDue : Nat} {t_minute : Int32} {t_stopped : Int32} {t_burgh_clocks : Int32} {t_burgh_masters : Int32} {t_burgh_meets : Int32} {t_burgh_patience : Int32} {t_burgh_masterClock : Nat → Int32} {t_stood : Nat → Int32} {t_ahead : Nat → Int32} {t_burgh_clockGain : Nat → Int32} {t_since : Nat → Int32} {t_due : Nat → Int32} {t_burgh_masterLate : Nat → Int32} {t_burgh_masterCorner : Nat → Int32} {r_t_out : Int32} {r_t_left : Nat → Int32} {r_t_came : Nat → Int32} (S : CallFix p m c cX3_go 5 s args wsX3_go RX3) (hr : meth.sig.returnType = none) (hlocks : meth.locks = false) (hF : zF G cy E (va_A w0 s.heap.size) s) :
    ∀ (x1 : Int32) (x2 : Int32) (x3 : Int32) (x4 : Int32) (c_t_out : Int32) (c_t_left : Nat → Int32) (c_t_came : Nat → Int32) (H : Heap) (locs : List Loc) (ls : Array Slot), zH G (va_A w0 s.heap.size) s H locs (wd_X3_go cy q_t q_t_burgh q_t_ahead q_t_since q_t_stood q_t_due q_t_left q_t_came q_t_burgh_clockName q_t_burgh_clockCorner q_t_burgh_clockAhead q_t_burgh_clockGain q_t_burgh_masterName q_t_burgh_masterCorner q_t_burgh_masterLate q_t_burgh_masterClock q_t_burgh_masterMeets q_t_burgh_meetName q_t_burgh_meetDue t_minute c_t_out t_stopped c_t_left t_burgh_clocks t_burgh_masters t_burgh_meets t_burgh_patience t_burgh_masterClock t_stood t_ahead t_burgh_clockGain t_since t_due t_burgh_masterLate t_burgh_masterCorner c_t_came) → lv_has ls 5 [(0, .ref q_t), (1, .int x1), (2, .int x2), (3, .int x3), (4, .int x4)] → f_X3_go_67 N t_stopped t_burgh_masterClock t_stood t_ahead t_burgh_clockGain t_since t_due t_burgh_masterLate t_burgh_masterCorner x1 x2 x3 x4 c_t_out c_t_left c_t_came = some (r_t_out, r_t_left, r_t_came) → W p l e rm_X3_go s m args below meth c H locs 0 0 (MQ below (zQ G w0 (wd_X3_go cy q_t q_t_burgh q_t_ahead q_t_since q_t_stood q_t_due q_t_left q_t_came q_t_burgh_clockName q_t_burgh_clockCorner q_t_burgh_clockAhead q_t_burgh_clockGain q_t_burgh_masterName q_t_burgh_masterCorner q_t_burgh_masterLate q_t_burgh_masterClock q_t_burgh_masterMeets q_t_burgh_meetName q_t_burgh_meetDue t_minute r_t_out t_stopped r_t_left t_burgh_clocks t_burgh_masters t_burgh_meets t_burgh_patience t_burgh_masterClock t_stood t_ahead t_burgh_clockGain t_since t_due t_burgh_masterLate t_burgh_masterCorner r_t_came) s.heap.size none) args s 0 0 (va_A w0 s.heap.size)) (F0 m 67 ls []) := by
  obtain ⟨hx, hb, hml, hown, hts⟩ := id S
  intro x1 x2 x3 x4 c_t_out c_t_left c_t_came H locs ls hH hl h
  rw [f_X3_go_67] at h
  refine lv_aload_n hx hb dX3_go_67 rfl (lv_at hl 0 rfl) ?_
  refine z_get S hF hH iX3_go_X3 0 rfl rfl 8 (by decide) (List.mem_of_getElem? (i := 1) rfl) rfl dX3_go_68 ?_
  refine lv_iload hx hb dX3_go_71 (lv_at hl 4 rfl) ?_
  obtain ⟨h73, h⟩ := zck_e h
  refine z_iald S hF hH 1 rfl h73 rfl dX3_go_73 ?_
  refine lv_iconst (v := (-1)) hx hb dX3_go_74 (by decide) ?_
  refine lv_icmp_eq (tgt := 129) hx hb dX3_go_75 (by decide) (fun b75 => ?_) (fun b75 => ?_)
  · replace h := zif_t b75 h
    cases h
    exact z_vret S hr hlocks hH dX3_go_129
  · replace h := zif_f b75 h
    refine lv_aload_n hx hb dX3_go_78 rfl (lv_at hl 0 rfl) ?_
    refine z_get S hF hH iX3_go_X3 0 rfl rfl 8 (by decide) (List.mem_of_getElem? (i := 1) rfl) rfl dX3_go_79 ?_
    refine lv_iload hx hb dX3_go_82 (lv_at hl 4 rfl) ?_
    refine z_iald S hF hH 1 rfl h73 rfl dX3_go_84 ?_
    refine lv_aload_n hx hb dX3_go_85 rfl (lv_at hl 0 rfl) ?_
    refine z_get S hF hH iX3_go_X3 0 rfl rfl 0 (by decide) (List.mem_of_getElem? (i := 2) rfl) rfl dX3_go_86 ?_
    refine z_get S hF hH iX3_go_X1 2 rfl rfl 9 (by decide) (List.mem_of_getElem? (i := 6) rfl) rfl dX3_go_89 ?_
    refine lv_iload_n hx hb dX3_go_92 rfl (lv_at hl 1 rfl) ?_
    obtain ⟨h93, h⟩ := zck_e h
    refine z_iald S hF hH 10 rfl h93 rfl dX3_go_93 ?_
    refine lv_iadd hx hb dX3_go_94 ?_
    refine lv_iload_n hx hb dX3_go_95 rfl (lv_at hl 3 rfl) ?_
    refine lv_icmp_ne (tgt := 129) hx hb dX3_go_96 (by decide) (fun b96 => ?_) (fun b96 => ?_)
    · replace h := zif_f b96 h
      cases h
      exact z_vret S hr hlocks hH dX3_go_129
    · replace h := zif_t b96 h
      refine lv_aload_n hx hb dX3_go_99 rfl (lv_at hl 0 rfl) ?_
      refine z_get S hF hH iX3_go_X3 0 rfl rfl 9 (by decide) (List.mem_of_getElem? (i := 7) rfl) rfl dX3_go_100 ?_
      refine lv_iload hx hb dX3_go_103 (lv_at hl 4 rfl) ?_
      refine lv_iload_n hx hb dX3_go_105 rfl (lv_at hl 3 rfl) ?_
      obtain ⟨f1, ef1, h⟩ := zbn_e h
      refine z_iast (ws' := (wd_X3_go cy q_t q_t_burgh q_t_ahead q_t_since q_t_stood q_t_due q_t_left q_t_came q_t_burgh_clockName q_t_burgh_clockCorner q_t_burgh_clockAhead q_t_burgh_clockGain q_t_burgh_masterName q_t_burgh_masterCorner q_t_burgh_masterLate q_t_burgh_masterClock q_t_burgh_masterMeets q_t_burgh_meetName q_t_burgh_meetDue t_minute c_t_out t_stopped c_t_left t_burgh_clocks t_burgh_masters t_burgh_meets t_burgh_patience t_burgh_masterClock t_stood t_ahead t_burgh_clockGain t_since t_due t_burgh_masterLate t_burgh_masterCorner f1)) (j := (Int32.toNatClampNeg x4)) S hF hH 11 rfl h73 rfl (by rw [ef1]; rfl) dX3_go_106 (fun H locs hH => ?_)
      clear ef1
      refine lv_iload_n hx hb dX3_go_107 rfl (lv_at hl 3 rfl) ?_
      refine lv_aload_n hx hb dX3_go_108 rfl (lv_at hl 0 rfl) ?_
      refine z_get S hF hH iX3_go_X3 0 rfl rfl 7 (by decide) (List.mem_of_getElem? (i := 4) rfl) rfl dX3_go_109 ?_
      refine lv_iload_n hx hb dX3_go_112 rfl (lv_at hl 2 rfl) ?_
      obtain ⟨h113, h⟩ := zck_e h
      refine z_iald S hF hH 8 rfl h113 rfl dX3_go_113 ?_
      refine lv_icmp_gt (tgt := 129) hx hb dX3_go_114 (by decide) (fun b114 => ?_) (fun b114 => ?_)
      · replace h := zif_t b114 h
        cases h
        exact z_vret S hr hlocks hH dX3_go_129
      · replace h := zif_f b114 h
        refine lv_aload_n hx hb dX3_go_117 rfl (lv_at hl 0 rfl) ?_
        refine lv_dup hx hb dX3_go_118 rfl ?_
        refine z_get S hF hH iX3_go_X3 0 rfl rfl 2 (by decide) (List.mem_of_getElem? (i := 8) rfl) rfl dX3_go_119 ?_
        refine lv_iconst (v := 1) hx hb dX3_go_122 (by decide) ?_
        refine lv_iload_n hx hb dX3_go_123 rfl (lv_at hl 1 rfl) ?_
        refine lv_ishl hx hb dX3_go_124 ?_
        refine lv_ior hx hb dX3_go_125 ?_
        obtain ⟨y2, ey2, h⟩ := zbn_e h
        refine z_top ey2 ?_
        clear ey2
        refine z_put (ws' := (wd_X3_go cy q_t q_t_burgh q_t_ahead q_t_since q_t_stood q_t_due q_t_left q_t_came q_t_burgh_clockName q_t_burgh_clockCorner q_t_burgh_clockAhead q_t_burgh_clockGain q_t_burgh_masterName q_t_burgh_masterCorner q_t_burgh_masterLate q_t_burgh_masterClock q_t_burgh_masterMeets q_t_burgh_meetName q_t_burgh_meetDue t_minute y2 t_stopped c_t_left t_burgh_clocks t_burgh_masters t_burgh_meets t_burgh_patience t_burgh_masterClock t_stood t_ahead t_burgh_clockGain t_since t_due t_burgh_masterLate t_burgh_masterCorner f1)) S hF hH iX3_go_X3 tyX3 tyX3_ok nmX3 0 rfl rfl 2 (by decide) (List.mem_of_getElem? (i := 8) rfl) rfl rfl rfl (Nat.le_of_ble_eq_true rfl) rfl dX3_go_126 (fun H locs hH => ?_)
        cases h
        exact z_vret S hr hlocks hH dX3_go_129
set_option maxHeartbeats 4000000 in
set_option maxRecDepth 100000 in
theorem c_X3_go (l : Launch) (G : va_G) (cy : Nat → ClassId) (E : Nat → Nat) (N : Nat) (q_t q_t_burgh q_t_ahead q_t_since q_t_stood q_t_due q_t_left q_t_came q_t_burgh_clockName q_t_burgh_clockCorner q_t_burgh_clockAhead q_t_burgh_clockGain q_t_burgh_masterName q_t_burgh_masterCorner q_t_burgh_masterLate q_t_burgh_masterClock q_t_burgh_masterMeets q_t_burgh_meetName q_t_burgh_meetDue : Nat) (t_minute : Int32) (t_out : Int32) (t_stopped : Int32) (t_left : Nat → Int32) (t_burgh_clocks : Int32) (t_burgh_masters : Int32) (t_burgh_meets : Int32) (t_burgh_patience : Int32) (t_burgh_masterClock : Nat → Int32) (t_stood : Nat → Int32) (t_ahead : Nat → Int32) (t_burgh_clockGain : Nat → Int32) (t_since : Nat → Int32) (t_due : Nat → Int32) (t_burgh_masterLate : Nat → Int32) (t_burgh_masterCorner : Nat → Int32) (t_came : Nat → Int32) (x0 : Int32) (x1 : Int32) (x2 : Int32) (r_t_out : Int32) (r_t_left : Nat → Int32) (r_t_came : Nat → Int32) (h : f_X3_go N x0 x1 x2 t_out t_stopped t_left t_burgh_masterClock t_stood t_ahead t_burgh_clockGain t_since t_due t_burgh_masterLate t_burgh_masterCorner t_came = some (r_t_out, r_t_left, r_t_came)) : zM l G cy E yX3_go wsX3_go rm_X3_go [.ref q_t, .int x0, .int x1, .int x2] (wd_X3_go cy q_t q_t_burgh q_t_ahead q_t_since q_t_stood q_t_due q_t_left q_t_came q_t_burgh_clockName q_t_burgh_clockCorner q_t_burgh_clockAhead q_t_burgh_clockGain q_t_burgh_masterName q_t_burgh_masterCorner q_t_burgh_masterLate q_t_burgh_masterClock q_t_burgh_masterMeets q_t_burgh_meetName q_t_burgh_meetDue t_minute t_out t_stopped t_left t_burgh_clocks t_burgh_masters t_burgh_meets t_burgh_patience t_burgh_masterClock t_stood t_ahead t_burgh_clockGain t_since t_due t_burgh_masterLate t_burgh_masterCorner t_came) (wd_X3_go cy q_t q_t_burgh q_t_ahead q_t_since q_t_stood q_t_due q_t_left q_t_came q_t_burgh_clockName q_t_burgh_clockCorner q_t_burgh_clockAhead q_t_burgh_clockGain q_t_burgh_masterName q_t_burgh_masterCorner q_t_burgh_masterLate q_t_burgh_masterClock q_t_burgh_masterMeets q_t_burgh_meetName q_t_burgh_meetDue t_minute r_t_out t_stopped r_t_left t_burgh_clocks t_burgh_masters t_burgh_meets t_burgh_patience t_burgh_masterClock t_stood t_ahead t_burgh_clockGain t_since t_due t_burgh_masterLate t_burgh_masterCorner r_t_came) none 0 0 := by
  refine z_body (cc := cX3_go) (maxL := 5) (ret := none) (by decide) rfl (Nat.le_of_ble_eq_true rfl) ?_
  intro p e s m below meth c ls S hr hlocks hnm hF hH hl
  have S : CallFix p m c cX3_go 5 s ([.ref q_t, .int x0, .int x1, .int x2] : List Value).toArray wsX3_go RX3 := S
  obtain ⟨hx, hb, hml, hown, hts⟩ := id S
  have hl : lv_has ls 5 [(0, .ref q_t), (1, .int x0), (2, .int x1), (3, .int x2)] := hl
  rw [f_X3_go] at h
  refine lv_iload_n hx hb dX3_go_0 rfl (lv_at hl 1 rfl) ?_
  refine lv_iload_n hx hb dX3_go_1 rfl (lv_at hl 2 rfl) ?_
  obtain ⟨z2, hz2, h⟩ := zcl_e h
  refine z_callSN (As := [.int x0, .int x1]) (rest := []) (st1 := [.int z2]) (ws' := (wd_X3_go cy q_t q_t_burgh q_t_ahead q_t_since q_t_stood q_t_due q_t_left q_t_came q_t_burgh_clockName q_t_burgh_clockCorner q_t_burgh_clockAhead q_t_burgh_clockGain q_t_burgh_masterName q_t_burgh_masterCorner q_t_burgh_masterLate q_t_burgh_masterClock q_t_burgh_masterMeets q_t_burgh_meetName q_t_burgh_meetDue t_minute t_out t_stopped t_left t_burgh_clocks t_burgh_masters t_burgh_meets t_burgh_patience t_burgh_masterClock t_stood t_ahead t_burgh_clockGain t_since t_due t_burgh_masterLate t_burgh_masterCorner t_came)) S hF hH (c_X11_slot l G cy E N x0 x1 z2 hz2) ⟨va_cnB 2 hts gX3_go_X11_slot_n131 rfl rfl rfl (hF.2.1.1 _ (List.mem_of_getElem? (i := 8) rfl)) (hts _ (List.mem_of_getElem? (i := 10) rfl)) (by decide +kernel) ⟨Nat.le_of_ble_eq_true rfl, Nat.le_of_ble_eq_true rfl⟩, hts _ (List.mem_of_getElem? (i := 9) rfl), trivial⟩ [] rfl (by decide) rfl rfl rfl rfl rfl hl.1 (Nat.le_of_ble_eq_true rfl) dX3_go_2 ⟨Nat.le_of_ble_eq_true rfl, Nat.le_of_ble_eq_true rfl⟩ (fun H locs hH => ?_)
  refine lv_istore (lv' := [(4, .int z2), (0, .ref q_t), (1, .int x0), (2, .int x1), (3, .int x2)]) hx hb dX3_go_5 hl (by decide) rfl (fun ls hl => ?_)
  refine lv_aload_n hx hb dX3_go_7 rfl (lv_at hl 1 rfl) ?_
  refine lv_iload_n hx hb dX3_go_8 rfl (lv_at hl 2 rfl) ?_
  obtain ⟨z9, hz9, h⟩ := zcl_e h
  refine z_callV (As := [.int x0]) (rest := []) (st1 := [.int z9]) (ws' := (wd_X3_go cy q_t q_t_burgh q_t_ahead q_t_since q_t_stood q_t_due q_t_left q_t_came q_t_burgh_clockName q_t_burgh_clockCorner q_t_burgh_clockAhead q_t_burgh_clockGain q_t_burgh_masterName q_t_burgh_masterCorner q_t_burgh_masterLate q_t_burgh_masterClock q_t_burgh_masterMeets q_t_burgh_meetName q_t_burgh_meetDue t_minute t_out t_stopped t_left t_burgh_clocks t_burgh_masters t_burgh_meets t_burgh_patience t_burgh_masterClock t_stood t_ahead t_burgh_clockGain t_since t_due t_burgh_masterLate t_burgh_masterCorner t_came)) S hF hH (c_X3_isOut l G cy E N q_t q_t_burgh q_t_ahead q_t_since q_t_stood q_t_due q_t_left q_t_came t_minute t_out t_stopped x0 z9 hz9) (cwV 1 hts gX3_go_X3_isOut rfl rfl rfl (by decide +kernel) ⟨Nat.le_of_ble_eq_true rfl, Nat.le_of_ble_eq_true rfl⟩) 4 0 rfl rfl [0] rfl (by decide) rfl rfl rfl rfl rfl hl.1 (Nat.le_of_ble_eq_true rfl) dX3_go_9 ⟨Nat.le_of_ble_eq_true rfl, Nat.le_of_ble_eq_true rfl⟩ (fun H locs hH => ?_)
  refine lv_if_ne (tgt := 67) hx hb dX3_go_12 (by decide) (fun b12 => ?_) (fun b12 => ?_)
  · replace h := zif_f b12 h
    exact w_X3_go_67 S hr hlocks hF x0 x1 x2 z2 t_out t_left t_came _ _ _ hH (lv_sub hl [1, 2, 3, 4, 0] rfl) h
  · replace h := zif_t b12 h
    refine lv_aload_n hx hb dX3_go_15 rfl (lv_at hl 1 rfl) ?_
    refine z_get S hF hH iX3_go_X3 0 rfl rfl 8 (by decide) (List.mem_of_getElem? (i := 1) rfl) rfl dX3_go_16 ?_
    refine lv_iload hx hb dX3_go_19 (lv_at hl 0 rfl) ?_
    obtain ⟨h21, h⟩ := zck_e h
    refine z_iald S hF hH 1 rfl h21 rfl dX3_go_21 ?_
    refine lv_iconst (v := (-1)) hx hb dX3_go_22 (by decide) ?_
    refine lv_icmp_ne (tgt := 67) hx hb dX3_go_23 (by decide) (fun b23 => ?_) (fun b23 => ?_)
    · replace h := zif_f b23 h
      exact w_X3_go_67 S hr hlocks hF x0 x1 x2 z2 t_out t_left t_came _ _ _ hH (lv_sub hl [1, 2, 3, 4, 0] rfl) h
    · replace h := zif_t b23 h
      refine lv_aload_n hx hb dX3_go_26 rfl (lv_at hl 1 rfl) ?_
      refine lv_aload_n hx hb dX3_go_27 rfl (lv_at hl 1 rfl) ?_
      refine z_get S hF hH iX3_go_X3 0 rfl rfl 0 (by decide) (List.mem_of_getElem? (i := 2) rfl) rfl dX3_go_28 ?_
      refine z_get S hF hH iX3_go_X1 2 rfl rfl 11 (by decide) (List.mem_of_getElem? (i := 3) rfl) rfl dX3_go_31 ?_
      refine lv_iload_n hx hb dX3_go_34 rfl (lv_at hl 2 rfl) ?_
      obtain ⟨h35, h⟩ := zck_e h
      refine z_iald S hF hH 3 rfl h35 rfl dX3_go_35 ?_
      refine lv_iload_n hx hb dX3_go_36 rfl (lv_at hl 4 rfl) ?_
      obtain ⟨z37, hz37, h⟩ := zcl_e h
      refine z_callV (As := [.int (t_burgh_masterClock (Int32.toNatClampNeg x0)), .int x2]) (rest := []) (st1 := [.int z37]) (ws' := (wd_X3_go cy q_t q_t_burgh q_t_ahead q_t_since q_t_stood q_t_due q_t_left q_t_came q_t_burgh_clockName q_t_burgh_clockCorner q_t_burgh_clockAhead q_t_burgh_clockGain q_t_burgh_masterName q_t_burgh_masterCorner q_t_burgh_masterLate q_t_burgh_masterClock q_t_burgh_masterMeets q_t_burgh_meetName q_t_burgh_meetDue t_minute t_out t_stopped t_left t_burgh_clocks t_burgh_masters t_burgh_meets t_burgh_patience t_burgh_masterClock t_stood t_ahead t_burgh_clockGain t_since t_due t_burgh_masterLate t_burgh_masterCorner t_came)) S hF hH (c_X3_reads l G cy E N q_t q_t_burgh q_t_ahead q_t_since q_t_stood q_t_due q_t_left q_t_came q_t_burgh_clockName q_t_burgh_clockCorner q_t_burgh_clockAhead q_t_burgh_clockGain q_t_burgh_masterName q_t_burgh_masterCorner q_t_burgh_masterLate q_t_burgh_masterClock q_t_burgh_masterMeets q_t_burgh_meetName q_t_burgh_meetDue t_minute t_out t_stopped t_stood t_ahead t_burgh_clocks t_burgh_masters t_burgh_meets t_burgh_patience t_burgh_clockGain t_since (t_burgh_masterClock (Int32.toNatClampNeg x0)) x2 z37 hz37) (cwV 2 hts gX3_go_X3_reads rfl rfl rfl (by decide +kernel) ⟨Nat.le_of_ble_eq_true rfl, Nat.le_of_ble_eq_true rfl⟩) 4 0 rfl rfl [0, 4, 5, 2, 6, 7] rfl (by decide) rfl rfl rfl rfl rfl hl.1 (Nat.le_of_ble_eq_true rfl) dX3_go_37 ⟨Nat.le_of_ble_eq_true rfl, Nat.le_of_ble_eq_true rfl⟩ (fun H locs hH => ?_)
      refine lv_aload_n hx hb dX3_go_40 rfl (lv_at hl 1 rfl) ?_
      refine z_get S hF hH iX3_go_X3 0 rfl rfl 7 (by decide) (List.mem_of_getElem? (i := 4) rfl) rfl dX3_go_41 ?_
      refine lv_iload_n hx hb dX3_go_44 rfl (lv_at hl 3 rfl) ?_
      obtain ⟨h45, h⟩ := zck_e h
      refine z_iald S hF hH 8 rfl h45 rfl dX3_go_45 ?_
      refine lv_aload_n hx hb dX3_go_46 rfl (lv_at hl 1 rfl) ?_
      refine z_get S hF hH iX3_go_X3 0 rfl rfl 0 (by decide) (List.mem_of_getElem? (i := 2) rfl) rfl dX3_go_47 ?_
      refine z_get S hF hH iX3_go_X1 2 rfl rfl 10 (by decide) (List.mem_of_getElem? (i := 5) rfl) rfl dX3_go_50 ?_
      refine lv_iload_n hx hb dX3_go_53 rfl (lv_at hl 2 rfl) ?_
      refine z_iald S hF hH 9 rfl h35 rfl dX3_go_54 ?_
      refine lv_iadd hx hb dX3_go_55 ?_
      refine lv_icmp_lt (tgt := 67) hx hb dX3_go_56 (by decide) (fun b56 => ?_) (fun b56 => ?_)
      · replace h := zif_t b56 h
        exact w_X3_go_67 S hr hlocks hF x0 x1 x2 z2 t_out t_left t_came _ _ _ hH (lv_sub hl [1, 2, 3, 4, 0] rfl) h
      · replace h := zif_f b56 h
        refine lv_aload_n hx hb dX3_go_59 rfl (lv_at hl 1 rfl) ?_
        refine z_get S hF hH iX3_go_X3 0 rfl rfl 8 (by decide) (List.mem_of_getElem? (i := 1) rfl) rfl dX3_go_60 ?_
        refine lv_iload hx hb dX3_go_63 (lv_at hl 0 rfl) ?_
        refine lv_iload_n hx hb dX3_go_65 rfl (lv_at hl 4 rfl) ?_
        obtain ⟨f1, ef1, h⟩ := zbn_e h
        refine z_iast (ws' := (wd_X3_go cy q_t q_t_burgh q_t_ahead q_t_since q_t_stood q_t_due q_t_left q_t_came q_t_burgh_clockName q_t_burgh_clockCorner q_t_burgh_clockAhead q_t_burgh_clockGain q_t_burgh_masterName q_t_burgh_masterCorner q_t_burgh_masterLate q_t_burgh_masterClock q_t_burgh_masterMeets q_t_burgh_meetName q_t_burgh_meetDue t_minute t_out t_stopped f1 t_burgh_clocks t_burgh_masters t_burgh_meets t_burgh_patience t_burgh_masterClock t_stood t_ahead t_burgh_clockGain t_since t_due t_burgh_masterLate t_burgh_masterCorner t_came)) (j := (Int32.toNatClampNeg z2)) S hF hH 1 rfl h21 rfl (by rw [ef1]; rfl) dX3_go_66 (fun H locs hH => ?_)
        clear ef1
        exact w_X3_go_67 S hr hlocks hF x0 x1 x2 z2 t_out f1 t_came _ _ _ hH (lv_sub hl [1, 2, 3, 4, 0] rfl) h
abbrev wd_X3_goThrough (cy : Nat → ClassId) (q_t q_t_burgh q_t_ahead q_t_since q_t_stood q_t_due q_t_left q_t_came q_t_burgh_clockName q_t_burgh_clockCorner q_t_burgh_clockAhead q_t_burgh_clockGain q_t_burgh_masterName q_t_burgh_masterCorner q_t_burgh_masterLate q_t_burgh_masterClock q_t_burgh_masterMeets q_t_burgh_meetName q_t_burgh_meetDue : Nat) (t_minute : Int32) (t_out : Int32) (t_stopped : Int32) (t_burgh_clocks : Int32) (t_burgh_masters : Int32) (t_burgh_meets : Int32) (t_burgh_patience : Int32) (t_burgh_masterMeets : Nat → Int32) (t_left : Nat → Int32) (t_burgh_masterClock : Nat → Int32) (t_stood : Nat → Int32) (t_ahead : Nat → Int32) (t_burgh_clockGain : Nat → Int32) (t_since : Nat → Int32) (t_due : Nat → Int32) (t_burgh_masterLate : Nat → Int32) (t_burgh_masterCorner : Nat → Int32) (t_came : Nat → Int32) : va_W := [(q_t, .inr (4, [.ref q_t_burgh, .int t_minute, .int t_out, .int t_stopped, .ref q_t_ahead, .ref q_t_since, .ref q_t_stood, .ref q_t_due, .ref q_t_left, .ref q_t_came])), (q_t_burgh, .inr (2, [.int t_burgh_clocks, .int t_burgh_masters, .int t_burgh_meets, .int t_burgh_patience, .ref q_t_burgh_clockName, .ref q_t_burgh_clockCorner, .ref q_t_burgh_clockAhead, .ref q_t_burgh_clockGain, .ref q_t_burgh_masterName, .ref q_t_burgh_masterCorner, .ref q_t_burgh_masterLate, .ref q_t_burgh_masterClock, .ref q_t_burgh_masterMeets, .ref q_t_burgh_meetName, .ref q_t_burgh_meetDue])), (q_t_burgh_masterMeets, .inl (cy 1, 6, .inl t_burgh_masterMeets)), (q_t_left, .inl (cy 1, 36, .inl t_left)), (q_t_burgh_masterClock, .inl (cy 1, 6, .inl t_burgh_masterClock)), (q_t_stood, .inl (cy 1, 6, .inl t_stood)), (q_t_ahead, .inl (cy 1, 6, .inl t_ahead)), (q_t_burgh_clockGain, .inl (cy 1, 6, .inl t_burgh_clockGain)), (q_t_since, .inl (cy 1, 6, .inl t_since)), (q_t_due, .inl (cy 1, 6, .inl t_due)), (q_t_burgh_masterLate, .inl (cy 1, 6, .inl t_burgh_masterLate)), (q_t_burgh_masterCorner, .inl (cy 1, 6, .inl t_burgh_masterCorner)), (q_t_came, .inl (cy 1, 36, .inl t_came))]
theorem iX3_goThrough_X1 : ∀ w ∈ wsX10, w ∈ wsX3_goThrough := fun _ h => List.mem_cons_of_mem _ (List.mem_append_right _ h)
theorem iX3_goThrough_X3 : ∀ w ∈ wsX30, w ∈ wsX3_goThrough := fun _ h => List.mem_cons_of_mem _ (List.mem_append_left _ (List.mem_append_right _ h))
abbrev rm_X3_goThrough : Room := { frames := 3, cells := 0, slots := 0, locals := 67 }
set_option maxRecDepth 100000 in
def f_X3_goThrough_15 (N : Nat) (t_stopped : Int32) (t_burgh_masters : Int32) (t_burgh_meets : Int32) (t_burgh_masterMeets : Nat → Int32) (t_burgh_masterClock : Nat → Int32) (t_stood : Nat → Int32) (t_ahead : Nat → Int32) (t_burgh_clockGain : Nat → Int32) (t_since : Nat → Int32) (t_due : Nat → Int32) (t_burgh_masterLate : Nat → Int32) (t_burgh_masterCorner : Nat → Int32) (k_2 : Int32 → Int32 → Int32 → (Nat → Int32) → (Nat → Int32) → (Option (Int32 × (Nat → Int32) × (Nat → Int32)))) : Nat → Int32 → Int32 → Int32 → Int32 → (Nat → Int32) → (Nat → Int32) → (Option (Int32 × (Nat → Int32) × (Nat → Int32)))
  | 0, _, _, _, _, _, _ => none
  | n + 1, x1, x2, x3, c_t_out, c_t_left, c_t_came => if t_burgh_masters ≤ x3 then (zbn (x2 + 1) fun y1 => k_2 x1 y1 c_t_out c_t_left c_t_came) else (zcl (f_X1_isToCome N x3 x2 t_burgh_masterMeets) fun z32 => if z32 = 0 then (zbn (x3 + 1) fun y2 => f_X3_goThrough_15 N t_stopped t_burgh_masters t_burgh_meets t_burgh_masterMeets t_burgh_masterClock t_stood t_ahead t_burgh_clockGain t_since t_due t_burgh_masterLate t_burgh_masterCorner k_2 n x1 x2 y2 c_t_out c_t_left c_t_came) else (zcl (f_X3_go N x3 x2 x1 c_t_out t_stopped c_t_left t_burgh_masterClock t_stood t_ahead t_burgh_clockGain t_since t_due t_burgh_masterLate t_burgh_masterCorner c_t_came) fun z42 => zbn (x3 + 1) fun y3 => f_X3_goThrough_15 N t_stopped t_burgh_masters t_burgh_meets t_burgh_masterMeets t_burgh_masterClock t_stood t_ahead t_burgh_clockGain t_since t_due t_burgh_masterLate t_burgh_masterCorner k_2 n x1 x2 y3 z42.1 z42.2.1 z42.2.2))
set_option maxRecDepth 100000 in
def f_X3_goThrough_2 (N : Nat) (t_stopped : Int32) (t_burgh_masters : Int32) (t_burgh_meets : Int32) (t_burgh_masterMeets : Nat → Int32) (t_burgh_masterClock : Nat → Int32) (t_stood : Nat → Int32) (t_ahead : Nat → Int32) (t_burgh_clockGain : Nat → Int32) (t_since : Nat → Int32) (t_due : Nat → Int32) (t_burgh_masterLate : Nat → Int32) (t_burgh_masterCorner : Nat → Int32) : Nat → Int32 → Int32 → Int32 → (Nat → Int32) → (Nat → Int32) → (Option (Int32 × (Nat → Int32) × (Nat → Int32)))
  | 0, _, _, _, _, _ => none
  | n + 1, x1, x2, c_t_out, c_t_left, c_t_came => if t_burgh_meets ≤ x2 then (some (c_t_out, c_t_left, c_t_came)) else (f_X3_goThrough_15 N t_stopped t_burgh_masters t_burgh_meets t_burgh_masterMeets t_burgh_masterClock t_stood t_ahead t_burgh_clockGain t_since t_due t_burgh_masterLate t_burgh_masterCorner (f_X3_goThrough_2 N t_stopped t_burgh_masters t_burgh_meets t_burgh_masterMeets t_burgh_masterClock t_stood t_ahead t_burgh_clockGain t_since t_due t_burgh_masterLate t_burgh_masterCorner n) N x1 x2 0 c_t_out c_t_left c_t_came)
set_option maxRecDepth 100000 in
def f_X3_goThrough (N : Nat) (x0 : Int32) (t_out : Int32) (t_stopped : Int32) (t_burgh_masters : Int32) (t_burgh_meets : Int32) (t_burgh_masterMeets : Nat → Int32) (t_left : Nat → Int32) (t_burgh_masterClock : Nat → Int32) (t_stood : Nat → Int32) (t_ahead : Nat → Int32) (t_burgh_clockGain : Nat → Int32) (t_since : Nat → Int32) (t_due : Nat → Int32) (t_burgh_masterLate : Nat → Int32) (t_burgh_masterCorner : Nat → Int32) (t_came : Nat → Int32) : Option (Int32 × (Nat → Int32) × (Nat → Int32)) := f_X3_goThrough_2 N t_stopped t_burgh_masters t_burgh_meets t_burgh_masterMeets t_burgh_masterClock t_stood t_ahead t_burgh_clockGain t_since t_due t_burgh_masterLate t_burgh_masterCorner N x0 0 t_out t_left t_came
set_option maxHeartbeats 4000000 in
set_option maxRecDepth 100000 in
theorem w_X3_goThrough_15 {p : Program} {l : Launch} {e : Env} {s : State} {m : MethodId} {args : Array Value} {below : List Frame} {meth : Method} {c : Code} {G : va_G} {cy : Nat → ClassId} {E : Nat → Nat} {w0 : va_W} {N : Nat} {q_t q_t_burgh q_t_ahead q_t_since q_t_stood q_t_due q_t_left q_t_came q_t_burgh_clockName q_t_burgh_clockCorner q_t_burgh_clockAhead q_t_burgh_clockGain q_t_burgh_masterName q_t_burgh_masterCorner q_t_burgh_masterLate q_t_burgh_masterClock q_t_burgh_masterMeets q_t_burgh_meetName q_t_burgh_meetDue : Nat} {t_minute : Int32} {t_stopped : Int32} {t_burgh_clocks : Int32} {t_burgh_masters : Int32} {t_burgh_meets : Int32} {t_burgh_patience : Int32} {t_burgh_masterMeets : Nat → Int32} {t_burgh_masterClock : Nat → Int32} {t_stood : Nat → Int32} {t_ahead : Nat → Int32} {t_burgh_clockGain : Nat → Int32} {t_since : Nat → Int32} {t_due : Nat → Int32} {t_burgh_masterLate : Nat → Int32} {t_burgh_masterCorner : Nat → Int32} {r_t_out : Int32} {r_t_left : Nat → Int32} {r_t_came : Nat → Int32} {k_2 : Int32 → Int32 → Int32 → (Nat → Int32) → (Nat → Int32) → (Option (Int32 × (Nat → Int32) × (Nat → Int32)))} (S : CallFix p m c cX3_goThrough 4 s args wsX3_goThrough RX3) (hr : meth.sig.returnType = none) (hlocks : meth.locks = false) (hF : zF G cy E (va_A w0 s.heap.size) s) (hk_2 : ∀ (x1 : Int32) (x2 : Int32) (c_t_out : Int32) (c_t_left : Nat → Int32) (c_t_came : Nat → Int32) (H : Heap) (locs : List Loc) (ls : Array Slot), zH G (va_A w0 s.heap.size) s H locs (wd_X3_goThrough cy q_t q_t_burgh q_t_ahead q_t_since q_t_stood q_t_due q_t_left q_t_came q_t_burgh_clockName q_t_burgh_clockCorner q_t_burgh_clockAhead q_t_burgh_clockGain q_t_burgh_masterName q_t_burgh_masterCorner q_t_burgh_masterLate q_t_burgh_masterClock q_t_burgh_masterMeets q_t_burgh_meetName q_t_burgh_meetDue t_minute c_t_out t_stopped t_burgh_clocks t_burgh_masters t_burgh_meets t_burgh_patience t_burgh_masterMeets c_t_left t_burgh_masterClock t_stood t_ahead t_burgh_clockGain t_since t_due t_burgh_masterLate t_burgh_masterCorner c_t_came) → lv_has ls 4 [(0, .ref q_t), (1, .int x1), (2, .int x2)] → k_2 x1 x2 c_t_out c_t_left c_t_came = some (r_t_out, r_t_left, r_t_came) → W p l e rm_X3_goThrough s m args below meth c H locs 0 0 (MQ below (zQ G w0 (wd_X3_goThrough cy q_t q_t_burgh q_t_ahead q_t_since q_t_stood q_t_due q_t_left q_t_came q_t_burgh_clockName q_t_burgh_clockCorner q_t_burgh_clockAhead q_t_burgh_clockGain q_t_burgh_masterName q_t_burgh_masterCorner q_t_burgh_masterLate q_t_burgh_masterClock q_t_burgh_masterMeets q_t_burgh_meetName q_t_burgh_meetDue t_minute r_t_out t_stopped t_burgh_clocks t_burgh_masters t_burgh_meets t_burgh_patience t_burgh_masterMeets r_t_left t_burgh_masterClock t_stood t_ahead t_burgh_clockGain t_since t_due t_burgh_masterLate t_burgh_masterCorner r_t_came) s.heap.size none) args s 0 0 (va_A w0 s.heap.size)) (F0 m 2 ls [])) :
    ∀ (n : Nat) (x1 : Int32) (x2 : Int32) (x3 : Int32) (c_t_out : Int32) (c_t_left : Nat → Int32) (c_t_came : Nat → Int32) (H : Heap) (locs : List Loc) (ls : Array Slot), zH G (va_A w0 s.heap.size) s H locs (wd_X3_goThrough cy q_t q_t_burgh q_t_ahead q_t_since q_t_stood q_t_due q_t_left q_t_came q_t_burgh_clockName q_t_burgh_clockCorner q_t_burgh_clockAhead q_t_burgh_clockGain q_t_burgh_masterName q_t_burgh_masterCorner q_t_burgh_masterLate q_t_burgh_masterClock q_t_burgh_masterMeets q_t_burgh_meetName q_t_burgh_meetDue t_minute c_t_out t_stopped t_burgh_clocks t_burgh_masters t_burgh_meets t_burgh_patience t_burgh_masterMeets c_t_left t_burgh_masterClock t_stood t_ahead t_burgh_clockGain t_since t_due t_burgh_masterLate t_burgh_masterCorner c_t_came) → lv_has ls 4 [(0, .ref q_t), (1, .int x1), (2, .int x2), (3, .int x3)] → f_X3_goThrough_15 N t_stopped t_burgh_masters t_burgh_meets t_burgh_masterMeets t_burgh_masterClock t_stood t_ahead t_burgh_clockGain t_since t_due t_burgh_masterLate t_burgh_masterCorner k_2 n x1 x2 x3 c_t_out c_t_left c_t_came = some (r_t_out, r_t_left, r_t_came) → W p l e rm_X3_goThrough s m args below meth c H locs 0 0 (MQ below (zQ G w0 (wd_X3_goThrough cy q_t q_t_burgh q_t_ahead q_t_since q_t_stood q_t_due q_t_left q_t_came q_t_burgh_clockName q_t_burgh_clockCorner q_t_burgh_clockAhead q_t_burgh_clockGain q_t_burgh_masterName q_t_burgh_masterCorner q_t_burgh_masterLate q_t_burgh_masterClock q_t_burgh_masterMeets q_t_burgh_meetName q_t_burgh_meetDue t_minute r_t_out t_stopped t_burgh_clocks t_burgh_masters t_burgh_meets t_burgh_patience t_burgh_masterMeets r_t_left t_burgh_masterClock t_stood t_ahead t_burgh_clockGain t_since t_due t_burgh_masterLate t_burgh_masterCorner r_t_came) s.heap.size none) args s 0 0 (va_A w0 s.heap.size)) (F0 m 15 ls []) := by
  obtain ⟨hx, hb, hml, hown, hts⟩ := id S
  intro n
  induction n with
  | zero =>
    intro x1 x2 x3 c_t_out c_t_left c_t_came H locs ls hH hl h
    rw [f_X3_goThrough_15] at h
    cases h
  | succ n ih =>
    intro x1 x2 x3 c_t_out c_t_left c_t_came H locs ls hH hl h
    rw [f_X3_goThrough_15] at h
    refine lv_iload_n hx hb dX3_goThrough_15 rfl (lv_at hl 3 rfl) ?_
    refine lv_aload_n hx hb dX3_goThrough_16 rfl (lv_at hl 0 rfl) ?_
    refine z_get S hF hH iX3_goThrough_X3 0 rfl rfl 0 (by decide) (List.mem_of_getElem? (i := 1) rfl) rfl dX3_goThrough_17 ?_
    refine z_get S hF hH iX3_goThrough_X1 1 rfl rfl 1 (by decide) (List.mem_of_getElem? (i := 3) rfl) rfl dX3_goThrough_20 ?_
    refine lv_icmp_ge (tgt := 51) hx hb dX3_goThrough_23 (by decide) (fun b23 => ?_) (fun b23 => ?_)
    · replace h := zif_t b23 h
      obtain ⟨y1, ey1, h⟩ := zbn_e h
      refine lv_iinc (v := y1) (lv' := [(2, .int y1), (0, .ref q_t), (1, .int x1), (3, .int x3)]) hx hb dX3_goThrough_51 hl (k := 2) rfl (by rw [ey1]; exact congrArg (fun z => x2 + z) (by decide)) (by decide) rfl (fun ls hl => ?_)
      clear ey1
      refine lv_goto (tgt := 2) hx hb dX3_goThrough_54 (by decide) ?_
      exact hk_2 x1 y1 c_t_out c_t_left c_t_came _ _ _ hH (lv_sub hl [1, 2, 0] rfl) h
    · replace h := zif_f b23 h
      refine lv_aload_n hx hb dX3_goThrough_26 rfl (lv_at hl 0 rfl) ?_
      refine z_get S hF hH iX3_goThrough_X3 0 rfl rfl 0 (by decide) (List.mem_of_getElem? (i := 1) rfl) rfl dX3_goThrough_27 ?_
      refine lv_iload_n hx hb dX3_goThrough_30 rfl (lv_at hl 3 rfl) ?_
      refine lv_iload_n hx hb dX3_goThrough_31 rfl (lv_at hl 2 rfl) ?_
      obtain ⟨z32, hz32, h⟩ := zcl_e h
      refine z_callV (As := [.int x3, .int x2]) (rest := []) (st1 := [.int z32]) (ws' := (wd_X3_goThrough cy q_t q_t_burgh q_t_ahead q_t_since q_t_stood q_t_due q_t_left q_t_came q_t_burgh_clockName q_t_burgh_clockCorner q_t_burgh_clockAhead q_t_burgh_clockGain q_t_burgh_masterName q_t_burgh_masterCorner q_t_burgh_masterLate q_t_burgh_masterClock q_t_burgh_masterMeets q_t_burgh_meetName q_t_burgh_meetDue t_minute c_t_out t_stopped t_burgh_clocks t_burgh_masters t_burgh_meets t_burgh_patience t_burgh_masterMeets c_t_left t_burgh_masterClock t_stood t_ahead t_burgh_clockGain t_since t_due t_burgh_masterLate t_burgh_masterCorner c_t_came)) S hF hH (c_X1_isToCome l G cy E N q_t_burgh q_t_burgh_clockName q_t_burgh_clockCorner q_t_burgh_clockAhead q_t_burgh_clockGain q_t_burgh_masterName q_t_burgh_masterCorner q_t_burgh_masterLate q_t_burgh_masterClock q_t_burgh_masterMeets q_t_burgh_meetName q_t_burgh_meetDue t_burgh_clocks t_burgh_masters t_burgh_meets t_burgh_patience t_burgh_masterMeets x3 x2 z32 hz32) (cwV 2 hts gX3_goThrough_X1_isToCome rfl rfl rfl (by decide +kernel) ⟨Nat.le_of_ble_eq_true rfl, Nat.le_of_ble_eq_true rfl⟩) 2 0 rfl rfl [1, 2] rfl (by decide) rfl rfl rfl rfl rfl hl.1 (Nat.le_of_ble_eq_true rfl) dX3_goThrough_32 ⟨Nat.le_of_ble_eq_true rfl, Nat.le_of_ble_eq_true rfl⟩ (fun H locs hH => ?_)
      refine lv_if_eq (tgt := 45) hx hb dX3_goThrough_35 (by decide) (fun b35 => ?_) (fun b35 => ?_)
      · replace h := zif_t b35 h
        obtain ⟨y2, ey2, h⟩ := zbn_e h
        refine lv_iinc (v := y2) (lv' := [(3, .int y2), (0, .ref q_t), (1, .int x1), (2, .int x2)]) hx hb dX3_goThrough_45 hl (k := 3) rfl (by rw [ey2]; exact congrArg (fun z => x3 + z) (by decide)) (by decide) rfl (fun ls hl => ?_)
        clear ey2
        refine lv_goto (tgt := 15) hx hb dX3_goThrough_48 (by decide) ?_
        exact ih x1 x2 y2 c_t_out c_t_left c_t_came _ _ _ hH (lv_sub hl [1, 2, 3, 0] rfl) h
      · replace h := zif_f b35 h
        refine lv_aload_n hx hb dX3_goThrough_38 rfl (lv_at hl 0 rfl) ?_
        refine lv_iload_n hx hb dX3_goThrough_39 rfl (lv_at hl 3 rfl) ?_
        refine lv_iload_n hx hb dX3_goThrough_40 rfl (lv_at hl 2 rfl) ?_
        refine lv_iload_n hx hb dX3_goThrough_41 rfl (lv_at hl 1 rfl) ?_
        obtain ⟨z42, hz42, h⟩ := zcl_e h
        refine z_callV (As := [.int x3, .int x2, .int x1]) (rest := []) (st1 := []) (ws' := (wd_X3_goThrough cy q_t q_t_burgh q_t_ahead q_t_since q_t_stood q_t_due q_t_left q_t_came q_t_burgh_clockName q_t_burgh_clockCorner q_t_burgh_clockAhead q_t_burgh_clockGain q_t_burgh_masterName q_t_burgh_masterCorner q_t_burgh_masterLate q_t_burgh_masterClock q_t_burgh_masterMeets q_t_burgh_meetName q_t_burgh_meetDue t_minute z42.1 t_stopped t_burgh_clocks t_burgh_masters t_burgh_meets t_burgh_patience t_burgh_masterMeets z42.2.1 t_burgh_masterClock t_stood t_ahead t_burgh_clockGain t_since t_due t_burgh_masterLate t_burgh_masterCorner z42.2.2)) S hF hH (c_X3_go l G cy E N q_t q_t_burgh q_t_ahead q_t_since q_t_stood q_t_due q_t_left q_t_came q_t_burgh_clockName q_t_burgh_clockCorner q_t_burgh_clockAhead q_t_burgh_clockGain q_t_burgh_masterName q_t_burgh_masterCorner q_t_burgh_masterLate q_t_burgh_masterClock q_t_burgh_masterMeets q_t_burgh_meetName q_t_burgh_meetDue t_minute c_t_out t_stopped c_t_left t_burgh_clocks t_burgh_masters t_burgh_meets t_burgh_patience t_burgh_masterClock t_stood t_ahead t_burgh_clockGain t_since t_due t_burgh_masterLate t_burgh_masterCorner c_t_came x3 x2 x1 z42.1 z42.2.1 z42.2.2 hz42) (cwV 3 hts gX3_goThrough_X3_go rfl rfl rfl (by decide +kernel) ⟨Nat.le_of_ble_eq_true rfl, Nat.le_of_ble_eq_true rfl⟩) 4 0 rfl rfl [0, 3, 1, 4, 5, 6, 7, 8, 9, 10, 11, 12] rfl (by decide) rfl rfl rfl rfl rfl hl.1 (Nat.le_of_ble_eq_true rfl) dX3_goThrough_42 ⟨Nat.le_of_ble_eq_true rfl, Nat.le_of_ble_eq_true rfl⟩ (fun H locs hH => ?_)
        obtain ⟨y3, ey3, h⟩ := zbn_e h
        refine lv_iinc (v := y3) (lv' := [(3, .int y3), (0, .ref q_t), (1, .int x1), (2, .int x2)]) hx hb dX3_goThrough_45 hl (k := 3) rfl (by rw [ey3]; exact congrArg (fun z => x3 + z) (by decide)) (by decide) rfl (fun ls hl => ?_)
        clear ey3
        refine lv_goto (tgt := 15) hx hb dX3_goThrough_48 (by decide) ?_
        exact ih x1 x2 y3 z42.1 z42.2.1 z42.2.2 _ _ _ hH (lv_sub hl [1, 2, 3, 0] rfl) h
set_option maxHeartbeats 4000000 in
set_option maxRecDepth 100000 in
theorem w_X3_goThrough_2 {p : Program} {l : Launch} {e : Env} {s : State} {m : MethodId} {args : Array Value} {below : List Frame} {meth : Method} {c : Code} {G : va_G} {cy : Nat → ClassId} {E : Nat → Nat} {w0 : va_W} {N : Nat} {q_t q_t_burgh q_t_ahead q_t_since q_t_stood q_t_due q_t_left q_t_came q_t_burgh_clockName q_t_burgh_clockCorner q_t_burgh_clockAhead q_t_burgh_clockGain q_t_burgh_masterName q_t_burgh_masterCorner q_t_burgh_masterLate q_t_burgh_masterClock q_t_burgh_masterMeets q_t_burgh_meetName q_t_burgh_meetDue : Nat} {t_minute : Int32} {t_stopped : Int32} {t_burgh_clocks : Int32} {t_burgh_masters : Int32} {t_burgh_meets : Int32} {t_burgh_patience : Int32} {t_burgh_masterMeets : Nat → Int32} {t_burgh_masterClock : Nat → Int32} {t_stood : Nat → Int32} {t_ahead : Nat → Int32} {t_burgh_clockGain : Nat → Int32} {t_since : Nat → Int32} {t_due : Nat → Int32} {t_burgh_masterLate : Nat → Int32} {t_burgh_masterCorner : Nat → Int32} {r_t_out : Int32} {r_t_left : Nat → Int32} {r_t_came : Nat → Int32} (S : CallFix p m c cX3_goThrough 4 s args wsX3_goThrough RX3) (hr : meth.sig.returnType = none) (hlocks : meth.locks = false) (hF : zF G cy E (va_A w0 s.heap.size) s) :
    ∀ (n : Nat) (x1 : Int32) (x2 : Int32) (c_t_out : Int32) (c_t_left : Nat → Int32) (c_t_came : Nat → Int32) (H : Heap) (locs : List Loc) (ls : Array Slot), zH G (va_A w0 s.heap.size) s H locs (wd_X3_goThrough cy q_t q_t_burgh q_t_ahead q_t_since q_t_stood q_t_due q_t_left q_t_came q_t_burgh_clockName q_t_burgh_clockCorner q_t_burgh_clockAhead q_t_burgh_clockGain q_t_burgh_masterName q_t_burgh_masterCorner q_t_burgh_masterLate q_t_burgh_masterClock q_t_burgh_masterMeets q_t_burgh_meetName q_t_burgh_meetDue t_minute c_t_out t_stopped t_burgh_clocks t_burgh_masters t_burgh_meets t_burgh_patience t_burgh_masterMeets c_t_left t_burgh_masterClock t_stood t_ahead t_burgh_clockGain t_since t_due t_burgh_masterLate t_burgh_masterCorner c_t_came) → lv_has ls 4 [(0, .ref q_t), (1, .int x1), (2, .int x2)] → f_X3_goThrough_2 N t_stopped t_burgh_masters t_burgh_meets t_burgh_masterMeets t_burgh_masterClock t_stood t_ahead t_burgh_clockGain t_since t_due t_burgh_masterLate t_burgh_masterCorner n x1 x2 c_t_out c_t_left c_t_came = some (r_t_out, r_t_left, r_t_came) → W p l e rm_X3_goThrough s m args below meth c H locs 0 0 (MQ below (zQ G w0 (wd_X3_goThrough cy q_t q_t_burgh q_t_ahead q_t_since q_t_stood q_t_due q_t_left q_t_came q_t_burgh_clockName q_t_burgh_clockCorner q_t_burgh_clockAhead q_t_burgh_clockGain q_t_burgh_masterName q_t_burgh_masterCorner q_t_burgh_masterLate q_t_burgh_masterClock q_t_burgh_masterMeets q_t_burgh_meetName q_t_burgh_meetDue t_minute r_t_out t_stopped t_burgh_clocks t_burgh_masters t_burgh_meets t_burgh_patience t_burgh_masterMeets r_t_left t_burgh_masterClock t_stood t_ahead t_burgh_clockGain t_since t_due t_burgh_masterLate t_burgh_masterCorner r_t_came) s.heap.size none) args s 0 0 (va_A w0 s.heap.size)) (F0 m 2 ls []) := by
  obtain ⟨hx, hb, hml, hown, hts⟩ := id S
  intro n
  induction n with
  | zero =>
    intro x1 x2 c_t_out c_t_left c_t_came H locs ls hH hl h
    rw [f_X3_goThrough_2] at h
    cases h
  | succ n ih =>
    intro x1 x2 c_t_out c_t_left c_t_came H locs ls hH hl h
    rw [f_X3_goThrough_2] at h
    refine lv_iload_n hx hb dX3_goThrough_2 rfl (lv_at hl 2 rfl) ?_
    refine lv_aload_n hx hb dX3_goThrough_3 rfl (lv_at hl 0 rfl) ?_
    refine z_get S hF hH iX3_goThrough_X3 0 rfl rfl 0 (by decide) (List.mem_of_getElem? (i := 1) rfl) rfl dX3_goThrough_4 ?_
    refine z_get S hF hH iX3_goThrough_X1 1 rfl rfl 2 (by decide) (List.mem_of_getElem? (i := 2) rfl) rfl dX3_goThrough_7 ?_
    refine lv_icmp_ge (tgt := 57) hx hb dX3_goThrough_10 (by decide) (fun b10 => ?_) (fun b10 => ?_)
    · replace h := zif_t b10 h
      cases h
      exact z_vret S hr hlocks hH dX3_goThrough_57
    · replace h := zif_f b10 h
      refine lv_iconst (v := 0) hx hb dX3_goThrough_13 (by decide) ?_
      refine lv_istore_n (lv' := [(3, .int 0), (0, .ref q_t), (1, .int x1), (2, .int x2)]) hx hb dX3_goThrough_14 rfl hl (by decide) rfl (fun ls hl => ?_)
      exact w_X3_goThrough_15 S hr hlocks hF ih N x1 x2 0 c_t_out c_t_left c_t_came _ _ _ hH (lv_sub hl [1, 2, 3, 0] rfl) h
set_option maxHeartbeats 4000000 in
set_option maxRecDepth 100000 in
theorem c_X3_goThrough (l : Launch) (G : va_G) (cy : Nat → ClassId) (E : Nat → Nat) (N : Nat) (q_t q_t_burgh q_t_ahead q_t_since q_t_stood q_t_due q_t_left q_t_came q_t_burgh_clockName q_t_burgh_clockCorner q_t_burgh_clockAhead q_t_burgh_clockGain q_t_burgh_masterName q_t_burgh_masterCorner q_t_burgh_masterLate q_t_burgh_masterClock q_t_burgh_masterMeets q_t_burgh_meetName q_t_burgh_meetDue : Nat) (t_minute : Int32) (t_out : Int32) (t_stopped : Int32) (t_burgh_clocks : Int32) (t_burgh_masters : Int32) (t_burgh_meets : Int32) (t_burgh_patience : Int32) (t_burgh_masterMeets : Nat → Int32) (t_left : Nat → Int32) (t_burgh_masterClock : Nat → Int32) (t_stood : Nat → Int32) (t_ahead : Nat → Int32) (t_burgh_clockGain : Nat → Int32) (t_since : Nat → Int32) (t_due : Nat → Int32) (t_burgh_masterLate : Nat → Int32) (t_burgh_masterCorner : Nat → Int32) (t_came : Nat → Int32) (x0 : Int32) (r_t_out : Int32) (r_t_left : Nat → Int32) (r_t_came : Nat → Int32) (h : f_X3_goThrough N x0 t_out t_stopped t_burgh_masters t_burgh_meets t_burgh_masterMeets t_left t_burgh_masterClock t_stood t_ahead t_burgh_clockGain t_since t_due t_burgh_masterLate t_burgh_masterCorner t_came = some (r_t_out, r_t_left, r_t_came)) : zM l G cy E yX3_goThrough wsX3_goThrough rm_X3_goThrough [.ref q_t, .int x0] (wd_X3_goThrough cy q_t q_t_burgh q_t_ahead q_t_since q_t_stood q_t_due q_t_left q_t_came q_t_burgh_clockName q_t_burgh_clockCorner q_t_burgh_clockAhead q_t_burgh_clockGain q_t_burgh_masterName q_t_burgh_masterCorner q_t_burgh_masterLate q_t_burgh_masterClock q_t_burgh_masterMeets q_t_burgh_meetName q_t_burgh_meetDue t_minute t_out t_stopped t_burgh_clocks t_burgh_masters t_burgh_meets t_burgh_patience t_burgh_masterMeets t_left t_burgh_masterClock t_stood t_ahead t_burgh_clockGain t_since t_due t_burgh_masterLate t_burgh_masterCorner t_came) (wd_X3_goThrough cy q_t q_t_burgh q_t_ahead q_t_since q_t_stood q_t_due q_t_left q_t_came q_t_burgh_clockName q_t_burgh_clockCorner q_t_burgh_clockAhead q_t_burgh_clockGain q_t_burgh_masterName q_t_burgh_masterCorner q_t_burgh_masterLate q_t_burgh_masterClock q_t_burgh_masterMeets q_t_burgh_meetName q_t_burgh_meetDue t_minute r_t_out t_stopped t_burgh_clocks t_burgh_masters t_burgh_meets t_burgh_patience t_burgh_masterMeets r_t_left t_burgh_masterClock t_stood t_ahead t_burgh_clockGain t_since t_due t_burgh_masterLate t_burgh_masterCorner r_t_came) none 0 0 := by
  refine z_body (cc := cX3_goThrough) (maxL := 4) (ret := none) (by decide) rfl (Nat.le_of_ble_eq_true rfl) ?_
  intro p e s m below meth c ls S hr hlocks hnm hF hH hl
  have S : CallFix p m c cX3_goThrough 4 s ([.ref q_t, .int x0] : List Value).toArray wsX3_goThrough RX3 := S
  obtain ⟨hx, hb, hml, hown, hts⟩ := id S
  have hl : lv_has ls 4 [(0, .ref q_t), (1, .int x0)] := hl
  rw [f_X3_goThrough] at h
  refine lv_iconst (v := 0) hx hb dX3_goThrough_0 (by decide) ?_
  refine lv_istore_n (lv' := [(2, .int 0), (0, .ref q_t), (1, .int x0)]) hx hb dX3_goThrough_1 rfl hl (by decide) rfl (fun ls hl => ?_)
  exact w_X3_goThrough_2 S hr hlocks hF N x0 0 t_out t_left t_came _ _ _ hH (lv_sub hl [1, 2, 0] rfl) h
abbrev wd_X3_minutesLeft (cy : Nat → ClassId) (q_t q_t_burgh q_t_ahead q_t_since q_t_stood q_t_due q_t_left q_t_came : Nat) (t_minute : Int32) (t_out : Int32) (t_stopped : Int32) : va_W := [(q_t, .inr (4, [.ref q_t_burgh, .int t_minute, .int t_out, .int t_stopped, .ref q_t_ahead, .ref q_t_since, .ref q_t_stood, .ref q_t_due, .ref q_t_left, .ref q_t_came]))]
theorem iX3_minutesLeft_X3 : ∀ w ∈ wsX30, w ∈ wsX3_minutesLeft := fun _ h => List.mem_cons_of_mem _ (List.mem_append_right _ h)
abbrev rm_X3_minutesLeft : Room := { frames := 0, cells := 0, slots := 0, locals := 0 }
set_option maxRecDepth 100000 in
def f_X3_minutesLeft (N : Nat) (t_minute : Int32) : Option (Int32) := some (2000 - t_minute)
set_option maxHeartbeats 4000000 in
set_option maxRecDepth 100000 in
theorem c_X3_minutesLeft (l : Launch) (G : va_G) (cy : Nat → ClassId) (E : Nat → Nat) (N : Nat) (q_t q_t_burgh q_t_ahead q_t_since q_t_stood q_t_due q_t_left q_t_came : Nat) (t_minute : Int32) (t_out : Int32) (t_stopped : Int32) (r : Int32) (h : f_X3_minutesLeft N t_minute = some r) : zM l G cy E yX3_minutesLeft wsX3_minutesLeft rm_X3_minutesLeft [.ref q_t] (wd_X3_minutesLeft cy q_t q_t_burgh q_t_ahead q_t_since q_t_stood q_t_due q_t_left q_t_came t_minute t_out t_stopped) (wd_X3_minutesLeft cy q_t q_t_burgh q_t_ahead q_t_since q_t_stood q_t_due q_t_left q_t_came t_minute t_out t_stopped) (some (.int r)) 0 0 := by
  refine z_body (cc := cX3_minutesLeft) (maxL := 1) (ret := some .int) (by decide) rfl (Nat.le_of_ble_eq_true rfl) ?_
  intro p e s m below meth c ls S hr hlocks hnm hF hH hl
  have S : CallFix p m c cX3_minutesLeft 1 s ([.ref q_t] : List Value).toArray wsX3_minutesLeft RX3 := S
  obtain ⟨hx, hb, hml, hown, hts⟩ := id S
  have hl : lv_has ls 1 [(0, .ref q_t)] := hl
  rw [f_X3_minutesLeft] at h
  refine lv_sipush (v := 2000) hx hb dX3_minutesLeft_0 (by decide) ?_
  refine lv_aload_n hx hb dX3_minutesLeft_3 rfl (lv_at hl 0 rfl) ?_
  refine z_get S hF hH iX3_minutesLeft_X3 0 rfl rfl 1 (by decide) (List.mem_of_getElem? (i := 1) rfl) rfl dX3_minutesLeft_4 ?_
  refine lv_isub hx hb dX3_minutesLeft_7 ?_
  cases h
  exact z_iret S hr hlocks hH dX3_minutesLeft_8
abbrev wd_X3_quietOf (cy : Nat → ClassId) (q_t q_t_burgh q_t_ahead q_t_since q_t_stood q_t_due q_t_left q_t_came q_t_burgh_clockName q_t_burgh_clockCorner q_t_burgh_clockAhead q_t_burgh_clockGain q_t_burgh_masterName q_t_burgh_masterCorner q_t_burgh_masterLate q_t_burgh_masterClock q_t_burgh_masterMeets q_t_burgh_meetName q_t_burgh_meetDue : Nat) (t_minute : Int32) (t_out : Int32) (t_stopped : Int32) (t_came : Nat → Int32) (t_left : Nat → Int32) (t_burgh_clocks : Int32) (t_burgh_masters : Int32) (t_burgh_meets : Int32) (t_burgh_patience : Int32) (t_burgh_masterCorner : Nat → Int32) (t_burgh_masterClock : Nat → Int32) (t_due : Nat → Int32) (t_burgh_masterLate : Nat → Int32) (t_stood : Nat → Int32) (t_ahead : Nat → Int32) (t_burgh_clockGain : Nat → Int32) (t_since : Nat → Int32) : va_W := [(q_t, .inr (4, [.ref q_t_burgh, .int t_minute, .int t_out, .int t_stopped, .ref q_t_ahead, .ref q_t_since, .ref q_t_stood, .ref q_t_due, .ref q_t_left, .ref q_t_came])), (q_t_came, .inl (cy 1, 36, .inl t_came)), (q_t_left, .inl (cy 1, 36, .inl t_left)), (q_t_burgh, .inr (2, [.int t_burgh_clocks, .int t_burgh_masters, .int t_burgh_meets, .int t_burgh_patience, .ref q_t_burgh_clockName, .ref q_t_burgh_clockCorner, .ref q_t_burgh_clockAhead, .ref q_t_burgh_clockGain, .ref q_t_burgh_masterName, .ref q_t_burgh_masterCorner, .ref q_t_burgh_masterLate, .ref q_t_burgh_masterClock, .ref q_t_burgh_masterMeets, .ref q_t_burgh_meetName, .ref q_t_burgh_meetDue])), (q_t_burgh_masterCorner, .inl (cy 1, 6, .inl t_burgh_masterCorner)), (q_t_burgh_masterClock, .inl (cy 1, 6, .inl t_burgh_masterClock)), (q_t_due, .inl (cy 1, 6, .inl t_due)), (q_t_burgh_masterLate, .inl (cy 1, 6, .inl t_burgh_masterLate)), (q_t_stood, .inl (cy 1, 6, .inl t_stood)), (q_t_ahead, .inl (cy 1, 6, .inl t_ahead)), (q_t_burgh_clockGain, .inl (cy 1, 6, .inl t_burgh_clockGain)), (q_t_since, .inl (cy 1, 6, .inl t_since))]
theorem iX3_quietOf_X1 : ∀ w ∈ wsX10, w ∈ wsX3_quietOf := fun _ h => List.mem_cons_of_mem _ (List.mem_append_right _ h)
theorem iX3_quietOf_X3 : ∀ w ∈ wsX30, w ∈ wsX3_quietOf := fun _ h => List.mem_cons_of_mem _ (List.mem_append_left _ (List.mem_append_right _ h))
abbrev rm_X3_quietOf : Room := { frames := 2, cells := 0, slots := 0, locals := 43 }
set_option maxRecDepth 100000 in
def f_X3_quietOf (N : Nat) (x0 : Int32) (x1 : Int32) (x2 : Int32) (t_out : Int32) (t_stopped : Int32) (t_came : Nat → Int32) (t_left : Nat → Int32) (t_burgh_masterCorner : Nat → Int32) (t_burgh_masterClock : Nat → Int32) (t_due : Nat → Int32) (t_burgh_masterLate : Nat → Int32) (t_stood : Nat → Int32) (t_ahead : Nat → Int32) (t_burgh_clockGain : Nat → Int32) (t_since : Nat → Int32) : Option (Int32) := zcl (f_X11_slot N x0 x1) fun z2 => zck (zin z2 36) <| if (t_came (Int32.toNatClampNeg z2)) = (-1) then (if (t_left (Int32.toNatClampNeg z2)) = (-1) then (zcl (f_X3_isOut N x0 t_out) fun z59 => if z59 = 0 then (zck (zin x0 6) <| zbn ((t_burgh_masterClock (Int32.toNatClampNeg x0))) fun y1 => zck (zin x1 6) <| zcl (f_X3_reads N y1 x2 t_stopped t_stood t_ahead t_burgh_clockGain t_since) fun z100 => zbn ((((t_due (Int32.toNatClampNeg x1)) + (t_burgh_masterLate (Int32.toNatClampNeg x0))) - z100)) fun y2 => if 0 < y2 then (zcl (f_X3_isStopped N y1 t_stopped) fun z116 => if z116 = 0 then (zck (zin y1 6) <| some (zmin y2 (60 - (zrem (x2 - (t_since (Int32.toNatClampNeg y1))) 60)))) else (some 2000)) else (some 0)) else (some 2000)) else (zck (zin x0 6) <| some (zmax 0 (((t_left (Int32.toNatClampNeg z2)) + (t_burgh_masterCorner (Int32.toNatClampNeg x0))) - x2)))) else (some 2000)
set_option maxHeartbeats 4000000 in
set_option maxRecDepth 100000 in
theorem c_X3_quietOf (l : Launch) (G : va_G) (cy : Nat → ClassId) (E : Nat → Nat) (N : Nat) (q_t q_t_burgh q_t_ahead q_t_since q_t_stood q_t_due q_t_left q_t_came q_t_burgh_clockName q_t_burgh_clockCorner q_t_burgh_clockAhead q_t_burgh_clockGain q_t_burgh_masterName q_t_burgh_masterCorner q_t_burgh_masterLate q_t_burgh_masterClock q_t_burgh_masterMeets q_t_burgh_meetName q_t_burgh_meetDue : Nat) (t_minute : Int32) (t_out : Int32) (t_stopped : Int32) (t_came : Nat → Int32) (t_left : Nat → Int32) (t_burgh_clocks : Int32) (t_burgh_masters : Int32) (t_burgh_meets : Int32) (t_burgh_patience : Int32) (t_burgh_masterCorner : Nat → Int32) (t_burgh_masterClock : Nat → Int32) (t_due : Nat → Int32) (t_burgh_masterLate : Nat → Int32) (t_stood : Nat → Int32) (t_ahead : Nat → Int32) (t_burgh_clockGain : Nat → Int32) (t_since : Nat → Int32) (x0 : Int32) (x1 : Int32) (x2 : Int32) (r : Int32) (h : f_X3_quietOf N x0 x1 x2 t_out t_stopped t_came t_left t_burgh_masterCorner t_burgh_masterClock t_due t_burgh_masterLate t_stood t_ahead t_burgh_clockGain t_since = some r) : zM l G cy E yX3_quietOf wsX3_quietOf rm_X3_quietOf [.ref q_t, .int x0, .int x1, .int x2] (wd_X3_quietOf cy q_t q_t_burgh q_t_ahead q_t_since q_t_stood q_t_due q_t_left q_t_came q_t_burgh_clockName q_t_burgh_clockCorner q_t_burgh_clockAhead q_t_burgh_clockGain q_t_burgh_masterName q_t_burgh_masterCorner q_t_burgh_masterLate q_t_burgh_masterClock q_t_burgh_masterMeets q_t_burgh_meetName q_t_burgh_meetDue t_minute t_out t_stopped t_came t_left t_burgh_clocks t_burgh_masters t_burgh_meets t_burgh_patience t_burgh_masterCorner t_burgh_masterClock t_due t_burgh_masterLate t_stood t_ahead t_burgh_clockGain t_since) (wd_X3_quietOf cy q_t q_t_burgh q_t_ahead q_t_since q_t_stood q_t_due q_t_left q_t_came q_t_burgh_clockName q_t_burgh_clockCorner q_t_burgh_clockAhead q_t_burgh_clockGain q_t_burgh_masterName q_t_burgh_masterCorner q_t_burgh_masterLate q_t_burgh_masterClock q_t_burgh_masterMeets q_t_burgh_meetName q_t_burgh_meetDue t_minute t_out t_stopped t_came t_left t_burgh_clocks t_burgh_masters t_burgh_meets t_burgh_patience t_burgh_masterCorner t_burgh_masterClock t_due t_burgh_masterLate t_stood t_ahead t_burgh_clockGain t_since) (some (.int r)) 0 0 := by
  refine z_body (cc := cX3_quietOf) (maxL := 7) (ret := some .int) (by decide) rfl (Nat.le_of_ble_eq_true rfl) ?_
  intro p e s m below meth c ls S hr hlocks hnm hF hH hl
  have S : CallFix p m c cX3_quietOf 7 s ([.ref q_t, .int x0, .int x1, .int x2] : List Value).toArray wsX3_quietOf RX3 := S
  obtain ⟨hx, hb, hml, hown, hts⟩ := id S
  have hl : lv_has ls 7 [(0, .ref q_t), (1, .int x0), (2, .int x1), (3, .int x2)] := hl
  rw [f_X3_quietOf] at h
  refine lv_iload_n hx hb dX3_quietOf_0 rfl (lv_at hl 1 rfl) ?_
  refine lv_iload_n hx hb dX3_quietOf_1 rfl (lv_at hl 2 rfl) ?_
  obtain ⟨z2, hz2, h⟩ := zcl_e h
  refine z_callSN (As := [.int x0, .int x1]) (rest := []) (st1 := [.int z2]) (ws' := (wd_X3_quietOf cy q_t q_t_burgh q_t_ahead q_t_since q_t_stood q_t_due q_t_left q_t_came q_t_burgh_clockName q_t_burgh_clockCorner q_t_burgh_clockAhead q_t_burgh_clockGain q_t_burgh_masterName q_t_burgh_masterCorner q_t_burgh_masterLate q_t_burgh_masterClock q_t_burgh_masterMeets q_t_burgh_meetName q_t_burgh_meetDue t_minute t_out t_stopped t_came t_left t_burgh_clocks t_burgh_masters t_burgh_meets t_burgh_patience t_burgh_masterCorner t_burgh_masterClock t_due t_burgh_masterLate t_stood t_ahead t_burgh_clockGain t_since)) S hF hH (c_X11_slot l G cy E N x0 x1 z2 hz2) ⟨va_cnB 2 hts gX3_quietOf_X11_slot_n131 rfl rfl rfl (hF.2.1.1 _ (List.mem_of_getElem? (i := 8) rfl)) (hts _ (List.mem_of_getElem? (i := 17) rfl)) (by decide +kernel) ⟨Nat.le_of_ble_eq_true rfl, Nat.le_of_ble_eq_true rfl⟩, hts _ (List.mem_of_getElem? (i := 16) rfl), trivial⟩ [] rfl (by decide) rfl rfl rfl rfl rfl hl.1 (Nat.le_of_ble_eq_true rfl) dX3_quietOf_2 ⟨Nat.le_of_ble_eq_true rfl, Nat.le_of_ble_eq_true rfl⟩ (fun H locs hH => ?_)
  refine lv_istore (lv' := [(4, .int z2), (0, .ref q_t), (1, .int x0), (2, .int x1), (3, .int x2)]) hx hb dX3_quietOf_5 hl (by decide) rfl (fun ls hl => ?_)
  refine lv_aload_n hx hb dX3_quietOf_7 rfl (lv_at hl 1 rfl) ?_
  refine z_get S hF hH iX3_quietOf_X3 0 rfl rfl 9 (by decide) (List.mem_of_getElem? (i := 1) rfl) rfl dX3_quietOf_8 ?_
  refine lv_iload hx hb dX3_quietOf_11 (lv_at hl 0 rfl) ?_
  obtain ⟨h13, h⟩ := zck_e h
  refine z_iald S hF hH 1 rfl h13 rfl dX3_quietOf_13 ?_
  refine lv_iconst (v := (-1)) hx hb dX3_quietOf_14 (by decide) ?_
  refine lv_icmp_eq (tgt := 22) hx hb dX3_quietOf_15 (by decide) (fun b15 => ?_) (fun b15 => ?_)
  · replace h := zif_t b15 h
    refine lv_aload_n hx hb dX3_quietOf_22 rfl (lv_at hl 1 rfl) ?_
    refine z_get S hF hH iX3_quietOf_X3 0 rfl rfl 8 (by decide) (List.mem_of_getElem? (i := 2) rfl) rfl dX3_quietOf_23 ?_
    refine lv_iload hx hb dX3_quietOf_26 (lv_at hl 0 rfl) ?_
    refine z_iald S hF hH 2 rfl h13 rfl dX3_quietOf_28 ?_
    refine lv_iconst (v := (-1)) hx hb dX3_quietOf_29 (by decide) ?_
    refine lv_icmp_eq (tgt := 57) hx hb dX3_quietOf_30 (by decide) (fun b30 => ?_) (fun b30 => ?_)
    · replace h := zif_t b30 h
      refine lv_aload_n hx hb dX3_quietOf_57 rfl (lv_at hl 1 rfl) ?_
      refine lv_iload_n hx hb dX3_quietOf_58 rfl (lv_at hl 2 rfl) ?_
      obtain ⟨z59, hz59, h⟩ := zcl_e h
      refine z_callV (As := [.int x0]) (rest := []) (st1 := [.int z59]) (ws' := (wd_X3_quietOf cy q_t q_t_burgh q_t_ahead q_t_since q_t_stood q_t_due q_t_left q_t_came q_t_burgh_clockName q_t_burgh_clockCorner q_t_burgh_clockAhead q_t_burgh_clockGain q_t_burgh_masterName q_t_burgh_masterCorner q_t_burgh_masterLate q_t_burgh_masterClock q_t_burgh_masterMeets q_t_burgh_meetName q_t_burgh_meetDue t_minute t_out t_stopped t_came t_left t_burgh_clocks t_burgh_masters t_burgh_meets t_burgh_patience t_burgh_masterCorner t_burgh_masterClock t_due t_burgh_masterLate t_stood t_ahead t_burgh_clockGain t_since)) S hF hH (c_X3_isOut l G cy E N q_t q_t_burgh q_t_ahead q_t_since q_t_stood q_t_due q_t_left q_t_came t_minute t_out t_stopped x0 z59 hz59) (cwV 1 hts gX3_quietOf_X3_isOut rfl rfl rfl (by decide +kernel) ⟨Nat.le_of_ble_eq_true rfl, Nat.le_of_ble_eq_true rfl⟩) 4 0 rfl rfl [0] rfl (by decide) rfl rfl rfl rfl rfl hl.1 (Nat.le_of_ble_eq_true rfl) dX3_quietOf_59 ⟨Nat.le_of_ble_eq_true rfl, Nat.le_of_ble_eq_true rfl⟩ (fun H locs hH => ?_)
      refine lv_if_eq (tgt := 69) hx hb dX3_quietOf_62 (by decide) (fun b62 => ?_) (fun b62 => ?_)
      · replace h := zif_t b62 h
        refine lv_aload_n hx hb dX3_quietOf_69 rfl (lv_at hl 1 rfl) ?_
        refine z_get S hF hH iX3_quietOf_X3 0 rfl rfl 0 (by decide) (List.mem_of_getElem? (i := 3) rfl) rfl dX3_quietOf_70 ?_
        refine z_get S hF hH iX3_quietOf_X1 3 rfl rfl 11 (by decide) (List.mem_of_getElem? (i := 9) rfl) rfl dX3_quietOf_73 ?_
        refine lv_iload_n hx hb dX3_quietOf_76 rfl (lv_at hl 2 rfl) ?_
        obtain ⟨h77, h⟩ := zck_e h
        refine z_iald S hF hH 5 rfl h77 rfl dX3_quietOf_77 ?_
        obtain ⟨y1, ey1, h⟩ := zbn_e h
        refine z_top ey1 ?_
        clear ey1
        refine lv_istore (lv' := [(5, .int y1), (4, .int z2), (0, .ref q_t), (1, .int x0), (2, .int x1), (3, .int x2)]) hx hb dX3_quietOf_78 hl (by decide) rfl (fun ls hl => ?_)
        refine lv_aload_n hx hb dX3_quietOf_80 rfl (lv_at hl 2 rfl) ?_
        refine z_get S hF hH iX3_quietOf_X3 0 rfl rfl 7 (by decide) (List.mem_of_getElem? (i := 10) rfl) rfl dX3_quietOf_81 ?_
        refine lv_iload_n hx hb dX3_quietOf_84 rfl (lv_at hl 4 rfl) ?_
        obtain ⟨h85, h⟩ := zck_e h
        refine z_iald S hF hH 6 rfl h85 rfl dX3_quietOf_85 ?_
        refine lv_aload_n hx hb dX3_quietOf_86 rfl (lv_at hl 2 rfl) ?_
        refine z_get S hF hH iX3_quietOf_X3 0 rfl rfl 0 (by decide) (List.mem_of_getElem? (i := 3) rfl) rfl dX3_quietOf_87 ?_
        refine z_get S hF hH iX3_quietOf_X1 3 rfl rfl 10 (by decide) (List.mem_of_getElem? (i := 11) rfl) rfl dX3_quietOf_90 ?_
        refine lv_iload_n hx hb dX3_quietOf_93 rfl (lv_at hl 3 rfl) ?_
        refine z_iald S hF hH 7 rfl h77 rfl dX3_quietOf_94 ?_
        refine lv_iadd hx hb dX3_quietOf_95 ?_
        refine lv_aload_n hx hb dX3_quietOf_96 rfl (lv_at hl 2 rfl) ?_
        refine lv_iload hx hb dX3_quietOf_97 (lv_at hl 0 rfl) ?_
        refine lv_iload_n hx hb dX3_quietOf_99 rfl (lv_at hl 5 rfl) ?_
        obtain ⟨z100, hz100, h⟩ := zcl_e h
        refine z_callV (As := [.int y1, .int x2]) (rest := [.int ((t_due (Int32.toNatClampNeg x1)) + (t_burgh_masterLate (Int32.toNatClampNeg x0)))]) (st1 := [.int z100, .int ((t_due (Int32.toNatClampNeg x1)) + (t_burgh_masterLate (Int32.toNatClampNeg x0)))]) (ws' := (wd_X3_quietOf cy q_t q_t_burgh q_t_ahead q_t_since q_t_stood q_t_due q_t_left q_t_came q_t_burgh_clockName q_t_burgh_clockCorner q_t_burgh_clockAhead q_t_burgh_clockGain q_t_burgh_masterName q_t_burgh_masterCorner q_t_burgh_masterLate q_t_burgh_masterClock q_t_burgh_masterMeets q_t_burgh_meetName q_t_burgh_meetDue t_minute t_out t_stopped t_came t_left t_burgh_clocks t_burgh_masters t_burgh_meets t_burgh_patience t_burgh_masterCorner t_burgh_masterClock t_due t_burgh_masterLate t_stood t_ahead t_burgh_clockGain t_since)) S hF hH (c_X3_reads l G cy E N q_t q_t_burgh q_t_ahead q_t_since q_t_stood q_t_due q_t_left q_t_came q_t_burgh_clockName q_t_burgh_clockCorner q_t_burgh_clockAhead q_t_burgh_clockGain q_t_burgh_masterName q_t_burgh_masterCorner q_t_burgh_masterLate q_t_burgh_masterClock q_t_burgh_masterMeets q_t_burgh_meetName q_t_burgh_meetDue t_minute t_out t_stopped t_stood t_ahead t_burgh_clocks t_burgh_masters t_burgh_meets t_burgh_patience t_burgh_clockGain t_since y1 x2 z100 hz100) (cwV 2 hts gX3_quietOf_X3_reads rfl rfl rfl (by decide +kernel) ⟨Nat.le_of_ble_eq_true rfl, Nat.le_of_ble_eq_true rfl⟩) 4 0 rfl rfl [0, 8, 9, 3, 10, 11] rfl (by decide) rfl rfl rfl rfl rfl hl.1 (Nat.le_of_ble_eq_true rfl) dX3_quietOf_100 ⟨Nat.le_of_ble_eq_true rfl, Nat.le_of_ble_eq_true rfl⟩ (fun H locs hH => ?_)
        refine lv_isub hx hb dX3_quietOf_103 ?_
        obtain ⟨y2, ey2, h⟩ := zbn_e h
        refine z_top ey2 ?_
        clear ey2
        refine lv_istore (lv' := [(6, .int y2), (5, .int y1), (4, .int z2), (0, .ref q_t), (1, .int x0), (2, .int x1), (3, .int x2)]) hx hb dX3_quietOf_104 hl (by decide) rfl (fun ls hl => ?_)
        refine lv_iload hx hb dX3_quietOf_106 (lv_at hl 0 rfl) ?_
        refine lv_if_gt (tgt := 113) hx hb dX3_quietOf_108 (by decide) (fun b108 => ?_) (fun b108 => ?_)
        · replace h := zif_t b108 h
          refine lv_aload_n hx hb dX3_quietOf_113 rfl (lv_at hl 3 rfl) ?_
          refine lv_iload hx hb dX3_quietOf_114 (lv_at hl 1 rfl) ?_
          obtain ⟨z116, hz116, h⟩ := zcl_e h
          refine z_callV (As := [.int y1]) (rest := []) (st1 := [.int z116]) (ws' := (wd_X3_quietOf cy q_t q_t_burgh q_t_ahead q_t_since q_t_stood q_t_due q_t_left q_t_came q_t_burgh_clockName q_t_burgh_clockCorner q_t_burgh_clockAhead q_t_burgh_clockGain q_t_burgh_masterName q_t_burgh_masterCorner q_t_burgh_masterLate q_t_burgh_masterClock q_t_burgh_masterMeets q_t_burgh_meetName q_t_burgh_meetDue t_minute t_out t_stopped t_came t_left t_burgh_clocks t_burgh_masters t_burgh_meets t_burgh_patience t_burgh_masterCorner t_burgh_masterClock t_due t_burgh_masterLate t_stood t_ahead t_burgh_clockGain t_since)) S hF hH (c_X3_isStopped l G cy E N q_t q_t_burgh q_t_ahead q_t_since q_t_stood q_t_due q_t_left q_t_came t_minute t_out t_stopped y1 z116 hz116) (cwV 1 hts gX3_quietOf_X3_isStopped rfl rfl rfl (by decide +kernel) ⟨Nat.le_of_ble_eq_true rfl, Nat.le_of_ble_eq_true rfl⟩) 4 0 rfl rfl [0] rfl (by decide) rfl rfl rfl rfl rfl hl.1 (Nat.le_of_ble_eq_true rfl) dX3_quietOf_116 ⟨Nat.le_of_ble_eq_true rfl, Nat.le_of_ble_eq_true rfl⟩ (fun H locs hH => ?_)
          refine lv_if_eq (tgt := 128) hx hb dX3_quietOf_119 (by decide) (fun b119 => ?_) (fun b119 => ?_)
          · replace h := zif_t b119 h
            refine lv_iload hx hb dX3_quietOf_128 (lv_at hl 0 rfl) ?_
            refine lv_bipush (v := 60) hx hb dX3_quietOf_130 (by decide) ?_
            refine lv_iload_n hx hb dX3_quietOf_132 rfl (lv_at hl 6 rfl) ?_
            refine lv_aload_n hx hb dX3_quietOf_133 rfl (lv_at hl 3 rfl) ?_
            refine z_get S hF hH iX3_quietOf_X3 0 rfl rfl 5 (by decide) (List.mem_of_getElem? (i := 12) rfl) rfl dX3_quietOf_134 ?_
            refine lv_iload hx hb dX3_quietOf_137 (lv_at hl 1 rfl) ?_
            obtain ⟨h139, h⟩ := zck_e h
            refine z_iald S hF hH 11 rfl h139 rfl dX3_quietOf_139 ?_
            refine lv_isub hx hb dX3_quietOf_140 ?_
            refine lv_bipush (v := 60) hx hb dX3_quietOf_141 (by decide) ?_
            refine z_irem hx hb dX3_quietOf_143 (by decide) ?_
            refine lv_isub hx hb dX3_quietOf_144 ?_
            refine z_mmin S hl.1 (List.mem_of_getElem? (i := 13) rfl) (List.mem_of_getElem? (i := 14) rfl) (List.mem_of_getElem? (i := 7) rfl) (List.mem_of_getElem? (i := 15) rfl) (Nat.le_of_ble_eq_true rfl) (Nat.le_of_ble_eq_true rfl) (Nat.le_of_ble_eq_true rfl) (Nat.le_of_ble_eq_true rfl) dX3_quietOf_145 ?_
            cases h
            exact z_iret S hr hlocks hH dX3_quietOf_148
          · replace h := zif_f b119 h
            refine lv_sipush (v := 2000) hx hb dX3_quietOf_122 (by decide) ?_
            refine lv_goto (tgt := 148) hx hb dX3_quietOf_125 (by decide) ?_
            cases h
            exact z_iret S hr hlocks hH dX3_quietOf_148
        · replace h := zif_f b108 h
          refine lv_iconst (v := 0) hx hb dX3_quietOf_111 (by decide) ?_
          cases h
          exact z_iret S hr hlocks hH dX3_quietOf_112
      · replace h := zif_f b62 h
        refine lv_sipush (v := 2000) hx hb dX3_quietOf_65 (by decide) ?_
        cases h
        exact z_iret S hr hlocks hH dX3_quietOf_68
    · replace h := zif_f b30 h
      refine lv_iconst (v := 0) hx hb dX3_quietOf_33 (by decide) ?_
      refine lv_aload_n hx hb dX3_quietOf_34 rfl (lv_at hl 1 rfl) ?_
      refine z_get S hF hH iX3_quietOf_X3 0 rfl rfl 8 (by decide) (List.mem_of_getElem? (i := 2) rfl) rfl dX3_quietOf_35 ?_
      refine lv_iload hx hb dX3_quietOf_38 (lv_at hl 0 rfl) ?_
      refine z_iald S hF hH 2 rfl h13 rfl dX3_quietOf_40 ?_
      refine lv_aload_n hx hb dX3_quietOf_41 rfl (lv_at hl 1 rfl) ?_
      refine z_get S hF hH iX3_quietOf_X3 0 rfl rfl 0 (by decide) (List.mem_of_getElem? (i := 3) rfl) rfl dX3_quietOf_42 ?_
      refine z_get S hF hH iX3_quietOf_X1 3 rfl rfl 9 (by decide) (List.mem_of_getElem? (i := 4) rfl) rfl dX3_quietOf_45 ?_
      refine lv_iload_n hx hb dX3_quietOf_48 rfl (lv_at hl 2 rfl) ?_
      obtain ⟨h49, h⟩ := zck_e h
      refine z_iald S hF hH 4 rfl h49 rfl dX3_quietOf_49 ?_
      refine lv_iadd hx hb dX3_quietOf_50 ?_
      refine lv_iload_n hx hb dX3_quietOf_51 rfl (lv_at hl 4 rfl) ?_
      refine lv_isub hx hb dX3_quietOf_52 ?_
      refine z_mmax S hl.1 (List.mem_of_getElem? (i := 5) rfl) (List.mem_of_getElem? (i := 6) rfl) (List.mem_of_getElem? (i := 7) rfl) (List.mem_of_getElem? (i := 8) rfl) (Nat.le_of_ble_eq_true rfl) (Nat.le_of_ble_eq_true rfl) (Nat.le_of_ble_eq_true rfl) (Nat.le_of_ble_eq_true rfl) dX3_quietOf_53 ?_
      cases h
      exact z_iret S hr hlocks hH dX3_quietOf_56
  · replace h := zif_f b15 h
    refine lv_sipush (v := 2000) hx hb dX3_quietOf_18 (by decide) ?_
    cases h
    exact z_iret S hr hlocks hH dX3_quietOf_21
abbrev wd_X3_quietFrom (cy : Nat → ClassId) (q_t q_t_burgh q_t_ahead q_t_since q_t_stood q_t_due q_t_left q_t_came q_t_burgh_clockName q_t_burgh_clockCorner q_t_burgh_clockAhead q_t_burgh_clockGain q_t_burgh_masterName q_t_burgh_masterCorner q_t_burgh_masterLate q_t_burgh_masterClock q_t_burgh_masterMeets q_t_burgh_meetName q_t_burgh_meetDue : Nat) (t_minute : Int32) (t_out : Int32) (t_stopped : Int32) (t_burgh_clocks : Int32) (t_burgh_masters : Int32) (t_burgh_meets : Int32) (t_burgh_patience : Int32) (t_burgh_masterMeets : Nat → Int32) (t_came : Nat → Int32) (t_left : Nat → Int32) (t_burgh_masterCorner : Nat → Int32) (t_burgh_masterClock : Nat → Int32) (t_due : Nat → Int32) (t_burgh_masterLate : Nat → Int32) (t_stood : Nat → Int32) (t_ahead : Nat → Int32) (t_burgh_clockGain : Nat → Int32) (t_since : Nat → Int32) : va_W := [(q_t, .inr (4, [.ref q_t_burgh, .int t_minute, .int t_out, .int t_stopped, .ref q_t_ahead, .ref q_t_since, .ref q_t_stood, .ref q_t_due, .ref q_t_left, .ref q_t_came])), (q_t_burgh, .inr (2, [.int t_burgh_clocks, .int t_burgh_masters, .int t_burgh_meets, .int t_burgh_patience, .ref q_t_burgh_clockName, .ref q_t_burgh_clockCorner, .ref q_t_burgh_clockAhead, .ref q_t_burgh_clockGain, .ref q_t_burgh_masterName, .ref q_t_burgh_masterCorner, .ref q_t_burgh_masterLate, .ref q_t_burgh_masterClock, .ref q_t_burgh_masterMeets, .ref q_t_burgh_meetName, .ref q_t_burgh_meetDue])), (q_t_burgh_masterMeets, .inl (cy 1, 6, .inl t_burgh_masterMeets)), (q_t_came, .inl (cy 1, 36, .inl t_came)), (q_t_left, .inl (cy 1, 36, .inl t_left)), (q_t_burgh_masterCorner, .inl (cy 1, 6, .inl t_burgh_masterCorner)), (q_t_burgh_masterClock, .inl (cy 1, 6, .inl t_burgh_masterClock)), (q_t_due, .inl (cy 1, 6, .inl t_due)), (q_t_burgh_masterLate, .inl (cy 1, 6, .inl t_burgh_masterLate)), (q_t_stood, .inl (cy 1, 6, .inl t_stood)), (q_t_ahead, .inl (cy 1, 6, .inl t_ahead)), (q_t_burgh_clockGain, .inl (cy 1, 6, .inl t_burgh_clockGain)), (q_t_since, .inl (cy 1, 6, .inl t_since))]
theorem iX3_quietFrom_X1 : ∀ w ∈ wsX10, w ∈ wsX3_quietFrom := fun _ h => List.mem_cons_of_mem _ (List.mem_append_right _ h)
theorem iX3_quietFrom_X3 : ∀ w ∈ wsX30, w ∈ wsX3_quietFrom := fun _ h => List.mem_cons_of_mem _ (List.mem_append_left _ (List.mem_append_right _ h))
abbrev rm_X3_quietFrom : Room := { frames := 3, cells := 0, slots := 0, locals := 69 }
set_option maxRecDepth 100000 in
def f_X3_quietFrom_20 (N : Nat) (t_out : Int32) (t_stopped : Int32) (t_burgh_masters : Int32) (t_burgh_meets : Int32) (t_burgh_masterMeets : Nat → Int32) (t_came : Nat → Int32) (t_left : Nat → Int32) (t_burgh_masterCorner : Nat → Int32) (t_burgh_masterClock : Nat → Int32) (t_due : Nat → Int32) (t_burgh_masterLate : Nat → Int32) (t_stood : Nat → Int32) (t_ahead : Nat → Int32) (t_burgh_clockGain : Nat → Int32) (t_since : Nat → Int32) (k_6 : Int32 → Int32 → Int32 → Option (Int32)) : Nat → Int32 → Int32 → Int32 → Int32 → Option (Int32)
  | 0, _, _, _, _ => none
  | n + 1, x1, x2, x3, x4 => if t_burgh_meets ≤ x4 then (zbn (x3 + 1) fun y1 => k_6 x1 x2 y1) else (zcl (f_X1_isToCome N x3 x4 t_burgh_masterMeets) fun z39 => if z39 = 0 then (zbn (x4 + 1) fun y2 => f_X3_quietFrom_20 N t_out t_stopped t_burgh_masters t_burgh_meets t_burgh_masterMeets t_came t_left t_burgh_masterCorner t_burgh_masterClock t_due t_burgh_masterLate t_stood t_ahead t_burgh_clockGain t_since k_6 n x1 x2 x3 y2) else (zcl (f_X3_quietOf N x3 x4 x1 t_out t_stopped t_came t_left t_burgh_masterCorner t_burgh_masterClock t_due t_burgh_masterLate t_stood t_ahead t_burgh_clockGain t_since) fun z51 => zbn ((zmin x2 z51)) fun y3 => zbn (x4 + 1) fun y4 => f_X3_quietFrom_20 N t_out t_stopped t_burgh_masters t_burgh_meets t_burgh_masterMeets t_came t_left t_burgh_masterCorner t_burgh_masterClock t_due t_burgh_masterLate t_stood t_ahead t_burgh_clockGain t_since k_6 n x1 y3 x3 y4))
set_option maxRecDepth 100000 in
def f_X3_quietFrom_6 (N : Nat) (t_out : Int32) (t_stopped : Int32) (t_burgh_masters : Int32) (t_burgh_meets : Int32) (t_burgh_masterMeets : Nat → Int32) (t_came : Nat → Int32) (t_left : Nat → Int32) (t_burgh_masterCorner : Nat → Int32) (t_burgh_masterClock : Nat → Int32) (t_due : Nat → Int32) (t_burgh_masterLate : Nat → Int32) (t_stood : Nat → Int32) (t_ahead : Nat → Int32) (t_burgh_clockGain : Nat → Int32) (t_since : Nat → Int32) : Nat → Int32 → Int32 → Int32 → Option (Int32)
  | 0, _, _, _ => none
  | n + 1, x1, x2, x3 => if t_burgh_masters ≤ x3 then (some x2) else (f_X3_quietFrom_20 N t_out t_stopped t_burgh_masters t_burgh_meets t_burgh_masterMeets t_came t_left t_burgh_masterCorner t_burgh_masterClock t_due t_burgh_masterLate t_stood t_ahead t_burgh_clockGain t_since (f_X3_quietFrom_6 N t_out t_stopped t_burgh_masters t_burgh_meets t_burgh_masterMeets t_came t_left t_burgh_masterCorner t_burgh_masterClock t_due t_burgh_masterLate t_stood t_ahead t_burgh_clockGain t_since n) N x1 x2 x3 0)
set_option maxRecDepth 100000 in
def f_X3_quietFrom (N : Nat) (x0 : Int32) (t_out : Int32) (t_stopped : Int32) (t_burgh_masters : Int32) (t_burgh_meets : Int32) (t_burgh_masterMeets : Nat → Int32) (t_came : Nat → Int32) (t_left : Nat → Int32) (t_burgh_masterCorner : Nat → Int32) (t_burgh_masterClock : Nat → Int32) (t_due : Nat → Int32) (t_burgh_masterLate : Nat → Int32) (t_stood : Nat → Int32) (t_ahead : Nat → Int32) (t_burgh_clockGain : Nat → Int32) (t_since : Nat → Int32) : Option (Int32) := f_X3_quietFrom_6 N t_out t_stopped t_burgh_masters t_burgh_meets t_burgh_masterMeets t_came t_left t_burgh_masterCorner t_burgh_masterClock t_due t_burgh_masterLate t_stood t_ahead t_burgh_clockGain t_since N x0 2000 0
set_option maxHeartbeats 4000000 in
set_option maxRecDepth 100000 in
theorem w_X3_quietFrom_20 {p : Program} {l : Launch} {e : Env} {s : State} {m : MethodId} {args : Array Value} {below : List Frame} {meth : Method} {c : Code} {G : va_G} {cy : Nat → ClassId} {E : Nat → Nat} {w0 : va_W} {N : Nat} {q_t q_t_burgh q_t_ahead q_t_since q_t_stood q_t_due q_t_left q_t_came q_t_burgh_clockName q_t_burgh_clockCorner q_t_burgh_clockAhead q_t_burgh_clockGain q_t_burgh_masterName q_t_burgh_masterCorner q_t_burgh_masterLate q_t_burgh_masterClock q_t_burgh_masterMeets q_t_burgh_meetName q_t_burgh_meetDue : Nat} {t_minute : Int32} {t_out : Int32} {t_stopped : Int32} {t_burgh_clocks : Int32} {t_burgh_masters : Int32} {t_burgh_meets : Int32} {t_burgh_patience : Int32} {t_burgh_masterMeets : Nat → Int32} {t_came : Nat → Int32} {t_left : Nat → Int32} {t_burgh_masterCorner : Nat → Int32} {t_burgh_masterClock : Nat → Int32} {t_due : Nat → Int32} {t_burgh_masterLate : Nat → Int32} {t_stood : Nat → Int32} {t_ahead : Nat → Int32} {t_burgh_clockGain : Nat → Int32} {t_since : Nat → Int32} {r : Int32} {k_6 : Int32 → Int32 → Int32 → Option (Int32)} (S : CallFix p m c cX3_quietFrom 5 s args wsX3_quietFrom RX3) (hr : meth.sig.returnType = some .int) (hlocks : meth.locks = false) (hF : zF G cy E (va_A w0 s.heap.size) s) (hk_6 : ∀ (x1 : Int32) (x2 : Int32) (x3 : Int32) (H : Heap) (locs : List Loc) (ls : Array Slot), zH G (va_A w0 s.heap.size) s H locs (wd_X3_quietFrom cy q_t q_t_burgh q_t_ahead q_t_since q_t_stood q_t_due q_t_left q_t_came q_t_burgh_clockName q_t_burgh_clockCorner q_t_burgh_clockAhead q_t_burgh_clockGain q_t_burgh_masterName q_t_burgh_masterCorner q_t_burgh_masterLate q_t_burgh_masterClock q_t_burgh_masterMeets q_t_burgh_meetName q_t_burgh_meetDue t_minute t_out t_stopped t_burgh_clocks t_burgh_masters t_burgh_meets t_burgh_patience t_burgh_masterMeets t_came t_left t_burgh_masterCorner t_burgh_masterClock t_due t_burgh_masterLate t_stood t_ahead t_burgh_clockGain t_since) → lv_has ls 5 [(0, .ref q_t), (1, .int x1), (2, .int x2), (3, .int x3)] → k_6 x1 x2 x3 = some r → W p l e rm_X3_quietFrom s m args below meth c H locs 0 0 (MQ below (zQ G w0 (wd_X3_quietFrom cy q_t q_t_burgh q_t_ahead q_t_since q_t_stood q_t_due q_t_left q_t_came q_t_burgh_clockName q_t_burgh_clockCorner q_t_burgh_clockAhead q_t_burgh_clockGain q_t_burgh_masterName q_t_burgh_masterCorner q_t_burgh_masterLate q_t_burgh_masterClock q_t_burgh_masterMeets q_t_burgh_meetName q_t_burgh_meetDue t_minute t_out t_stopped t_burgh_clocks t_burgh_masters t_burgh_meets t_burgh_patience t_burgh_masterMeets t_came t_left t_burgh_masterCorner t_burgh_masterClock t_due t_burgh_masterLate t_stood t_ahead t_burgh_clockGain t_since) s.heap.size (some (.int r))) args s 0 0 (va_A w0 s.heap.size)) (F0 m 6 ls [])) :
    ∀ (n : Nat) (x1 : Int32) (x2 : Int32) (x3 : Int32) (x4 : Int32) (H : Heap) (locs : List Loc) (ls : Array Slot), zH G (va_A w0 s.heap.size) s H locs (wd_X3_quietFrom cy q_t q_t_burgh q_t_ahead q_t_since q_t_stood q_t_due q_t_left q_t_came q_t_burgh_clockName q_t_burgh_clockCorner q_t_burgh_clockAhead q_t_burgh_clockGain q_t_burgh_masterName q_t_burgh_masterCorner q_t_burgh_masterLate q_t_burgh_masterClock q_t_burgh_masterMeets q_t_burgh_meetName q_t_burgh_meetDue t_minute t_out t_stopped t_burgh_clocks t_burgh_masters t_burgh_meets t_burgh_patience t_burgh_masterMeets t_came t_left t_burgh_masterCorner t_burgh_masterClock t_due t_burgh_masterLate t_stood t_ahead t_burgh_clockGain t_since) → lv_has ls 5 [(0, .ref q_t), (1, .int x1), (2, .int x2), (3, .int x3), (4, .int x4)] → f_X3_quietFrom_20 N t_out t_stopped t_burgh_masters t_burgh_meets t_burgh_masterMeets t_came t_left t_burgh_masterCorner t_burgh_masterClock t_due t_burgh_masterLate t_stood t_ahead t_burgh_clockGain t_since k_6 n x1 x2 x3 x4 = some r → W p l e rm_X3_quietFrom s m args below meth c H locs 0 0 (MQ below (zQ G w0 (wd_X3_quietFrom cy q_t q_t_burgh q_t_ahead q_t_since q_t_stood q_t_due q_t_left q_t_came q_t_burgh_clockName q_t_burgh_clockCorner q_t_burgh_clockAhead q_t_burgh_clockGain q_t_burgh_masterName q_t_burgh_masterCorner q_t_burgh_masterLate q_t_burgh_masterClock q_t_burgh_masterMeets q_t_burgh_meetName q_t_burgh_meetDue t_minute t_out t_stopped t_burgh_clocks t_burgh_masters t_burgh_meets t_burgh_patience t_burgh_masterMeets t_came t_left t_burgh_masterCorner t_burgh_masterClock t_due t_burgh_masterLate t_stood t_ahead t_burgh_clockGain t_since) s.heap.size (some (.int r))) args s 0 0 (va_A w0 s.heap.size)) (F0 m 20 ls []) := by
  obtain ⟨hx, hb, hml, hown, hts⟩ := id S
  intro n
  induction n with
  | zero =>
    intro x1 x2 x3 x4 H locs ls hH hl h
    rw [f_X3_quietFrom_20] at h
    cases h
  | succ n ih =>
    intro x1 x2 x3 x4 H locs ls hH hl h
    rw [f_X3_quietFrom_20] at h
    refine lv_iload hx hb dX3_quietFrom_20 (lv_at hl 4 rfl) ?_
    refine lv_aload_n hx hb dX3_quietFrom_22 rfl (lv_at hl 0 rfl) ?_
    refine z_get S hF hH iX3_quietFrom_X3 0 rfl rfl 0 (by decide) (List.mem_of_getElem? (i := 1) rfl) rfl dX3_quietFrom_23 ?_
    refine z_get S hF hH iX3_quietFrom_X1 1 rfl rfl 2 (by decide) (List.mem_of_getElem? (i := 3) rfl) rfl dX3_quietFrom_26 ?_
    refine lv_icmp_ge (tgt := 64) hx hb dX3_quietFrom_29 (by decide) (fun b29 => ?_) (fun b29 => ?_)
    · replace h := zif_t b29 h
      obtain ⟨y1, ey1, h⟩ := zbn_e h
      refine lv_iinc (v := y1) (lv' := [(3, .int y1), (0, .ref q_t), (1, .int x1), (2, .int x2), (4, .int x4)]) hx hb dX3_quietFrom_64 hl (k := 3) rfl (by rw [ey1]; exact congrArg (fun z => x3 + z) (by decide)) (by decide) rfl (fun ls hl => ?_)
      clear ey1
      refine lv_goto (tgt := 6) hx hb dX3_quietFrom_67 (by decide) ?_
      exact hk_6 x1 x2 y1 _ _ _ hH (lv_sub hl [1, 2, 3, 0] rfl) h
    · replace h := zif_f b29 h
      refine lv_aload_n hx hb dX3_quietFrom_32 rfl (lv_at hl 0 rfl) ?_
      refine z_get S hF hH iX3_quietFrom_X3 0 rfl rfl 0 (by decide) (List.mem_of_getElem? (i := 1) rfl) rfl dX3_quietFrom_33 ?_
      refine lv_iload_n hx hb dX3_quietFrom_36 rfl (lv_at hl 3 rfl) ?_
      refine lv_iload hx hb dX3_quietFrom_37 (lv_at hl 4 rfl) ?_
      obtain ⟨z39, hz39, h⟩ := zcl_e h
      refine z_callV (As := [.int x3, .int x4]) (rest := []) (st1 := [.int z39]) (ws' := (wd_X3_quietFrom cy q_t q_t_burgh q_t_ahead q_t_since q_t_stood q_t_due q_t_left q_t_came q_t_burgh_clockName q_t_burgh_clockCorner q_t_burgh_clockAhead q_t_burgh_clockGain q_t_burgh_masterName q_t_burgh_masterCorner q_t_burgh_masterLate q_t_burgh_masterClock q_t_burgh_masterMeets q_t_burgh_meetName q_t_burgh_meetDue t_minute t_out t_stopped t_burgh_clocks t_burgh_masters t_burgh_meets t_burgh_patience t_burgh_masterMeets t_came t_left t_burgh_masterCorner t_burgh_masterClock t_due t_burgh_masterLate t_stood t_ahead t_burgh_clockGain t_since)) S hF hH (c_X1_isToCome l G cy E N q_t_burgh q_t_burgh_clockName q_t_burgh_clockCorner q_t_burgh_clockAhead q_t_burgh_clockGain q_t_burgh_masterName q_t_burgh_masterCorner q_t_burgh_masterLate q_t_burgh_masterClock q_t_burgh_masterMeets q_t_burgh_meetName q_t_burgh_meetDue t_burgh_clocks t_burgh_masters t_burgh_meets t_burgh_patience t_burgh_masterMeets x3 x4 z39 hz39) (cwV 2 hts gX3_quietFrom_X1_isToCome rfl rfl rfl (by decide +kernel) ⟨Nat.le_of_ble_eq_true rfl, Nat.le_of_ble_eq_true rfl⟩) 2 0 rfl rfl [1, 2] rfl (by decide) rfl rfl rfl rfl rfl hl.1 (Nat.le_of_ble_eq_true rfl) dX3_quietFrom_39 ⟨Nat.le_of_ble_eq_true rfl, Nat.le_of_ble_eq_true rfl⟩ (fun H locs hH => ?_)
      refine lv_if_eq (tgt := 58) hx hb dX3_quietFrom_42 (by decide) (fun b42 => ?_) (fun b42 => ?_)
      · replace h := zif_t b42 h
        obtain ⟨y2, ey2, h⟩ := zbn_e h
        refine lv_iinc (v := y2) (lv' := [(4, .int y2), (0, .ref q_t), (1, .int x1), (2, .int x2), (3, .int x3)]) hx hb dX3_quietFrom_58 hl (k := 4) rfl (by rw [ey2]; exact congrArg (fun z => x4 + z) (by decide)) (by decide) rfl (fun ls hl => ?_)
        clear ey2
        refine lv_goto (tgt := 20) hx hb dX3_quietFrom_61 (by decide) ?_
        exact ih x1 x2 x3 y2 _ _ _ hH (lv_sub hl [1, 2, 3, 4, 0] rfl) h
      · replace h := zif_f b42 h
        refine lv_iload_n hx hb dX3_quietFrom_45 rfl (lv_at hl 2 rfl) ?_
        refine lv_aload_n hx hb dX3_quietFrom_46 rfl (lv_at hl 0 rfl) ?_
        refine lv_iload_n hx hb dX3_quietFrom_47 rfl (lv_at hl 3 rfl) ?_
        refine lv_iload hx hb dX3_quietFrom_48 (lv_at hl 4 rfl) ?_
        refine lv_iload_n hx hb dX3_quietFrom_50 rfl (lv_at hl 1 rfl) ?_
        obtain ⟨z51, hz51, h⟩ := zcl_e h
        refine z_callV (As := [.int x3, .int x4, .int x1]) (rest := [.int x2]) (st1 := [.int z51, .int x2]) (ws' := (wd_X3_quietFrom cy q_t q_t_burgh q_t_ahead q_t_since q_t_stood q_t_due q_t_left q_t_came q_t_burgh_clockName q_t_burgh_clockCorner q_t_burgh_clockAhead q_t_burgh_clockGain q_t_burgh_masterName q_t_burgh_masterCorner q_t_burgh_masterLate q_t_burgh_masterClock q_t_burgh_masterMeets q_t_burgh_meetName q_t_burgh_meetDue t_minute t_out t_stopped t_burgh_clocks t_burgh_masters t_burgh_meets t_burgh_patience t_burgh_masterMeets t_came t_left t_burgh_masterCorner t_burgh_masterClock t_due t_burgh_masterLate t_stood t_ahead t_burgh_clockGain t_since)) S hF hH (c_X3_quietOf l G cy E N q_t q_t_burgh q_t_ahead q_t_since q_t_stood q_t_due q_t_left q_t_came q_t_burgh_clockName q_t_burgh_clockCorner q_t_burgh_clockAhead q_t_burgh_clockGain q_t_burgh_masterName q_t_burgh_masterCorner q_t_burgh_masterLate q_t_burgh_masterClock q_t_burgh_masterMeets q_t_burgh_meetName q_t_burgh_meetDue t_minute t_out t_stopped t_came t_left t_burgh_clocks t_burgh_masters t_burgh_meets t_burgh_patience t_burgh_masterCorner t_burgh_masterClock t_due t_burgh_masterLate t_stood t_ahead t_burgh_clockGain t_since x3 x4 x1 z51 hz51) (cwV 3 hts gX3_quietFrom_X3_quietOf rfl rfl rfl (by decide +kernel) ⟨Nat.le_of_ble_eq_true rfl, Nat.le_of_ble_eq_true rfl⟩) 4 0 rfl rfl [0, 3, 4, 1, 5, 6, 7, 8, 9, 10, 11, 12] rfl (by decide) rfl rfl rfl rfl rfl hl.1 (Nat.le_of_ble_eq_true rfl) dX3_quietFrom_51 ⟨Nat.le_of_ble_eq_true rfl, Nat.le_of_ble_eq_true rfl⟩ (fun H locs hH => ?_)
        refine z_mmin S hl.1 (List.mem_of_getElem? (i := 4) rfl) (List.mem_of_getElem? (i := 5) rfl) (List.mem_of_getElem? (i := 6) rfl) (List.mem_of_getElem? (i := 7) rfl) (Nat.le_of_ble_eq_true rfl) (Nat.le_of_ble_eq_true rfl) (Nat.le_of_ble_eq_true rfl) (Nat.le_of_ble_eq_true rfl) dX3_quietFrom_54 ?_
        obtain ⟨y3, ey3, h⟩ := zbn_e h
        refine z_top ey3 ?_
        clear ey3
        refine lv_istore_n (lv' := [(2, .int y3), (0, .ref q_t), (1, .int x1), (3, .int x3), (4, .int x4)]) hx hb dX3_quietFrom_57 rfl hl (by decide) rfl (fun ls hl => ?_)
        obtain ⟨y4, ey4, h⟩ := zbn_e h
        refine lv_iinc (v := y4) (lv' := [(4, .int y4), (2, .int y3), (0, .ref q_t), (1, .int x1), (3, .int x3)]) hx hb dX3_quietFrom_58 hl (k := 4) rfl (by rw [ey4]; exact congrArg (fun z => x4 + z) (by decide)) (by decide) rfl (fun ls hl => ?_)
        clear ey4
        refine lv_goto (tgt := 20) hx hb dX3_quietFrom_61 (by decide) ?_
        exact ih x1 y3 x3 y4 _ _ _ hH (lv_sub hl [2, 3, 1, 4, 0] rfl) h
set_option maxHeartbeats 4000000 in
set_option maxRecDepth 100000 in
theorem w_X3_quietFrom_6 {p : Program} {l : Launch} {e : Env} {s : State} {m : MethodId} {args : Array Value} {below : List Frame} {meth : Method} {c : Code} {G : va_G} {cy : Nat → ClassId} {E : Nat → Nat} {w0 : va_W} {N : Nat} {q_t q_t_burgh q_t_ahead q_t_since q_t_stood q_t_due q_t_left q_t_came q_t_burgh_clockName q_t_burgh_clockCorner q_t_burgh_clockAhead q_t_burgh_clockGain q_t_burgh_masterName q_t_burgh_masterCorner q_t_burgh_masterLate q_t_burgh_masterClock q_t_burgh_masterMeets q_t_burgh_meetName q_t_burgh_meetDue : Nat} {t_minute : Int32} {t_out : Int32} {t_stopped : Int32} {t_burgh_clocks : Int32} {t_burgh_masters : Int32} {t_burgh_meets : Int32} {t_burgh_patience : Int32} {t_burgh_masterMeets : Nat → Int32} {t_came : Nat → Int32} {t_left : Nat → Int32} {t_burgh_masterCorner : Nat → Int32} {t_burgh_masterClock : Nat → Int32} {t_due : Nat → Int32} {t_burgh_masterLate : Nat → Int32} {t_stood : Nat → Int32} {t_ahead : Nat → Int32} {t_burgh_clockGain : Nat → Int32} {t_since : Nat → Int32} {r : Int32} (S : CallFix p m c cX3_quietFrom 5 s args wsX3_quietFrom RX3) (hr : meth.sig.returnType = some .int) (hlocks : meth.locks = false) (hF : zF G cy E (va_A w0 s.heap.size) s) :
    ∀ (n : Nat) (x1 : Int32) (x2 : Int32) (x3 : Int32) (H : Heap) (locs : List Loc) (ls : Array Slot), zH G (va_A w0 s.heap.size) s H locs (wd_X3_quietFrom cy q_t q_t_burgh q_t_ahead q_t_since q_t_stood q_t_due q_t_left q_t_came q_t_burgh_clockName q_t_burgh_clockCorner q_t_burgh_clockAhead q_t_burgh_clockGain q_t_burgh_masterName q_t_burgh_masterCorner q_t_burgh_masterLate q_t_burgh_masterClock q_t_burgh_masterMeets q_t_burgh_meetName q_t_burgh_meetDue t_minute t_out t_stopped t_burgh_clocks t_burgh_masters t_burgh_meets t_burgh_patience t_burgh_masterMeets t_came t_left t_burgh_masterCorner t_burgh_masterClock t_due t_burgh_masterLate t_stood t_ahead t_burgh_clockGain t_since) → lv_has ls 5 [(0, .ref q_t), (1, .int x1), (2, .int x2), (3, .int x3)] → f_X3_quietFrom_6 N t_out t_stopped t_burgh_masters t_burgh_meets t_burgh_masterMeets t_came t_left t_burgh_masterCorner t_burgh_masterClock t_due t_burgh_masterLate t_stood t_ahead t_burgh_clockGain t_since n x1 x2 x3 = some r → W p l e rm_X3_quietFrom s m args below meth c H locs 0 0 (MQ below (zQ G w0 (wd_X3_quietFrom cy q_t q_t_burgh q_t_ahead q_t_since q_t_stood q_t_due q_t_left q_t_came q_t_burgh_clockName q_t_burgh_clockCorner q_t_burgh_clockAhead q_t_burgh_clockGain q_t_burgh_masterName q_t_burgh_masterCorner q_t_burgh_masterLate q_t_burgh_masterClock q_t_burgh_masterMeets q_t_burgh_meetName q_t_burgh_meetDue t_minute t_out t_stopped t_burgh_clocks t_burgh_masters t_burgh_meets t_burgh_patience t_burgh_masterMeets t_came t_left t_burgh_masterCorner t_burgh_masterClock t_due t_burgh_masterLate t_stood t_ahead t_burgh_clockGain t_since) s.heap.size (some (.int r))) args s 0 0 (va_A w0 s.heap.size)) (F0 m 6 ls []) := by
  obtain ⟨hx, hb, hml, hown, hts⟩ := id S
  intro n
  induction n with
  | zero =>
    intro x1 x2 x3 H locs ls hH hl h
    rw [f_X3_quietFrom_6] at h
    cases h
  | succ n ih =>
    intro x1 x2 x3 H locs ls hH hl h
    rw [f_X3_quietFrom_6] at h
    refine lv_iload_n hx hb dX3_quietFrom_6 rfl (lv_at hl 3 rfl) ?_
    refine lv_aload_n hx hb dX3_quietFrom_7 rfl (lv_at hl 0 rfl) ?_
    refine z_get S hF hH iX3_quietFrom_X3 0 rfl rfl 0 (by decide) (List.mem_of_getElem? (i := 1) rfl) rfl dX3_quietFrom_8 ?_
    refine z_get S hF hH iX3_quietFrom_X1 1 rfl rfl 1 (by decide) (List.mem_of_getElem? (i := 2) rfl) rfl dX3_quietFrom_11 ?_
    refine lv_icmp_ge (tgt := 70) hx hb dX3_quietFrom_14 (by decide) (fun b14 => ?_) (fun b14 => ?_)
    · replace h := zif_t b14 h
      refine lv_iload_n hx hb dX3_quietFrom_70 rfl (lv_at hl 2 rfl) ?_
      cases h
      exact z_iret S hr hlocks hH dX3_quietFrom_71
    · replace h := zif_f b14 h
      refine lv_iconst (v := 0) hx hb dX3_quietFrom_17 (by decide) ?_
      refine lv_istore (lv' := [(4, .int 0), (0, .ref q_t), (1, .int x1), (2, .int x2), (3, .int x3)]) hx hb dX3_quietFrom_18 hl (by decide) rfl (fun ls hl => ?_)
      exact w_X3_quietFrom_20 S hr hlocks hF ih N x1 x2 x3 0 _ _ _ hH (lv_sub hl [1, 2, 3, 4, 0] rfl) h
set_option maxHeartbeats 4000000 in
set_option maxRecDepth 100000 in
theorem c_X3_quietFrom (l : Launch) (G : va_G) (cy : Nat → ClassId) (E : Nat → Nat) (N : Nat) (q_t q_t_burgh q_t_ahead q_t_since q_t_stood q_t_due q_t_left q_t_came q_t_burgh_clockName q_t_burgh_clockCorner q_t_burgh_clockAhead q_t_burgh_clockGain q_t_burgh_masterName q_t_burgh_masterCorner q_t_burgh_masterLate q_t_burgh_masterClock q_t_burgh_masterMeets q_t_burgh_meetName q_t_burgh_meetDue : Nat) (t_minute : Int32) (t_out : Int32) (t_stopped : Int32) (t_burgh_clocks : Int32) (t_burgh_masters : Int32) (t_burgh_meets : Int32) (t_burgh_patience : Int32) (t_burgh_masterMeets : Nat → Int32) (t_came : Nat → Int32) (t_left : Nat → Int32) (t_burgh_masterCorner : Nat → Int32) (t_burgh_masterClock : Nat → Int32) (t_due : Nat → Int32) (t_burgh_masterLate : Nat → Int32) (t_stood : Nat → Int32) (t_ahead : Nat → Int32) (t_burgh_clockGain : Nat → Int32) (t_since : Nat → Int32) (x0 : Int32) (r : Int32) (h : f_X3_quietFrom N x0 t_out t_stopped t_burgh_masters t_burgh_meets t_burgh_masterMeets t_came t_left t_burgh_masterCorner t_burgh_masterClock t_due t_burgh_masterLate t_stood t_ahead t_burgh_clockGain t_since = some r) : zM l G cy E yX3_quietFrom wsX3_quietFrom rm_X3_quietFrom [.ref q_t, .int x0] (wd_X3_quietFrom cy q_t q_t_burgh q_t_ahead q_t_since q_t_stood q_t_due q_t_left q_t_came q_t_burgh_clockName q_t_burgh_clockCorner q_t_burgh_clockAhead q_t_burgh_clockGain q_t_burgh_masterName q_t_burgh_masterCorner q_t_burgh_masterLate q_t_burgh_masterClock q_t_burgh_masterMeets q_t_burgh_meetName q_t_burgh_meetDue t_minute t_out t_stopped t_burgh_clocks t_burgh_masters t_burgh_meets t_burgh_patience t_burgh_masterMeets t_came t_left t_burgh_masterCorner t_burgh_masterClock t_due t_burgh_masterLate t_stood t_ahead t_burgh_clockGain t_since) (wd_X3_quietFrom cy q_t q_t_burgh q_t_ahead q_t_since q_t_stood q_t_due q_t_left q_t_came q_t_burgh_clockName q_t_burgh_clockCorner q_t_burgh_clockAhead q_t_burgh_clockGain q_t_burgh_masterName q_t_burgh_masterCorner q_t_burgh_masterLate q_t_burgh_masterClock q_t_burgh_masterMeets q_t_burgh_meetName q_t_burgh_meetDue t_minute t_out t_stopped t_burgh_clocks t_burgh_masters t_burgh_meets t_burgh_patience t_burgh_masterMeets t_came t_left t_burgh_masterCorner t_burgh_masterClock t_due t_burgh_masterLate t_stood t_ahead t_burgh_clockGain t_since) (some (.int r)) 0 0 := by
  refine z_body (cc := cX3_quietFrom) (maxL := 5) (ret := some .int) (by decide) rfl (Nat.le_of_ble_eq_true rfl) ?_
  intro p e s m below meth c ls S hr hlocks hnm hF hH hl
  have S : CallFix p m c cX3_quietFrom 5 s ([.ref q_t, .int x0] : List Value).toArray wsX3_quietFrom RX3 := S
  obtain ⟨hx, hb, hml, hown, hts⟩ := id S
  have hl : lv_has ls 5 [(0, .ref q_t), (1, .int x0)] := hl
  rw [f_X3_quietFrom] at h
  refine lv_sipush (v := 2000) hx hb dX3_quietFrom_0 (by decide) ?_
  refine lv_istore_n (lv' := [(2, .int 2000), (0, .ref q_t), (1, .int x0)]) hx hb dX3_quietFrom_3 rfl hl (by decide) rfl (fun ls hl => ?_)
  refine lv_iconst (v := 0) hx hb dX3_quietFrom_4 (by decide) ?_
  refine lv_istore_n (lv' := [(3, .int 0), (2, .int 2000), (0, .ref q_t), (1, .int x0)]) hx hb dX3_quietFrom_5 rfl hl (by decide) rfl (fun ls hl => ?_)
  exact w_X3_quietFrom_6 S hr hlocks hF N x0 2000 0 _ _ _ hH (lv_sub hl [2, 3, 1, 0] rfl) h
abbrev wd_X3_pass (cy : Nat → ClassId) (q_t q_t_burgh q_t_ahead q_t_since q_t_stood q_t_due q_t_left q_t_came q_t_burgh_clockName q_t_burgh_clockCorner q_t_burgh_clockAhead q_t_burgh_clockGain q_t_burgh_masterName q_t_burgh_masterCorner q_t_burgh_masterLate q_t_burgh_masterClock q_t_burgh_masterMeets q_t_burgh_meetName q_t_burgh_meetDue : Nat) (t_minute : Int32) (t_out : Int32) (t_stopped : Int32) (t_burgh_clocks : Int32) (t_burgh_masters : Int32) (t_burgh_meets : Int32) (t_burgh_patience : Int32) (t_burgh_masterMeets : Nat → Int32) (t_came : Nat → Int32) (t_left : Nat → Int32) (t_burgh_masterCorner : Nat → Int32) (t_burgh_masterClock : Nat → Int32) (t_due : Nat → Int32) (t_burgh_masterLate : Nat → Int32) (t_stood : Nat → Int32) (t_ahead : Nat → Int32) (t_burgh_clockGain : Nat → Int32) (t_since : Nat → Int32) : va_W := [(q_t, .inr (4, [.ref q_t_burgh, .int t_minute, .int t_out, .int t_stopped, .ref q_t_ahead, .ref q_t_since, .ref q_t_stood, .ref q_t_due, .ref q_t_left, .ref q_t_came])), (q_t_burgh, .inr (2, [.int t_burgh_clocks, .int t_burgh_masters, .int t_burgh_meets, .int t_burgh_patience, .ref q_t_burgh_clockName, .ref q_t_burgh_clockCorner, .ref q_t_burgh_clockAhead, .ref q_t_burgh_clockGain, .ref q_t_burgh_masterName, .ref q_t_burgh_masterCorner, .ref q_t_burgh_masterLate, .ref q_t_burgh_masterClock, .ref q_t_burgh_masterMeets, .ref q_t_burgh_meetName, .ref q_t_burgh_meetDue])), (q_t_burgh_masterMeets, .inl (cy 1, 6, .inl t_burgh_masterMeets)), (q_t_came, .inl (cy 1, 36, .inl t_came)), (q_t_left, .inl (cy 1, 36, .inl t_left)), (q_t_burgh_masterCorner, .inl (cy 1, 6, .inl t_burgh_masterCorner)), (q_t_burgh_masterClock, .inl (cy 1, 6, .inl t_burgh_masterClock)), (q_t_due, .inl (cy 1, 6, .inl t_due)), (q_t_burgh_masterLate, .inl (cy 1, 6, .inl t_burgh_masterLate)), (q_t_stood, .inl (cy 1, 6, .inl t_stood)), (q_t_ahead, .inl (cy 1, 6, .inl t_ahead)), (q_t_burgh_clockGain, .inl (cy 1, 6, .inl t_burgh_clockGain)), (q_t_since, .inl (cy 1, 6, .inl t_since))]
theorem iX3_pass_X3 : ∀ w ∈ wsX30, w ∈ wsX3_pass := fun _ h => List.mem_cons_of_mem _ (List.mem_append_left _ (List.mem_append_right _ h))
abbrev rm_X3_pass : Room := { frames := 4, cells := 0, slots := 0, locals := 93 }
set_option maxRecDepth 100000 in
def f_X3_pass_22 (N : Nat) (t_stopped : Int32) (t_burgh_masters : Int32) (t_burgh_meets : Int32) (t_burgh_masterMeets : Nat → Int32) (t_burgh_masterCorner : Nat → Int32) (t_burgh_masterClock : Nat → Int32) (t_due : Nat → Int32) (t_burgh_masterLate : Nat → Int32) (t_stood : Nat → Int32) (t_ahead : Nat → Int32) (t_burgh_clockGain : Nat → Int32) (t_since : Nat → Int32) : Nat → Int32 → Int32 → Int32 → Int32 → Int32 → (Nat → Int32) → (Nat → Int32) → (Option (Int32 × Int32 × Int32 × (Nat → Int32) × (Nat → Int32)))
  | 0, _, _, _, _, _, _, _ => none
  | n + 1, x2, x3, x4, c_t_minute, c_t_out, c_t_came, c_t_left => if x3 ≤ x4 then (some (x2, x3, c_t_out, c_t_came, c_t_left)) else (zcl (f_X3_quietFrom N x4 c_t_out t_stopped t_burgh_masters t_burgh_meets t_burgh_masterMeets c_t_came c_t_left t_burgh_masterCorner t_burgh_masterClock t_due t_burgh_masterLate t_stood t_ahead t_burgh_clockGain t_since) fun z34 => zbn ((x4 + (zmax 0 z34))) fun y1 => if x3 ≤ y1 then (zbn (y1 + 1) fun y2 => f_X3_pass_22 N t_stopped t_burgh_masters t_burgh_meets t_burgh_masterMeets t_burgh_masterCorner t_burgh_masterClock t_due t_burgh_masterLate t_stood t_ahead t_burgh_clockGain t_since n x2 x3 y2 c_t_minute c_t_out c_t_came c_t_left) else (zcl (f_X3_goThrough N y1 c_t_out t_stopped t_burgh_masters t_burgh_meets t_burgh_masterMeets c_t_left t_burgh_masterClock t_stood t_ahead t_burgh_clockGain t_since t_due t_burgh_masterLate t_burgh_masterCorner c_t_came) fun z52 => zbn (y1 + 1) fun y3 => f_X3_pass_22 N t_stopped t_burgh_masters t_burgh_meets t_burgh_masterMeets t_burgh_masterCorner t_burgh_masterClock t_due t_burgh_masterLate t_stood t_ahead t_burgh_clockGain t_since n x2 x3 y3 c_t_minute z52.1 z52.2.2 z52.2.1))
set_option maxRecDepth 100000 in
def f_X3_pass (N : Nat) (x0 : Int32) (t_minute : Int32) (t_out : Int32) (t_stopped : Int32) (t_burgh_masters : Int32) (t_burgh_meets : Int32) (t_burgh_masterMeets : Nat → Int32) (t_came : Nat → Int32) (t_left : Nat → Int32) (t_burgh_masterCorner : Nat → Int32) (t_burgh_masterClock : Nat → Int32) (t_due : Nat → Int32) (t_burgh_masterLate : Nat → Int32) (t_stood : Nat → Int32) (t_ahead : Nat → Int32) (t_burgh_clockGain : Nat → Int32) (t_since : Nat → Int32) : Option (Int32 × Int32 × Int32 × (Nat → Int32) × (Nat → Int32)) := zcl (f_X3_minutesLeft N t_minute) fun z2 => zbn ((zmin x0 z2)) fun y1 => zbn ((t_minute + y1)) fun y2 => f_X3_pass_22 N t_stopped t_burgh_masters t_burgh_meets t_burgh_masterMeets t_burgh_masterCorner t_burgh_masterClock t_due t_burgh_masterLate t_stood t_ahead t_burgh_clockGain t_since N y1 y2 t_minute t_minute t_out t_came t_left
set_option maxHeartbeats 4000000 in
set_option maxRecDepth 100000 in
theorem w_X3_pass_22 {p : Program} {l : Launch} {e : Env} {s : State} {m : MethodId} {args : Array Value} {below : List Frame} {meth : Method} {c : Code} {G : va_G} {cy : Nat → ClassId} {E : Nat → Nat} {w0 : va_W} {N : Nat} {q_t q_t_burgh q_t_ahead q_t_since q_t_stood q_t_due q_t_left q_t_came q_t_burgh_clockName q_t_burgh_clockCorner q_t_burgh_clockAhead q_t_burgh_clockGain q_t_burgh_masterName q_t_burgh_masterCorner q_t_burgh_masterLate q_t_burgh_masterClock q_t_burgh_masterMeets q_t_burgh_meetName q_t_burgh_meetDue : Nat} {t_stopped : Int32} {t_burgh_clocks : Int32} {t_burgh_masters : Int32} {t_burgh_meets : Int32} {t_burgh_patience : Int32} {t_burgh_masterMeets : Nat → Int32} {t_burgh_masterCorner : Nat → Int32} {t_burgh_masterClock : Nat → Int32} {t_due : Nat → Int32} {t_burgh_masterLate : Nat → Int32} {t_stood : Nat → Int32} {t_ahead : Nat → Int32} {t_burgh_clockGain : Nat → Int32} {t_since : Nat → Int32} {r : Int32} {r_t_minute : Int32} {r_t_out : Int32} {r_t_came : Nat → Int32} {r_t_left : Nat → Int32} (S : CallFix p m c cX3_pass 5 s args wsX3_pass RX3) (hr : meth.sig.returnType = some .int) (hlocks : meth.locks = false) (hF : zF G cy E (va_A w0 s.heap.size) s) :
    ∀ (n : Nat) (x2 : Int32) (x3 : Int32) (x4 : Int32) (c_t_minute : Int32) (c_t_out : Int32) (c_t_came : Nat → Int32) (c_t_left : Nat → Int32) (H : Heap) (locs : List Loc) (ls : Array Slot), zH G (va_A w0 s.heap.size) s H locs (wd_X3_pass cy q_t q_t_burgh q_t_ahead q_t_since q_t_stood q_t_due q_t_left q_t_came q_t_burgh_clockName q_t_burgh_clockCorner q_t_burgh_clockAhead q_t_burgh_clockGain q_t_burgh_masterName q_t_burgh_masterCorner q_t_burgh_masterLate q_t_burgh_masterClock q_t_burgh_masterMeets q_t_burgh_meetName q_t_burgh_meetDue c_t_minute c_t_out t_stopped t_burgh_clocks t_burgh_masters t_burgh_meets t_burgh_patience t_burgh_masterMeets c_t_came c_t_left t_burgh_masterCorner t_burgh_masterClock t_due t_burgh_masterLate t_stood t_ahead t_burgh_clockGain t_since) → lv_has ls 5 [(0, .ref q_t), (2, .int x2), (3, .int x3), (4, .int x4)] → f_X3_pass_22 N t_stopped t_burgh_masters t_burgh_meets t_burgh_masterMeets t_burgh_masterCorner t_burgh_masterClock t_due t_burgh_masterLate t_stood t_ahead t_burgh_clockGain t_since n x2 x3 x4 c_t_minute c_t_out c_t_came c_t_left = some (r, r_t_minute, r_t_out, r_t_came, r_t_left) → W p l e rm_X3_pass s m args below meth c H locs 0 0 (MQ below (zQ G w0 (wd_X3_pass cy q_t q_t_burgh q_t_ahead q_t_since q_t_stood q_t_due q_t_left q_t_came q_t_burgh_clockName q_t_burgh_clockCorner q_t_burgh_clockAhead q_t_burgh_clockGain q_t_burgh_masterName q_t_burgh_masterCorner q_t_burgh_masterLate q_t_burgh_masterClock q_t_burgh_masterMeets q_t_burgh_meetName q_t_burgh_meetDue r_t_minute r_t_out t_stopped t_burgh_clocks t_burgh_masters t_burgh_meets t_burgh_patience t_burgh_masterMeets r_t_came r_t_left t_burgh_masterCorner t_burgh_masterClock t_due t_burgh_masterLate t_stood t_ahead t_burgh_clockGain t_since) s.heap.size (some (.int r))) args s 0 0 (va_A w0 s.heap.size)) (F0 m 22 ls []) := by
  obtain ⟨hx, hb, hml, hown, hts⟩ := id S
  intro n
  induction n with
  | zero =>
    intro x2 x3 x4 c_t_minute c_t_out c_t_came c_t_left H locs ls hH hl h
    rw [f_X3_pass_22] at h
    cases h
  | succ n ih =>
    intro x2 x3 x4 c_t_minute c_t_out c_t_came c_t_left H locs ls hH hl h
    rw [f_X3_pass_22] at h
    refine lv_iload hx hb dX3_pass_22 (lv_at hl 3 rfl) ?_
    refine lv_iload_n hx hb dX3_pass_24 rfl (lv_at hl 2 rfl) ?_
    refine lv_icmp_ge (tgt := 61) hx hb dX3_pass_25 (by decide) (fun b25 => ?_) (fun b25 => ?_)
    · replace h := zif_t b25 h
      refine lv_aload_n hx hb dX3_pass_61 rfl (lv_at hl 0 rfl) ?_
      refine lv_iload_n hx hb dX3_pass_62 rfl (lv_at hl 2 rfl) ?_
      refine z_put (ws' := (wd_X3_pass cy q_t q_t_burgh q_t_ahead q_t_since q_t_stood q_t_due q_t_left q_t_came q_t_burgh_clockName q_t_burgh_clockCorner q_t_burgh_clockAhead q_t_burgh_clockGain q_t_burgh_masterName q_t_burgh_masterCorner q_t_burgh_masterLate q_t_burgh_masterClock q_t_burgh_masterMeets q_t_burgh_meetName q_t_burgh_meetDue x3 c_t_out t_stopped t_burgh_clocks t_burgh_masters t_burgh_meets t_burgh_patience t_burgh_masterMeets c_t_came c_t_left t_burgh_masterCorner t_burgh_masterClock t_due t_burgh_masterLate t_stood t_ahead t_burgh_clockGain t_since)) S hF hH iX3_pass_X3 tyX3 tyX3_ok nmX3 0 rfl rfl 1 (by decide) (List.mem_of_getElem? (i := 5) rfl) rfl rfl rfl (Nat.le_of_ble_eq_true rfl) rfl dX3_pass_63 (fun H locs hH => ?_)
      refine lv_iload_n hx hb dX3_pass_66 rfl (lv_at hl 1 rfl) ?_
      cases h
      exact z_iret S hr hlocks hH dX3_pass_67
    · replace h := zif_f b25 h
      refine lv_iload hx hb dX3_pass_28 (lv_at hl 3 rfl) ?_
      refine lv_iconst (v := 0) hx hb dX3_pass_30 (by decide) ?_
      refine lv_aload_n hx hb dX3_pass_31 rfl (lv_at hl 0 rfl) ?_
      refine lv_iload hx hb dX3_pass_32 (lv_at hl 3 rfl) ?_
      obtain ⟨z34, hz34, h⟩ := zcl_e h
      refine z_callV (As := [.int x4]) (rest := [.int 0, .int x4]) (st1 := [.int z34, .int 0, .int x4]) (ws' := (wd_X3_pass cy q_t q_t_burgh q_t_ahead q_t_since q_t_stood q_t_due q_t_left q_t_came q_t_burgh_clockName q_t_burgh_clockCorner q_t_burgh_clockAhead q_t_burgh_clockGain q_t_burgh_masterName q_t_burgh_masterCorner q_t_burgh_masterLate q_t_burgh_masterClock q_t_burgh_masterMeets q_t_burgh_meetName q_t_burgh_meetDue c_t_minute c_t_out t_stopped t_burgh_clocks t_burgh_masters t_burgh_meets t_burgh_patience t_burgh_masterMeets c_t_came c_t_left t_burgh_masterCorner t_burgh_masterClock t_due t_burgh_masterLate t_stood t_ahead t_burgh_clockGain t_since)) S hF hH (c_X3_quietFrom l G cy E N q_t q_t_burgh q_t_ahead q_t_since q_t_stood q_t_due q_t_left q_t_came q_t_burgh_clockName q_t_burgh_clockCorner q_t_burgh_clockAhead q_t_burgh_clockGain q_t_burgh_masterName q_t_burgh_masterCorner q_t_burgh_masterLate q_t_burgh_masterClock q_t_burgh_masterMeets q_t_burgh_meetName q_t_burgh_meetDue c_t_minute c_t_out t_stopped t_burgh_clocks t_burgh_masters t_burgh_meets t_burgh_patience t_burgh_masterMeets c_t_came c_t_left t_burgh_masterCorner t_burgh_masterClock t_due t_burgh_masterLate t_stood t_ahead t_burgh_clockGain t_since x4 z34 hz34) (cwV 1 hts gX3_pass_X3_quietFrom rfl rfl rfl (by decide +kernel) ⟨Nat.le_of_ble_eq_true rfl, Nat.le_of_ble_eq_true rfl⟩) 4 0 rfl rfl [0, 1, 2, 3, 4, 5, 6, 7, 8, 9, 10, 11, 12] rfl (by decide) rfl rfl rfl rfl rfl hl.1 (Nat.le_of_ble_eq_true rfl) dX3_pass_34 ⟨Nat.le_of_ble_eq_true rfl, Nat.le_of_ble_eq_true rfl⟩ (fun H locs hH => ?_)
      refine z_mmax S hl.1 (List.mem_of_getElem? (i := 6) rfl) (List.mem_of_getElem? (i := 7) rfl) (List.mem_of_getElem? (i := 3) rfl) (List.mem_of_getElem? (i := 8) rfl) (Nat.le_of_ble_eq_true rfl) (Nat.le_of_ble_eq_true rfl) (Nat.le_of_ble_eq_true rfl) (Nat.le_of_ble_eq_true rfl) dX3_pass_37 ?_
      refine lv_iadd hx hb dX3_pass_40 ?_
      obtain ⟨y1, ey1, h⟩ := zbn_e h
      refine z_top ey1 ?_
      clear ey1
      refine lv_istore (lv' := [(4, .int y1), (0, .ref q_t), (2, .int x2), (3, .int x3)]) hx hb dX3_pass_41 hl (by decide) rfl (fun ls hl => ?_)
      refine lv_iload hx hb dX3_pass_43 (lv_at hl 0 rfl) ?_
      refine lv_iload_n hx hb dX3_pass_45 rfl (lv_at hl 3 rfl) ?_
      refine lv_icmp_ge (tgt := 55) hx hb dX3_pass_46 (by decide) (fun b46 => ?_) (fun b46 => ?_)
      · replace h := zif_t b46 h
        obtain ⟨y2, ey2, h⟩ := zbn_e h
        refine lv_iinc (v := y2) (lv' := [(4, .int y2), (0, .ref q_t), (2, .int x2), (3, .int x3)]) hx hb dX3_pass_55 hl (k := 0) rfl (by rw [ey2]; exact congrArg (fun z => y1 + z) (by decide)) (by decide) rfl (fun ls hl => ?_)
        clear ey2
        refine lv_goto (tgt := 22) hx hb dX3_pass_58 (by decide) ?_
        exact ih x2 x3 y2 c_t_minute c_t_out c_t_came c_t_left _ _ _ hH (lv_sub hl [1, 2, 3, 0] rfl) h
      · replace h := zif_f b46 h
        refine lv_aload_n hx hb dX3_pass_49 rfl (lv_at hl 1 rfl) ?_
        refine lv_iload hx hb dX3_pass_50 (lv_at hl 0 rfl) ?_
        obtain ⟨z52, hz52, h⟩ := zcl_e h
        refine z_callV (As := [.int y1]) (rest := []) (st1 := []) (ws' := (wd_X3_pass cy q_t q_t_burgh q_t_ahead q_t_since q_t_stood q_t_due q_t_left q_t_came q_t_burgh_clockName q_t_burgh_clockCorner q_t_burgh_clockAhead q_t_burgh_clockGain q_t_burgh_masterName q_t_burgh_masterCorner q_t_burgh_masterLate q_t_burgh_masterClock q_t_burgh_masterMeets q_t_burgh_meetName q_t_burgh_meetDue c_t_minute z52.1 t_stopped t_burgh_clocks t_burgh_masters t_burgh_meets t_burgh_patience t_burgh_masterMeets z52.2.2 z52.2.1 t_burgh_masterCorner t_burgh_masterClock t_due t_burgh_masterLate t_stood t_ahead t_burgh_clockGain t_since)) S hF hH (c_X3_goThrough l G cy E N q_t q_t_burgh q_t_ahead q_t_since q_t_stood q_t_due q_t_left q_t_came q_t_burgh_clockName q_t_burgh_clockCorner q_t_burgh_clockAhead q_t_burgh_clockGain q_t_burgh_masterName q_t_burgh_masterCorner q_t_burgh_masterLate q_t_burgh_masterClock q_t_burgh_masterMeets q_t_burgh_meetName q_t_burgh_meetDue c_t_minute c_t_out t_stopped t_burgh_clocks t_burgh_masters t_burgh_meets t_burgh_patience t_burgh_masterMeets c_t_left t_burgh_masterClock t_stood t_ahead t_burgh_clockGain t_since t_due t_burgh_masterLate t_burgh_masterCorner c_t_came y1 z52.1 z52.2.1 z52.2.2 hz52) (cwV 1 hts gX3_pass_X3_goThrough rfl rfl rfl (by decide +kernel) ⟨Nat.le_of_ble_eq_true rfl, Nat.le_of_ble_eq_true rfl⟩) 4 0 rfl rfl [0, 1, 2, 4, 6, 9, 10, 11, 12, 7, 8, 5, 3] rfl (by decide) rfl rfl rfl rfl rfl hl.1 (Nat.le_of_ble_eq_true rfl) dX3_pass_52 ⟨Nat.le_of_ble_eq_true rfl, Nat.le_of_ble_eq_true rfl⟩ (fun H locs hH => ?_)
        obtain ⟨y3, ey3, h⟩ := zbn_e h
        refine lv_iinc (v := y3) (lv' := [(4, .int y3), (0, .ref q_t), (2, .int x2), (3, .int x3)]) hx hb dX3_pass_55 hl (k := 0) rfl (by rw [ey3]; exact congrArg (fun z => y1 + z) (by decide)) (by decide) rfl (fun ls hl => ?_)
        clear ey3
        refine lv_goto (tgt := 22) hx hb dX3_pass_58 (by decide) ?_
        exact ih x2 x3 y3 c_t_minute z52.1 z52.2.2 z52.2.1 _ _ _ hH (lv_sub hl [1, 2, 3, 0] rfl) h
set_option maxHeartbeats 4000000 in
set_option maxRecDepth 100000 in
theorem c_X3_pass (l : Launch) (G : va_G) (cy : Nat → ClassId) (E : Nat → Nat) (N : Nat) (q_t q_t_burgh q_t_ahead q_t_since q_t_stood q_t_due q_t_left q_t_came q_t_burgh_clockName q_t_burgh_clockCorner q_t_burgh_clockAhead q_t_burgh_clockGain q_t_burgh_masterName q_t_burgh_masterCorner q_t_burgh_masterLate q_t_burgh_masterClock q_t_burgh_masterMeets q_t_burgh_meetName q_t_burgh_meetDue : Nat) (t_minute : Int32) (t_out : Int32) (t_stopped : Int32) (t_burgh_clocks : Int32) (t_burgh_masters : Int32) (t_burgh_meets : Int32) (t_burgh_patience : Int32) (t_burgh_masterMeets : Nat → Int32) (t_came : Nat → Int32) (t_left : Nat → Int32) (t_burgh_masterCorner : Nat → Int32) (t_burgh_masterClock : Nat → Int32) (t_due : Nat → Int32) (t_burgh_masterLate : Nat → Int32) (t_stood : Nat → Int32) (t_ahead : Nat → Int32) (t_burgh_clockGain : Nat → Int32) (t_since : Nat → Int32) (x0 : Int32) (r : Int32) (r_t_minute : Int32) (r_t_out : Int32) (r_t_came : Nat → Int32) (r_t_left : Nat → Int32) (h : f_X3_pass N x0 t_minute t_out t_stopped t_burgh_masters t_burgh_meets t_burgh_masterMeets t_came t_left t_burgh_masterCorner t_burgh_masterClock t_due t_burgh_masterLate t_stood t_ahead t_burgh_clockGain t_since = some (r, r_t_minute, r_t_out, r_t_came, r_t_left)) : zM l G cy E yX3_pass wsX3_pass rm_X3_pass [.ref q_t, .int x0] (wd_X3_pass cy q_t q_t_burgh q_t_ahead q_t_since q_t_stood q_t_due q_t_left q_t_came q_t_burgh_clockName q_t_burgh_clockCorner q_t_burgh_clockAhead q_t_burgh_clockGain q_t_burgh_masterName q_t_burgh_masterCorner q_t_burgh_masterLate q_t_burgh_masterClock q_t_burgh_masterMeets q_t_burgh_meetName q_t_burgh_meetDue t_minute t_out t_stopped t_burgh_clocks t_burgh_masters t_burgh_meets t_burgh_patience t_burgh_masterMeets t_came t_left t_burgh_masterCorner t_burgh_masterClock t_due t_burgh_masterLate t_stood t_ahead t_burgh_clockGain t_since) (wd_X3_pass cy q_t q_t_burgh q_t_ahead q_t_since q_t_stood q_t_due q_t_left q_t_came q_t_burgh_clockName q_t_burgh_clockCorner q_t_burgh_clockAhead q_t_burgh_clockGain q_t_burgh_masterName q_t_burgh_masterCorner q_t_burgh_masterLate q_t_burgh_masterClock q_t_burgh_masterMeets q_t_burgh_meetName q_t_burgh_meetDue r_t_minute r_t_out t_stopped t_burgh_clocks t_burgh_masters t_burgh_meets t_burgh_patience t_burgh_masterMeets r_t_came r_t_left t_burgh_masterCorner t_burgh_masterClock t_due t_burgh_masterLate t_stood t_ahead t_burgh_clockGain t_since) (some (.int r)) 0 0 := by
  refine z_body (cc := cX3_pass) (maxL := 5) (ret := some .int) (by decide) rfl (Nat.le_of_ble_eq_true rfl) ?_
  intro p e s m below meth c ls S hr hlocks hnm hF hH hl
  have S : CallFix p m c cX3_pass 5 s ([.ref q_t, .int x0] : List Value).toArray wsX3_pass RX3 := S
  obtain ⟨hx, hb, hml, hown, hts⟩ := id S
  have hl : lv_has ls 5 [(0, .ref q_t), (1, .int x0)] := hl
  rw [f_X3_pass] at h
  refine lv_iload_n hx hb dX3_pass_0 rfl (lv_at hl 1 rfl) ?_
  refine lv_aload_n hx hb dX3_pass_1 rfl (lv_at hl 0 rfl) ?_
  obtain ⟨z2, hz2, h⟩ := zcl_e h
  refine z_callV (As := []) (rest := [.int x0]) (st1 := [.int z2, .int x0]) (ws' := (wd_X3_pass cy q_t q_t_burgh q_t_ahead q_t_since q_t_stood q_t_due q_t_left q_t_came q_t_burgh_clockName q_t_burgh_clockCorner q_t_burgh_clockAhead q_t_burgh_clockGain q_t_burgh_masterName q_t_burgh_masterCorner q_t_burgh_masterLate q_t_burgh_masterClock q_t_burgh_masterMeets q_t_burgh_meetName q_t_burgh_meetDue t_minute t_out t_stopped t_burgh_clocks t_burgh_masters t_burgh_meets t_burgh_patience t_burgh_masterMeets t_came t_left t_burgh_masterCorner t_burgh_masterClock t_due t_burgh_masterLate t_stood t_ahead t_burgh_clockGain t_since)) S hF hH (c_X3_minutesLeft l G cy E N q_t q_t_burgh q_t_ahead q_t_since q_t_stood q_t_due q_t_left q_t_came t_minute t_out t_stopped z2 hz2) (cwV 0 hts gX3_pass_X3_minutesLeft rfl rfl rfl (by decide +kernel) ⟨Nat.le_of_ble_eq_true rfl, Nat.le_of_ble_eq_true rfl⟩) 4 0 rfl rfl [0] rfl (by decide) rfl rfl rfl rfl rfl hl.1 (Nat.le_of_ble_eq_true rfl) dX3_pass_2 ⟨Nat.le_of_ble_eq_true rfl, Nat.le_of_ble_eq_true rfl⟩ (fun H locs hH => ?_)
  refine z_mmin S hl.1 (List.mem_of_getElem? (i := 1) rfl) (List.mem_of_getElem? (i := 2) rfl) (List.mem_of_getElem? (i := 3) rfl) (List.mem_of_getElem? (i := 4) rfl) (Nat.le_of_ble_eq_true rfl) (Nat.le_of_ble_eq_true rfl) (Nat.le_of_ble_eq_true rfl) (Nat.le_of_ble_eq_true rfl) dX3_pass_5 ?_
  obtain ⟨y1, ey1, h⟩ := zbn_e h
  refine z_top ey1 ?_
  clear ey1
  refine lv_istore_n (lv' := [(2, .int y1), (0, .ref q_t), (1, .int x0)]) hx hb dX3_pass_8 rfl hl (by decide) rfl (fun ls hl => ?_)
  refine lv_aload_n hx hb dX3_pass_9 rfl (lv_at hl 1 rfl) ?_
  refine z_get S hF hH iX3_pass_X3 0 rfl rfl 1 (by decide) (List.mem_of_getElem? (i := 5) rfl) rfl dX3_pass_10 ?_
  refine lv_iload_n hx hb dX3_pass_13 rfl (lv_at hl 0 rfl) ?_
  refine lv_iadd hx hb dX3_pass_14 ?_
  obtain ⟨y2, ey2, h⟩ := zbn_e h
  refine z_top ey2 ?_
  clear ey2
  refine lv_istore_n (lv' := [(3, .int y2), (2, .int y1), (0, .ref q_t), (1, .int x0)]) hx hb dX3_pass_15 rfl hl (by decide) rfl (fun ls hl => ?_)
  refine lv_aload_n hx hb dX3_pass_16 rfl (lv_at hl 2 rfl) ?_
  refine z_get S hF hH iX3_pass_X3 0 rfl rfl 1 (by decide) (List.mem_of_getElem? (i := 5) rfl) rfl dX3_pass_17 ?_
  refine lv_istore (lv' := [(4, .int t_minute), (3, .int y2), (2, .int y1), (0, .ref q_t), (1, .int x0)]) hx hb dX3_pass_20 hl (by decide) rfl (fun ls hl => ?_)
  exact w_X3_pass_22 S hr hlocks hF N y1 y2 t_minute t_minute t_out t_came t_left _ _ _ hH (lv_sub hl [3, 2, 1, 0] rfl) h
abbrev wd_X3_wrongBy (cy : Nat → ClassId) (q_t q_t_burgh q_t_ahead q_t_since q_t_stood q_t_due q_t_left q_t_came q_t_burgh_clockName q_t_burgh_clockCorner q_t_burgh_clockAhead q_t_burgh_clockGain q_t_burgh_masterName q_t_burgh_masterCorner q_t_burgh_masterLate q_t_burgh_masterClock q_t_burgh_masterMeets q_t_burgh_meetName q_t_burgh_meetDue : Nat) (t_minute : Int32) (t_out : Int32) (t_stopped : Int32) (t_stood : Nat → Int32) (t_ahead : Nat → Int32) (t_burgh_clocks : Int32) (t_burgh_masters : Int32) (t_burgh_meets : Int32) (t_burgh_patience : Int32) (t_burgh_clockGain : Nat → Int32) (t_since : Nat → Int32) : va_W := [(q_t, .inr (4, [.ref q_t_burgh, .int t_minute, .int t_out, .int t_stopped, .ref q_t_ahead, .ref q_t_since, .ref q_t_stood, .ref q_t_due, .ref q_t_left, .ref q_t_came])), (q_t_stood, .inl (cy 1, 6, .inl t_stood)), (q_t_ahead, .inl (cy 1, 6, .inl t_ahead)), (q_t_burgh, .inr (2, [.int t_burgh_clocks, .int t_burgh_masters, .int t_burgh_meets, .int t_burgh_patience, .ref q_t_burgh_clockName, .ref q_t_burgh_clockCorner, .ref q_t_burgh_clockAhead, .ref q_t_burgh_clockGain, .ref q_t_burgh_masterName, .ref q_t_burgh_masterCorner, .ref q_t_burgh_masterLate, .ref q_t_burgh_masterClock, .ref q_t_burgh_masterMeets, .ref q_t_burgh_meetName, .ref q_t_burgh_meetDue])), (q_t_burgh_clockGain, .inl (cy 1, 6, .inl t_burgh_clockGain)), (q_t_since, .inl (cy 1, 6, .inl t_since))]
theorem iX3_wrongBy_X3 : ∀ w ∈ wsX30, w ∈ wsX3_wrongBy := fun _ h => List.mem_cons_of_mem _ (List.mem_append_left _ (List.mem_append_right _ h))
abbrev rm_X3_wrongBy : Room := { frames := 2, cells := 0, slots := 0, locals := 43 }
set_option maxRecDepth 100000 in
def f_X3_wrongBy (N : Nat) (x0 : Int32) (t_minute : Int32) (t_stopped : Int32) (t_stood : Nat → Int32) (t_ahead : Nat → Int32) (t_burgh_clockGain : Nat → Int32) (t_since : Nat → Int32) : Option (Int32) := zcl (f_X3_reads N x0 t_minute t_stopped t_stood t_ahead t_burgh_clockGain t_since) fun z6 => some (z6 - t_minute)
set_option maxHeartbeats 4000000 in
set_option maxRecDepth 100000 in
theorem c_X3_wrongBy (l : Launch) (G : va_G) (cy : Nat → ClassId) (E : Nat → Nat) (N : Nat) (q_t q_t_burgh q_t_ahead q_t_since q_t_stood q_t_due q_t_left q_t_came q_t_burgh_clockName q_t_burgh_clockCorner q_t_burgh_clockAhead q_t_burgh_clockGain q_t_burgh_masterName q_t_burgh_masterCorner q_t_burgh_masterLate q_t_burgh_masterClock q_t_burgh_masterMeets q_t_burgh_meetName q_t_burgh_meetDue : Nat) (t_minute : Int32) (t_out : Int32) (t_stopped : Int32) (t_stood : Nat → Int32) (t_ahead : Nat → Int32) (t_burgh_clocks : Int32) (t_burgh_masters : Int32) (t_burgh_meets : Int32) (t_burgh_patience : Int32) (t_burgh_clockGain : Nat → Int32) (t_since : Nat → Int32) (x0 : Int32) (r : Int32) (h : f_X3_wrongBy N x0 t_minute t_stopped t_stood t_ahead t_burgh_clockGain t_since = some r) : zM l G cy E yX3_wrongBy wsX3_wrongBy rm_X3_wrongBy [.ref q_t, .int x0] (wd_X3_wrongBy cy q_t q_t_burgh q_t_ahead q_t_since q_t_stood q_t_due q_t_left q_t_came q_t_burgh_clockName q_t_burgh_clockCorner q_t_burgh_clockAhead q_t_burgh_clockGain q_t_burgh_masterName q_t_burgh_masterCorner q_t_burgh_masterLate q_t_burgh_masterClock q_t_burgh_masterMeets q_t_burgh_meetName q_t_burgh_meetDue t_minute t_out t_stopped t_stood t_ahead t_burgh_clocks t_burgh_masters t_burgh_meets t_burgh_patience t_burgh_clockGain t_since) (wd_X3_wrongBy cy q_t q_t_burgh q_t_ahead q_t_since q_t_stood q_t_due q_t_left q_t_came q_t_burgh_clockName q_t_burgh_clockCorner q_t_burgh_clockAhead q_t_burgh_clockGain q_t_burgh_masterName q_t_burgh_masterCorner q_t_burgh_masterLate q_t_burgh_masterClock q_t_burgh_masterMeets q_t_burgh_meetName q_t_burgh_meetDue t_minute t_out t_stopped t_stood t_ahead t_burgh_clocks t_burgh_masters t_burgh_meets t_burgh_patience t_burgh_clockGain t_since) (some (.int r)) 0 0 := by
  refine z_body (cc := cX3_wrongBy) (maxL := 2) (ret := some .int) (by decide) rfl (Nat.le_of_ble_eq_true rfl) ?_
  intro p e s m below meth c ls S hr hlocks hnm hF hH hl
  have S : CallFix p m c cX3_wrongBy 2 s ([.ref q_t, .int x0] : List Value).toArray wsX3_wrongBy RX3 := S
  obtain ⟨hx, hb, hml, hown, hts⟩ := id S
  have hl : lv_has ls 2 [(0, .ref q_t), (1, .int x0)] := hl
  rw [f_X3_wrongBy] at h
  refine lv_aload_n hx hb dX3_wrongBy_0 rfl (lv_at hl 0 rfl) ?_
  refine lv_iload_n hx hb dX3_wrongBy_1 rfl (lv_at hl 1 rfl) ?_
  refine lv_aload_n hx hb dX3_wrongBy_2 rfl (lv_at hl 0 rfl) ?_
  refine z_get S hF hH iX3_wrongBy_X3 0 rfl rfl 1 (by decide) (List.mem_of_getElem? (i := 1) rfl) rfl dX3_wrongBy_3 ?_
  obtain ⟨z6, hz6, h⟩ := zcl_e h
  refine z_callV (As := [.int x0, .int t_minute]) (rest := []) (st1 := [.int z6]) (ws' := (wd_X3_wrongBy cy q_t q_t_burgh q_t_ahead q_t_since q_t_stood q_t_due q_t_left q_t_came q_t_burgh_clockName q_t_burgh_clockCorner q_t_burgh_clockAhead q_t_burgh_clockGain q_t_burgh_masterName q_t_burgh_masterCorner q_t_burgh_masterLate q_t_burgh_masterClock q_t_burgh_masterMeets q_t_burgh_meetName q_t_burgh_meetDue t_minute t_out t_stopped t_stood t_ahead t_burgh_clocks t_burgh_masters t_burgh_meets t_burgh_patience t_burgh_clockGain t_since)) S hF hH (c_X3_reads l G cy E N q_t q_t_burgh q_t_ahead q_t_since q_t_stood q_t_due q_t_left q_t_came q_t_burgh_clockName q_t_burgh_clockCorner q_t_burgh_clockAhead q_t_burgh_clockGain q_t_burgh_masterName q_t_burgh_masterCorner q_t_burgh_masterLate q_t_burgh_masterClock q_t_burgh_masterMeets q_t_burgh_meetName q_t_burgh_meetDue t_minute t_out t_stopped t_stood t_ahead t_burgh_clocks t_burgh_masters t_burgh_meets t_burgh_patience t_burgh_clockGain t_since x0 t_minute z6 hz6) (cwV 2 hts gX3_wrongBy_X3_reads rfl rfl rfl (by decide +kernel) ⟨Nat.le_of_ble_eq_true rfl, Nat.le_of_ble_eq_true rfl⟩) 4 0 rfl rfl [0, 1, 2, 3, 4, 5] rfl (by decide) rfl rfl rfl rfl rfl hl.1 (Nat.le_of_ble_eq_true rfl) dX3_wrongBy_6 ⟨Nat.le_of_ble_eq_true rfl, Nat.le_of_ble_eq_true rfl⟩ (fun H locs hH => ?_)
  refine lv_aload_n hx hb dX3_wrongBy_9 rfl (lv_at hl 0 rfl) ?_
  refine z_get S hF hH iX3_wrongBy_X3 0 rfl rfl 1 (by decide) (List.mem_of_getElem? (i := 1) rfl) rfl dX3_wrongBy_10 ?_
  refine lv_isub hx hb dX3_wrongBy_13 ?_
  cases h
  exact z_iret S hr hlocks hH dX3_wrongBy_14
abbrev wd_X3_resume (cy : Nat → ClassId) (q_t q_t_burgh q_t_ahead q_t_since q_t_stood q_t_due q_t_left q_t_came q_t_burgh_clockName q_t_burgh_clockCorner q_t_burgh_clockAhead q_t_burgh_clockGain q_t_burgh_masterName q_t_burgh_masterCorner q_t_burgh_masterLate q_t_burgh_masterClock q_t_burgh_masterMeets q_t_burgh_meetName q_t_burgh_meetDue : Nat) (t_minute : Int32) (t_out : Int32) (t_stopped : Int32) (t_stood : Nat → Int32) (t_ahead : Nat → Int32) (t_burgh_clocks : Int32) (t_burgh_masters : Int32) (t_burgh_meets : Int32) (t_burgh_patience : Int32) (t_burgh_clockGain : Nat → Int32) (t_since : Nat → Int32) : va_W := [(q_t, .inr (4, [.ref q_t_burgh, .int t_minute, .int t_out, .int t_stopped, .ref q_t_ahead, .ref q_t_since, .ref q_t_stood, .ref q_t_due, .ref q_t_left, .ref q_t_came])), (q_t_stood, .inl (cy 1, 6, .inl t_stood)), (q_t_ahead, .inl (cy 1, 6, .inl t_ahead)), (q_t_burgh, .inr (2, [.int t_burgh_clocks, .int t_burgh_masters, .int t_burgh_meets, .int t_burgh_patience, .ref q_t_burgh_clockName, .ref q_t_burgh_clockCorner, .ref q_t_burgh_clockAhead, .ref q_t_burgh_clockGain, .ref q_t_burgh_masterName, .ref q_t_burgh_masterCorner, .ref q_t_burgh_masterLate, .ref q_t_burgh_masterClock, .ref q_t_burgh_masterMeets, .ref q_t_burgh_meetName, .ref q_t_burgh_meetDue])), (q_t_burgh_clockGain, .inl (cy 1, 6, .inl t_burgh_clockGain)), (q_t_since, .inl (cy 1, 6, .inl t_since))]
theorem iX3_resume_X3 : ∀ w ∈ wsX30, w ∈ wsX3_resume := fun _ h => List.mem_cons_of_mem _ (List.mem_append_left _ (List.mem_append_right _ h))
abbrev rm_X3_resume : Room := { frames := 3, cells := 0, slots := 0, locals := 64 }
set_option maxRecDepth 100000 in
def f_X3_resume (N : Nat) (x0 : Int32) (t_minute : Int32) (t_stopped : Int32) (t_stood : Nat → Int32) (t_ahead : Nat → Int32) (t_burgh_clockGain : Nat → Int32) (t_since : Nat → Int32) : Option (Int32 × (Nat → Int32) × (Nat → Int32)) := zcl (f_X3_wrongBy N x0 t_minute t_stopped t_stood t_ahead t_burgh_clockGain t_since) fun z7 => zck (zin x0 6) <| zbn (upd t_ahead (Int32.toNatClampNeg x0) z7) fun f1 => zbn (upd t_since (Int32.toNatClampNeg x0) t_minute) fun f2 => zbn ((t_stopped &&& ((1 <<< (x0 &&& 31)) ^^^ (-1)))) fun y3 => some (y3, f1, f2)
set_option maxHeartbeats 4000000 in
set_option maxRecDepth 100000 in
theorem c_X3_resume (l : Launch) (G : va_G) (cy : Nat → ClassId) (E : Nat → Nat) (N : Nat) (q_t q_t_burgh q_t_ahead q_t_since q_t_stood q_t_due q_t_left q_t_came q_t_burgh_clockName q_t_burgh_clockCorner q_t_burgh_clockAhead q_t_burgh_clockGain q_t_burgh_masterName q_t_burgh_masterCorner q_t_burgh_masterLate q_t_burgh_masterClock q_t_burgh_masterMeets q_t_burgh_meetName q_t_burgh_meetDue : Nat) (t_minute : Int32) (t_out : Int32) (t_stopped : Int32) (t_stood : Nat → Int32) (t_ahead : Nat → Int32) (t_burgh_clocks : Int32) (t_burgh_masters : Int32) (t_burgh_meets : Int32) (t_burgh_patience : Int32) (t_burgh_clockGain : Nat → Int32) (t_since : Nat → Int32) (x0 : Int32) (r_t_stopped : Int32) (r_t_ahead : Nat → Int32) (r_t_since : Nat → Int32) (h : f_X3_resume N x0 t_minute t_stopped t_stood t_ahead t_burgh_clockGain t_since = some (r_t_stopped, r_t_ahead, r_t_since)) : zM l G cy E yX3_resume wsX3_resume rm_X3_resume [.ref q_t, .int x0] (wd_X3_resume cy q_t q_t_burgh q_t_ahead q_t_since q_t_stood q_t_due q_t_left q_t_came q_t_burgh_clockName q_t_burgh_clockCorner q_t_burgh_clockAhead q_t_burgh_clockGain q_t_burgh_masterName q_t_burgh_masterCorner q_t_burgh_masterLate q_t_burgh_masterClock q_t_burgh_masterMeets q_t_burgh_meetName q_t_burgh_meetDue t_minute t_out t_stopped t_stood t_ahead t_burgh_clocks t_burgh_masters t_burgh_meets t_burgh_patience t_burgh_clockGain t_since) (wd_X3_resume cy q_t q_t_burgh q_t_ahead q_t_since q_t_stood q_t_due q_t_left q_t_came q_t_burgh_clockName q_t_burgh_clockCorner q_t_burgh_clockAhead q_t_burgh_clockGain q_t_burgh_masterName q_t_burgh_masterCorner q_t_burgh_masterLate q_t_burgh_masterClock q_t_burgh_masterMeets q_t_burgh_meetName q_t_burgh_meetDue t_minute t_out r_t_stopped t_stood r_t_ahead t_burgh_clocks t_burgh_masters t_burgh_meets t_burgh_patience t_burgh_clockGain r_t_since) none 0 0 := by
  refine z_body (cc := cX3_resume) (maxL := 2) (ret := none) (by decide) rfl (Nat.le_of_ble_eq_true rfl) ?_
  intro p e s m below meth c ls S hr hlocks hnm hF hH hl
  have S : CallFix p m c cX3_resume 2 s ([.ref q_t, .int x0] : List Value).toArray wsX3_resume RX3 := S
  obtain ⟨hx, hb, hml, hown, hts⟩ := id S
  have hl : lv_has ls 2 [(0, .ref q_t), (1, .int x0)] := hl
  rw [f_X3_resume] at h
  refine lv_aload_n hx hb dX3_resume_0 rfl (lv_at hl 0 rfl) ?_
  refine z_get S hF hH iX3_resume_X3 0 rfl rfl 4 (by decide) (List.mem_of_getElem? (i := 1) rfl) rfl dX3_resume_1 ?_
  refine lv_iload_n hx hb dX3_resume_4 rfl (lv_at hl 1 rfl) ?_
  refine lv_aload_n hx hb dX3_resume_5 rfl (lv_at hl 0 rfl) ?_
  refine lv_iload_n hx hb dX3_resume_6 rfl (lv_at hl 1 rfl) ?_
  obtain ⟨z7, hz7, h⟩ := zcl_e h
  refine z_callV (As := [.int x0]) (rest := [.int x0, .ref q_t_ahead]) (st1 := [.int z7, .int x0, .ref q_t_ahead]) (ws' := (wd_X3_resume cy q_t q_t_burgh q_t_ahead q_t_since q_t_stood q_t_due q_t_left q_t_came q_t_burgh_clockName q_t_burgh_clockCorner q_t_burgh_clockAhead q_t_burgh_clockGain q_t_burgh_masterName q_t_burgh_masterCorner q_t_burgh_masterLate q_t_burgh_masterClock q_t_burgh_masterMeets q_t_burgh_meetName q_t_burgh_meetDue t_minute t_out t_stopped t_stood t_ahead t_burgh_clocks t_burgh_masters t_burgh_meets t_burgh_patience t_burgh_clockGain t_since)) S hF hH (c_X3_wrongBy l G cy E N q_t q_t_burgh q_t_ahead q_t_since q_t_stood q_t_due q_t_left q_t_came q_t_burgh_clockName q_t_burgh_clockCorner q_t_burgh_clockAhead q_t_burgh_clockGain q_t_burgh_masterName q_t_burgh_masterCorner q_t_burgh_masterLate q_t_burgh_masterClock q_t_burgh_masterMeets q_t_burgh_meetName q_t_burgh_meetDue t_minute t_out t_stopped t_stood t_ahead t_burgh_clocks t_burgh_masters t_burgh_meets t_burgh_patience t_burgh_clockGain t_since x0 z7 hz7) (cwV 1 hts gX3_resume_X3_wrongBy rfl rfl rfl (by decide +kernel) ⟨Nat.le_of_ble_eq_true rfl, Nat.le_of_ble_eq_true rfl⟩) 4 0 rfl rfl [0, 1, 2, 3, 4, 5] rfl (by decide) rfl rfl rfl rfl rfl hl.1 (Nat.le_of_ble_eq_true rfl) dX3_resume_7 ⟨Nat.le_of_ble_eq_true rfl, Nat.le_of_ble_eq_true rfl⟩ (fun H locs hH => ?_)
  obtain ⟨h10, h⟩ := zck_e h
  obtain ⟨f1, ef1, h⟩ := zbn_e h
  refine z_iast (ws' := (wd_X3_resume cy q_t q_t_burgh q_t_ahead q_t_since q_t_stood q_t_due q_t_left q_t_came q_t_burgh_clockName q_t_burgh_clockCorner q_t_burgh_clockAhead q_t_burgh_clockGain q_t_burgh_masterName q_t_burgh_masterCorner q_t_burgh_masterLate q_t_burgh_masterClock q_t_burgh_masterMeets q_t_burgh_meetName q_t_burgh_meetDue t_minute t_out t_stopped t_stood f1 t_burgh_clocks t_burgh_masters t_burgh_meets t_burgh_patience t_burgh_clockGain t_since)) (j := (Int32.toNatClampNeg x0)) S hF hH 2 rfl h10 rfl (by rw [ef1]; rfl) dX3_resume_10 (fun H locs hH => ?_)
  clear ef1
  refine lv_aload_n hx hb dX3_resume_11 rfl (lv_at hl 0 rfl) ?_
  refine z_get S hF hH iX3_resume_X3 0 rfl rfl 5 (by decide) (List.mem_of_getElem? (i := 2) rfl) rfl dX3_resume_12 ?_
  refine lv_iload_n hx hb dX3_resume_15 rfl (lv_at hl 1 rfl) ?_
  refine lv_aload_n hx hb dX3_resume_16 rfl (lv_at hl 0 rfl) ?_
  refine z_get S hF hH iX3_resume_X3 0 rfl rfl 1 (by decide) (List.mem_of_getElem? (i := 3) rfl) rfl dX3_resume_17 ?_
  obtain ⟨f2, ef2, h⟩ := zbn_e h
  refine z_iast (ws' := (wd_X3_resume cy q_t q_t_burgh q_t_ahead q_t_since q_t_stood q_t_due q_t_left q_t_came q_t_burgh_clockName q_t_burgh_clockCorner q_t_burgh_clockAhead q_t_burgh_clockGain q_t_burgh_masterName q_t_burgh_masterCorner q_t_burgh_masterLate q_t_burgh_masterClock q_t_burgh_masterMeets q_t_burgh_meetName q_t_burgh_meetDue t_minute t_out t_stopped t_stood f1 t_burgh_clocks t_burgh_masters t_burgh_meets t_burgh_patience t_burgh_clockGain f2)) (j := (Int32.toNatClampNeg x0)) S hF hH 5 rfl h10 rfl (by rw [ef2]; rfl) dX3_resume_20 (fun H locs hH => ?_)
  clear ef2
  refine lv_aload_n hx hb dX3_resume_21 rfl (lv_at hl 0 rfl) ?_
  refine lv_dup hx hb dX3_resume_22 rfl ?_
  refine z_get S hF hH iX3_resume_X3 0 rfl rfl 3 (by decide) (List.mem_of_getElem? (i := 4) rfl) rfl dX3_resume_23 ?_
  refine lv_iconst (v := 1) hx hb dX3_resume_26 (by decide) ?_
  refine lv_iload_n hx hb dX3_resume_27 rfl (lv_at hl 1 rfl) ?_
  refine lv_ishl hx hb dX3_resume_28 ?_
  refine lv_iconst (v := (-1)) hx hb dX3_resume_29 (by decide) ?_
  refine lv_ixor hx hb dX3_resume_30 ?_
  refine lv_iand hx hb dX3_resume_31 ?_
  obtain ⟨y3, ey3, h⟩ := zbn_e h
  refine z_top ey3 ?_
  clear ey3
  refine z_put (ws' := (wd_X3_resume cy q_t q_t_burgh q_t_ahead q_t_since q_t_stood q_t_due q_t_left q_t_came q_t_burgh_clockName q_t_burgh_clockCorner q_t_burgh_clockAhead q_t_burgh_clockGain q_t_burgh_masterName q_t_burgh_masterCorner q_t_burgh_masterLate q_t_burgh_masterClock q_t_burgh_masterMeets q_t_burgh_meetName q_t_burgh_meetDue t_minute t_out y3 t_stood f1 t_burgh_clocks t_burgh_masters t_burgh_meets t_burgh_patience t_burgh_clockGain f2)) S hF hH iX3_resume_X3 tyX3 tyX3_ok nmX3 0 rfl rfl 3 (by decide) (List.mem_of_getElem? (i := 4) rfl) rfl rfl rfl (Nat.le_of_ble_eq_true rfl) rfl dX3_resume_32 (fun H locs hH => ?_)
  cases h
  exact z_vret S hr hlocks hH dX3_resume_35
abbrev wd_X0_live (cy : Nat → ClassId) (q_t q_p0 q_t_in q_t_burgh q_t_verb q_t_who q_t_what q_p0_burgh q_p0_ahead q_p0_since q_p0_stood q_p0_due q_p0_left q_p0_came q_p0_burgh_clockName q_p0_burgh_clockCorner q_p0_burgh_clockAhead q_p0_burgh_clockGain q_p0_burgh_masterName q_p0_burgh_masterCorner q_p0_burgh_masterLate q_p0_burgh_masterClock q_p0_burgh_masterMeets q_p0_burgh_meetName q_p0_burgh_meetDue : Nat) (t_lines : Int32) (t_judged : Int32) (t_why : Int32) (t_good : Int32) (t_minuteThen : Int32) (t_outThen : Int32) (t_who : Nat → Int32) (t_what : Nat → Int32) (t_verb : Nat → Int32) (p0_minute : Int32) (p0_out : Int32) (p0_stopped : Int32) (p0_burgh_clocks : Int32) (p0_burgh_masters : Int32) (p0_burgh_meets : Int32) (p0_burgh_patience : Int32) (p0_burgh_masterLate : Nat → Int32) (p0_ahead : Nat → Int32) (p0_since : Nat → Int32) (p0_burgh_masterMeets : Nat → Int32) (p0_came : Nat → Int32) (p0_left : Nat → Int32) (p0_burgh_masterCorner : Nat → Int32) (p0_burgh_masterClock : Nat → Int32) (p0_due : Nat → Int32) (p0_stood : Nat → Int32) (p0_burgh_clockGain : Nat → Int32) : va_W := [(q_t, .inr (1, [.ref q_t_in, .ref q_t_burgh, .int t_lines, .ref q_t_verb, .ref q_t_who, .ref q_t_what, .int t_judged, .int t_why, .int t_good, .int t_minuteThen, .int t_outThen])), (q_t_who, .inl (cy 1, 40, .inl t_who)), (q_t_what, .inl (cy 1, 40, .inl t_what)), (q_t_verb, .inl (cy 1, 40, .inl t_verb)), (q_p0, .inr (4, [.ref q_p0_burgh, .int p0_minute, .int p0_out, .int p0_stopped, .ref q_p0_ahead, .ref q_p0_since, .ref q_p0_stood, .ref q_p0_due, .ref q_p0_left, .ref q_p0_came])), (q_p0_burgh, .inr (2, [.int p0_burgh_clocks, .int p0_burgh_masters, .int p0_burgh_meets, .int p0_burgh_patience, .ref q_p0_burgh_clockName, .ref q_p0_burgh_clockCorner, .ref q_p0_burgh_clockAhead, .ref q_p0_burgh_clockGain, .ref q_p0_burgh_masterName, .ref q_p0_burgh_masterCorner, .ref q_p0_burgh_masterLate, .ref q_p0_burgh_masterClock, .ref q_p0_burgh_masterMeets, .ref q_p0_burgh_meetName, .ref q_p0_burgh_meetDue])), (q_p0_burgh_masterLate, .inl (cy 1, 6, .inl p0_burgh_masterLate)), (q_p0_ahead, .inl (cy 1, 6, .inl p0_ahead)), (q_p0_since, .inl (cy 1, 6, .inl p0_since)), (q_p0_burgh_masterMeets, .inl (cy 1, 6, .inl p0_burgh_masterMeets)), (q_p0_came, .inl (cy 1, 36, .inl p0_came)), (q_p0_left, .inl (cy 1, 36, .inl p0_left)), (q_p0_burgh_masterCorner, .inl (cy 1, 6, .inl p0_burgh_masterCorner)), (q_p0_burgh_masterClock, .inl (cy 1, 6, .inl p0_burgh_masterClock)), (q_p0_due, .inl (cy 1, 6, .inl p0_due)), (q_p0_stood, .inl (cy 1, 6, .inl p0_stood)), (q_p0_burgh_clockGain, .inl (cy 1, 6, .inl p0_burgh_clockGain))]
theorem iX0_live_X0 : ∀ w ∈ wsX00, w ∈ wsX0_live := fun _ h => List.mem_cons_of_mem _ (List.mem_append_left _ (List.mem_append_left _ (List.mem_append_right _ h)))
theorem iX0_live_X3 : ∀ w ∈ wsX30, w ∈ wsX0_live := fun _ h => List.mem_cons_of_mem _ (List.mem_append_left _ (List.mem_append_right _ h))
abbrev rm_X0_live : Room := { frames := 5, cells := 0, slots := 0, locals := 117 }
set_option maxRecDepth 100000 in
def f_X0_live (N : Nat) (x1 : Int32) (t_who : Nat → Int32) (t_what : Nat → Int32) (t_verb : Nat → Int32) (p0_minute : Int32) (p0_out : Int32) (p0_stopped : Int32) (p0_burgh_masters : Int32) (p0_burgh_meets : Int32) (p0_burgh_masterLate : Nat → Int32) (p0_ahead : Nat → Int32) (p0_since : Nat → Int32) (p0_burgh_masterMeets : Nat → Int32) (p0_came : Nat → Int32) (p0_left : Nat → Int32) (p0_burgh_masterCorner : Nat → Int32) (p0_burgh_masterClock : Nat → Int32) (p0_due : Nat → Int32) (p0_stood : Nat → Int32) (p0_burgh_clockGain : Nat → Int32) : Option (Int32 × Int32 × Int32 × (Nat → Int32) × (Nat → Int32) × (Nat → Int32) × (Nat → Int32) × (Nat → Int32) × (Nat → Int32)) := zck (zin x1 40) <| zbn ((t_who (Int32.toNatClampNeg x1))) fun y1 => zbn ((t_what (Int32.toNatClampNeg x1))) fun y2 => zbn ((t_verb (Int32.toNatClampNeg x1))) fun y3 => if y3 = 9 then (zcl (f_X3_adjust N y1 y2 p0_minute p0_burgh_masterLate p0_ahead p0_since) fun z56 => some (p0_minute, p0_out, p0_stopped, z56.1, z56.2, p0_came, p0_left, p0_due, p0_stood)) else (if y3 = 10 then (zcl (f_X3_halt N y1 p0_minute p0_stopped p0_stood p0_ahead p0_burgh_clockGain p0_since) fun z64 => some (p0_minute, p0_out, z64.1, p0_ahead, p0_since, p0_came, p0_left, p0_due, z64.2)) else (if y3 = 11 then (zcl (f_X3_resume N y1 p0_minute p0_stopped p0_stood p0_ahead p0_burgh_clockGain p0_since) fun z72 => some (p0_minute, p0_out, z72.1, z72.2.1, z72.2.2, p0_came, p0_left, p0_due, p0_stood)) else (if y3 = 12 then (zck (zin y1 6) <| zbn (upd p0_due (Int32.toNatClampNeg y1) y2) fun f4 => some (p0_minute, p0_out, p0_stopped, p0_ahead, p0_since, p0_came, p0_left, f4, p0_stood)) else (zcl (f_X3_pass N y2 p0_minute p0_out p0_stopped p0_burgh_masters p0_burgh_meets p0_burgh_masterMeets p0_came p0_left p0_burgh_masterCorner p0_burgh_masterClock p0_due p0_burgh_masterLate p0_stood p0_ahead p0_burgh_clockGain p0_since) fun z92 => some (z92.2.1, z92.2.2.1, p0_stopped, p0_ahead, p0_since, z92.2.2.2.1, z92.2.2.2.2, p0_due, p0_stood)))))
set_option maxHeartbeats 4000000 in
set_option maxRecDepth 100000 in
theorem c_X0_live (l : Launch) (G : va_G) (cy : Nat → ClassId) (E : Nat → Nat) (N : Nat) (q_t q_p0 q_t_in q_t_burgh q_t_verb q_t_who q_t_what q_p0_burgh q_p0_ahead q_p0_since q_p0_stood q_p0_due q_p0_left q_p0_came q_p0_burgh_clockName q_p0_burgh_clockCorner q_p0_burgh_clockAhead q_p0_burgh_clockGain q_p0_burgh_masterName q_p0_burgh_masterCorner q_p0_burgh_masterLate q_p0_burgh_masterClock q_p0_burgh_masterMeets q_p0_burgh_meetName q_p0_burgh_meetDue : Nat) (t_lines : Int32) (t_judged : Int32) (t_why : Int32) (t_good : Int32) (t_minuteThen : Int32) (t_outThen : Int32) (t_who : Nat → Int32) (t_what : Nat → Int32) (t_verb : Nat → Int32) (p0_minute : Int32) (p0_out : Int32) (p0_stopped : Int32) (p0_burgh_clocks : Int32) (p0_burgh_masters : Int32) (p0_burgh_meets : Int32) (p0_burgh_patience : Int32) (p0_burgh_masterLate : Nat → Int32) (p0_ahead : Nat → Int32) (p0_since : Nat → Int32) (p0_burgh_masterMeets : Nat → Int32) (p0_came : Nat → Int32) (p0_left : Nat → Int32) (p0_burgh_masterCorner : Nat → Int32) (p0_burgh_masterClock : Nat → Int32) (p0_due : Nat → Int32) (p0_stood : Nat → Int32) (p0_burgh_clockGain : Nat → Int32) (x1 : Int32) (r_p0_minute : Int32) (r_p0_out : Int32) (r_p0_stopped : Int32) (r_p0_ahead : Nat → Int32) (r_p0_since : Nat → Int32) (r_p0_came : Nat → Int32) (r_p0_left : Nat → Int32) (r_p0_due : Nat → Int32) (r_p0_stood : Nat → Int32) (h : f_X0_live N x1 t_who t_what t_verb p0_minute p0_out p0_stopped p0_burgh_masters p0_burgh_meets p0_burgh_masterLate p0_ahead p0_since p0_burgh_masterMeets p0_came p0_left p0_burgh_masterCorner p0_burgh_masterClock p0_due p0_stood p0_burgh_clockGain = some (r_p0_minute, r_p0_out, r_p0_stopped, r_p0_ahead, r_p0_since, r_p0_came, r_p0_left, r_p0_due, r_p0_stood)) : zM l G cy E yX0_live wsX0_live rm_X0_live [.ref q_t, .ref q_p0, .int x1] (wd_X0_live cy q_t q_p0 q_t_in q_t_burgh q_t_verb q_t_who q_t_what q_p0_burgh q_p0_ahead q_p0_since q_p0_stood q_p0_due q_p0_left q_p0_came q_p0_burgh_clockName q_p0_burgh_clockCorner q_p0_burgh_clockAhead q_p0_burgh_clockGain q_p0_burgh_masterName q_p0_burgh_masterCorner q_p0_burgh_masterLate q_p0_burgh_masterClock q_p0_burgh_masterMeets q_p0_burgh_meetName q_p0_burgh_meetDue t_lines t_judged t_why t_good t_minuteThen t_outThen t_who t_what t_verb p0_minute p0_out p0_stopped p0_burgh_clocks p0_burgh_masters p0_burgh_meets p0_burgh_patience p0_burgh_masterLate p0_ahead p0_since p0_burgh_masterMeets p0_came p0_left p0_burgh_masterCorner p0_burgh_masterClock p0_due p0_stood p0_burgh_clockGain) (wd_X0_live cy q_t q_p0 q_t_in q_t_burgh q_t_verb q_t_who q_t_what q_p0_burgh q_p0_ahead q_p0_since q_p0_stood q_p0_due q_p0_left q_p0_came q_p0_burgh_clockName q_p0_burgh_clockCorner q_p0_burgh_clockAhead q_p0_burgh_clockGain q_p0_burgh_masterName q_p0_burgh_masterCorner q_p0_burgh_masterLate q_p0_burgh_masterClock q_p0_burgh_masterMeets q_p0_burgh_meetName q_p0_burgh_meetDue t_lines t_judged t_why t_good t_minuteThen t_outThen t_who t_what t_verb r_p0_minute r_p0_out r_p0_stopped p0_burgh_clocks p0_burgh_masters p0_burgh_meets p0_burgh_patience p0_burgh_masterLate r_p0_ahead r_p0_since p0_burgh_masterMeets r_p0_came r_p0_left p0_burgh_masterCorner p0_burgh_masterClock r_p0_due r_p0_stood p0_burgh_clockGain) none 0 0 := by
  refine z_body (cc := cX0_live) (maxL := 5) (ret := none) (by decide) rfl (Nat.le_of_ble_eq_true rfl) ?_
  intro p e s m below meth c ls S hr hlocks hnm hF hH hl
  have S : CallFix p m c cX0_live 5 s ([.ref q_t, .ref q_p0, .int x1] : List Value).toArray wsX0_live RX0 := S
  obtain ⟨hx, hb, hml, hown, hts⟩ := id S
  have hl : lv_has ls 5 [(0, .ref q_t), (1, .ref q_p0), (2, .int x1)] := hl
  rw [f_X0_live] at h
  refine lv_aload_n hx hb dX0_live_0 rfl (lv_at hl 0 rfl) ?_
  refine z_get S hF hH iX0_live_X0 0 rfl rfl 4 (by decide) (List.mem_of_getElem? (i := 1) rfl) rfl dX0_live_1 ?_
  refine lv_iload_n hx hb dX0_live_4 rfl (lv_at hl 2 rfl) ?_
  obtain ⟨h5, h⟩ := zck_e h
  refine z_iald S hF hH 1 rfl h5 rfl dX0_live_5 ?_
  obtain ⟨y1, ey1, h⟩ := zbn_e h
  refine z_top ey1 ?_
  clear ey1
  refine lv_istore_n (lv' := [(3, .int y1), (0, .ref q_t), (1, .ref q_p0), (2, .int x1)]) hx hb dX0_live_6 rfl hl (by decide) rfl (fun ls hl => ?_)
  refine lv_aload_n hx hb dX0_live_7 rfl (lv_at hl 1 rfl) ?_
  refine z_get S hF hH iX0_live_X0 0 rfl rfl 5 (by decide) (List.mem_of_getElem? (i := 2) rfl) rfl dX0_live_8 ?_
  refine lv_iload_n hx hb dX0_live_11 rfl (lv_at hl 3 rfl) ?_
  refine z_iald S hF hH 2 rfl h5 rfl dX0_live_12 ?_
  obtain ⟨y2, ey2, h⟩ := zbn_e h
  refine z_top ey2 ?_
  clear ey2
  refine lv_istore (lv' := [(4, .int y2), (3, .int y1), (0, .ref q_t), (1, .ref q_p0), (2, .int x1)]) hx hb dX0_live_13 hl (by decide) rfl (fun ls hl => ?_)
  refine lv_aload_n hx hb dX0_live_15 rfl (lv_at hl 2 rfl) ?_
  refine z_get S hF hH iX0_live_X0 0 rfl rfl 3 (by decide) (List.mem_of_getElem? (i := 3) rfl) rfl dX0_live_16 ?_
  refine lv_iload_n hx hb dX0_live_19 rfl (lv_at hl 4 rfl) ?_
  refine z_iald S hF hH 3 rfl h5 rfl dX0_live_20 ?_
  obtain ⟨y3, ey3, h⟩ := zbn_e h
  refine z_top ey3 ?_
  clear ey3
  by_cases b21_0 : y3 = 9
  · replace h := zif_t b21_0 h
    refine lv_tableIn (tgt := 52) hx hb dX0_live_21 (by rw [b21_0]; decide) (by rw [b21_0]; decide) (by rw [b21_0]; rfl) (by decide) ?_
    refine lv_aload_n hx hb dX0_live_52 rfl (lv_at hl 3 rfl) ?_
    refine lv_iload_n hx hb dX0_live_53 rfl (lv_at hl 1 rfl) ?_
    refine lv_iload hx hb dX0_live_54 (lv_at hl 0 rfl) ?_
    obtain ⟨z56, hz56, h⟩ := zcl_e h
    refine z_callV (As := [.int y1, .int y2]) (rest := []) (st1 := []) (ws' := (wd_X0_live cy q_t q_p0 q_t_in q_t_burgh q_t_verb q_t_who q_t_what q_p0_burgh q_p0_ahead q_p0_since q_p0_stood q_p0_due q_p0_left q_p0_came q_p0_burgh_clockName q_p0_burgh_clockCorner q_p0_burgh_clockAhead q_p0_burgh_clockGain q_p0_burgh_masterName q_p0_burgh_masterCorner q_p0_burgh_masterLate q_p0_burgh_masterClock q_p0_burgh_masterMeets q_p0_burgh_meetName q_p0_burgh_meetDue t_lines t_judged t_why t_good t_minuteThen t_outThen t_who t_what t_verb p0_minute p0_out p0_stopped p0_burgh_clocks p0_burgh_masters p0_burgh_meets p0_burgh_patience p0_burgh_masterLate z56.1 z56.2 p0_burgh_masterMeets p0_came p0_left p0_burgh_masterCorner p0_burgh_masterClock p0_due p0_stood p0_burgh_clockGain)) S hF hH (c_X3_adjust l G cy E N q_p0 q_p0_burgh q_p0_ahead q_p0_since q_p0_stood q_p0_due q_p0_left q_p0_came q_p0_burgh_clockName q_p0_burgh_clockCorner q_p0_burgh_clockAhead q_p0_burgh_clockGain q_p0_burgh_masterName q_p0_burgh_masterCorner q_p0_burgh_masterLate q_p0_burgh_masterClock q_p0_burgh_masterMeets q_p0_burgh_meetName q_p0_burgh_meetDue p0_minute p0_out p0_stopped p0_burgh_clocks p0_burgh_masters p0_burgh_meets p0_burgh_patience p0_burgh_masterLate p0_ahead p0_since y1 y2 z56.1 z56.2 hz56) (cwV 2 hts gX0_live_X3_adjust rfl rfl rfl (by decide +kernel) ⟨Nat.le_of_ble_eq_true rfl, Nat.le_of_ble_eq_true rfl⟩) 4 0 rfl rfl [4, 5, 6, 7, 8] rfl (by decide) rfl rfl rfl rfl rfl hl.1 (Nat.le_of_ble_eq_true rfl) dX0_live_56 ⟨Nat.le_of_ble_eq_true rfl, Nat.le_of_ble_eq_true rfl⟩ (fun H locs hH => ?_)
    refine lv_goto (tgt := 96) hx hb dX0_live_59 (by decide) ?_
    cases h
    exact z_vret S hr hlocks hH dX0_live_96
  · replace h := zif_f b21_0 h
    by_cases b21_1 : y3 = 10
    · replace h := zif_t b21_1 h
      refine lv_tableIn (tgt := 62) hx hb dX0_live_21 (by rw [b21_1]; decide) (by rw [b21_1]; decide) (by rw [b21_1]; rfl) (by decide) ?_
      refine lv_aload_n hx hb dX0_live_62 rfl (lv_at hl 3 rfl) ?_
      refine lv_iload_n hx hb dX0_live_63 rfl (lv_at hl 1 rfl) ?_
      obtain ⟨z64, hz64, h⟩ := zcl_e h
      refine z_callV (As := [.int y1]) (rest := []) (st1 := []) (ws' := (wd_X0_live cy q_t q_p0 q_t_in q_t_burgh q_t_verb q_t_who q_t_what q_p0_burgh q_p0_ahead q_p0_since q_p0_stood q_p0_due q_p0_left q_p0_came q_p0_burgh_clockName q_p0_burgh_clockCorner q_p0_burgh_clockAhead q_p0_burgh_clockGain q_p0_burgh_masterName q_p0_burgh_masterCorner q_p0_burgh_masterLate q_p0_burgh_masterClock q_p0_burgh_masterMeets q_p0_burgh_meetName q_p0_burgh_meetDue t_lines t_judged t_why t_good t_minuteThen t_outThen t_who t_what t_verb p0_minute p0_out z64.1 p0_burgh_clocks p0_burgh_masters p0_burgh_meets p0_burgh_patience p0_burgh_masterLate p0_ahead p0_since p0_burgh_masterMeets p0_came p0_left p0_burgh_masterCorner p0_burgh_masterClock p0_due z64.2 p0_burgh_clockGain)) S hF hH (c_X3_halt l G cy E N q_p0 q_p0_burgh q_p0_ahead q_p0_since q_p0_stood q_p0_due q_p0_left q_p0_came q_p0_burgh_clockName q_p0_burgh_clockCorner q_p0_burgh_clockAhead q_p0_burgh_clockGain q_p0_burgh_masterName q_p0_burgh_masterCorner q_p0_burgh_masterLate q_p0_burgh_masterClock q_p0_burgh_masterMeets q_p0_burgh_meetName q_p0_burgh_meetDue p0_minute p0_out p0_stopped p0_stood p0_ahead p0_burgh_clocks p0_burgh_masters p0_burgh_meets p0_burgh_patience p0_burgh_clockGain p0_since y1 z64.1 z64.2 hz64) (cwV 1 hts gX0_live_X3_halt rfl rfl rfl (by decide +kernel) ⟨Nat.le_of_ble_eq_true rfl, Nat.le_of_ble_eq_true rfl⟩) 4 0 rfl rfl [4, 15, 7, 5, 16, 8] rfl (by decide) rfl rfl rfl rfl rfl hl.1 (Nat.le_of_ble_eq_true rfl) dX0_live_64 ⟨Nat.le_of_ble_eq_true rfl, Nat.le_of_ble_eq_true rfl⟩ (fun H locs hH => ?_)
      refine lv_goto (tgt := 96) hx hb dX0_live_67 (by decide) ?_
      cases h
      exact z_vret S hr hlocks hH dX0_live_96
    · replace h := zif_f b21_1 h
      by_cases b21_2 : y3 = 11
      · replace h := zif_t b21_2 h
        refine lv_tableIn (tgt := 70) hx hb dX0_live_21 (by rw [b21_2]; decide) (by rw [b21_2]; decide) (by rw [b21_2]; rfl) (by decide) ?_
        refine lv_aload_n hx hb dX0_live_70 rfl (lv_at hl 3 rfl) ?_
        refine lv_iload_n hx hb dX0_live_71 rfl (lv_at hl 1 rfl) ?_
        obtain ⟨z72, hz72, h⟩ := zcl_e h
        refine z_callV (As := [.int y1]) (rest := []) (st1 := []) (ws' := (wd_X0_live cy q_t q_p0 q_t_in q_t_burgh q_t_verb q_t_who q_t_what q_p0_burgh q_p0_ahead q_p0_since q_p0_stood q_p0_due q_p0_left q_p0_came q_p0_burgh_clockName q_p0_burgh_clockCorner q_p0_burgh_clockAhead q_p0_burgh_clockGain q_p0_burgh_masterName q_p0_burgh_masterCorner q_p0_burgh_masterLate q_p0_burgh_masterClock q_p0_burgh_masterMeets q_p0_burgh_meetName q_p0_burgh_meetDue t_lines t_judged t_why t_good t_minuteThen t_outThen t_who t_what t_verb p0_minute p0_out z72.1 p0_burgh_clocks p0_burgh_masters p0_burgh_meets p0_burgh_patience p0_burgh_masterLate z72.2.1 z72.2.2 p0_burgh_masterMeets p0_came p0_left p0_burgh_masterCorner p0_burgh_masterClock p0_due p0_stood p0_burgh_clockGain)) S hF hH (c_X3_resume l G cy E N q_p0 q_p0_burgh q_p0_ahead q_p0_since q_p0_stood q_p0_due q_p0_left q_p0_came q_p0_burgh_clockName q_p0_burgh_clockCorner q_p0_burgh_clockAhead q_p0_burgh_clockGain q_p0_burgh_masterName q_p0_burgh_masterCorner q_p0_burgh_masterLate q_p0_burgh_masterClock q_p0_burgh_masterMeets q_p0_burgh_meetName q_p0_burgh_meetDue p0_minute p0_out p0_stopped p0_stood p0_ahead p0_burgh_clocks p0_burgh_masters p0_burgh_meets p0_burgh_patience p0_burgh_clockGain p0_since y1 z72.1 z72.2.1 z72.2.2 hz72) (cwV 1 hts gX0_live_X3_resume rfl rfl rfl (by decide +kernel) ⟨Nat.le_of_ble_eq_true rfl, Nat.le_of_ble_eq_true rfl⟩) 4 0 rfl rfl [4, 15, 7, 5, 16, 8] rfl (by decide) rfl rfl rfl rfl rfl hl.1 (Nat.le_of_ble_eq_true rfl) dX0_live_72 ⟨Nat.le_of_ble_eq_true rfl, Nat.le_of_ble_eq_true rfl⟩ (fun H locs hH => ?_)
        refine lv_goto (tgt := 96) hx hb dX0_live_75 (by decide) ?_
        cases h
        exact z_vret S hr hlocks hH dX0_live_96
      · replace h := zif_f b21_2 h
        by_cases b21_3 : y3 = 12
        · replace h := zif_t b21_3 h
          refine lv_tableIn (tgt := 78) hx hb dX0_live_21 (by rw [b21_3]; decide) (by rw [b21_3]; decide) (by rw [b21_3]; rfl) (by decide) ?_
          refine lv_aload_n hx hb dX0_live_78 rfl (lv_at hl 3 rfl) ?_
          refine z_get S hF hH iX0_live_X3 4 rfl rfl 7 (by decide) (List.mem_of_getElem? (i := 4) rfl) rfl dX0_live_79 ?_
          refine lv_iload_n hx hb dX0_live_82 rfl (lv_at hl 1 rfl) ?_
          refine lv_iload hx hb dX0_live_83 (lv_at hl 0 rfl) ?_
          obtain ⟨h85, h⟩ := zck_e h
          obtain ⟨f4, ef4, h⟩ := zbn_e h
          refine z_iast (ws' := (wd_X0_live cy q_t q_p0 q_t_in q_t_burgh q_t_verb q_t_who q_t_what q_p0_burgh q_p0_ahead q_p0_since q_p0_stood q_p0_due q_p0_left q_p0_came q_p0_burgh_clockName q_p0_burgh_clockCorner q_p0_burgh_clockAhead q_p0_burgh_clockGain q_p0_burgh_masterName q_p0_burgh_masterCorner q_p0_burgh_masterLate q_p0_burgh_masterClock q_p0_burgh_masterMeets q_p0_burgh_meetName q_p0_burgh_meetDue t_lines t_judged t_why t_good t_minuteThen t_outThen t_who t_what t_verb p0_minute p0_out p0_stopped p0_burgh_clocks p0_burgh_masters p0_burgh_meets p0_burgh_patience p0_burgh_masterLate p0_ahead p0_since p0_burgh_masterMeets p0_came p0_left p0_burgh_masterCorner p0_burgh_masterClock f4 p0_stood p0_burgh_clockGain)) (j := (Int32.toNatClampNeg y1)) S hF hH 14 rfl h85 rfl (by rw [ef4]; rfl) dX0_live_85 (fun H locs hH => ?_)
          clear ef4
          refine lv_goto (tgt := 96) hx hb dX0_live_86 (by decide) ?_
          cases h
          exact z_vret S hr hlocks hH dX0_live_96
        · replace h := zif_f b21_3 h
          refine lv_tableOut (tgt := 89) hx hb dX0_live_21 (z_sw (fun k h1 h2 => by rcases (show k = 9 ∨ k = 10 ∨ k = 11 ∨ k = 12 by omega) with rfl | rfl | rfl | rfl <;> assumption)) (by decide) ?_
          refine lv_aload_n hx hb dX0_live_89 rfl (lv_at hl 3 rfl) ?_
          refine lv_iload hx hb dX0_live_90 (lv_at hl 0 rfl) ?_
          obtain ⟨z92, hz92, h⟩ := zcl_e h
          refine z_callV (As := [.int y2]) (rest := []) (st1 := [.int z92.1]) (ws' := (wd_X0_live cy q_t q_p0 q_t_in q_t_burgh q_t_verb q_t_who q_t_what q_p0_burgh q_p0_ahead q_p0_since q_p0_stood q_p0_due q_p0_left q_p0_came q_p0_burgh_clockName q_p0_burgh_clockCorner q_p0_burgh_clockAhead q_p0_burgh_clockGain q_p0_burgh_masterName q_p0_burgh_masterCorner q_p0_burgh_masterLate q_p0_burgh_masterClock q_p0_burgh_masterMeets q_p0_burgh_meetName q_p0_burgh_meetDue t_lines t_judged t_why t_good t_minuteThen t_outThen t_who t_what t_verb z92.2.1 z92.2.2.1 p0_stopped p0_burgh_clocks p0_burgh_masters p0_burgh_meets p0_burgh_patience p0_burgh_masterLate p0_ahead p0_since p0_burgh_masterMeets z92.2.2.2.1 z92.2.2.2.2 p0_burgh_masterCorner p0_burgh_masterClock p0_due p0_stood p0_burgh_clockGain)) S hF hH (c_X3_pass l G cy E N q_p0 q_p0_burgh q_p0_ahead q_p0_since q_p0_stood q_p0_due q_p0_left q_p0_came q_p0_burgh_clockName q_p0_burgh_clockCorner q_p0_burgh_clockAhead q_p0_burgh_clockGain q_p0_burgh_masterName q_p0_burgh_masterCorner q_p0_burgh_masterLate q_p0_burgh_masterClock q_p0_burgh_masterMeets q_p0_burgh_meetName q_p0_burgh_meetDue p0_minute p0_out p0_stopped p0_burgh_clocks p0_burgh_masters p0_burgh_meets p0_burgh_patience p0_burgh_masterMeets p0_came p0_left p0_burgh_masterCorner p0_burgh_masterClock p0_due p0_burgh_masterLate p0_stood p0_ahead p0_burgh_clockGain p0_since y2 z92.1 z92.2.1 z92.2.2.1 z92.2.2.2.1 z92.2.2.2.2 hz92) (cwV 1 hts gX0_live_X3_pass rfl rfl rfl (by decide +kernel) ⟨Nat.le_of_ble_eq_true rfl, Nat.le_of_ble_eq_true rfl⟩) 4 0 rfl rfl [4, 5, 9, 10, 11, 12, 13, 14, 6, 15, 7, 16, 8] rfl (by decide) rfl rfl rfl rfl rfl hl.1 (Nat.le_of_ble_eq_true rfl) dX0_live_92 ⟨Nat.le_of_ble_eq_true rfl, Nat.le_of_ble_eq_true rfl⟩ (fun H locs hH => ?_)
          refine lv_pop hx hb dX0_live_95 rfl ?_
          cases h
          exact z_vret S hr hlocks hH dX0_live_96
abbrev wd_X3_mastersIn (cy : Nat → ClassId) (q_t q_p0 q_t_burgh q_t_ahead q_t_since q_t_stood q_t_due q_t_left q_t_came q_t_burgh_clockName q_t_burgh_clockCorner q_t_burgh_clockAhead q_t_burgh_clockGain q_t_burgh_masterName q_t_burgh_masterCorner q_t_burgh_masterLate q_t_burgh_masterClock q_t_burgh_masterMeets q_t_burgh_meetName q_t_burgh_meetDue : Nat) (t_minute : Int32) (t_out : Int32) (t_stopped : Int32) (t_burgh_clocks : Int32) (t_burgh_masters : Int32) (t_burgh_meets : Int32) (t_burgh_patience : Int32) (p0 : Nat → Int32) : va_W := [(q_t, .inr (4, [.ref q_t_burgh, .int t_minute, .int t_out, .int t_stopped, .ref q_t_ahead, .ref q_t_since, .ref q_t_stood, .ref q_t_due, .ref q_t_left, .ref q_t_came])), (q_t_burgh, .inr (2, [.int t_burgh_clocks, .int t_burgh_masters, .int t_burgh_meets, .int t_burgh_patience, .ref q_t_burgh_clockName, .ref q_t_burgh_clockCorner, .ref q_t_burgh_clockAhead, .ref q_t_burgh_clockGain, .ref q_t_burgh_masterName, .ref q_t_burgh_masterCorner, .ref q_t_burgh_masterLate, .ref q_t_burgh_masterClock, .ref q_t_burgh_masterMeets, .ref q_t_burgh_meetName, .ref q_t_burgh_meetDue])), (q_p0, .inl (cy 1, 36, .inl p0))]
theorem iX3_mastersIn_X1 : ∀ w ∈ wsX10, w ∈ wsX3_mastersIn := fun _ h => List.mem_cons_of_mem _ (List.mem_append_right _ h)
theorem iX3_mastersIn_X3 : ∀ w ∈ wsX30, w ∈ wsX3_mastersIn := fun _ h => List.mem_cons_of_mem _ (List.mem_append_left _ (List.mem_append_right _ h))
abbrev rm_X3_mastersIn : Room := { frames := 1, cells := 0, slots := 0, locals := 21 }
set_option maxRecDepth 100000 in
def f_X3_mastersIn_5 (N : Nat) (t_burgh_masters : Int32) (p0 : Nat → Int32) : Nat → Int32 → Int32 → Int32 → Option (Int32)
  | 0, _, _, _ => none
  | n + 1, x2, x3, x4 => if t_burgh_masters ≤ x4 then (some x3) else (zcl (f_X11_slot N x4 x2) fun z21 => zck (zin z21 36) <| if (p0 (Int32.toNatClampNeg z21)) = (-1) then (zbn (x4 + 1) fun y1 => f_X3_mastersIn_5 N t_burgh_masters p0 n x2 x3 y1) else (zbn ((x3 ||| (1 <<< (x4 &&& 31)))) fun y2 => zbn (x4 + 1) fun y3 => f_X3_mastersIn_5 N t_burgh_masters p0 n x2 y2 y3))
set_option maxRecDepth 100000 in
def f_X3_mastersIn (N : Nat) (x1 : Int32) (t_burgh_masters : Int32) (p0 : Nat → Int32) : Option (Int32) := f_X3_mastersIn_5 N t_burgh_masters p0 N x1 0 0
set_option maxHeartbeats 4000000 in
set_option maxRecDepth 100000 in
theorem w_X3_mastersIn_5 {p : Program} {l : Launch} {e : Env} {s : State} {m : MethodId} {args : Array Value} {below : List Frame} {meth : Method} {c : Code} {G : va_G} {cy : Nat → ClassId} {E : Nat → Nat} {w0 : va_W} {N : Nat} {q_t q_p0 q_t_burgh q_t_ahead q_t_since q_t_stood q_t_due q_t_left q_t_came q_t_burgh_clockName q_t_burgh_clockCorner q_t_burgh_clockAhead q_t_burgh_clockGain q_t_burgh_masterName q_t_burgh_masterCorner q_t_burgh_masterLate q_t_burgh_masterClock q_t_burgh_masterMeets q_t_burgh_meetName q_t_burgh_meetDue : Nat} {t_minute : Int32} {t_out : Int32} {t_stopped : Int32} {t_burgh_clocks : Int32} {t_burgh_masters : Int32} {t_burgh_meets : Int32} {t_burgh_patience : Int32} {p0 : Nat → Int32} {r : Int32} (S : CallFix p m c cX3_mastersIn 5 s args wsX3_mastersIn RX3) (hr : meth.sig.returnType = some .int) (hlocks : meth.locks = false) (hF : zF G cy E (va_A w0 s.heap.size) s) :
    ∀ (n : Nat) (x2 : Int32) (x3 : Int32) (x4 : Int32) (H : Heap) (locs : List Loc) (ls : Array Slot), zH G (va_A w0 s.heap.size) s H locs (wd_X3_mastersIn cy q_t q_p0 q_t_burgh q_t_ahead q_t_since q_t_stood q_t_due q_t_left q_t_came q_t_burgh_clockName q_t_burgh_clockCorner q_t_burgh_clockAhead q_t_burgh_clockGain q_t_burgh_masterName q_t_burgh_masterCorner q_t_burgh_masterLate q_t_burgh_masterClock q_t_burgh_masterMeets q_t_burgh_meetName q_t_burgh_meetDue t_minute t_out t_stopped t_burgh_clocks t_burgh_masters t_burgh_meets t_burgh_patience p0) → lv_has ls 5 [(0, .ref q_t), (1, .ref q_p0), (2, .int x2), (3, .int x3), (4, .int x4)] → f_X3_mastersIn_5 N t_burgh_masters p0 n x2 x3 x4 = some r → W p l e rm_X3_mastersIn s m args below meth c H locs 0 0 (MQ below (zQ G w0 (wd_X3_mastersIn cy q_t q_p0 q_t_burgh q_t_ahead q_t_since q_t_stood q_t_due q_t_left q_t_came q_t_burgh_clockName q_t_burgh_clockCorner q_t_burgh_clockAhead q_t_burgh_clockGain q_t_burgh_masterName q_t_burgh_masterCorner q_t_burgh_masterLate q_t_burgh_masterClock q_t_burgh_masterMeets q_t_burgh_meetName q_t_burgh_meetDue t_minute t_out t_stopped t_burgh_clocks t_burgh_masters t_burgh_meets t_burgh_patience p0) s.heap.size (some (.int r))) args s 0 0 (va_A w0 s.heap.size)) (F0 m 5 ls []) := by
  obtain ⟨hx, hb, hml, hown, hts⟩ := id S
  intro n
  induction n with
  | zero =>
    intro x2 x3 x4 H locs ls hH hl h
    rw [f_X3_mastersIn_5] at h
    cases h
  | succ n ih =>
    intro x2 x3 x4 H locs ls hH hl h
    rw [f_X3_mastersIn_5] at h
    refine lv_iload hx hb dX3_mastersIn_5 (lv_at hl 4 rfl) ?_
    refine lv_aload_n hx hb dX3_mastersIn_7 rfl (lv_at hl 0 rfl) ?_
    refine z_get S hF hH iX3_mastersIn_X3 0 rfl rfl 0 (by decide) (List.mem_of_getElem? (i := 1) rfl) rfl dX3_mastersIn_8 ?_
    refine z_get S hF hH iX3_mastersIn_X1 1 rfl rfl 1 (by decide) (List.mem_of_getElem? (i := 2) rfl) rfl dX3_mastersIn_11 ?_
    refine lv_icmp_ge (tgt := 42) hx hb dX3_mastersIn_14 (by decide) (fun b14 => ?_) (fun b14 => ?_)
    · replace h := zif_t b14 h
      refine lv_iload_n hx hb dX3_mastersIn_42 rfl (lv_at hl 3 rfl) ?_
      cases h
      exact z_iret S hr hlocks hH dX3_mastersIn_43
    · replace h := zif_f b14 h
      refine lv_aload_n hx hb dX3_mastersIn_17 rfl (lv_at hl 1 rfl) ?_
      refine lv_iload hx hb dX3_mastersIn_18 (lv_at hl 4 rfl) ?_
      refine lv_iload_n hx hb dX3_mastersIn_20 rfl (lv_at hl 2 rfl) ?_
      obtain ⟨z21, hz21, h⟩ := zcl_e h
      refine z_callSN (As := [.int x4, .int x2]) (rest := [.ref q_p0]) (st1 := [.int z21, .ref q_p0]) (ws' := (wd_X3_mastersIn cy q_t q_p0 q_t_burgh q_t_ahead q_t_since q_t_stood q_t_due q_t_left q_t_came q_t_burgh_clockName q_t_burgh_clockCorner q_t_burgh_clockAhead q_t_burgh_clockGain q_t_burgh_masterName q_t_burgh_masterCorner q_t_burgh_masterLate q_t_burgh_masterClock q_t_burgh_masterMeets q_t_burgh_meetName q_t_burgh_meetDue t_minute t_out t_stopped t_burgh_clocks t_burgh_masters t_burgh_meets t_burgh_patience p0)) S hF hH (c_X11_slot l G cy E N x4 x2 z21 hz21) ⟨va_cnB 2 hts gX3_mastersIn_X11_slot_n131 rfl rfl rfl (hF.2.1.1 _ (List.mem_of_getElem? (i := 8) rfl)) (hts _ (List.mem_of_getElem? (i := 4) rfl)) (by decide +kernel) ⟨Nat.le_of_ble_eq_true rfl, Nat.le_of_ble_eq_true rfl⟩, hts _ (List.mem_of_getElem? (i := 3) rfl), trivial⟩ [] rfl (by decide) rfl rfl rfl rfl rfl hl.1 (Nat.le_of_ble_eq_true rfl) dX3_mastersIn_21 ⟨Nat.le_of_ble_eq_true rfl, Nat.le_of_ble_eq_true rfl⟩ (fun H locs hH => ?_)
      obtain ⟨h24, h⟩ := zck_e h
      refine z_iald S hF hH 2 rfl h24 rfl dX3_mastersIn_24 ?_
      refine lv_iconst (v := (-1)) hx hb dX3_mastersIn_25 (by decide) ?_
      refine lv_icmp_eq (tgt := 36) hx hb dX3_mastersIn_26 (by decide) (fun b26 => ?_) (fun b26 => ?_)
      · replace h := zif_t b26 h
        obtain ⟨y1, ey1, h⟩ := zbn_e h
        refine lv_iinc (v := y1) (lv' := [(4, .int y1), (0, .ref q_t), (1, .ref q_p0), (2, .int x2), (3, .int x3)]) hx hb dX3_mastersIn_36 hl (k := 4) rfl (by rw [ey1]; exact congrArg (fun z => x4 + z) (by decide)) (by decide) rfl (fun ls hl => ?_)
        clear ey1
        refine lv_goto (tgt := 5) hx hb dX3_mastersIn_39 (by decide) ?_
        exact ih x2 x3 y1 _ _ _ hH (lv_sub hl [1, 2, 3, 4, 0] rfl) h
      · replace h := zif_f b26 h
        refine lv_iload_n hx hb dX3_mastersIn_29 rfl (lv_at hl 3 rfl) ?_
        refine lv_iconst (v := 1) hx hb dX3_mastersIn_30 (by decide) ?_
        refine lv_iload hx hb dX3_mastersIn_31 (lv_at hl 4 rfl) ?_
        refine lv_ishl hx hb dX3_mastersIn_33 ?_
        refine lv_ior hx hb dX3_mastersIn_34 ?_
        obtain ⟨y2, ey2, h⟩ := zbn_e h
        refine z_top ey2 ?_
        clear ey2
        refine lv_istore_n (lv' := [(3, .int y2), (0, .ref q_t), (1, .ref q_p0), (2, .int x2), (4, .int x4)]) hx hb dX3_mastersIn_35 rfl hl (by decide) rfl (fun ls hl => ?_)
        obtain ⟨y3, ey3, h⟩ := zbn_e h
        refine lv_iinc (v := y3) (lv' := [(4, .int y3), (3, .int y2), (0, .ref q_t), (1, .ref q_p0), (2, .int x2)]) hx hb dX3_mastersIn_36 hl (k := 4) rfl (by rw [ey3]; exact congrArg (fun z => x4 + z) (by decide)) (by decide) rfl (fun ls hl => ?_)
        clear ey3
        refine lv_goto (tgt := 5) hx hb dX3_mastersIn_39 (by decide) ?_
        exact ih x2 y2 y3 _ _ _ hH (lv_sub hl [2, 3, 4, 1, 0] rfl) h
set_option maxHeartbeats 4000000 in
set_option maxRecDepth 100000 in
theorem c_X3_mastersIn (l : Launch) (G : va_G) (cy : Nat → ClassId) (E : Nat → Nat) (N : Nat) (q_t q_p0 q_t_burgh q_t_ahead q_t_since q_t_stood q_t_due q_t_left q_t_came q_t_burgh_clockName q_t_burgh_clockCorner q_t_burgh_clockAhead q_t_burgh_clockGain q_t_burgh_masterName q_t_burgh_masterCorner q_t_burgh_masterLate q_t_burgh_masterClock q_t_burgh_masterMeets q_t_burgh_meetName q_t_burgh_meetDue : Nat) (t_minute : Int32) (t_out : Int32) (t_stopped : Int32) (t_burgh_clocks : Int32) (t_burgh_masters : Int32) (t_burgh_meets : Int32) (t_burgh_patience : Int32) (p0 : Nat → Int32) (x1 : Int32) (r : Int32) (h : f_X3_mastersIn N x1 t_burgh_masters p0 = some r) : zM l G cy E yX3_mastersIn wsX3_mastersIn rm_X3_mastersIn [.ref q_t, .ref q_p0, .int x1] (wd_X3_mastersIn cy q_t q_p0 q_t_burgh q_t_ahead q_t_since q_t_stood q_t_due q_t_left q_t_came q_t_burgh_clockName q_t_burgh_clockCorner q_t_burgh_clockAhead q_t_burgh_clockGain q_t_burgh_masterName q_t_burgh_masterCorner q_t_burgh_masterLate q_t_burgh_masterClock q_t_burgh_masterMeets q_t_burgh_meetName q_t_burgh_meetDue t_minute t_out t_stopped t_burgh_clocks t_burgh_masters t_burgh_meets t_burgh_patience p0) (wd_X3_mastersIn cy q_t q_p0 q_t_burgh q_t_ahead q_t_since q_t_stood q_t_due q_t_left q_t_came q_t_burgh_clockName q_t_burgh_clockCorner q_t_burgh_clockAhead q_t_burgh_clockGain q_t_burgh_masterName q_t_burgh_masterCorner q_t_burgh_masterLate q_t_burgh_masterClock q_t_burgh_masterMeets q_t_burgh_meetName q_t_burgh_meetDue t_minute t_out t_stopped t_burgh_clocks t_burgh_masters t_burgh_meets t_burgh_patience p0) (some (.int r)) 0 0 := by
  refine z_body (cc := cX3_mastersIn) (maxL := 5) (ret := some .int) (by decide) rfl (Nat.le_of_ble_eq_true rfl) ?_
  intro p e s m below meth c ls S hr hlocks hnm hF hH hl
  have S : CallFix p m c cX3_mastersIn 5 s ([.ref q_t, .ref q_p0, .int x1] : List Value).toArray wsX3_mastersIn RX3 := S
  obtain ⟨hx, hb, hml, hown, hts⟩ := id S
  have hl : lv_has ls 5 [(0, .ref q_t), (1, .ref q_p0), (2, .int x1)] := hl
  rw [f_X3_mastersIn] at h
  refine lv_iconst (v := 0) hx hb dX3_mastersIn_0 (by decide) ?_
  refine lv_istore_n (lv' := [(3, .int 0), (0, .ref q_t), (1, .ref q_p0), (2, .int x1)]) hx hb dX3_mastersIn_1 rfl hl (by decide) rfl (fun ls hl => ?_)
  refine lv_iconst (v := 0) hx hb dX3_mastersIn_2 (by decide) ?_
  refine lv_istore (lv' := [(4, .int 0), (3, .int 0), (0, .ref q_t), (1, .ref q_p0), (2, .int x1)]) hx hb dX3_mastersIn_3 hl (by decide) rfl (fun ls hl => ?_)
  exact w_X3_mastersIn_5 S hr hlocks hF N x1 0 0 _ _ _ hH (lv_sub hl [2, 3, 4, 1, 0] rfl) h
abbrev wd_X3_whyNotMove (cy : Nat → ClassId) (q_t q_t_burgh q_t_ahead q_t_since q_t_stood q_t_due q_t_left q_t_came q_t_burgh_clockName q_t_burgh_clockCorner q_t_burgh_clockAhead q_t_burgh_clockGain q_t_burgh_masterName q_t_burgh_masterCorner q_t_burgh_masterLate q_t_burgh_masterClock q_t_burgh_masterMeets q_t_burgh_meetName q_t_burgh_meetDue : Nat) (t_minute : Int32) (t_out : Int32) (t_stopped : Int32) (t_burgh_clocks : Int32) (t_burgh_masters : Int32) (t_burgh_meets : Int32) (t_burgh_patience : Int32) (t_left : Nat → Int32) : va_W := [(q_t, .inr (4, [.ref q_t_burgh, .int t_minute, .int t_out, .int t_stopped, .ref q_t_ahead, .ref q_t_since, .ref q_t_stood, .ref q_t_due, .ref q_t_left, .ref q_t_came])), (q_t_burgh, .inr (2, [.int t_burgh_clocks, .int t_burgh_masters, .int t_burgh_meets, .int t_burgh_patience, .ref q_t_burgh_clockName, .ref q_t_burgh_clockCorner, .ref q_t_burgh_clockAhead, .ref q_t_burgh_clockGain, .ref q_t_burgh_masterName, .ref q_t_burgh_masterCorner, .ref q_t_burgh_masterLate, .ref q_t_burgh_masterClock, .ref q_t_burgh_masterMeets, .ref q_t_burgh_meetName, .ref q_t_burgh_meetDue])), (q_t_left, .inl (cy 1, 36, .inl t_left))]
theorem iX3_whyNotMove_X3 : ∀ w ∈ wsX30, w ∈ wsX3_whyNotMove := fun _ h => List.mem_cons_of_mem _ (List.mem_append_left _ (List.mem_append_right _ h))
abbrev rm_X3_whyNotMove : Room := { frames := 2, cells := 0, slots := 0, locals := 45 }
set_option maxRecDepth 100000 in
def f_X3_whyNotMove (N : Nat) (x0 : Int32) (x1 : Int32) (t_minute : Int32) (t_burgh_masters : Int32) (t_left : Nat → Int32) : Option (Int32) := zcl (f_X3_mastersIn N x0 t_burgh_masters t_left) fun z6 => if z6 = 0 then (if t_minute < x1 then (some 0) else (some 2)) else (some 1)
set_option maxHeartbeats 4000000 in
set_option maxRecDepth 100000 in
theorem c_X3_whyNotMove (l : Launch) (G : va_G) (cy : Nat → ClassId) (E : Nat → Nat) (N : Nat) (q_t q_t_burgh q_t_ahead q_t_since q_t_stood q_t_due q_t_left q_t_came q_t_burgh_clockName q_t_burgh_clockCorner q_t_burgh_clockAhead q_t_burgh_clockGain q_t_burgh_masterName q_t_burgh_masterCorner q_t_burgh_masterLate q_t_burgh_masterClock q_t_burgh_masterMeets q_t_burgh_meetName q_t_burgh_meetDue : Nat) (t_minute : Int32) (t_out : Int32) (t_stopped : Int32) (t_burgh_clocks : Int32) (t_burgh_masters : Int32) (t_burgh_meets : Int32) (t_burgh_patience : Int32) (t_left : Nat → Int32) (x0 : Int32) (x1 : Int32) (r : Int32) (h : f_X3_whyNotMove N x0 x1 t_minute t_burgh_masters t_left = some r) : zM l G cy E yX3_whyNotMove wsX3_whyNotMove rm_X3_whyNotMove [.ref q_t, .int x0, .int x1] (wd_X3_whyNotMove cy q_t q_t_burgh q_t_ahead q_t_since q_t_stood q_t_due q_t_left q_t_came q_t_burgh_clockName q_t_burgh_clockCorner q_t_burgh_clockAhead q_t_burgh_clockGain q_t_burgh_masterName q_t_burgh_masterCorner q_t_burgh_masterLate q_t_burgh_masterClock q_t_burgh_masterMeets q_t_burgh_meetName q_t_burgh_meetDue t_minute t_out t_stopped t_burgh_clocks t_burgh_masters t_burgh_meets t_burgh_patience t_left) (wd_X3_whyNotMove cy q_t q_t_burgh q_t_ahead q_t_since q_t_stood q_t_due q_t_left q_t_came q_t_burgh_clockName q_t_burgh_clockCorner q_t_burgh_clockAhead q_t_burgh_clockGain q_t_burgh_masterName q_t_burgh_masterCorner q_t_burgh_masterLate q_t_burgh_masterClock q_t_burgh_masterMeets q_t_burgh_meetName q_t_burgh_meetDue t_minute t_out t_stopped t_burgh_clocks t_burgh_masters t_burgh_meets t_burgh_patience t_left) (some (.int r)) 0 0 := by
  refine z_body (cc := cX3_whyNotMove) (maxL := 3) (ret := some .int) (by decide) rfl (Nat.le_of_ble_eq_true rfl) ?_
  intro p e s m below meth c ls S hr hlocks hnm hF hH hl
  have S : CallFix p m c cX3_whyNotMove 3 s ([.ref q_t, .int x0, .int x1] : List Value).toArray wsX3_whyNotMove RX3 := S
  obtain ⟨hx, hb, hml, hown, hts⟩ := id S
  have hl : lv_has ls 3 [(0, .ref q_t), (1, .int x0), (2, .int x1)] := hl
  rw [f_X3_whyNotMove] at h
  refine lv_aload_n hx hb dX3_whyNotMove_0 rfl (lv_at hl 0 rfl) ?_
  refine lv_aload_n hx hb dX3_whyNotMove_1 rfl (lv_at hl 0 rfl) ?_
  refine z_get S hF hH iX3_whyNotMove_X3 0 rfl rfl 8 (by decide) (List.mem_of_getElem? (i := 1) rfl) rfl dX3_whyNotMove_2 ?_
  refine lv_iload_n hx hb dX3_whyNotMove_5 rfl (lv_at hl 1 rfl) ?_
  obtain ⟨z6, hz6, h⟩ := zcl_e h
  refine z_callV (As := [.ref q_t_left, .int x0]) (rest := []) (st1 := [.int z6]) (ws' := (wd_X3_whyNotMove cy q_t q_t_burgh q_t_ahead q_t_since q_t_stood q_t_due q_t_left q_t_came q_t_burgh_clockName q_t_burgh_clockCorner q_t_burgh_clockAhead q_t_burgh_clockGain q_t_burgh_masterName q_t_burgh_masterCorner q_t_burgh_masterLate q_t_burgh_masterClock q_t_burgh_masterMeets q_t_burgh_meetName q_t_burgh_meetDue t_minute t_out t_stopped t_burgh_clocks t_burgh_masters t_burgh_meets t_burgh_patience t_left)) S hF hH (c_X3_mastersIn l G cy E N q_t q_t_left q_t_burgh q_t_ahead q_t_since q_t_stood q_t_due q_t_left q_t_came q_t_burgh_clockName q_t_burgh_clockCorner q_t_burgh_clockAhead q_t_burgh_clockGain q_t_burgh_masterName q_t_burgh_masterCorner q_t_burgh_masterLate q_t_burgh_masterClock q_t_burgh_masterMeets q_t_burgh_meetName q_t_burgh_meetDue t_minute t_out t_stopped t_burgh_clocks t_burgh_masters t_burgh_meets t_burgh_patience t_left x0 z6 hz6) (cwV 2 hts gX3_whyNotMove_X3_mastersIn rfl rfl rfl (by decide +kernel) ⟨Nat.le_of_ble_eq_true rfl, Nat.le_of_ble_eq_true rfl⟩) 4 0 rfl rfl [0, 1, 2] rfl (by decide) rfl rfl rfl rfl rfl hl.1 (Nat.le_of_ble_eq_true rfl) dX3_whyNotMove_6 ⟨Nat.le_of_ble_eq_true rfl, Nat.le_of_ble_eq_true rfl⟩ (fun H locs hH => ?_)
  refine lv_if_eq (tgt := 14) hx hb dX3_whyNotMove_9 (by decide) (fun b9 => ?_) (fun b9 => ?_)
  · replace h := zif_t b9 h
    refine lv_iload_n hx hb dX3_whyNotMove_14 rfl (lv_at hl 2 rfl) ?_
    refine lv_aload_n hx hb dX3_whyNotMove_15 rfl (lv_at hl 0 rfl) ?_
    refine z_get S hF hH iX3_whyNotMove_X3 0 rfl rfl 1 (by decide) (List.mem_of_getElem? (i := 2) rfl) rfl dX3_whyNotMove_16 ?_
    refine lv_icmp_gt (tgt := 26) hx hb dX3_whyNotMove_19 (by decide) (fun b19 => ?_) (fun b19 => ?_)
    · replace h := zif_t b19 h
      refine lv_iconst (v := 0) hx hb dX3_whyNotMove_26 (by decide) ?_
      cases h
      exact z_iret S hr hlocks hH dX3_whyNotMove_27
    · replace h := zif_f b19 h
      refine lv_iconst (v := 2) hx hb dX3_whyNotMove_22 (by decide) ?_
      refine lv_goto (tgt := 27) hx hb dX3_whyNotMove_23 (by decide) ?_
      cases h
      exact z_iret S hr hlocks hH dX3_whyNotMove_27
  · replace h := zif_f b9 h
    refine lv_iconst (v := 1) hx hb dX3_whyNotMove_12 (by decide) ?_
    cases h
    exact z_iret S hr hlocks hH dX3_whyNotMove_13
abbrev wd_X3_whyNotSet (cy : Nat → ClassId) (q_t q_t_burgh q_t_ahead q_t_since q_t_stood q_t_due q_t_left q_t_came : Nat) (t_minute : Int32) (t_out : Int32) (t_stopped : Int32) : va_W := [(q_t, .inr (4, [.ref q_t_burgh, .int t_minute, .int t_out, .int t_stopped, .ref q_t_ahead, .ref q_t_since, .ref q_t_stood, .ref q_t_due, .ref q_t_left, .ref q_t_came]))]
abbrev rm_X3_whyNotSet : Room := { frames := 1, cells := 0, slots := 0, locals := 21 }
set_option maxRecDepth 100000 in
def f_X3_whyNotSet (N : Nat) (x0 : Int32) (x1 : Int32) (t_out : Int32) (t_stopped : Int32) : Option (Int32) := zcl (f_X3_isOut N x0 t_out) fun z2 => if z2 = 0 then (zcl (f_X3_isStopped N x1 t_stopped) fun z12 => if z12 = 0 then (some 0) else (some 2)) else (some 1)
set_option maxHeartbeats 4000000 in
set_option maxRecDepth 100000 in
theorem c_X3_whyNotSet (l : Launch) (G : va_G) (cy : Nat → ClassId) (E : Nat → Nat) (N : Nat) (q_t q_t_burgh q_t_ahead q_t_since q_t_stood q_t_due q_t_left q_t_came : Nat) (t_minute : Int32) (t_out : Int32) (t_stopped : Int32) (x0 : Int32) (x1 : Int32) (r : Int32) (h : f_X3_whyNotSet N x0 x1 t_out t_stopped = some r) : zM l G cy E yX3_whyNotSet wsX3_whyNotSet rm_X3_whyNotSet [.ref q_t, .int x0, .int x1] (wd_X3_whyNotSet cy q_t q_t_burgh q_t_ahead q_t_since q_t_stood q_t_due q_t_left q_t_came t_minute t_out t_stopped) (wd_X3_whyNotSet cy q_t q_t_burgh q_t_ahead q_t_since q_t_stood q_t_due q_t_left q_t_came t_minute t_out t_stopped) (some (.int r)) 0 0 := by
  refine z_body (cc := cX3_whyNotSet) (maxL := 3) (ret := some .int) (by decide) rfl (Nat.le_of_ble_eq_true rfl) ?_
  intro p e s m below meth c ls S hr hlocks hnm hF hH hl
  have S : CallFix p m c cX3_whyNotSet 3 s ([.ref q_t, .int x0, .int x1] : List Value).toArray wsX3_whyNotSet RX3 := S
  obtain ⟨hx, hb, hml, hown, hts⟩ := id S
  have hl : lv_has ls 3 [(0, .ref q_t), (1, .int x0), (2, .int x1)] := hl
  rw [f_X3_whyNotSet] at h
  refine lv_aload_n hx hb dX3_whyNotSet_0 rfl (lv_at hl 0 rfl) ?_
  refine lv_iload_n hx hb dX3_whyNotSet_1 rfl (lv_at hl 1 rfl) ?_
  obtain ⟨z2, hz2, h⟩ := zcl_e h
  refine z_callV (As := [.int x0]) (rest := []) (st1 := [.int z2]) (ws' := (wd_X3_whyNotSet cy q_t q_t_burgh q_t_ahead q_t_since q_t_stood q_t_due q_t_left q_t_came t_minute t_out t_stopped)) S hF hH (c_X3_isOut l G cy E N q_t q_t_burgh q_t_ahead q_t_since q_t_stood q_t_due q_t_left q_t_came t_minute t_out t_stopped x0 z2 hz2) (cwV 1 hts gX3_whyNotSet_X3_isOut rfl rfl rfl (by decide +kernel) ⟨Nat.le_of_ble_eq_true rfl, Nat.le_of_ble_eq_true rfl⟩) 4 0 rfl rfl [0] rfl (by decide) rfl rfl rfl rfl rfl hl.1 (Nat.le_of_ble_eq_true rfl) dX3_whyNotSet_2 ⟨Nat.le_of_ble_eq_true rfl, Nat.le_of_ble_eq_true rfl⟩ (fun H locs hH => ?_)
  refine lv_if_eq (tgt := 10) hx hb dX3_whyNotSet_5 (by decide) (fun b5 => ?_) (fun b5 => ?_)
  · replace h := zif_t b5 h
    refine lv_aload_n hx hb dX3_whyNotSet_10 rfl (lv_at hl 0 rfl) ?_
    refine lv_iload_n hx hb dX3_whyNotSet_11 rfl (lv_at hl 2 rfl) ?_
    obtain ⟨z12, hz12, h⟩ := zcl_e h
    refine z_callV (As := [.int x1]) (rest := []) (st1 := [.int z12]) (ws' := (wd_X3_whyNotSet cy q_t q_t_burgh q_t_ahead q_t_since q_t_stood q_t_due q_t_left q_t_came t_minute t_out t_stopped)) S hF hH (c_X3_isStopped l G cy E N q_t q_t_burgh q_t_ahead q_t_since q_t_stood q_t_due q_t_left q_t_came t_minute t_out t_stopped x1 z12 hz12) (cwV 1 hts gX3_whyNotSet_X3_isStopped rfl rfl rfl (by decide +kernel) ⟨Nat.le_of_ble_eq_true rfl, Nat.le_of_ble_eq_true rfl⟩) 4 0 rfl rfl [0] rfl (by decide) rfl rfl rfl rfl rfl hl.1 (Nat.le_of_ble_eq_true rfl) dX3_whyNotSet_12 ⟨Nat.le_of_ble_eq_true rfl, Nat.le_of_ble_eq_true rfl⟩ (fun H locs hH => ?_)
    refine lv_if_eq (tgt := 22) hx hb dX3_whyNotSet_15 (by decide) (fun b15 => ?_) (fun b15 => ?_)
    · replace h := zif_t b15 h
      refine lv_iconst (v := 0) hx hb dX3_whyNotSet_22 (by decide) ?_
      cases h
      exact z_iret S hr hlocks hH dX3_whyNotSet_23
    · replace h := zif_f b15 h
      refine lv_iconst (v := 2) hx hb dX3_whyNotSet_18 (by decide) ?_
      refine lv_goto (tgt := 23) hx hb dX3_whyNotSet_19 (by decide) ?_
      cases h
      exact z_iret S hr hlocks hH dX3_whyNotSet_23
  · replace h := zif_f b5 h
    refine lv_iconst (v := 1) hx hb dX3_whyNotSet_8 (by decide) ?_
    cases h
    exact z_iret S hr hlocks hH dX3_whyNotSet_9
abbrev wd_X3_whyNotStart (cy : Nat → ClassId) (q_t q_t_burgh q_t_ahead q_t_since q_t_stood q_t_due q_t_left q_t_came : Nat) (t_minute : Int32) (t_out : Int32) (t_stopped : Int32) : va_W := [(q_t, .inr (4, [.ref q_t_burgh, .int t_minute, .int t_out, .int t_stopped, .ref q_t_ahead, .ref q_t_since, .ref q_t_stood, .ref q_t_due, .ref q_t_left, .ref q_t_came]))]
abbrev rm_X3_whyNotStart : Room := { frames := 1, cells := 0, slots := 0, locals := 21 }
set_option maxRecDepth 100000 in
def f_X3_whyNotStart (N : Nat) (x0 : Int32) (t_stopped : Int32) : Option (Int32) := zcl (f_X3_isStopped N x0 t_stopped) fun z2 => if z2 = 0 then (some 1) else (some 0)
set_option maxHeartbeats 4000000 in
set_option maxRecDepth 100000 in
theorem c_X3_whyNotStart (l : Launch) (G : va_G) (cy : Nat → ClassId) (E : Nat → Nat) (N : Nat) (q_t q_t_burgh q_t_ahead q_t_since q_t_stood q_t_due q_t_left q_t_came : Nat) (t_minute : Int32) (t_out : Int32) (t_stopped : Int32) (x0 : Int32) (r : Int32) (h : f_X3_whyNotStart N x0 t_stopped = some r) : zM l G cy E yX3_whyNotStart wsX3_whyNotStart rm_X3_whyNotStart [.ref q_t, .int x0] (wd_X3_whyNotStart cy q_t q_t_burgh q_t_ahead q_t_since q_t_stood q_t_due q_t_left q_t_came t_minute t_out t_stopped) (wd_X3_whyNotStart cy q_t q_t_burgh q_t_ahead q_t_since q_t_stood q_t_due q_t_left q_t_came t_minute t_out t_stopped) (some (.int r)) 0 0 := by
  refine z_body (cc := cX3_whyNotStart) (maxL := 2) (ret := some .int) (by decide) rfl (Nat.le_of_ble_eq_true rfl) ?_
  intro p e s m below meth c ls S hr hlocks hnm hF hH hl
  have S : CallFix p m c cX3_whyNotStart 2 s ([.ref q_t, .int x0] : List Value).toArray wsX3_whyNotStart RX3 := S
  obtain ⟨hx, hb, hml, hown, hts⟩ := id S
  have hl : lv_has ls 2 [(0, .ref q_t), (1, .int x0)] := hl
  rw [f_X3_whyNotStart] at h
  refine lv_aload_n hx hb dX3_whyNotStart_0 rfl (lv_at hl 0 rfl) ?_
  refine lv_iload_n hx hb dX3_whyNotStart_1 rfl (lv_at hl 1 rfl) ?_
  obtain ⟨z2, hz2, h⟩ := zcl_e h
  refine z_callV (As := [.int x0]) (rest := []) (st1 := [.int z2]) (ws' := (wd_X3_whyNotStart cy q_t q_t_burgh q_t_ahead q_t_since q_t_stood q_t_due q_t_left q_t_came t_minute t_out t_stopped)) S hF hH (c_X3_isStopped l G cy E N q_t q_t_burgh q_t_ahead q_t_since q_t_stood q_t_due q_t_left q_t_came t_minute t_out t_stopped x0 z2 hz2) (cwV 1 hts gX3_whyNotStart_X3_isStopped rfl rfl rfl (by decide +kernel) ⟨Nat.le_of_ble_eq_true rfl, Nat.le_of_ble_eq_true rfl⟩) 4 0 rfl rfl [0] rfl (by decide) rfl rfl rfl rfl rfl hl.1 (Nat.le_of_ble_eq_true rfl) dX3_whyNotStart_2 ⟨Nat.le_of_ble_eq_true rfl, Nat.le_of_ble_eq_true rfl⟩ (fun H locs hH => ?_)
  refine lv_if_eq (tgt := 12) hx hb dX3_whyNotStart_5 (by decide) (fun b5 => ?_) (fun b5 => ?_)
  · replace h := zif_t b5 h
    refine lv_iconst (v := 1) hx hb dX3_whyNotStart_12 (by decide) ?_
    cases h
    exact z_iret S hr hlocks hH dX3_whyNotStart_13
  · replace h := zif_f b5 h
    refine lv_iconst (v := 0) hx hb dX3_whyNotStart_8 (by decide) ?_
    refine lv_goto (tgt := 13) hx hb dX3_whyNotStart_9 (by decide) ?_
    cases h
    exact z_iret S hr hlocks hH dX3_whyNotStart_13
abbrev wd_X3_whyNotStop (cy : Nat → ClassId) (q_t q_t_burgh q_t_ahead q_t_since q_t_stood q_t_due q_t_left q_t_came : Nat) (t_minute : Int32) (t_out : Int32) (t_stopped : Int32) : va_W := [(q_t, .inr (4, [.ref q_t_burgh, .int t_minute, .int t_out, .int t_stopped, .ref q_t_ahead, .ref q_t_since, .ref q_t_stood, .ref q_t_due, .ref q_t_left, .ref q_t_came]))]
abbrev rm_X3_whyNotStop : Room := { frames := 1, cells := 0, slots := 0, locals := 21 }
set_option maxRecDepth 100000 in
def f_X3_whyNotStop (N : Nat) (x0 : Int32) (t_stopped : Int32) : Option (Int32) := zcl (f_X3_isStopped N x0 t_stopped) fun z2 => if z2 = 0 then (some 0) else (some 1)
set_option maxHeartbeats 4000000 in
set_option maxRecDepth 100000 in
theorem c_X3_whyNotStop (l : Launch) (G : va_G) (cy : Nat → ClassId) (E : Nat → Nat) (N : Nat) (q_t q_t_burgh q_t_ahead q_t_since q_t_stood q_t_due q_t_left q_t_came : Nat) (t_minute : Int32) (t_out : Int32) (t_stopped : Int32) (x0 : Int32) (r : Int32) (h : f_X3_whyNotStop N x0 t_stopped = some r) : zM l G cy E yX3_whyNotStop wsX3_whyNotStop rm_X3_whyNotStop [.ref q_t, .int x0] (wd_X3_whyNotStop cy q_t q_t_burgh q_t_ahead q_t_since q_t_stood q_t_due q_t_left q_t_came t_minute t_out t_stopped) (wd_X3_whyNotStop cy q_t q_t_burgh q_t_ahead q_t_since q_t_stood q_t_due q_t_left q_t_came t_minute t_out t_stopped) (some (.int r)) 0 0 := by
  refine z_body (cc := cX3_whyNotStop) (maxL := 2) (ret := some .int) (by decide) rfl (Nat.le_of_ble_eq_true rfl) ?_
  intro p e s m below meth c ls S hr hlocks hnm hF hH hl
  have S : CallFix p m c cX3_whyNotStop 2 s ([.ref q_t, .int x0] : List Value).toArray wsX3_whyNotStop RX3 := S
  obtain ⟨hx, hb, hml, hown, hts⟩ := id S
  have hl : lv_has ls 2 [(0, .ref q_t), (1, .int x0)] := hl
  rw [f_X3_whyNotStop] at h
  refine lv_aload_n hx hb dX3_whyNotStop_0 rfl (lv_at hl 0 rfl) ?_
  refine lv_iload_n hx hb dX3_whyNotStop_1 rfl (lv_at hl 1 rfl) ?_
  obtain ⟨z2, hz2, h⟩ := zcl_e h
  refine z_callV (As := [.int x0]) (rest := []) (st1 := [.int z2]) (ws' := (wd_X3_whyNotStop cy q_t q_t_burgh q_t_ahead q_t_since q_t_stood q_t_due q_t_left q_t_came t_minute t_out t_stopped)) S hF hH (c_X3_isStopped l G cy E N q_t q_t_burgh q_t_ahead q_t_since q_t_stood q_t_due q_t_left q_t_came t_minute t_out t_stopped x0 z2 hz2) (cwV 1 hts gX3_whyNotStop_X3_isStopped rfl rfl rfl (by decide +kernel) ⟨Nat.le_of_ble_eq_true rfl, Nat.le_of_ble_eq_true rfl⟩) 4 0 rfl rfl [0] rfl (by decide) rfl rfl rfl rfl rfl hl.1 (Nat.le_of_ble_eq_true rfl) dX3_whyNotStop_2 ⟨Nat.le_of_ble_eq_true rfl, Nat.le_of_ble_eq_true rfl⟩ (fun H locs hH => ?_)
  refine lv_if_eq (tgt := 12) hx hb dX3_whyNotStop_5 (by decide) (fun b5 => ?_) (fun b5 => ?_)
  · replace h := zif_t b5 h
    refine lv_iconst (v := 0) hx hb dX3_whyNotStop_12 (by decide) ?_
    cases h
    exact z_iret S hr hlocks hH dX3_whyNotStop_13
  · replace h := zif_f b5 h
    refine lv_iconst (v := 1) hx hb dX3_whyNotStop_8 (by decide) ?_
    refine lv_goto (tgt := 13) hx hb dX3_whyNotStop_9 (by decide) ?_
    cases h
    exact z_iret S hr hlocks hH dX3_whyNotStop_13
abbrev wd_X0_whyNot (cy : Nat → ClassId) (q_t q_p0 q_t_in q_t_burgh q_t_verb q_t_who q_t_what q_p0_burgh q_p0_ahead q_p0_since q_p0_stood q_p0_due q_p0_left q_p0_came q_p0_burgh_clockName q_p0_burgh_clockCorner q_p0_burgh_clockAhead q_p0_burgh_clockGain q_p0_burgh_masterName q_p0_burgh_masterCorner q_p0_burgh_masterLate q_p0_burgh_masterClock q_p0_burgh_masterMeets q_p0_burgh_meetName q_p0_burgh_meetDue : Nat) (t_lines : Int32) (t_judged : Int32) (t_why : Int32) (t_good : Int32) (t_minuteThen : Int32) (t_outThen : Int32) (t_who : Nat → Int32) (t_what : Nat → Int32) (t_verb : Nat → Int32) (p0_minute : Int32) (p0_out : Int32) (p0_stopped : Int32) (p0_burgh_clocks : Int32) (p0_burgh_masters : Int32) (p0_burgh_meets : Int32) (p0_burgh_patience : Int32) (p0_left : Nat → Int32) : va_W := [(q_t, .inr (1, [.ref q_t_in, .ref q_t_burgh, .int t_lines, .ref q_t_verb, .ref q_t_who, .ref q_t_what, .int t_judged, .int t_why, .int t_good, .int t_minuteThen, .int t_outThen])), (q_t_who, .inl (cy 1, 40, .inl t_who)), (q_t_what, .inl (cy 1, 40, .inl t_what)), (q_t_verb, .inl (cy 1, 40, .inl t_verb)), (q_p0, .inr (4, [.ref q_p0_burgh, .int p0_minute, .int p0_out, .int p0_stopped, .ref q_p0_ahead, .ref q_p0_since, .ref q_p0_stood, .ref q_p0_due, .ref q_p0_left, .ref q_p0_came])), (q_p0_burgh, .inr (2, [.int p0_burgh_clocks, .int p0_burgh_masters, .int p0_burgh_meets, .int p0_burgh_patience, .ref q_p0_burgh_clockName, .ref q_p0_burgh_clockCorner, .ref q_p0_burgh_clockAhead, .ref q_p0_burgh_clockGain, .ref q_p0_burgh_masterName, .ref q_p0_burgh_masterCorner, .ref q_p0_burgh_masterLate, .ref q_p0_burgh_masterClock, .ref q_p0_burgh_masterMeets, .ref q_p0_burgh_meetName, .ref q_p0_burgh_meetDue])), (q_p0_left, .inl (cy 1, 36, .inl p0_left))]
theorem iX0_whyNot_X0 : ∀ w ∈ wsX00, w ∈ wsX0_whyNot := fun _ h => List.mem_cons_of_mem _ (List.mem_append_left _ (List.mem_append_left _ (List.mem_append_right _ h)))
abbrev rm_X0_whyNot : Room := { frames := 3, cells := 0, slots := 0, locals := 67 }
set_option maxRecDepth 100000 in
def f_X0_whyNot (N : Nat) (x1 : Int32) (t_who : Nat → Int32) (t_what : Nat → Int32) (t_verb : Nat → Int32) (p0_minute : Int32) (p0_out : Int32) (p0_stopped : Int32) (p0_burgh_masters : Int32) (p0_left : Nat → Int32) : Option (Int32) := zck (zin x1 40) <| zbn ((t_who (Int32.toNatClampNeg x1))) fun y1 => zbn ((t_what (Int32.toNatClampNeg x1))) fun y2 => zbn ((t_verb (Int32.toNatClampNeg x1))) fun y3 => if y3 = 9 then (zcl (f_X3_whyNotSet N y1 y2 p0_out p0_stopped) fun z56 => some z56) else (if y3 = 10 then (zcl (f_X3_whyNotStop N y1 p0_stopped) fun z62 => if z62 = 0 then (some 0) else (some 11)) else (if y3 = 11 then (zcl (f_X3_whyNotStart N y1 p0_stopped) fun z77 => if z77 = 0 then (some 0) else (some 21)) else (if y3 = 12 then (zcl (f_X3_whyNotMove N y1 y2 p0_minute p0_burgh_masters p0_left) fun z94 => if z94 = 0 then (some 0) else (some (30 + z94))) else (zcl (f_X3_minutesLeft N p0_minute) fun z117 => if y2 ≤ z117 then (some 0) else (some 41)))))
set_option maxHeartbeats 4000000 in
set_option maxRecDepth 100000 in
theorem c_X0_whyNot (l : Launch) (G : va_G) (cy : Nat → ClassId) (E : Nat → Nat) (N : Nat) (q_t q_p0 q_t_in q_t_burgh q_t_verb q_t_who q_t_what q_p0_burgh q_p0_ahead q_p0_since q_p0_stood q_p0_due q_p0_left q_p0_came q_p0_burgh_clockName q_p0_burgh_clockCorner q_p0_burgh_clockAhead q_p0_burgh_clockGain q_p0_burgh_masterName q_p0_burgh_masterCorner q_p0_burgh_masterLate q_p0_burgh_masterClock q_p0_burgh_masterMeets q_p0_burgh_meetName q_p0_burgh_meetDue : Nat) (t_lines : Int32) (t_judged : Int32) (t_why : Int32) (t_good : Int32) (t_minuteThen : Int32) (t_outThen : Int32) (t_who : Nat → Int32) (t_what : Nat → Int32) (t_verb : Nat → Int32) (p0_minute : Int32) (p0_out : Int32) (p0_stopped : Int32) (p0_burgh_clocks : Int32) (p0_burgh_masters : Int32) (p0_burgh_meets : Int32) (p0_burgh_patience : Int32) (p0_left : Nat → Int32) (x1 : Int32) (r : Int32) (h : f_X0_whyNot N x1 t_who t_what t_verb p0_minute p0_out p0_stopped p0_burgh_masters p0_left = some r) : zM l G cy E yX0_whyNot wsX0_whyNot rm_X0_whyNot [.ref q_t, .ref q_p0, .int x1] (wd_X0_whyNot cy q_t q_p0 q_t_in q_t_burgh q_t_verb q_t_who q_t_what q_p0_burgh q_p0_ahead q_p0_since q_p0_stood q_p0_due q_p0_left q_p0_came q_p0_burgh_clockName q_p0_burgh_clockCorner q_p0_burgh_clockAhead q_p0_burgh_clockGain q_p0_burgh_masterName q_p0_burgh_masterCorner q_p0_burgh_masterLate q_p0_burgh_masterClock q_p0_burgh_masterMeets q_p0_burgh_meetName q_p0_burgh_meetDue t_lines t_judged t_why t_good t_minuteThen t_outThen t_who t_what t_verb p0_minute p0_out p0_stopped p0_burgh_clocks p0_burgh_masters p0_burgh_meets p0_burgh_patience p0_left) (wd_X0_whyNot cy q_t q_p0 q_t_in q_t_burgh q_t_verb q_t_who q_t_what q_p0_burgh q_p0_ahead q_p0_since q_p0_stood q_p0_due q_p0_left q_p0_came q_p0_burgh_clockName q_p0_burgh_clockCorner q_p0_burgh_clockAhead q_p0_burgh_clockGain q_p0_burgh_masterName q_p0_burgh_masterCorner q_p0_burgh_masterLate q_p0_burgh_masterClock q_p0_burgh_masterMeets q_p0_burgh_meetName q_p0_burgh_meetDue t_lines t_judged t_why t_good t_minuteThen t_outThen t_who t_what t_verb p0_minute p0_out p0_stopped p0_burgh_clocks p0_burgh_masters p0_burgh_meets p0_burgh_patience p0_left) (some (.int r)) 0 0 := by
  refine z_body (cc := cX0_whyNot) (maxL := 6) (ret := some .int) (by decide) rfl (Nat.le_of_ble_eq_true rfl) ?_
  intro p e s m below meth c ls S hr hlocks hnm hF hH hl
  have S : CallFix p m c cX0_whyNot 6 s ([.ref q_t, .ref q_p0, .int x1] : List Value).toArray wsX0_whyNot RX0 := S
  obtain ⟨hx, hb, hml, hown, hts⟩ := id S
  have hl : lv_has ls 6 [(0, .ref q_t), (1, .ref q_p0), (2, .int x1)] := hl
  rw [f_X0_whyNot] at h
  refine lv_aload_n hx hb dX0_whyNot_0 rfl (lv_at hl 0 rfl) ?_
  refine z_get S hF hH iX0_whyNot_X0 0 rfl rfl 4 (by decide) (List.mem_of_getElem? (i := 1) rfl) rfl dX0_whyNot_1 ?_
  refine lv_iload_n hx hb dX0_whyNot_4 rfl (lv_at hl 2 rfl) ?_
  obtain ⟨h5, h⟩ := zck_e h
  refine z_iald S hF hH 1 rfl h5 rfl dX0_whyNot_5 ?_
  obtain ⟨y1, ey1, h⟩ := zbn_e h
  refine z_top ey1 ?_
  clear ey1
  refine lv_istore_n (lv' := [(3, .int y1), (0, .ref q_t), (1, .ref q_p0), (2, .int x1)]) hx hb dX0_whyNot_6 rfl hl (by decide) rfl (fun ls hl => ?_)
  refine lv_aload_n hx hb dX0_whyNot_7 rfl (lv_at hl 1 rfl) ?_
  refine z_get S hF hH iX0_whyNot_X0 0 rfl rfl 5 (by decide) (List.mem_of_getElem? (i := 2) rfl) rfl dX0_whyNot_8 ?_
  refine lv_iload_n hx hb dX0_whyNot_11 rfl (lv_at hl 3 rfl) ?_
  refine z_iald S hF hH 2 rfl h5 rfl dX0_whyNot_12 ?_
  obtain ⟨y2, ey2, h⟩ := zbn_e h
  refine z_top ey2 ?_
  clear ey2
  refine lv_istore (lv' := [(4, .int y2), (3, .int y1), (0, .ref q_t), (1, .ref q_p0), (2, .int x1)]) hx hb dX0_whyNot_13 hl (by decide) rfl (fun ls hl => ?_)
  refine lv_aload_n hx hb dX0_whyNot_15 rfl (lv_at hl 2 rfl) ?_
  refine z_get S hF hH iX0_whyNot_X0 0 rfl rfl 3 (by decide) (List.mem_of_getElem? (i := 3) rfl) rfl dX0_whyNot_16 ?_
  refine lv_iload_n hx hb dX0_whyNot_19 rfl (lv_at hl 4 rfl) ?_
  refine z_iald S hF hH 3 rfl h5 rfl dX0_whyNot_20 ?_
  obtain ⟨y3, ey3, h⟩ := zbn_e h
  refine z_top ey3 ?_
  clear ey3
  by_cases b21_0 : y3 = 9
  · replace h := zif_t b21_0 h
    refine lv_tableIn (tgt := 52) hx hb dX0_whyNot_21 (by rw [b21_0]; decide) (by rw [b21_0]; decide) (by rw [b21_0]; rfl) (by decide) ?_
    refine lv_aload_n hx hb dX0_whyNot_52 rfl (lv_at hl 3 rfl) ?_
    refine lv_iload_n hx hb dX0_whyNot_53 rfl (lv_at hl 1 rfl) ?_
    refine lv_iload hx hb dX0_whyNot_54 (lv_at hl 0 rfl) ?_
    obtain ⟨z56, hz56, h⟩ := zcl_e h
    refine z_callV (As := [.int y1, .int y2]) (rest := []) (st1 := [.int z56]) (ws' := (wd_X0_whyNot cy q_t q_p0 q_t_in q_t_burgh q_t_verb q_t_who q_t_what q_p0_burgh q_p0_ahead q_p0_since q_p0_stood q_p0_due q_p0_left q_p0_came q_p0_burgh_clockName q_p0_burgh_clockCorner q_p0_burgh_clockAhead q_p0_burgh_clockGain q_p0_burgh_masterName q_p0_burgh_masterCorner q_p0_burgh_masterLate q_p0_burgh_masterClock q_p0_burgh_masterMeets q_p0_burgh_meetName q_p0_burgh_meetDue t_lines t_judged t_why t_good t_minuteThen t_outThen t_who t_what t_verb p0_minute p0_out p0_stopped p0_burgh_clocks p0_burgh_masters p0_burgh_meets p0_burgh_patience p0_left)) S hF hH (c_X3_whyNotSet l G cy E N q_p0 q_p0_burgh q_p0_ahead q_p0_since q_p0_stood q_p0_due q_p0_left q_p0_came p0_minute p0_out p0_stopped y1 y2 z56 hz56) (cwV 2 hts gX0_whyNot_X3_whyNotSet rfl rfl rfl (by decide +kernel) ⟨Nat.le_of_ble_eq_true rfl, Nat.le_of_ble_eq_true rfl⟩) 4 0 rfl rfl [4] rfl (by decide) rfl rfl rfl rfl rfl hl.1 (Nat.le_of_ble_eq_true rfl) dX0_whyNot_56 ⟨Nat.le_of_ble_eq_true rfl, Nat.le_of_ble_eq_true rfl⟩ (fun H locs hH => ?_)
    cases h
    exact z_iret S hr hlocks hH dX0_whyNot_59
  · replace h := zif_f b21_0 h
    by_cases b21_1 : y3 = 10
    · replace h := zif_t b21_1 h
      refine lv_tableIn (tgt := 60) hx hb dX0_whyNot_21 (by rw [b21_1]; decide) (by rw [b21_1]; decide) (by rw [b21_1]; rfl) (by decide) ?_
      refine lv_aload_n hx hb dX0_whyNot_60 rfl (lv_at hl 3 rfl) ?_
      refine lv_iload_n hx hb dX0_whyNot_61 rfl (lv_at hl 1 rfl) ?_
      obtain ⟨z62, hz62, h⟩ := zcl_e h
      refine z_callV (As := [.int y1]) (rest := []) (st1 := [.int z62]) (ws' := (wd_X0_whyNot cy q_t q_p0 q_t_in q_t_burgh q_t_verb q_t_who q_t_what q_p0_burgh q_p0_ahead q_p0_since q_p0_stood q_p0_due q_p0_left q_p0_came q_p0_burgh_clockName q_p0_burgh_clockCorner q_p0_burgh_clockAhead q_p0_burgh_clockGain q_p0_burgh_masterName q_p0_burgh_masterCorner q_p0_burgh_masterLate q_p0_burgh_masterClock q_p0_burgh_masterMeets q_p0_burgh_meetName q_p0_burgh_meetDue t_lines t_judged t_why t_good t_minuteThen t_outThen t_who t_what t_verb p0_minute p0_out p0_stopped p0_burgh_clocks p0_burgh_masters p0_burgh_meets p0_burgh_patience p0_left)) S hF hH (c_X3_whyNotStop l G cy E N q_p0 q_p0_burgh q_p0_ahead q_p0_since q_p0_stood q_p0_due q_p0_left q_p0_came p0_minute p0_out p0_stopped y1 z62 hz62) (cwV 1 hts gX0_whyNot_X3_whyNotStop rfl rfl rfl (by decide +kernel) ⟨Nat.le_of_ble_eq_true rfl, Nat.le_of_ble_eq_true rfl⟩) 4 0 rfl rfl [4] rfl (by decide) rfl rfl rfl rfl rfl hl.1 (Nat.le_of_ble_eq_true rfl) dX0_whyNot_62 ⟨Nat.le_of_ble_eq_true rfl, Nat.le_of_ble_eq_true rfl⟩ (fun H locs hH => ?_)
      refine lv_if_ne (tgt := 72) hx hb dX0_whyNot_65 (by decide) (fun b65 => ?_) (fun b65 => ?_)
      · replace h := zif_f b65 h
        refine lv_bipush (v := 11) hx hb dX0_whyNot_72 (by decide) ?_
        cases h
        exact z_iret S hr hlocks hH dX0_whyNot_74
      · replace h := zif_t b65 h
        refine lv_iconst (v := 0) hx hb dX0_whyNot_68 (by decide) ?_
        refine lv_goto (tgt := 74) hx hb dX0_whyNot_69 (by decide) ?_
        cases h
        exact z_iret S hr hlocks hH dX0_whyNot_74
    · replace h := zif_f b21_1 h
      by_cases b21_2 : y3 = 11
      · replace h := zif_t b21_2 h
        refine lv_tableIn (tgt := 75) hx hb dX0_whyNot_21 (by rw [b21_2]; decide) (by rw [b21_2]; decide) (by rw [b21_2]; rfl) (by decide) ?_
        refine lv_aload_n hx hb dX0_whyNot_75 rfl (lv_at hl 3 rfl) ?_
        refine lv_iload_n hx hb dX0_whyNot_76 rfl (lv_at hl 1 rfl) ?_
        obtain ⟨z77, hz77, h⟩ := zcl_e h
        refine z_callV (As := [.int y1]) (rest := []) (st1 := [.int z77]) (ws' := (wd_X0_whyNot cy q_t q_p0 q_t_in q_t_burgh q_t_verb q_t_who q_t_what q_p0_burgh q_p0_ahead q_p0_since q_p0_stood q_p0_due q_p0_left q_p0_came q_p0_burgh_clockName q_p0_burgh_clockCorner q_p0_burgh_clockAhead q_p0_burgh_clockGain q_p0_burgh_masterName q_p0_burgh_masterCorner q_p0_burgh_masterLate q_p0_burgh_masterClock q_p0_burgh_masterMeets q_p0_burgh_meetName q_p0_burgh_meetDue t_lines t_judged t_why t_good t_minuteThen t_outThen t_who t_what t_verb p0_minute p0_out p0_stopped p0_burgh_clocks p0_burgh_masters p0_burgh_meets p0_burgh_patience p0_left)) S hF hH (c_X3_whyNotStart l G cy E N q_p0 q_p0_burgh q_p0_ahead q_p0_since q_p0_stood q_p0_due q_p0_left q_p0_came p0_minute p0_out p0_stopped y1 z77 hz77) (cwV 1 hts gX0_whyNot_X3_whyNotStart rfl rfl rfl (by decide +kernel) ⟨Nat.le_of_ble_eq_true rfl, Nat.le_of_ble_eq_true rfl⟩) 4 0 rfl rfl [4] rfl (by decide) rfl rfl rfl rfl rfl hl.1 (Nat.le_of_ble_eq_true rfl) dX0_whyNot_77 ⟨Nat.le_of_ble_eq_true rfl, Nat.le_of_ble_eq_true rfl⟩ (fun H locs hH => ?_)
        refine lv_if_ne (tgt := 87) hx hb dX0_whyNot_80 (by decide) (fun b80 => ?_) (fun b80 => ?_)
        · replace h := zif_f b80 h
          refine lv_bipush (v := 21) hx hb dX0_whyNot_87 (by decide) ?_
          cases h
          exact z_iret S hr hlocks hH dX0_whyNot_89
        · replace h := zif_t b80 h
          refine lv_iconst (v := 0) hx hb dX0_whyNot_83 (by decide) ?_
          refine lv_goto (tgt := 89) hx hb dX0_whyNot_84 (by decide) ?_
          cases h
          exact z_iret S hr hlocks hH dX0_whyNot_89
      · replace h := zif_f b21_2 h
        by_cases b21_3 : y3 = 12
        · replace h := zif_t b21_3 h
          refine lv_tableIn (tgt := 90) hx hb dX0_whyNot_21 (by rw [b21_3]; decide) (by rw [b21_3]; decide) (by rw [b21_3]; rfl) (by decide) ?_
          refine lv_aload_n hx hb dX0_whyNot_90 rfl (lv_at hl 3 rfl) ?_
          refine lv_iload_n hx hb dX0_whyNot_91 rfl (lv_at hl 1 rfl) ?_
          refine lv_iload hx hb dX0_whyNot_92 (lv_at hl 0 rfl) ?_
          obtain ⟨z94, hz94, h⟩ := zcl_e h
          refine z_callV (As := [.int y1, .int y2]) (rest := []) (st1 := [.int z94]) (ws' := (wd_X0_whyNot cy q_t q_p0 q_t_in q_t_burgh q_t_verb q_t_who q_t_what q_p0_burgh q_p0_ahead q_p0_since q_p0_stood q_p0_due q_p0_left q_p0_came q_p0_burgh_clockName q_p0_burgh_clockCorner q_p0_burgh_clockAhead q_p0_burgh_clockGain q_p0_burgh_masterName q_p0_burgh_masterCorner q_p0_burgh_masterLate q_p0_burgh_masterClock q_p0_burgh_masterMeets q_p0_burgh_meetName q_p0_burgh_meetDue t_lines t_judged t_why t_good t_minuteThen t_outThen t_who t_what t_verb p0_minute p0_out p0_stopped p0_burgh_clocks p0_burgh_masters p0_burgh_meets p0_burgh_patience p0_left)) S hF hH (c_X3_whyNotMove l G cy E N q_p0 q_p0_burgh q_p0_ahead q_p0_since q_p0_stood q_p0_due q_p0_left q_p0_came q_p0_burgh_clockName q_p0_burgh_clockCorner q_p0_burgh_clockAhead q_p0_burgh_clockGain q_p0_burgh_masterName q_p0_burgh_masterCorner q_p0_burgh_masterLate q_p0_burgh_masterClock q_p0_burgh_masterMeets q_p0_burgh_meetName q_p0_burgh_meetDue p0_minute p0_out p0_stopped p0_burgh_clocks p0_burgh_masters p0_burgh_meets p0_burgh_patience p0_left y1 y2 z94 hz94) (cwV 2 hts gX0_whyNot_X3_whyNotMove rfl rfl rfl (by decide +kernel) ⟨Nat.le_of_ble_eq_true rfl, Nat.le_of_ble_eq_true rfl⟩) 4 0 rfl rfl [4, 5, 6] rfl (by decide) rfl rfl rfl rfl rfl hl.1 (Nat.le_of_ble_eq_true rfl) dX0_whyNot_94 ⟨Nat.le_of_ble_eq_true rfl, Nat.le_of_ble_eq_true rfl⟩ (fun H locs hH => ?_)
          refine lv_istore (lv' := [(5, .int z94), (4, .int y2), (3, .int y1), (0, .ref q_t), (1, .ref q_p0), (2, .int x1)]) hx hb dX0_whyNot_97 hl (by decide) rfl (fun ls hl => ?_)
          refine lv_iload hx hb dX0_whyNot_99 (lv_at hl 0 rfl) ?_
          refine lv_if_ne (tgt := 108) hx hb dX0_whyNot_101 (by decide) (fun b101 => ?_) (fun b101 => ?_)
          · replace h := zif_f b101 h
            refine lv_bipush (v := 30) hx hb dX0_whyNot_108 (by decide) ?_
            refine lv_iload hx hb dX0_whyNot_110 (lv_at hl 0 rfl) ?_
            refine lv_iadd hx hb dX0_whyNot_112 ?_
            cases h
            exact z_iret S hr hlocks hH dX0_whyNot_113
          · replace h := zif_t b101 h
            refine lv_iconst (v := 0) hx hb dX0_whyNot_104 (by decide) ?_
            refine lv_goto (tgt := 113) hx hb dX0_whyNot_105 (by decide) ?_
            cases h
            exact z_iret S hr hlocks hH dX0_whyNot_113
        · replace h := zif_f b21_3 h
          refine lv_tableOut (tgt := 114) hx hb dX0_whyNot_21 (z_sw (fun k h1 h2 => by rcases (show k = 9 ∨ k = 10 ∨ k = 11 ∨ k = 12 by omega) with rfl | rfl | rfl | rfl <;> assumption)) (by decide) ?_
          refine lv_iload hx hb dX0_whyNot_114 (lv_at hl 0 rfl) ?_
          refine lv_aload_n hx hb dX0_whyNot_116 rfl (lv_at hl 3 rfl) ?_
          obtain ⟨z117, hz117, h⟩ := zcl_e h
          refine z_callV (As := []) (rest := [.int y2]) (st1 := [.int z117, .int y2]) (ws' := (wd_X0_whyNot cy q_t q_p0 q_t_in q_t_burgh q_t_verb q_t_who q_t_what q_p0_burgh q_p0_ahead q_p0_since q_p0_stood q_p0_due q_p0_left q_p0_came q_p0_burgh_clockName q_p0_burgh_clockCorner q_p0_burgh_clockAhead q_p0_burgh_clockGain q_p0_burgh_masterName q_p0_burgh_masterCorner q_p0_burgh_masterLate q_p0_burgh_masterClock q_p0_burgh_masterMeets q_p0_burgh_meetName q_p0_burgh_meetDue t_lines t_judged t_why t_good t_minuteThen t_outThen t_who t_what t_verb p0_minute p0_out p0_stopped p0_burgh_clocks p0_burgh_masters p0_burgh_meets p0_burgh_patience p0_left)) S hF hH (c_X3_minutesLeft l G cy E N q_p0 q_p0_burgh q_p0_ahead q_p0_since q_p0_stood q_p0_due q_p0_left q_p0_came p0_minute p0_out p0_stopped z117 hz117) (cwV 0 hts gX0_whyNot_X3_minutesLeft rfl rfl rfl (by decide +kernel) ⟨Nat.le_of_ble_eq_true rfl, Nat.le_of_ble_eq_true rfl⟩) 4 0 rfl rfl [4] rfl (by decide) rfl rfl rfl rfl rfl hl.1 (Nat.le_of_ble_eq_true rfl) dX0_whyNot_117 ⟨Nat.le_of_ble_eq_true rfl, Nat.le_of_ble_eq_true rfl⟩ (fun H locs hH => ?_)
          refine lv_icmp_le (tgt := 128) hx hb dX0_whyNot_120 (by decide) (fun b120 => ?_) (fun b120 => ?_)
          · replace h := zif_t b120 h
            refine lv_iconst (v := 0) hx hb dX0_whyNot_128 (by decide) ?_
            cases h
            exact z_iret S hr hlocks hH dX0_whyNot_129
          · replace h := zif_f b120 h
            refine lv_bipush (v := 41) hx hb dX0_whyNot_123 (by decide) ?_
            refine lv_goto (tgt := 129) hx hb dX0_whyNot_125 (by decide) ?_
            cases h
            exact z_iret S hr hlocks hH dX0_whyNot_129
