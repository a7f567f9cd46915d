/-! ===== the dial, read and spelt upon ===== -/
theorem iX11_byteAt_X11 : ∀ w ∈ wsX110, w ∈ wsX11_byteAt := fun _ h => List.mem_cons_of_mem _ (List.mem_append_left _ (List.mem_append_right _ h))
abbrev rm_c_X11_byteAt : Room := { frames := 4, cells := 0, slots := 0, locals := 130 }
set_option maxHeartbeats 4000000 in
set_option maxRecDepth 100000 in
theorem c_X11_byteAt (l : Launch) (G : va_G) (cy : Nat → ClassId) (E : Nat → Nat) (q_t q_tape q_tokens q_here q_images q_history q_trial q_bread q_sread q_ledger q_watch q_d q_v mm nn : Nat) (lf ll ml : Int32) (f : Nat → Int32) (t : Nat → Nat) (i v : Int32) (hm : mm = 16 ∨ mm = 34) (hn : nn ≤ mm) (hL : sb_Lat t nn f) (hi : (i < 0 ∧ -1 = v) ∨ (∃ k : Nat, i = nI k ∧ nn ≤ k ∧ k < 2147483648 ∧ -1 = v) ∨ (∃ k : Nat, i = nI k ∧ k < nn ∧ nI (t k) = v)) : zMy l G cy E yX11_byteAt wsX11_byteAt rm_c_X11_byteAt [.ref q_t, .int i] [(q_t, .inr (12, [.ref q_tape, .ref q_tokens, .ref q_here, .ref q_images, .ref q_history, .ref q_trial, .ref q_bread, .ref q_sread, .ref q_ledger, .ref q_watch, .ref q_d, .int lf, .int ll])), (q_d, .inr (0, [.ref q_v, .int 0, .int ml, .int (nI nn)])), (q_v, .inl (cy 0, mm, .inl f))] (fun _ : Unit => some (.int v)) (fun _ : Unit => [(q_t, .inr (12, [.ref q_tape, .ref q_tokens, .ref q_here, .ref q_images, .ref q_history, .ref q_trial, .ref q_bread, .ref q_sread, .ref q_ledger, .ref q_watch, .ref q_d, .int lf, .int ll])), (q_d, .inr (0, [.ref q_v, .int 0, .int ml, .int (nI nn)])), (q_v, .inl (cy 0, mm, .inl f))]) (fun _ => True) 0 0 := by
  refine z_bodyy (cc := cX11_byteAt) (maxL := 2) (ret := some .int) (by decide +kernel) rfl (Nat.le_of_ble_eq_true rfl) ?_
  intro p e s m below meth c ls S hr hlocks hnm hF hH hl
  have S : CallFix p m c cX11_byteAt 2 s ([.ref q_t, .int i] : List Value).toArray wsX11_byteAt RX11 := S
  obtain ⟨hx, hb, hml, hown, hts⟩ := id S
  have hl : lv_has ls 2 [(0, .ref q_t), (1, .int i)] := hl
  rcases hi with ⟨h1, rfl⟩ | ⟨k, rfl, h1, h2, rfl⟩ | ⟨k, rfl, h1, rfl⟩
  · refine lv_iload_n hx hb dX11_byteAt_0 rfl (lv_at hl 1 rfl) ?_
    refine lv_if_lt (tgt := 15) hx hb dX11_byteAt_1 (by decide) (fun _ => ?_) (fun b9 => absurd h1 b9)
    refine lv_iconst (v := (-1)) hx hb dX11_byteAt_15 (by decide) ?_
    exact z_irety S hr hlocks () trivial hH rfl dX11_byteAt_16
  · refine lv_iload_n hx hb dX11_byteAt_0 rfl (lv_at hl 1 rfl) ?_
    refine lv_if_lt (tgt := 15) hx hb dX11_byteAt_1 (by decide) (fun b9 => absurd b9 (nI_nlt (b := 0) (Nat.zero_le _) (by omega))) (fun _ => ?_)
    refine lv_iload_n hx hb dX11_byteAt_4 rfl (lv_at hl 1 rfl) ?_
    refine lv_aload_n hx hb dX11_byteAt_5 rfl (lv_at hl 0 rfl) ?_
    refine z_get S hF hH iX11_byteAt_X11 0 rfl rfl 10 (by decide) (List.mem_of_getElem? (i := 1) rfl) rfl dX11_byteAt_6 ?_
    refine z_callVy (wsx := (fun _ : Unit => [(q_t, .inr (12, [.ref q_tape, .ref q_tokens, .ref q_here, .ref q_images, .ref q_history, .ref q_trial, .ref q_bread, .ref q_sread, .ref q_ledger, .ref q_watch, .ref q_d, .int lf, .int ll])), (q_d, .inr (0, [.ref q_v, .int 0, .int ml, .int (nI nn)])), (q_v, .inl (cy 0, mm, .inl f))])) (As := []) (rest := [.int (nI k)]) S hF hH (c_len4 l G cy E q_d q_v mm nn ml f) (cwV 0 hts gX11_byteAt_J4_length_8abf5 rfl rfl rfl (by decide +kernel) ⟨Nat.le_of_ble_eq_true rfl, Nat.le_of_ble_eq_true rfl⟩) 0 0 rfl rfl [1, 2] [0] [0, 1, 2] rfl rfl (by decide) (by decide) (by decide) (by decide) (fun _ => rfl) rfl rfl hl.1 (Nat.le_of_ble_eq_true rfl) dX11_byteAt_9 ⟨Nat.le_of_ble_eq_true rfl, Nat.le_of_ble_eq_true rfl⟩ (fun _ H locs _ hH => ?_)
    have hH : zH G (va_A [(q_t, .inr (12, [.ref q_tape, .ref q_tokens, .ref q_here, .ref q_images, .ref q_history, .ref q_trial, .ref q_bread, .ref q_sread, .ref q_ledger, .ref q_watch, .ref q_d, .int lf, .int ll])), (q_d, .inr (0, [.ref q_v, .int 0, .int ml, .int (nI nn)])), (q_v, .inl (cy 0, mm, .inl f))] s.heap.size) s H locs [(q_t, .inr (12, [.ref q_tape, .ref q_tokens, .ref q_here, .ref q_images, .ref q_history, .ref q_trial, .ref q_bread, .ref q_sread, .ref q_ledger, .ref q_watch, .ref q_d, .int lf, .int ll])), (q_d, .inr (0, [.ref q_v, .int 0, .int ml, .int (nI nn)])), (q_v, .inl (cy 0, mm, .inl f))] := hH
    refine lv_icmp_lt (tgt := 17) hx hb dX11_byteAt_12 (by decide) (fun b9 => absurd b9 (nI_nlt h1 (by omega))) (fun _ => ?_)
    refine lv_iconst (v := (-1)) hx hb dX11_byteAt_15 (by decide) ?_
    exact z_irety S hr hlocks () trivial hH rfl dX11_byteAt_16
  · refine lv_iload_n hx hb dX11_byteAt_0 rfl (lv_at hl 1 rfl) ?_
    refine lv_if_lt (tgt := 15) hx hb dX11_byteAt_1 (by decide) (fun b9 => absurd b9 (nI_nlt (b := 0) (Nat.zero_le _) (by omega))) (fun _ => ?_)
    refine lv_iload_n hx hb dX11_byteAt_4 rfl (lv_at hl 1 rfl) ?_
    refine lv_aload_n hx hb dX11_byteAt_5 rfl (lv_at hl 0 rfl) ?_
    refine z_get S hF hH iX11_byteAt_X11 0 rfl rfl 10 (by decide) (List.mem_of_getElem? (i := 1) rfl) rfl dX11_byteAt_6 ?_
    refine z_callVy (wsx := (fun _ : Unit => [(q_t, .inr (12, [.ref q_tape, .ref q_tokens, .ref q_here, .ref q_images, .ref q_history, .ref q_trial, .ref q_bread, .ref q_sread, .ref q_ledger, .ref q_watch, .ref q_d, .int lf, .int ll])), (q_d, .inr (0, [.ref q_v, .int 0, .int ml, .int (nI nn)])), (q_v, .inl (cy 0, mm, .inl f))])) (As := []) (rest := [.int (nI k)]) S hF hH (c_len4 l G cy E q_d q_v mm nn ml f) (cwV 0 hts gX11_byteAt_J4_length_8abf5 rfl rfl rfl (by decide +kernel) ⟨Nat.le_of_ble_eq_true rfl, Nat.le_of_ble_eq_true rfl⟩) 0 0 rfl rfl [1, 2] [0] [0, 1, 2] rfl rfl (by decide) (by decide) (by decide) (by decide) (fun _ => rfl) rfl rfl hl.1 (Nat.le_of_ble_eq_true rfl) dX11_byteAt_9 ⟨Nat.le_of_ble_eq_true rfl, Nat.le_of_ble_eq_true rfl⟩ (fun _ H locs _ hH => ?_)
    have hH : zH G (va_A [(q_t, .inr (12, [.ref q_tape, .ref q_tokens, .ref q_here, .ref q_images, .ref q_history, .ref q_trial, .ref q_bread, .ref q_sread, .ref q_ledger, .ref q_watch, .ref q_d, .int lf, .int ll])), (q_d, .inr (0, [.ref q_v, .int 0, .int ml, .int (nI nn)])), (q_v, .inl (cy 0, mm, .inl f))] s.heap.size) s H locs [(q_t, .inr (12, [.ref q_tape, .ref q_tokens, .ref q_here, .ref q_images, .ref q_history, .ref q_trial, .ref q_bread, .ref q_sread, .ref q_ledger, .ref q_watch, .ref q_d, .int lf, .int ll])), (q_d, .inr (0, [.ref q_v, .int 0, .int ml, .int (nI nn)])), (q_v, .inl (cy 0, mm, .inl f))] := hH
    refine lv_icmp_lt (tgt := 17) hx hb dX11_byteAt_12 (by decide) (fun _ => ?_) (fun b9 => absurd (nI_lt h1 (by omega)) b9)
    refine lv_aload_n hx hb dX11_byteAt_17 rfl (lv_at hl 0 rfl) ?_
    refine z_get S hF hH iX11_byteAt_X11 0 rfl rfl 10 (by decide) (List.mem_of_getElem? (i := 1) rfl) rfl dX11_byteAt_18 ?_
    refine lv_iload_n hx hb dX11_byteAt_21 rfl (lv_at hl 1 rfl) ?_
    refine z_callVy (wsx := (fun _ : Unit => [(q_t, .inr (12, [.ref q_tape, .ref q_tokens, .ref q_here, .ref q_images, .ref q_history, .ref q_trial, .ref q_bread, .ref q_sread, .ref q_ledger, .ref q_watch, .ref q_d, .int lf, .int ll])), (q_d, .inr (0, [.ref q_v, .int 0, .int ml, .int (nI nn)])), (q_v, .inl (cy 0, mm, .inl f))])) (As := [.int (nI k)]) (rest := []) S hF hH (c_cA l G cy E q_d q_v mm nn ml f t k hn (by omega) hL h1) (cwV 1 hts gX11_byteAt_J4_charAt_5068e rfl rfl rfl (by decide +kernel) ⟨Nat.le_of_ble_eq_true rfl, Nat.le_of_ble_eq_true rfl⟩) 0 0 rfl rfl [1, 2] [0] [0, 1, 2] rfl rfl (by decide) (by decide) (by decide) (by decide) (fun _ => rfl) rfl rfl hl.1 (Nat.le_of_ble_eq_true rfl) dX11_byteAt_22 ⟨Nat.le_of_ble_eq_true rfl, Nat.le_of_ble_eq_true rfl⟩ (fun _ H locs _ hH => ?_)
    have hH : zH G (va_A [(q_t, .inr (12, [.ref q_tape, .ref q_tokens, .ref q_here, .ref q_images, .ref q_history, .ref q_trial, .ref q_bread, .ref q_sread, .ref q_ledger, .ref q_watch, .ref q_d, .int lf, .int ll])), (q_d, .inr (0, [.ref q_v, .int 0, .int ml, .int (nI nn)])), (q_v, .inl (cy 0, mm, .inl f))] s.heap.size) s H locs [(q_t, .inr (12, [.ref q_tape, .ref q_tokens, .ref q_here, .ref q_images, .ref q_history, .ref q_trial, .ref q_bread, .ref q_sread, .ref q_ledger, .ref q_watch, .ref q_d, .int lf, .int ll])), (q_d, .inr (0, [.ref q_v, .int 0, .int ml, .int (nI nn)])), (q_v, .inl (cy 0, mm, .inl f))] := hH
    exact z_irety S hr hlocks () trivial hH rfl dX11_byteAt_25

theorem iX11_spell_X11 : ∀ w ∈ wsX110, w ∈ wsX11_spell := fun _ h => List.mem_cons_of_mem _ (List.mem_append_left _ (List.mem_append_right _ h))
theorem iX11_spell_J4 : ∀ w ∈ wsJ40, w ∈ wsX11_spell := fun _ h => List.mem_cons_of_mem _ (List.mem_append_right _ h)
set_option maxHeartbeats 4000000 in
set_option maxRecDepth 100000 in
theorem w_X11_spell {p : Program} {l : Launch} {e : Env} {s : State} {m : MethodId} {args : Array Value} {below : List Frame} {meth : Method} {c : Code} {G : va_G} {cy : Nat → ClassId} {E : Nat → Nat} {w0 : va_W} {q_t q_tape q_tokens q_here q_images q_history q_trial q_bread q_sread q_ledger q_watch q_d : Nat} {lf ll : Int32} {w : Int64} (S : CallFix p m c cX11_spell 5 s args wsX11_spell RX11) (hr : meth.sig.returnType = none) (hlocks : meth.locks = false) (hF : zF G cy E (va_A w0 s.heap.size) s) : ∀ (k : Nat), k ≤ 7 → ∀ (q_v mm nn : Nat) (ml : Int32) (f : Nat → Int32) (t : Nat → Nat) (H : Heap) (locs : List Loc) (ls : Array Slot) (cells slots : Nat) (T9 : (Nat → Nat) × Nat), (mm = 16 ∨ mm = 34) → nn ≤ mm → sb_Lat t nn f → sb_Fit f → nn + k ≤ 34 → cells + k ≤ 7 → slots + 34 * k ≤ 238 → sy9 w k (t, nn) = T9 → zH G (va_A w0 s.heap.size) s H locs [(q_t, .inr (12, [.ref q_tape, .ref q_tokens, .ref q_here, .ref q_images, .ref q_history, .ref q_trial, .ref q_bread, .ref q_sread, .ref q_ledger, .ref q_watch, .ref q_d, .int lf, .int ll])), (q_d, .inr (0, [.ref q_v, .int 0, .int ml, .int (nI nn)])), (q_v, .inl (cy 0, mm, .inl f))] → lv_has ls 5 [(0, .ref q_t), (1, .long w), (3, .int (spS k))] →
    W p l e { frames := 6, cells := 7, slots := 238, locals := 200 } s m args below meth c H locs cells slots (MQ below (zQy G w0 (fun _ : Nat × Nat × (Nat → Int32) => none) (fun x : Nat × Nat × (Nat → Int32) => [(q_t, .inr (12, [.ref q_tape, .ref q_tokens, .ref q_here, .ref q_images, .ref q_history, .ref q_trial, .ref q_bread, .ref q_sread, .ref q_ledger, .ref q_watch, .ref q_d, .int lf, .int ll])), (q_d, .inr (0, [.ref x.1, .int 0, .int ml, .int (nI T9.2)])), (x.1, .inl (cy 0, x.2.1, .inl x.2.2))]) (fun x : Nat × Nat × (Nat → Int32) => (x.2.1 = 16 ∨ x.2.1 = 34) ∧ T9.2 ≤ x.2.1 ∧ sb_Lat T9.1 T9.2 x.2.2 ∧ sb_Fit x.2.2) s.heap.size) args s 7 238 (va_A w0 s.heap.size)) (F0 m 3 ls []) := by
  obtain ⟨hx, hb, hml, hown, hts⟩ := id S
  intro k
  induction k with
  | zero =>
    intro hk q_v mm nn ml f t H locs ls cells slots T9 hm hn hL hfit h34 hcl hsl h9 hH hl
    rw [sy9] at h9
    subst h9
    refine lv_iload_n hx hb dX11_spell_3 rfl (lv_at hl 2 rfl) ?_
    refine lv_if_lt (tgt := 39) hx hb dX11_spell_4 (by decide) (fun _ => ?_) (fun b9 => absurd spS_0 b9)
    refine W.widen (k := 7) (n := 238) (by omega) (by omega) ?_
    exact z_vrety S hr hlocks (q_v, mm, f) ⟨hm, hn, hL, hfit⟩ hH dX11_spell_39
  | succ k ih =>
    intro hk q_v mm nn ml f t H locs ls cells slots T9 hm hn hL hfit h34 hcl hsl h9 hH hl
    rw [spS_e k (by omega)] at hl
    rw [sy9] at h9
    obtain ⟨c0, hc0⟩ : ∃ c0, c0 = lt9 w k := ⟨_, rfl⟩
    rw [← hc0] at h9
    have hc : c0 < 256 := by rw [hc0]; exact ob_lt _
    refine lv_iload_n hx hb dX11_spell_3 rfl (lv_at hl 2 rfl) ?_
    refine lv_if_lt (tgt := 39) hx hb dX11_spell_4 (by decide) (fun b9 => absurd b9 (nI_nlt (b := 0) (Nat.zero_le _) (by omega))) (fun _ => ?_)
    refine lv_lload_n hx hb dX11_spell_7 rfl (lv_at hl 1 rfl) ?_
    refine lv_iload_n hx hb dX11_spell_8 rfl (lv_at hl 2 rfl) ?_
    refine lv_lshr (v := zlshr w (nI (8 * k))) hx hb dX11_spell_9 rfl ?_
    refine lv_l2i (v := (Int64.toInt32 (zlshr w (nI (8 * k))))) hx hb dX11_spell_10 rfl ?_
    refine lv_sipush (v := 255) hx hb dX11_spell_11 (by decide) ?_
    refine lv_iand hx hb dX11_spell_14 ?_
    refine z_top (show ((nI c0) : Int32) = ((Int64.toInt32 (zlshr w (nI (8 * k)))) &&& (255 : Int32)) from (by rw [hc0]; exact (ob_e _).symm)) ?_
    refine lv_istore (lv' := [(4, .int (nI c0)), (0, .ref q_t), (1, .long w), (3, .int (nI (8 * k)))]) hx hb dX11_spell_15 hl (by decide) rfl (fun ls hl => ?_)
    refine lv_iload hx hb dX11_spell_17 (lv_at hl 0 rfl) ?_
    by_cases h0 : c0 = 0
    · rw [if_pos h0] at h9
      refine lv_if_eq (tgt := 33) hx hb dX11_spell_19 (by decide) (fun _ => ?_) (fun b9 => absurd (show nI c0 = 0 by rw [h0]; rfl) b9)
      refine lv_iinc (v := spS k) (lv' := [(3, .int (spS k)), (4, .int (nI c0)), (0, .ref q_t), (1, .long w)]) hx hb dX11_spell_33 hl (k := 3) rfl rfl (by decide) rfl (fun ls hl => ?_)
      refine lv_goto (tgt := 3) hx hb dX11_spell_36 (by decide) ?_
      exact ih (by omega) q_v mm nn ml f t H locs ls cells slots T9 hm hn hL hfit (by omega) (by omega) (by omega) h9 hH (lv_sub hl [2, 3, 0] rfl)
    · rw [if_neg h0] at h9
      refine lv_if_eq (tgt := 33) hx hb dX11_spell_19 (by decide) (fun b9 => absurd b9 (fun z => h0 ((nI_eq (b := 0) (by omega) (by omega)).mp z))) (fun _ => ?_)
      refine lv_aload_n hx hb dX11_spell_22 rfl (lv_at hl 1 rfl) ?_
      refine z_get S hF hH iX11_spell_X11 0 rfl rfl 10 (by decide) (List.mem_of_getElem? (i := 1) rfl) rfl dX11_spell_23 ?_
      refine lv_iload hx hb dX11_spell_26 (lv_at hl 0 rfl) ?_
      refine lv_i2c (v := nI c0) hx hb dX11_spell_28 (zy_chr _ hc).1 ?_
      refine z_callVy (wsx := (fun x : Nat × Nat × (Nat → Int32) => [(q_t, .inr (12, [.ref q_tape, .ref q_tokens, .ref q_here, .ref q_images, .ref q_history, .ref q_trial, .ref q_bread, .ref q_sread, .ref q_ledger, .ref q_watch, .ref q_d, .int lf, .int ll])), (q_d, .inr (0, [.ref x.1, .int 0, .int ml, .int (nI (nn + 1))])), (x.1, .inl (cy 0, x.2.1, .inl x.2.2))])) (As := [.int (nI c0)]) (rest := []) S hF hH (c_apC l G cy E q_d q_v mm nn ml f t c0 hm hn hL hfit (by omega) hc) (cwV 1 hts gX11_spell_J4_append_cf468 rfl rfl rfl (by decide +kernel) ⟨Nat.le_of_ble_eq_true rfl, Nat.le_of_ble_eq_true rfl⟩) 0 0 rfl rfl [1, 2] [0] [0, 1, 2] rfl rfl (by decide) (by decide) (by decide) (by decide) (fun _ => rfl) rfl rfl hl.1 (Nat.le_of_ble_eq_true rfl) dX11_spell_29 ⟨show cells + 1 ≤ 7 by omega, show slots + 34 ≤ 238 by omega⟩ (fun x H locs px hH => ?_)
      have hH : zH G (va_A w0 s.heap.size) s H locs [(q_t, .inr (12, [.ref q_tape, .ref q_tokens, .ref q_here, .ref q_images, .ref q_history, .ref q_trial, .ref q_bread, .ref q_sread, .ref q_ledger, .ref q_watch, .ref q_d, .int lf, .int ll])), (q_d, .inr (0, [.ref x.1, .int 0, .int ml, .int (nI (nn + 1))])), (x.1, .inl (cy 0, x.2.1, .inl x.2.2))] := hH
      refine lv_pop hx hb dX11_spell_32 rfl ?_
      refine lv_iinc (v := spS k) (lv' := [(3, .int (spS k)), (4, .int (nI c0)), (0, .ref q_t), (1, .long w)]) hx hb dX11_spell_33 hl (k := 3) rfl rfl (by decide) rfl (fun ls hl => ?_)
      refine lv_goto (tgt := 3) hx hb dX11_spell_36 (by decide) ?_
      exact ih (by omega) x.1 x.2.1 (nn + 1) ml x.2.2 _ H locs ls (cells + 1) (slots + 34) T9 px.1 px.2.1 px.2.2.1 px.2.2.2 (by omega) (by omega) (by omega) h9 hH (lv_sub hl [2, 3, 0] rfl)

abbrev rm_c_X11_spell : Room := { frames := 6, cells := 7, slots := 238, locals := 200 }
set_option maxHeartbeats 4000000 in
set_option maxRecDepth 100000 in
theorem c_X11_spell (l : Launch) (G : va_G) (cy : Nat → ClassId) (E : Nat → Nat) (q_t q_tape q_tokens q_here q_images q_history q_trial q_bread q_sread q_ledger q_watch q_d q_v mm nn : Nat) (lf ll ml : Int32) (f : Nat → Int32) (t : Nat → Nat) (w : Int64) (hm : mm = 16 ∨ mm = 34) (hn : nn ≤ mm) (hL : sb_Lat t nn f) (hfit : sb_Fit f) (h34 : nn + 7 ≤ 34) : zMy l G cy E yX11_spell wsX11_spell rm_c_X11_spell [.ref q_t, .long w] [(q_t, .inr (12, [.ref q_tape, .ref q_tokens, .ref q_here, .ref q_images, .ref q_history, .ref q_trial, .ref q_bread, .ref q_sread, .ref q_ledger, .ref q_watch, .ref q_d, .int lf, .int ll])), (q_d, .inr (0, [.ref q_v, .int 0, .int ml, .int (nI nn)])), (q_v, .inl (cy 0, mm, .inl f))] (fun _ : Nat × Nat × (Nat → Int32) => none) (fun x : Nat × Nat × (Nat → Int32) => [(q_t, .inr (12, [.ref q_tape, .ref q_tokens, .ref q_here, .ref q_images, .ref q_history, .ref q_trial, .ref q_bread, .ref q_sread, .ref q_ledger, .ref q_watch, .ref q_d, .int lf, .int ll])), (q_d, .inr (0, [.ref x.1, .int 0, .int ml, .int (nI (sy9 w 7 (t, nn)).2)])), (x.1, .inl (cy 0, x.2.1, .inl x.2.2))]) (fun x : Nat × Nat × (Nat → Int32) => (x.2.1 = 16 ∨ x.2.1 = 34) ∧ (sy9 w 7 (t, nn)).2 ≤ x.2.1 ∧ sb_Lat (sy9 w 7 (t, nn)).1 (sy9 w 7 (t, nn)).2 x.2.2 ∧ sb_Fit x.2.2) 7 238 := by
  refine z_bodyy (cc := cX11_spell) (maxL := 5) (ret := none) (by decide +kernel) rfl (Nat.le_of_ble_eq_true rfl) ?_
  intro p e s m below meth c ls S hr hlocks hnm hF hH hl
  have S : CallFix p m c cX11_spell 5 s ([.ref q_t, .long w] : List Value).toArray wsX11_spell RX11 := S
  obtain ⟨hx, hb, hml, hown, hts⟩ := id S
  have hl : lv_has ls 5 [(0, .ref q_t), (1, .long w)] := hl
  refine lv_bipush (v := 48) hx hb dX11_spell_0 (by decide) ?_
  refine lv_istore_n (lv' := [(3, .int 48), (0, .ref q_t), (1, .long w)]) hx hb dX11_spell_2 rfl hl (by decide) rfl (fun ls hl => ?_)
  have hl : lv_has ls 5 [(0, .ref q_t), (1, .long w), (3, .int (spS 7))] := by rw [spS_7]; exact lv_sub hl [1, 2, 0] rfl
  exact w_X11_spell S hr hlocks hF 7 (by omega) q_v mm nn ml f t _ _ _ 0 0 _ hm hn hL hfit h34 (by omega) (by omega) rfl hH hl

