/-! ===== the law's cases ===== -/
set_option maxHeartbeats 4000000 in
set_option maxRecDepth 100000 in
theorem lc_feed {p : Program} {l : Launch} {e : Env} {s : State} {m : MethodId} {args : Array Value} {below : List Frame} {meth : Method} {c : Code} {H : Heap} {locs : List Loc} {cells slots : Nat} {Q : State → Prop} {ls : Array Slot} {G : va_G} {cy : Nat → ClassId} {E : Nat → Nat} {A : Nat → Prop} {b L : Nat} {xs : Nat → Int32} {q q2 : Nat → Nat} {qo : Nat} {k : KS} {r : RS} {v : Int32} (hlt : l.stackTraces = false) (hc1 : zxB s) (S : CallFix p m c cL_law 7 s args LT RL) (hF : zF G cy E A s) (hX : va_X b L xs s s.heap) (hbl : b < s.heap.size) (hbA : ¬ A b) (hl : lv_has ls 7 [(0, .ref b), (1, .ref (q 0)), (2, .ref (q2 0)), (3, .ref qo), (4, .int v)]) (hin : ∀ j : Nat, j ≤ 5 → vp_in (v + nI j) L) (hce : cells + 20 ≤ 30000) (hsl : slots + 500 ≤ 400000) (hI : LInv G cy A s q q2 qo H locs k r)
    (kk : ∀ (H1 : Heap) (locs1 : List Loc) (ls' : Array Slot) (k' : KS) (r' : RS), lv_has ls' 7 [(0, .ref b), (1, .ref (q 0)), (2, .ref (q2 0)), (3, .ref qo), (4, .int v)] → LInv G cy A s q q2 qo H1 locs1 k' r' → W p l e room_1 s m args below meth c H1 locs1 (cells + 20) (slots + 500) Q (F0 m 1357 ls' [])) : W p l e room_1 s m args below meth c H locs cells slots Q (F0 m 216 ls []) := by
  obtain ⟨hR, qv, mm, nn, ml, f, t, g, a1, a2, a3, a4, a5, hH⟩ := hI
  obtain ⟨hx, hb, hml, hown, hts⟩ := id S
  have hf : cells ≤ room_1.cells ∧ slots ≤ room_1.slots := ⟨Nat.le_trans (show cells ≤ 30000 by omega) (Nat.le_of_ble_eq_true rfl), Nat.le_trans (show slots ≤ 400000 by omega) (Nat.le_of_ble_eq_true rfl)⟩
  obtain ⟨v9, k9, r9, hF9, hG9, hR9⟩ := p_feed 5000 (Nat.le_of_ble_eq_true rfl) (xs (v + nI 1).toNatClampNeg) (xs (v + nI 2).toNatClampNeg) (xs (v + nI 3).toNatClampNeg) (xs (v + nI 4).toNatClampNeg) (xs (v + nI 5).toNatClampNeg) k r hR
  refine lv_aload_n hx hb dL_law_216 rfl (lv_at hl 1 rfl) ?_
  refine lz_arg (w := nI 1) hx hb hX hbl hbA hH (lv_at hl 0 rfl) (lv_at hl 4 rfl) (by decide) (hin 1 (by decide)) dL_law_217 dL_law_218 dL_law_220 dL_law_221 dL_law_222 ?_
  refine lz_arg (w := nI 2) hx hb hX hbl hbA hH (lv_at hl 0 rfl) (lv_at hl 4 rfl) (by decide) (hin 2 (by decide)) dL_law_223 dL_law_224 dL_law_226 dL_law_227 dL_law_228 ?_
  refine lz_arg (w := nI 3) hx hb hX hbl hbA hH (lv_at hl 0 rfl) (lv_at hl 4 rfl) (by decide) (hin 3 (by decide)) dL_law_229 dL_law_230 dL_law_232 dL_law_233 dL_law_234 ?_
  refine lz_arg (w := nI 4) hx hb hX hbl hbA hH (lv_at hl 0 rfl) (lv_at hl 4 rfl) (by decide) (hin 4 (by decide)) dL_law_235 dL_law_236 dL_law_238 dL_law_239 dL_law_240 ?_
  refine lz_arg (w := nI 5) hx hb hX hbl hbA hH (lv_at hl 0 rfl) (lv_at hl 4 rfl) (by decide) (hin 5 (by decide)) dL_law_241 dL_law_242 dL_law_244 dL_law_245 dL_law_246 ?_
  refine z_callK0 _ (rest := []) S hF hH (kM_feed l G cy E 5000 q (xs (v + nI 1).toNatClampNeg) (xs (v + nI 2).toNatClampNeg) (xs (v + nI 3).toNatClampNeg) (xs (v + nI 4).toNatClampNeg) (xs (v + nI 5).toNatClampNeg) k k9 v9 hF9) (cwV 5 hts gv_X11_feed rfl rfl rfl (by decide +kernel) ⟨Nat.le_of_ble_eq_true rfl, Nat.le_of_ble_eq_true rfl⟩) rfl rfl rfl hl.1 (Nat.le_of_ble_eq_true rfl) dL_law_247 hf (fun H locs hH => ?_)
  refine lv_aload_n hx hb dL_law_250 rfl (lv_at hl 2 rfl) ?_
  refine lz_arg (w := nI 1) hx hb hX hbl hbA hH (lv_at hl 0 rfl) (lv_at hl 4 rfl) (by decide) (hin 1 (by decide)) dL_law_251 dL_law_252 dL_law_254 dL_law_255 dL_law_256 ?_
  refine lz_arg (w := nI 2) hx hb hX hbl hbA hH (lv_at hl 0 rfl) (lv_at hl 4 rfl) (by decide) (hin 2 (by decide)) dL_law_257 dL_law_258 dL_law_260 dL_law_261 dL_law_262 ?_
  refine lz_arg (w := nI 3) hx hb hX hbl hbA hH (lv_at hl 0 rfl) (lv_at hl 4 rfl) (by decide) (hin 3 (by decide)) dL_law_263 dL_law_264 dL_law_266 dL_law_267 dL_law_268 ?_
  refine lz_arg (w := nI 4) hx hb hX hbl hbA hH (lv_at hl 0 rfl) (lv_at hl 4 rfl) (by decide) (hin 4 (by decide)) dL_law_269 dL_law_270 dL_law_272 dL_law_273 dL_law_274 ?_
  refine lz_arg (w := nI 5) hx hb hX hbl hbA hH (lv_at hl 0 rfl) (lv_at hl 4 rfl) (by decide) (hin 5 (by decide)) dL_law_275 dL_law_276 dL_law_278 dL_law_279 dL_law_280 ?_
  refine z_callK2 _ _ _ (rest := [.int v9]) S hF hH (rM_feed l G cy E 5000 q2 (xs (v + nI 1).toNatClampNeg) (xs (v + nI 2).toNatClampNeg) (xs (v + nI 3).toNatClampNeg) (xs (v + nI 4).toNatClampNeg) (xs (v + nI 5).toNatClampNeg) r r9 v9 hG9) (cwV 5 hts gv_X12_feed rfl rfl rfl (by decide +kernel) ⟨Nat.le_of_ble_eq_true rfl, Nat.le_of_ble_eq_true rfl⟩) rfl rfl rfl hl.1 (Nat.le_of_ble_eq_true rfl) dL_law_281 hf (fun H locs hH => ?_)
  refine lv_icmp_eq (tgt := 1357) hx hb dL_law_284 (by decide) (fun _ => ?_) (fun h => absurd rfl h)
  refine W.widen (k := cells + 20) (n := slots + 500) (by omega) (by omega) ?_
  exact kk _ _ ls k9 r9 hl ⟨hR9, qv, mm, nn, ml, f, t, g, a1, a2, a3, a4, by rw [(gt_feed 5000 (xs (v + nI 1).toNatClampNeg) (xs (v + nI 2).toNatClampNeg) (xs (v + nI 3).toNatClampNeg) (xs (v + nI 4).toNatClampNeg) (xs (v + nI 5).toNatClampNeg) r r9 v9 hG9).1, (gt_feed 5000 (xs (v + nI 1).toNatClampNeg) (xs (v + nI 2).toNatClampNeg) (xs (v + nI 3).toNatClampNeg) (xs (v + nI 4).toNatClampNeg) (xs (v + nI 5).toNatClampNeg) r r9 v9 hG9).2]; exact a5, hH⟩
set_option maxHeartbeats 4000000 in
set_option maxRecDepth 100000 in
theorem lc_end {p : Program} {l : Launch} {e : Env} {s : State} {m : MethodId} {args : Array Value} {below : List Frame} {meth : Method} {c : Code} {H : Heap} {locs : List Loc} {cells slots : Nat} {Q : State → Prop} {ls : Array Slot} {G : va_G} {cy : Nat → ClassId} {E : Nat → Nat} {A : Nat → Prop} {b L : Nat} {xs : Nat → Int32} {q q2 : Nat → Nat} {qo : Nat} {k : KS} {r : RS} {v : Int32} (hlt : l.stackTraces = false) (hc1 : zxB s) (S : CallFix p m c cL_law 7 s args LT RL) (hF : zF G cy E A s) (hX : va_X b L xs s s.heap) (hbl : b < s.heap.size) (hbA : ¬ A b) (hl : lv_has ls 7 [(0, .ref b), (1, .ref (q 0)), (2, .ref (q2 0)), (3, .ref qo), (4, .int v)]) (hin : ∀ j : Nat, j ≤ 5 → vp_in (v + nI j) L) (hce : cells + 20 ≤ 30000) (hsl : slots + 500 ≤ 400000) (hI : LInv G cy A s q q2 qo H locs k r)
    (kk : ∀ (H1 : Heap) (locs1 : List Loc) (ls' : Array Slot) (k' : KS) (r' : RS), lv_has ls' 7 [(0, .ref b), (1, .ref (q 0)), (2, .ref (q2 0)), (3, .ref qo), (4, .int v)] → LInv G cy A s q q2 qo H1 locs1 k' r' → W p l e room_1 s m args below meth c H1 locs1 (cells + 20) (slots + 500) Q (F0 m 1357 ls' [])) : W p l e room_1 s m args below meth c H locs cells slots Q (F0 m 289 ls []) := by
  obtain ⟨hR, qv, mm, nn, ml, f, t, g, a1, a2, a3, a4, a5, hH⟩ := hI
  obtain ⟨hx, hb, hml, hown, hts⟩ := id S
  have hf : cells ≤ room_1.cells ∧ slots ≤ room_1.slots := ⟨Nat.le_trans (show cells ≤ 30000 by omega) (Nat.le_of_ble_eq_true rfl), Nat.le_trans (show slots ≤ 400000 by omega) (Nat.le_of_ble_eq_true rfl)⟩
  obtain ⟨v9, k9, r9, hF9, hG9, hR9⟩ := p_end 5000 (xs (v + nI 1).toNatClampNeg) k r hR
  refine lv_aload_n hx hb dL_law_289 rfl (lv_at hl 1 rfl) ?_
  refine lz_arg (w := nI 1) hx hb hX hbl hbA hH (lv_at hl 0 rfl) (lv_at hl 4 rfl) (by decide) (hin 1 (by decide)) dL_law_290 dL_law_291 dL_law_293 dL_law_294 dL_law_295 ?_
  refine z_callK0 _ (rest := []) S hF hH (kM_end l G cy E 5000 q (xs (v + nI 1).toNatClampNeg) k k9 v9 hF9) (cwV 1 hts gv_X11_end rfl rfl rfl (by decide +kernel) ⟨Nat.le_of_ble_eq_true rfl, Nat.le_of_ble_eq_true rfl⟩) rfl rfl rfl hl.1 (Nat.le_of_ble_eq_true rfl) dL_law_296 hf (fun H locs hH => ?_)
  refine lv_aload_n hx hb dL_law_299 rfl (lv_at hl 2 rfl) ?_
  refine lz_arg (w := nI 1) hx hb hX hbl hbA hH (lv_at hl 0 rfl) (lv_at hl 4 rfl) (by decide) (hin 1 (by decide)) dL_law_300 dL_law_301 dL_law_303 dL_law_304 dL_law_305 ?_
  refine z_callK2 _ _ _ (rest := [.int v9]) S hF hH (rM_end l G cy E 5000 q2 (xs (v + nI 1).toNatClampNeg) r r9 v9 hG9) (cwV 1 hts gv_X12_end rfl rfl rfl (by decide +kernel) ⟨Nat.le_of_ble_eq_true rfl, Nat.le_of_ble_eq_true rfl⟩) rfl rfl rfl hl.1 (Nat.le_of_ble_eq_true rfl) dL_law_306 hf (fun H locs hH => ?_)
  refine lv_icmp_eq (tgt := 1357) hx hb dL_law_309 (by decide) (fun _ => ?_) (fun h => absurd rfl h)
  refine W.widen (k := cells + 20) (n := slots + 500) (by omega) (by omega) ?_
  exact kk _ _ ls k9 r9 hl ⟨hR9, qv, mm, nn, ml, f, t, g, a1, a2, a3, a4, by rw [(gt_end 5000 (xs (v + nI 1).toNatClampNeg) r r9 v9 hG9).1, (gt_end 5000 (xs (v + nI 1).toNatClampNeg) r r9 v9 hG9).2]; exact a5, hH⟩
set_option maxHeartbeats 4000000 in
set_option maxRecDepth 100000 in
theorem lc_burgh {p : Program} {l : Launch} {e : Env} {s : State} {m : MethodId} {args : Array Value} {below : List Frame} {meth : Method} {c : Code} {H : Heap} {locs : List Loc} {cells slots : Nat} {Q : State → Prop} {ls : Array Slot} {G : va_G} {cy : Nat → ClassId} {E : Nat → Nat} {A : Nat → Prop} {b L : Nat} {xs : Nat → Int32} {q q2 : Nat → Nat} {qo : Nat} {k : KS} {r : RS} {v : Int32} (hlt : l.stackTraces = false) (hc1 : zxB s) (S : CallFix p m c cL_law 7 s args LT RL) (hF : zF G cy E A s) (hX : va_X b L xs s s.heap) (hbl : b < s.heap.size) (hbA : ¬ A b) (hl : lv_has ls 7 [(0, .ref b), (1, .ref (q 0)), (2, .ref (q2 0)), (3, .ref qo), (4, .int v)]) (hin : ∀ j : Nat, j ≤ 5 → vp_in (v + nI j) L) (hce : cells + 20 ≤ 30000) (hsl : slots + 500 ≤ 400000) (hI : LInv G cy A s q q2 qo H locs k r)
    (kk : ∀ (H1 : Heap) (locs1 : List Loc) (ls' : Array Slot) (k' : KS) (r' : RS), lv_has ls' 7 [(0, .ref b), (1, .ref (q 0)), (2, .ref (q2 0)), (3, .ref qo), (4, .int v)] → LInv G cy A s q q2 qo H1 locs1 k' r' → W p l e room_1 s m args below meth c H1 locs1 (cells + 20) (slots + 500) Q (F0 m 1357 ls' [])) : W p l e room_1 s m args below meth c H locs cells slots Q (F0 m 314 ls []) := by
  obtain ⟨hR, qv, mm, nn, ml, f, t, g, a1, a2, a3, a4, a5, hH⟩ := hI
  obtain ⟨hx, hb, hml, hown, hts⟩ := id S
  have hf : cells ≤ room_1.cells ∧ slots ≤ room_1.slots := ⟨Nat.le_trans (show cells ≤ 30000 by omega) (Nat.le_of_ble_eq_true rfl), Nat.le_trans (show slots ≤ 400000 by omega) (Nat.le_of_ble_eq_true rfl)⟩
  obtain ⟨v9, k9, r9, hF9, hG9, hR9⟩ := p_burgh 5000 (Nat.le_of_ble_eq_true rfl) k r hR
  refine lv_aload_n hx hb dL_law_314 rfl (lv_at hl 1 rfl) ?_
  refine z_callK0 _ (rest := []) S hF hH (kM_burgh l G cy E 5000 q k k9 v9 hF9) (cwV 0 hts gv_X11_burgh rfl rfl rfl (by decide +kernel) ⟨Nat.le_of_ble_eq_true rfl, Nat.le_of_ble_eq_true rfl⟩) rfl rfl rfl hl.1 (Nat.le_of_ble_eq_true rfl) dL_law_315 hf (fun H locs hH => ?_)
  refine lv_aload_n hx hb dL_law_318 rfl (lv_at hl 2 rfl) ?_
  refine z_callK2 _ _ _ (rest := [.int v9]) S hF hH (rM_burgh l G cy E 5000 q2 r r9 v9 hG9) (cwV 0 hts gv_X12_burgh rfl rfl rfl (by decide +kernel) ⟨Nat.le_of_ble_eq_true rfl, Nat.le_of_ble_eq_true rfl⟩) rfl rfl rfl hl.1 (Nat.le_of_ble_eq_true rfl) dL_law_319 hf (fun H locs hH => ?_)
  refine lv_icmp_eq (tgt := 1357) hx hb dL_law_322 (by decide) (fun _ => ?_) (fun h => absurd rfl h)
  refine W.widen (k := cells + 20) (n := slots + 500) (by omega) (by omega) ?_
  exact kk _ _ ls k9 r9 hl ⟨hR9, qv, mm, nn, ml, f, t, g, a1, a2, a3, a4, by rw [(gt_burgh 5000 r r9 v9 hG9).1, (gt_burgh 5000 r r9 v9 hG9).2]; exact a5, hH⟩
set_option maxHeartbeats 4000000 in
set_option maxRecDepth 100000 in
theorem lc_fault {p : Program} {l : Launch} {e : Env} {s : State} {m : MethodId} {args : Array Value} {below : List Frame} {meth : Method} {c : Code} {H : Heap} {locs : List Loc} {cells slots : Nat} {Q : State → Prop} {ls : Array Slot} {G : va_G} {cy : Nat → ClassId} {E : Nat → Nat} {A : Nat → Prop} {b L : Nat} {xs : Nat → Int32} {q q2 : Nat → Nat} {qo : Nat} {k : KS} {r : RS} {v : Int32} (hlt : l.stackTraces = false) (hc1 : zxB s) (S : CallFix p m c cL_law 7 s args LT RL) (hF : zF G cy E A s) (hX : va_X b L xs s s.heap) (hbl : b < s.heap.size) (hbA : ¬ A b) (hl : lv_has ls 7 [(0, .ref b), (1, .ref (q 0)), (2, .ref (q2 0)), (3, .ref qo), (4, .int v)]) (hin : ∀ j : Nat, j ≤ 5 → vp_in (v + nI j) L) (hce : cells + 20 ≤ 30000) (hsl : slots + 500 ≤ 400000) (hI : LInv G cy A s q q2 qo H locs k r)
    (kk : ∀ (H1 : Heap) (locs1 : List Loc) (ls' : Array Slot) (k' : KS) (r' : RS), lv_has ls' 7 [(0, .ref b), (1, .ref (q 0)), (2, .ref (q2 0)), (3, .ref qo), (4, .int v)] → LInv G cy A s q q2 qo H1 locs1 k' r' → W p l e room_1 s m args below meth c H1 locs1 (cells + 20) (slots + 500) Q (F0 m 1357 ls' [])) : W p l e room_1 s m args below meth c H locs cells slots Q (F0 m 327 ls []) := by
  obtain ⟨hR, qv, mm, nn, ml, f, t, g, a1, a2, a3, a4, a5, hH⟩ := hI
  obtain ⟨hx, hb, hml, hown, hts⟩ := id S
  have hf : cells ≤ room_1.cells ∧ slots ≤ room_1.slots := ⟨Nat.le_trans (show cells ≤ 30000 by omega) (Nat.le_of_ble_eq_true rfl), Nat.le_trans (show slots ≤ 400000 by omega) (Nat.le_of_ble_eq_true rfl)⟩
  obtain ⟨v9, k9, r9, hF9, hG9, hR9⟩ := p_fault 5000 k r hR
  refine lv_aload_n hx hb dL_law_327 rfl (lv_at hl 1 rfl) ?_
  refine z_callK0 _ (rest := []) S hF hH (kM_fault l G cy E 5000 q k k9 v9 hF9) (cwV 0 hts gv_X11_fault rfl rfl rfl (by decide +kernel) ⟨Nat.le_of_ble_eq_true rfl, Nat.le_of_ble_eq_true rfl⟩) rfl rfl rfl hl.1 (Nat.le_of_ble_eq_true rfl) dL_law_328 hf (fun H locs hH => ?_)
  refine lv_aload_n hx hb dL_law_331 rfl (lv_at hl 2 rfl) ?_
  refine z_callK2 _ _ _ (rest := [.int v9]) S hF hH (rM_fault l G cy E 5000 q2 r r9 v9 hG9) (cwV 0 hts gv_X12_fault rfl rfl rfl (by decide +kernel) ⟨Nat.le_of_ble_eq_true rfl, Nat.le_of_ble_eq_true rfl⟩) rfl rfl rfl hl.1 (Nat.le_of_ble_eq_true rfl) dL_law_332 hf (fun H locs hH => ?_)
  refine lv_icmp_eq (tgt := 1357) hx hb dL_law_335 (by decide) (fun _ => ?_) (fun h => absurd rfl h)
  refine W.widen (k := cells + 20) (n := slots + 500) (by omega) (by omega) ?_
  exact kk _ _ ls k9 r9 hl ⟨hR9, qv, mm, nn, ml, f, t, g, a1, a2, a3, a4, by rw [(gt_fault 5000 r r9 v9 hG9).1, (gt_fault 5000 r r9 v9 hG9).2]; exact a5, hH⟩
set_option maxHeartbeats 4000000 in
set_option maxRecDepth 100000 in
theorem lc_clock {p : Program} {l : Launch} {e : Env} {s : State} {m : MethodId} {args : Array Value} {below : List Frame} {meth : Method} {c : Code} {H : Heap} {locs : List Loc} {cells slots : Nat} {Q : State → Prop} {ls : Array Slot} {G : va_G} {cy : Nat → ClassId} {E : Nat → Nat} {A : Nat → Prop} {b L : Nat} {xs : Nat → Int32} {q q2 : Nat → Nat} {qo : Nat} {k : KS} {r : RS} {v : Int32} (hlt : l.stackTraces = false) (hc1 : zxB s) (S : CallFix p m c cL_law 7 s args LT RL) (hF : zF G cy E A s) (hX : va_X b L xs s s.heap) (hbl : b < s.heap.size) (hbA : ¬ A b) (hl : lv_has ls 7 [(0, .ref b), (1, .ref (q 0)), (2, .ref (q2 0)), (3, .ref qo), (4, .int v)]) (hin : ∀ j : Nat, j ≤ 5 → vp_in (v + nI j) L) (hce : cells + 20 ≤ 30000) (hsl : slots + 500 ≤ 400000) (hI : LInv G cy A s q q2 qo H locs k r)
    (kk : ∀ (H1 : Heap) (locs1 : List Loc) (ls' : Array Slot) (k' : KS) (r' : RS), lv_has ls' 7 [(0, .ref b), (1, .ref (q 0)), (2, .ref (q2 0)), (3, .ref qo), (4, .int v)] → LInv G cy A s q q2 qo H1 locs1 k' r' → W p l e room_1 s m args below meth c H1 locs1 (cells + 20) (slots + 500) Q (F0 m 1357 ls' [])) : W p l e room_1 s m args below meth c H locs cells slots Q (F0 m 340 ls []) := by
  obtain ⟨hR, qv, mm, nn, ml, f, t, g, a1, a2, a3, a4, a5, hH⟩ := hI
  obtain ⟨hx, hb, hml, hown, hts⟩ := id S
  have hf : cells ≤ room_1.cells ∧ slots ≤ room_1.slots := ⟨Nat.le_trans (show cells ≤ 30000 by omega) (Nat.le_of_ble_eq_true rfl), Nat.le_trans (show slots ≤ 400000 by omega) (Nat.le_of_ble_eq_true rfl)⟩
  obtain ⟨v9, k9, r9, hF9, hG9, hR9⟩ := p_clock 5000 (Nat.le_of_ble_eq_true rfl) (xs (v + nI 1).toNatClampNeg) (xs (v + nI 2).toNatClampNeg) k r hR
  refine lv_aload_n hx hb dL_law_340 rfl (lv_at hl 1 rfl) ?_
  refine lz_arg (w := nI 1) hx hb hX hbl hbA hH (lv_at hl 0 rfl) (lv_at hl 4 rfl) (by decide) (hin 1 (by decide)) dL_law_341 dL_law_342 dL_law_344 dL_law_345 dL_law_346 ?_
  refine lz_arg (w := nI 2) hx hb hX hbl hbA hH (lv_at hl 0 rfl) (lv_at hl 4 rfl) (by decide) (hin 2 (by decide)) dL_law_347 dL_law_348 dL_law_350 dL_law_351 dL_law_352 ?_
  refine z_callK0 _ (rest := []) S hF hH (kM_clock l G cy E 5000 q (xs (v + nI 1).toNatClampNeg) (xs (v + nI 2).toNatClampNeg) k k9 v9 hF9) (cwV 2 hts gv_X11_clock rfl rfl rfl (by decide +kernel) ⟨Nat.le_of_ble_eq_true rfl, Nat.le_of_ble_eq_true rfl⟩) rfl rfl rfl hl.1 (Nat.le_of_ble_eq_true rfl) dL_law_353 hf (fun H locs hH => ?_)
  refine lv_aload_n hx hb dL_law_356 rfl (lv_at hl 2 rfl) ?_
  refine lz_arg (w := nI 1) hx hb hX hbl hbA hH (lv_at hl 0 rfl) (lv_at hl 4 rfl) (by decide) (hin 1 (by decide)) dL_law_357 dL_law_358 dL_law_360 dL_law_361 dL_law_362 ?_
  refine lz_arg (w := nI 2) hx hb hX hbl hbA hH (lv_at hl 0 rfl) (lv_at hl 4 rfl) (by decide) (hin 2 (by decide)) dL_law_363 dL_law_364 dL_law_366 dL_law_367 dL_law_368 ?_
  refine z_callK2 _ _ _ (rest := [.int v9]) S hF hH (rM_clock l G cy E 5000 q2 (xs (v + nI 1).toNatClampNeg) (xs (v + nI 2).toNatClampNeg) r r9 v9 hG9) (cwV 2 hts gv_X12_clock rfl rfl rfl (by decide +kernel) ⟨Nat.le_of_ble_eq_true rfl, Nat.le_of_ble_eq_true rfl⟩) rfl rfl rfl hl.1 (Nat.le_of_ble_eq_true rfl) dL_law_369 hf (fun H locs hH => ?_)
  refine lv_icmp_eq (tgt := 1357) hx hb dL_law_372 (by decide) (fun _ => ?_) (fun h => absurd rfl h)
  refine W.widen (k := cells + 20) (n := slots + 500) (by omega) (by omega) ?_
  exact kk _ _ ls k9 r9 hl ⟨hR9, qv, mm, nn, ml, f, t, g, a1, a2, a3, a4, by rw [(gt_clock 5000 (xs (v + nI 1).toNatClampNeg) (xs (v + nI 2).toNatClampNeg) r r9 v9 hG9).1, (gt_clock 5000 (xs (v + nI 1).toNatClampNeg) (xs (v + nI 2).toNatClampNeg) r r9 v9 hG9).2]; exact a5, hH⟩
set_option maxHeartbeats 4000000 in
set_option maxRecDepth 100000 in
theorem lc_meet {p : Program} {l : Launch} {e : Env} {s : State} {m : MethodId} {args : Array Value} {below : List Frame} {meth : Method} {c : Code} {H : Heap} {locs : List Loc} {cells slots : Nat} {Q : State → Prop} {ls : Array Slot} {G : va_G} {cy : Nat → ClassId} {E : Nat → Nat} {A : Nat → Prop} {b L : Nat} {xs : Nat → Int32} {q q2 : Nat → Nat} {qo : Nat} {k : KS} {r : RS} {v : Int32} (hlt : l.stackTraces = false) (hc1 : zxB s) (S : CallFix p m c cL_law 7 s args LT RL) (hF : zF G cy E A s) (hX : va_X b L xs s s.heap) (hbl : b < s.heap.size) (hbA : ¬ A b) (hl : lv_has ls 7 [(0, .ref b), (1, .ref (q 0)), (2, .ref (q2 0)), (3, .ref qo), (4, .int v)]) (hin : ∀ j : Nat, j ≤ 5 → vp_in (v + nI j) L) (hce : cells + 20 ≤ 30000) (hsl : slots + 500 ≤ 400000) (hI : LInv G cy A s q q2 qo H locs k r)
    (kk : ∀ (H1 : Heap) (locs1 : List Loc) (ls' : Array Slot) (k' : KS) (r' : RS), lv_has ls' 7 [(0, .ref b), (1, .ref (q 0)), (2, .ref (q2 0)), (3, .ref qo), (4, .int v)] → LInv G cy A s q q2 qo H1 locs1 k' r' → W p l e room_1 s m args below meth c H1 locs1 (cells + 20) (slots + 500) Q (F0 m 1357 ls' [])) : W p l e room_1 s m args below meth c H locs cells slots Q (F0 m 501 ls []) := by
  obtain ⟨hR, qv, mm, nn, ml, f, t, g, a1, a2, a3, a4, a5, hH⟩ := hI
  obtain ⟨hx, hb, hml, hown, hts⟩ := id S
  have hf : cells ≤ room_1.cells ∧ slots ≤ room_1.slots := ⟨Nat.le_trans (show cells ≤ 30000 by omega) (Nat.le_of_ble_eq_true rfl), Nat.le_trans (show slots ≤ 400000 by omega) (Nat.le_of_ble_eq_true rfl)⟩
  obtain ⟨v9, k9, r9, hF9, hG9, hR9⟩ := p_meet 5000 (Nat.le_of_ble_eq_true rfl) (xs (v + nI 1).toNatClampNeg) (xs (v + nI 2).toNatClampNeg) k r hR
  refine lv_aload_n hx hb dL_law_501 rfl (lv_at hl 1 rfl) ?_
  refine lz_arg (w := nI 1) hx hb hX hbl hbA hH (lv_at hl 0 rfl) (lv_at hl 4 rfl) (by decide) (hin 1 (by decide)) dL_law_502 dL_law_503 dL_law_505 dL_law_506 dL_law_507 ?_
  refine lz_arg (w := nI 2) hx hb hX hbl hbA hH (lv_at hl 0 rfl) (lv_at hl 4 rfl) (by decide) (hin 2 (by decide)) dL_law_508 dL_law_509 dL_law_511 dL_law_512 dL_law_513 ?_
  refine z_callK0 _ (rest := []) S hF hH (kM_meet l G cy E 5000 q (xs (v + nI 1).toNatClampNeg) (xs (v + nI 2).toNatClampNeg) k k9 v9 hF9) (cwV 2 hts gv_X11_meet rfl rfl rfl (by decide +kernel) ⟨Nat.le_of_ble_eq_true rfl, Nat.le_of_ble_eq_true rfl⟩) rfl rfl rfl hl.1 (Nat.le_of_ble_eq_true rfl) dL_law_514 hf (fun H locs hH => ?_)
  refine lv_aload_n hx hb dL_law_517 rfl (lv_at hl 2 rfl) ?_
  refine lz_arg (w := nI 1) hx hb hX hbl hbA hH (lv_at hl 0 rfl) (lv_at hl 4 rfl) (by decide) (hin 1 (by decide)) dL_law_518 dL_law_519 dL_law_521 dL_law_522 dL_law_523 ?_
  refine lz_arg (w := nI 2) hx hb hX hbl hbA hH (lv_at hl 0 rfl) (lv_at hl 4 rfl) (by decide) (hin 2 (by decide)) dL_law_524 dL_law_525 dL_law_527 dL_law_528 dL_law_529 ?_
  refine z_callK2 _ _ _ (rest := [.int v9]) S hF hH (rM_meet l G cy E 5000 q2 (xs (v + nI 1).toNatClampNeg) (xs (v + nI 2).toNatClampNeg) r r9 v9 hG9) (cwV 2 hts gv_X12_meet rfl rfl rfl (by decide +kernel) ⟨Nat.le_of_ble_eq_true rfl, Nat.le_of_ble_eq_true rfl⟩) rfl rfl rfl hl.1 (Nat.le_of_ble_eq_true rfl) dL_law_530 hf (fun H locs hH => ?_)
  refine lv_icmp_eq (tgt := 1357) hx hb dL_law_533 (by decide) (fun _ => ?_) (fun h => absurd rfl h)
  refine W.widen (k := cells + 20) (n := slots + 500) (by omega) (by omega) ?_
  exact kk _ _ ls k9 r9 hl ⟨hR9, qv, mm, nn, ml, f, t, g, a1, a2, a3, a4, by rw [(gt_meet 5000 (xs (v + nI 1).toNatClampNeg) (xs (v + nI 2).toNatClampNeg) r r9 v9 hG9).1, (gt_meet 5000 (xs (v + nI 1).toNatClampNeg) (xs (v + nI 2).toNatClampNeg) r r9 v9 hG9).2]; exact a5, hH⟩
set_option maxHeartbeats 4000000 in
set_option maxRecDepth 100000 in
theorem lc_now {p : Program} {l : Launch} {e : Env} {s : State} {m : MethodId} {args : Array Value} {below : List Frame} {meth : Method} {c : Code} {H : Heap} {locs : List Loc} {cells slots : Nat} {Q : State → Prop} {ls : Array Slot} {G : va_G} {cy : Nat → ClassId} {E : Nat → Nat} {A : Nat → Prop} {b L : Nat} {xs : Nat → Int32} {q q2 : Nat → Nat} {qo : Nat} {k : KS} {r : RS} {v : Int32} (hlt : l.stackTraces = false) (hc1 : zxB s) (S : CallFix p m c cL_law 7 s args LT RL) (hF : zF G cy E A s) (hX : va_X b L xs s s.heap) (hbl : b < s.heap.size) (hbA : ¬ A b) (hl : lv_has ls 7 [(0, .ref b), (1, .ref (q 0)), (2, .ref (q2 0)), (3, .ref qo), (4, .int v)]) (hin : ∀ j : Nat, j ≤ 5 → vp_in (v + nI j) L) (hce : cells + 20 ≤ 30000) (hsl : slots + 500 ≤ 400000) (hI : LInv G cy A s q q2 qo H locs k r)
    (kk : ∀ (H1 : Heap) (locs1 : List Loc) (ls' : Array Slot) (k' : KS) (r' : RS), lv_has ls' 7 [(0, .ref b), (1, .ref (q 0)), (2, .ref (q2 0)), (3, .ref qo), (4, .int v)] → LInv G cy A s q q2 qo H1 locs1 k' r' → W p l e room_1 s m args below meth c H1 locs1 (cells + 20) (slots + 500) Q (F0 m 1357 ls' [])) : W p l e room_1 s m args below meth c H locs cells slots Q (F0 m 538 ls []) := by
  obtain ⟨hR, qv, mm, nn, ml, f, t, g, a1, a2, a3, a4, a5, hH⟩ := hI
  obtain ⟨hx, hb, hml, hown, hts⟩ := id S
  have hf : cells ≤ room_1.cells ∧ slots ≤ room_1.slots := ⟨Nat.le_trans (show cells ≤ 30000 by omega) (Nat.le_of_ble_eq_true rfl), Nat.le_trans (show slots ≤ 400000 by omega) (Nat.le_of_ble_eq_true rfl)⟩
  obtain ⟨v9, k9, r9, hF9, hG9, hR9⟩ := p_now 5000 (Nat.le_of_ble_eq_true rfl) (xs (v + nI 1).toNatClampNeg) k r hR
  refine lv_aload_n hx hb dL_law_538 rfl (lv_at hl 1 rfl) ?_
  refine lz_arg (w := nI 1) hx hb hX hbl hbA hH (lv_at hl 0 rfl) (lv_at hl 4 rfl) (by decide) (hin 1 (by decide)) dL_law_539 dL_law_540 dL_law_542 dL_law_543 dL_law_544 ?_
  refine z_callK0 _ (rest := []) S hF hH (kM_now l G cy E 5000 q (xs (v + nI 1).toNatClampNeg) k k9 v9 hF9) (cwV 1 hts gv_X11_now rfl rfl rfl (by decide +kernel) ⟨Nat.le_of_ble_eq_true rfl, Nat.le_of_ble_eq_true rfl⟩) rfl rfl rfl hl.1 (Nat.le_of_ble_eq_true rfl) dL_law_545 hf (fun H locs hH => ?_)
  refine lv_aload_n hx hb dL_law_548 rfl (lv_at hl 2 rfl) ?_
  refine lz_arg (w := nI 1) hx hb hX hbl hbA hH (lv_at hl 0 rfl) (lv_at hl 4 rfl) (by decide) (hin 1 (by decide)) dL_law_549 dL_law_550 dL_law_552 dL_law_553 dL_law_554 ?_
  refine z_callK2 _ _ _ (rest := [.int v9]) S hF hH (rM_now l G cy E 5000 q2 (xs (v + nI 1).toNatClampNeg) r r9 v9 hG9) (cwV 1 hts gv_X12_now rfl rfl rfl (by decide +kernel) ⟨Nat.le_of_ble_eq_true rfl, Nat.le_of_ble_eq_true rfl⟩) rfl rfl rfl hl.1 (Nat.le_of_ble_eq_true rfl) dL_law_555 hf (fun H locs hH => ?_)
  refine lv_icmp_eq (tgt := 1357) hx hb dL_law_558 (by decide) (fun _ => ?_) (fun h => absurd rfl h)
  refine W.widen (k := cells + 20) (n := slots + 500) (by omega) (by omega) ?_
  exact kk _ _ ls k9 r9 hl ⟨hR9, qv, mm, nn, ml, f, t, g, a1, a2, a3, a4, by rw [(gt_now 5000 (xs (v + nI 1).toNatClampNeg) r r9 v9 hG9).1, (gt_now 5000 (xs (v + nI 1).toNatClampNeg) r r9 v9 hG9).2]; exact a5, hH⟩
set_option maxHeartbeats 4000000 in
set_option maxRecDepth 100000 in
theorem lc_set {p : Program} {l : Launch} {e : Env} {s : State} {m : MethodId} {args : Array Value} {below : List Frame} {meth : Method} {c : Code} {H : Heap} {locs : List Loc} {cells slots : Nat} {Q : State → Prop} {ls : Array Slot} {G : va_G} {cy : Nat → ClassId} {E : Nat → Nat} {A : Nat → Prop} {b L : Nat} {xs : Nat → Int32} {q q2 : Nat → Nat} {qo : Nat} {k : KS} {r : RS} {v : Int32} (hlt : l.stackTraces = false) (hc1 : zxB s) (S : CallFix p m c cL_law 7 s args LT RL) (hF : zF G cy E A s) (hX : va_X b L xs s s.heap) (hbl : b < s.heap.size) (hbA : ¬ A b) (hl : lv_has ls 7 [(0, .ref b), (1, .ref (q 0)), (2, .ref (q2 0)), (3, .ref qo), (4, .int v)]) (hin : ∀ j : Nat, j ≤ 5 → vp_in (v + nI j) L) (hce : cells + 20 ≤ 30000) (hsl : slots + 500 ≤ 400000) (hI : LInv G cy A s q q2 qo H locs k r)
    (kk : ∀ (H1 : Heap) (locs1 : List Loc) (ls' : Array Slot) (k' : KS) (r' : RS), lv_has ls' 7 [(0, .ref b), (1, .ref (q 0)), (2, .ref (q2 0)), (3, .ref qo), (4, .int v)] → LInv G cy A s q q2 qo H1 locs1 k' r' → W p l e room_1 s m args below meth c H1 locs1 (cells + 20) (slots + 500) Q (F0 m 1357 ls' [])) : W p l e room_1 s m args below meth c H locs cells slots Q (F0 m 563 ls []) := by
  obtain ⟨hR, qv, mm, nn, ml, f, t, g, a1, a2, a3, a4, a5, hH⟩ := hI
  obtain ⟨hx, hb, hml, hown, hts⟩ := id S
  have hf : cells ≤ room_1.cells ∧ slots ≤ room_1.slots := ⟨Nat.le_trans (show cells ≤ 30000 by omega) (Nat.le_of_ble_eq_true rfl), Nat.le_trans (show slots ≤ 400000 by omega) (Nat.le_of_ble_eq_true rfl)⟩
  obtain ⟨v9, k9, r9, hF9, hG9, hR9⟩ := p_set 5000 (Nat.le_of_ble_eq_true rfl) (xs (v + nI 1).toNatClampNeg) (xs (v + nI 2).toNatClampNeg) k r hR
  refine lv_aload_n hx hb dL_law_563 rfl (lv_at hl 1 rfl) ?_
  refine lz_arg (w := nI 1) hx hb hX hbl hbA hH (lv_at hl 0 rfl) (lv_at hl 4 rfl) (by decide) (hin 1 (by decide)) dL_law_564 dL_law_565 dL_law_567 dL_law_568 dL_law_569 ?_
  refine lz_arg (w := nI 2) hx hb hX hbl hbA hH (lv_at hl 0 rfl) (lv_at hl 4 rfl) (by decide) (hin 2 (by decide)) dL_law_570 dL_law_571 dL_law_573 dL_law_574 dL_law_575 ?_
  refine z_callK0 _ (rest := []) S hF hH (kM_set l G cy E 5000 q (xs (v + nI 1).toNatClampNeg) (xs (v + nI 2).toNatClampNeg) k k9 v9 hF9) (cwV 2 hts gv_X11_set rfl rfl rfl (by decide +kernel) ⟨Nat.le_of_ble_eq_true rfl, Nat.le_of_ble_eq_true rfl⟩) rfl rfl rfl hl.1 (Nat.le_of_ble_eq_true rfl) dL_law_576 hf (fun H locs hH => ?_)
  refine lv_aload_n hx hb dL_law_579 rfl (lv_at hl 2 rfl) ?_
  refine lz_arg (w := nI 1) hx hb hX hbl hbA hH (lv_at hl 0 rfl) (lv_at hl 4 rfl) (by decide) (hin 1 (by decide)) dL_law_580 dL_law_581 dL_law_583 dL_law_584 dL_law_585 ?_
  refine lz_arg (w := nI 2) hx hb hX hbl hbA hH (lv_at hl 0 rfl) (lv_at hl 4 rfl) (by decide) (hin 2 (by decide)) dL_law_586 dL_law_587 dL_law_589 dL_law_590 dL_law_591 ?_
  refine z_callK2 _ _ _ (rest := [.int v9]) S hF hH (rM_set l G cy E 5000 q2 (xs (v + nI 1).toNatClampNeg) (xs (v + nI 2).toNatClampNeg) r r9 v9 hG9) (cwV 2 hts gv_X12_set rfl rfl rfl (by decide +kernel) ⟨Nat.le_of_ble_eq_true rfl, Nat.le_of_ble_eq_true rfl⟩) rfl rfl rfl hl.1 (Nat.le_of_ble_eq_true rfl) dL_law_592 hf (fun H locs hH => ?_)
  refine lv_icmp_eq (tgt := 1357) hx hb dL_law_595 (by decide) (fun _ => ?_) (fun h => absurd rfl h)
  refine W.widen (k := cells + 20) (n := slots + 500) (by omega) (by omega) ?_
  exact kk _ _ ls k9 r9 hl ⟨hR9, qv, mm, nn, ml, f, t, g, a1, a2, a3, a4, by rw [(gt_set 5000 (xs (v + nI 1).toNatClampNeg) (xs (v + nI 2).toNatClampNeg) r r9 v9 hG9).1, (gt_set 5000 (xs (v + nI 1).toNatClampNeg) (xs (v + nI 2).toNatClampNeg) r r9 v9 hG9).2]; exact a5, hH⟩
set_option maxHeartbeats 4000000 in
set_option maxRecDepth 100000 in
theorem lc_stop {p : Program} {l : Launch} {e : Env} {s : State} {m : MethodId} {args : Array Value} {below : List Frame} {meth : Method} {c : Code} {H : Heap} {locs : List Loc} {cells slots : Nat} {Q : State → Prop} {ls : Array Slot} {G : va_G} {cy : Nat → ClassId} {E : Nat → Nat} {A : Nat → Prop} {b L : Nat} {xs : Nat → Int32} {q q2 : Nat → Nat} {qo : Nat} {k : KS} {r : RS} {v : Int32} (hlt : l.stackTraces = false) (hc1 : zxB s) (S : CallFix p m c cL_law 7 s args LT RL) (hF : zF G cy E A s) (hX : va_X b L xs s s.heap) (hbl : b < s.heap.size) (hbA : ¬ A b) (hl : lv_has ls 7 [(0, .ref b), (1, .ref (q 0)), (2, .ref (q2 0)), (3, .ref qo), (4, .int v)]) (hin : ∀ j : Nat, j ≤ 5 → vp_in (v + nI j) L) (hce : cells + 20 ≤ 30000) (hsl : slots + 500 ≤ 400000) (hI : LInv G cy A s q q2 qo H locs k r)
    (kk : ∀ (H1 : Heap) (locs1 : List Loc) (ls' : Array Slot) (k' : KS) (r' : RS), lv_has ls' 7 [(0, .ref b), (1, .ref (q 0)), (2, .ref (q2 0)), (3, .ref qo), (4, .int v)] → LInv G cy A s q q2 qo H1 locs1 k' r' → W p l e room_1 s m args below meth c H1 locs1 (cells + 20) (slots + 500) Q (F0 m 1357 ls' [])) : W p l e room_1 s m args below meth c H locs cells slots Q (F0 m 600 ls []) := by
  obtain ⟨hR, qv, mm, nn, ml, f, t, g, a1, a2, a3, a4, a5, hH⟩ := hI
  obtain ⟨hx, hb, hml, hown, hts⟩ := id S
  have hf : cells ≤ room_1.cells ∧ slots ≤ room_1.slots := ⟨Nat.le_trans (show cells ≤ 30000 by omega) (Nat.le_of_ble_eq_true rfl), Nat.le_trans (show slots ≤ 400000 by omega) (Nat.le_of_ble_eq_true rfl)⟩
  obtain ⟨v9, k9, r9, hF9, hG9, hR9⟩ := p_stop 5000 (Nat.le_of_ble_eq_true rfl) (xs (v + nI 1).toNatClampNeg) k r hR
  refine lv_aload_n hx hb dL_law_600 rfl (lv_at hl 1 rfl) ?_
  refine lz_arg (w := nI 1) hx hb hX hbl hbA hH (lv_at hl 0 rfl) (lv_at hl 4 rfl) (by decide) (hin 1 (by decide)) dL_law_601 dL_law_602 dL_law_604 dL_law_605 dL_law_606 ?_
  refine z_callK0 _ (rest := []) S hF hH (kM_stop l G cy E 5000 q (xs (v + nI 1).toNatClampNeg) k k9 v9 hF9) (cwV 1 hts gv_X11_stop rfl rfl rfl (by decide +kernel) ⟨Nat.le_of_ble_eq_true rfl, Nat.le_of_ble_eq_true rfl⟩) rfl rfl rfl hl.1 (Nat.le_of_ble_eq_true rfl) dL_law_607 hf (fun H locs hH => ?_)
  refine lv_aload_n hx hb dL_law_610 rfl (lv_at hl 2 rfl) ?_
  refine lz_arg (w := nI 1) hx hb hX hbl hbA hH (lv_at hl 0 rfl) (lv_at hl 4 rfl) (by decide) (hin 1 (by decide)) dL_law_611 dL_law_612 dL_law_614 dL_law_615 dL_law_616 ?_
  refine z_callK2 _ _ _ (rest := [.int v9]) S hF hH (rM_stop l G cy E 5000 q2 (xs (v + nI 1).toNatClampNeg) r r9 v9 hG9) (cwV 1 hts gv_X12_stop rfl rfl rfl (by decide +kernel) ⟨Nat.le_of_ble_eq_true rfl, Nat.le_of_ble_eq_true rfl⟩) rfl rfl rfl hl.1 (Nat.le_of_ble_eq_true rfl) dL_law_617 hf (fun H locs hH => ?_)
  refine lv_icmp_eq (tgt := 1357) hx hb dL_law_620 (by decide) (fun _ => ?_) (fun h => absurd rfl h)
  refine W.widen (k := cells + 20) (n := slots + 500) (by omega) (by omega) ?_
  exact kk _ _ ls k9 r9 hl ⟨hR9, qv, mm, nn, ml, f, t, g, a1, a2, a3, a4, by rw [(gt_stop 5000 (xs (v + nI 1).toNatClampNeg) r r9 v9 hG9).1, (gt_stop 5000 (xs (v + nI 1).toNatClampNeg) r r9 v9 hG9).2]; exact a5, hH⟩
set_option maxHeartbeats 4000000 in
set_option maxRecDepth 100000 in
theorem lc_start {p : Program} {l : Launch} {e : Env} {s : State} {m : MethodId} {args : Array Value} {below : List Frame} {meth : Method} {c : Code} {H : Heap} {locs : List Loc} {cells slots : Nat} {Q : State → Prop} {ls : Array Slot} {G : va_G} {cy : Nat → ClassId} {E : Nat → Nat} {A : Nat → Prop} {b L : Nat} {xs : Nat → Int32} {q q2 : Nat → Nat} {qo : Nat} {k : KS} {r : RS} {v : Int32} (hlt : l.stackTraces = false) (hc1 : zxB s) (S : CallFix p m c cL_law 7 s args LT RL) (hF : zF G cy E A s) (hX : va_X b L xs s s.heap) (hbl : b < s.heap.size) (hbA : ¬ A b) (hl : lv_has ls 7 [(0, .ref b), (1, .ref (q 0)), (2, .ref (q2 0)), (3, .ref qo), (4, .int v)]) (hin : ∀ j : Nat, j ≤ 5 → vp_in (v + nI j) L) (hce : cells + 20 ≤ 30000) (hsl : slots + 500 ≤ 400000) (hI : LInv G cy A s q q2 qo H locs k r)
    (kk : ∀ (H1 : Heap) (locs1 : List Loc) (ls' : Array Slot) (k' : KS) (r' : RS), lv_has ls' 7 [(0, .ref b), (1, .ref (q 0)), (2, .ref (q2 0)), (3, .ref qo), (4, .int v)] → LInv G cy A s q q2 qo H1 locs1 k' r' → W p l e room_1 s m args below meth c H1 locs1 (cells + 20) (slots + 500) Q (F0 m 1357 ls' [])) : W p l e room_1 s m args below meth c H locs cells slots Q (F0 m 625 ls []) := by
  obtain ⟨hR, qv, mm, nn, ml, f, t, g, a1, a2, a3, a4, a5, hH⟩ := hI
  obtain ⟨hx, hb, hml, hown, hts⟩ := id S
  have hf : cells ≤ room_1.cells ∧ slots ≤ room_1.slots := ⟨Nat.le_trans (show cells ≤ 30000 by omega) (Nat.le_of_ble_eq_true rfl), Nat.le_trans (show slots ≤ 400000 by omega) (Nat.le_of_ble_eq_true rfl)⟩
  obtain ⟨v9, k9, r9, hF9, hG9, hR9⟩ := p_start 5000 (Nat.le_of_ble_eq_true rfl) (xs (v + nI 1).toNatClampNeg) k r hR
  refine lv_aload_n hx hb dL_law_625 rfl (lv_at hl 1 rfl) ?_
  refine lz_arg (w := nI 1) hx hb hX hbl hbA hH (lv_at hl 0 rfl) (lv_at hl 4 rfl) (by decide) (hin 1 (by decide)) dL_law_626 dL_law_627 dL_law_629 dL_law_630 dL_law_631 ?_
  refine z_callK0 _ (rest := []) S hF hH (kM_start l G cy E 5000 q (xs (v + nI 1).toNatClampNeg) k k9 v9 hF9) (cwV 1 hts gv_X11_start rfl rfl rfl (by decide +kernel) ⟨Nat.le_of_ble_eq_true rfl, Nat.le_of_ble_eq_true rfl⟩) rfl rfl rfl hl.1 (Nat.le_of_ble_eq_true rfl) dL_law_632 hf (fun H locs hH => ?_)
  refine lv_aload_n hx hb dL_law_635 rfl (lv_at hl 2 rfl) ?_
  refine lz_arg (w := nI 1) hx hb hX hbl hbA hH (lv_at hl 0 rfl) (lv_at hl 4 rfl) (by decide) (hin 1 (by decide)) dL_law_636 dL_law_637 dL_law_639 dL_law_640 dL_law_641 ?_
  refine z_callK2 _ _ _ (rest := [.int v9]) S hF hH (rM_start l G cy E 5000 q2 (xs (v + nI 1).toNatClampNeg) r r9 v9 hG9) (cwV 1 hts gv_X12_start rfl rfl rfl (by decide +kernel) ⟨Nat.le_of_ble_eq_true rfl, Nat.le_of_ble_eq_true rfl⟩) rfl rfl rfl hl.1 (Nat.le_of_ble_eq_true rfl) dL_law_642 hf (fun H locs hH => ?_)
  refine lv_icmp_eq (tgt := 1357) hx hb dL_law_645 (by decide) (fun _ => ?_) (fun h => absurd rfl h)
  refine W.widen (k := cells + 20) (n := slots + 500) (by omega) (by omega) ?_
  exact kk _ _ ls k9 r9 hl ⟨hR9, qv, mm, nn, ml, f, t, g, a1, a2, a3, a4, by rw [(gt_start 5000 (xs (v + nI 1).toNatClampNeg) r r9 v9 hG9).1, (gt_start 5000 (xs (v + nI 1).toNatClampNeg) r r9 v9 hG9).2]; exact a5, hH⟩
set_option maxHeartbeats 4000000 in
set_option maxRecDepth 100000 in
theorem lc_move {p : Program} {l : Launch} {e : Env} {s : State} {m : MethodId} {args : Array Value} {below : List Frame} {meth : Method} {c : Code} {H : Heap} {locs : List Loc} {cells slots : Nat} {Q : State → Prop} {ls : Array Slot} {G : va_G} {cy : Nat → ClassId} {E : Nat → Nat} {A : Nat → Prop} {b L : Nat} {xs : Nat → Int32} {q q2 : Nat → Nat} {qo : Nat} {k : KS} {r : RS} {v : Int32} (hlt : l.stackTraces = false) (hc1 : zxB s) (S : CallFix p m c cL_law 7 s args LT RL) (hF : zF G cy E A s) (hX : va_X b L xs s s.heap) (hbl : b < s.heap.size) (hbA : ¬ A b) (hl : lv_has ls 7 [(0, .ref b), (1, .ref (q 0)), (2, .ref (q2 0)), (3, .ref qo), (4, .int v)]) (hin : ∀ j : Nat, j ≤ 5 → vp_in (v + nI j) L) (hce : cells + 20 ≤ 30000) (hsl : slots + 500 ≤ 400000) (hI : LInv G cy A s q q2 qo H locs k r)
    (kk : ∀ (H1 : Heap) (locs1 : List Loc) (ls' : Array Slot) (k' : KS) (r' : RS), lv_has ls' 7 [(0, .ref b), (1, .ref (q 0)), (2, .ref (q2 0)), (3, .ref qo), (4, .int v)] → LInv G cy A s q q2 qo H1 locs1 k' r' → W p l e room_1 s m args below meth c H1 locs1 (cells + 20) (slots + 500) Q (F0 m 1357 ls' [])) : W p l e room_1 s m args below meth c H locs cells slots Q (F0 m 650 ls []) := by
  obtain ⟨hR, qv, mm, nn, ml, f, t, g, a1, a2, a3, a4, a5, hH⟩ := hI
  obtain ⟨hx, hb, hml, hown, hts⟩ := id S
  have hf : cells ≤ room_1.cells ∧ slots ≤ room_1.slots := ⟨Nat.le_trans (show cells ≤ 30000 by omega) (Nat.le_of_ble_eq_true rfl), Nat.le_trans (show slots ≤ 400000 by omega) (Nat.le_of_ble_eq_true rfl)⟩
  obtain ⟨v9, k9, r9, hF9, hG9, hR9⟩ := p_move 5000 (Nat.le_of_ble_eq_true rfl) (xs (v + nI 1).toNatClampNeg) (xs (v + nI 2).toNatClampNeg) k r hR
  refine lv_aload_n hx hb dL_law_650 rfl (lv_at hl 1 rfl) ?_
  refine lz_arg (w := nI 1) hx hb hX hbl hbA hH (lv_at hl 0 rfl) (lv_at hl 4 rfl) (by decide) (hin 1 (by decide)) dL_law_651 dL_law_652 dL_law_654 dL_law_655 dL_law_656 ?_
  refine lz_arg (w := nI 2) hx hb hX hbl hbA hH (lv_at hl 0 rfl) (lv_at hl 4 rfl) (by decide) (hin 2 (by decide)) dL_law_657 dL_law_658 dL_law_660 dL_law_661 dL_law_662 ?_
  refine z_callK0 _ (rest := []) S hF hH (kM_move l G cy E 5000 q (xs (v + nI 1).toNatClampNeg) (xs (v + nI 2).toNatClampNeg) k k9 v9 hF9) (cwV 2 hts gv_X11_move rfl rfl rfl (by decide +kernel) ⟨Nat.le_of_ble_eq_true rfl, Nat.le_of_ble_eq_true rfl⟩) rfl rfl rfl hl.1 (Nat.le_of_ble_eq_true rfl) dL_law_663 hf (fun H locs hH => ?_)
  refine lv_aload_n hx hb dL_law_666 rfl (lv_at hl 2 rfl) ?_
  refine lz_arg (w := nI 1) hx hb hX hbl hbA hH (lv_at hl 0 rfl) (lv_at hl 4 rfl) (by decide) (hin 1 (by decide)) dL_law_667 dL_law_668 dL_law_670 dL_law_671 dL_law_672 ?_
  refine lz_arg (w := nI 2) hx hb hX hbl hbA hH (lv_at hl 0 rfl) (lv_at hl 4 rfl) (by decide) (hin 2 (by decide)) dL_law_673 dL_law_674 dL_law_676 dL_law_677 dL_law_678 ?_
  refine z_callK2 _ _ _ (rest := [.int v9]) S hF hH (rM_move l G cy E 5000 q2 (xs (v + nI 1).toNatClampNeg) (xs (v + nI 2).toNatClampNeg) r r9 v9 hG9) (cwV 2 hts gv_X12_move rfl rfl rfl (by decide +kernel) ⟨Nat.le_of_ble_eq_true rfl, Nat.le_of_ble_eq_true rfl⟩) rfl rfl rfl hl.1 (Nat.le_of_ble_eq_true rfl) dL_law_679 hf (fun H locs hH => ?_)
  refine lv_icmp_eq (tgt := 1357) hx hb dL_law_682 (by decide) (fun _ => ?_) (fun h => absurd rfl h)
  refine W.widen (k := cells + 20) (n := slots + 500) (by omega) (by omega) ?_
  exact kk _ _ ls k9 r9 hl ⟨hR9, qv, mm, nn, ml, f, t, g, a1, a2, a3, a4, by rw [(gt_move 5000 (xs (v + nI 1).toNatClampNeg) (xs (v + nI 2).toNatClampNeg) r r9 v9 hG9).1, (gt_move 5000 (xs (v + nI 1).toNatClampNeg) (xs (v + nI 2).toNatClampNeg) r r9 v9 hG9).2]; exact a5, hH⟩
set_option maxHeartbeats 4000000 in
set_option maxRecDepth 100000 in
theorem lc_minutes {p : Program} {l : Launch} {e : Env} {s : State} {m : MethodId} {args : Array Value} {below : List Frame} {meth : Method} {c : Code} {H : Heap} {locs : List Loc} {cells slots : Nat} {Q : State → Prop} {ls : Array Slot} {G : va_G} {cy : Nat → ClassId} {E : Nat → Nat} {A : Nat → Prop} {b L : Nat} {xs : Nat → Int32} {q q2 : Nat → Nat} {qo : Nat} {k : KS} {r : RS} {v : Int32} (hlt : l.stackTraces = false) (hc1 : zxB s) (S : CallFix p m c cL_law 7 s args LT RL) (hF : zF G cy E A s) (hX : va_X b L xs s s.heap) (hbl : b < s.heap.size) (hbA : ¬ A b) (hl : lv_has ls 7 [(0, .ref b), (1, .ref (q 0)), (2, .ref (q2 0)), (3, .ref qo), (4, .int v)]) (hin : ∀ j : Nat, j ≤ 5 → vp_in (v + nI j) L) (hce : cells + 20 ≤ 30000) (hsl : slots + 500 ≤ 400000) (hI : LInv G cy A s q q2 qo H locs k r)
    (kk : ∀ (H1 : Heap) (locs1 : List Loc) (ls' : Array Slot) (k' : KS) (r' : RS), lv_has ls' 7 [(0, .ref b), (1, .ref (q 0)), (2, .ref (q2 0)), (3, .ref qo), (4, .int v)] → LInv G cy A s q q2 qo H1 locs1 k' r' → W p l e room_1 s m args below meth c H1 locs1 (cells + 20) (slots + 500) Q (F0 m 1357 ls' [])) : W p l e room_1 s m args below meth c H locs cells slots Q (F0 m 687 ls []) := by
  obtain ⟨hR, qv, mm, nn, ml, f, t, g, a1, a2, a3, a4, a5, hH⟩ := hI
  obtain ⟨hx, hb, hml, hown, hts⟩ := id S
  have hf : cells ≤ room_1.cells ∧ slots ≤ room_1.slots := ⟨Nat.le_trans (show cells ≤ 30000 by omega) (Nat.le_of_ble_eq_true rfl), Nat.le_trans (show slots ≤ 400000 by omega) (Nat.le_of_ble_eq_true rfl)⟩
  obtain ⟨v9, k9, r9, hF9, hG9, hR9⟩ := p_minutes 5000 (Nat.le_of_ble_eq_true rfl) (xs (v + nI 1).toNatClampNeg) k r hR
  refine lv_aload_n hx hb dL_law_687 rfl (lv_at hl 1 rfl) ?_
  refine lz_arg (w := nI 1) hx hb hX hbl hbA hH (lv_at hl 0 rfl) (lv_at hl 4 rfl) (by decide) (hin 1 (by decide)) dL_law_688 dL_law_689 dL_law_691 dL_law_692 dL_law_693 ?_
  refine z_callK0 _ (rest := []) S hF hH (kM_minutes l G cy E 5000 q (xs (v + nI 1).toNatClampNeg) k k9 v9 hF9) (cwV 1 hts gv_X11_minutes rfl rfl rfl (by decide +kernel) ⟨Nat.le_of_ble_eq_true rfl, Nat.le_of_ble_eq_true rfl⟩) rfl rfl rfl hl.1 (Nat.le_of_ble_eq_true rfl) dL_law_694 hf (fun H locs hH => ?_)
  refine lv_aload_n hx hb dL_law_697 rfl (lv_at hl 2 rfl) ?_
  refine lz_arg (w := nI 1) hx hb hX hbl hbA hH (lv_at hl 0 rfl) (lv_at hl 4 rfl) (by decide) (hin 1 (by decide)) dL_law_698 dL_law_699 dL_law_701 dL_law_702 dL_law_703 ?_
  refine z_callK2 _ _ _ (rest := [.int v9]) S hF hH (rM_minutes l G cy E 5000 q2 (xs (v + nI 1).toNatClampNeg) r r9 v9 hG9) (cwV 1 hts gv_X12_minutes rfl rfl rfl (by decide +kernel) ⟨Nat.le_of_ble_eq_true rfl, Nat.le_of_ble_eq_true rfl⟩) rfl rfl rfl hl.1 (Nat.le_of_ble_eq_true rfl) dL_law_704 hf (fun H locs hH => ?_)
  refine lv_icmp_eq (tgt := 1357) hx hb dL_law_707 (by decide) (fun _ => ?_) (fun h => absurd rfl h)
  refine W.widen (k := cells + 20) (n := slots + 500) (by omega) (by omega) ?_
  exact kk _ _ ls k9 r9 hl ⟨hR9, qv, mm, nn, ml, f, t, g, a1, a2, a3, a4, by rw [(gt_minutes 5000 (xs (v + nI 1).toNatClampNeg) r r9 v9 hG9).1, (gt_minutes 5000 (xs (v + nI 1).toNatClampNeg) r r9 v9 hG9).2]; exact a5, hH⟩
set_option maxHeartbeats 4000000 in
set_option maxRecDepth 100000 in
theorem lc_undo {p : Program} {l : Launch} {e : Env} {s : State} {m : MethodId} {args : Array Value} {below : List Frame} {meth : Method} {c : Code} {H : Heap} {locs : List Loc} {cells slots : Nat} {Q : State → Prop} {ls : Array Slot} {G : va_G} {cy : Nat → ClassId} {E : Nat → Nat} {A : Nat → Prop} {b L : Nat} {xs : Nat → Int32} {q q2 : Nat → Nat} {qo : Nat} {k : KS} {r : RS} {v : Int32} (hlt : l.stackTraces = false) (hc1 : zxB s) (S : CallFix p m c cL_law 7 s args LT RL) (hF : zF G cy E A s) (hX : va_X b L xs s s.heap) (hbl : b < s.heap.size) (hbA : ¬ A b) (hl : lv_has ls 7 [(0, .ref b), (1, .ref (q 0)), (2, .ref (q2 0)), (3, .ref qo), (4, .int v)]) (hin : ∀ j : Nat, j ≤ 5 → vp_in (v + nI j) L) (hce : cells + 20 ≤ 30000) (hsl : slots + 500 ≤ 400000) (hI : LInv G cy A s q q2 qo H locs k r)
    (kk : ∀ (H1 : Heap) (locs1 : List Loc) (ls' : Array Slot) (k' : KS) (r' : RS), lv_has ls' 7 [(0, .ref b), (1, .ref (q 0)), (2, .ref (q2 0)), (3, .ref qo), (4, .int v)] → LInv G cy A s q q2 qo H1 locs1 k' r' → W p l e room_1 s m args below meth c H1 locs1 (cells + 20) (slots + 500) Q (F0 m 1357 ls' [])) : W p l e room_1 s m args below meth c H locs cells slots Q (F0 m 712 ls []) := by
  obtain ⟨hR, qv, mm, nn, ml, f, t, g, a1, a2, a3, a4, a5, hH⟩ := hI
  obtain ⟨hx, hb, hml, hown, hts⟩ := id S
  have hf : cells ≤ room_1.cells ∧ slots ≤ room_1.slots := ⟨Nat.le_trans (show cells ≤ 30000 by omega) (Nat.le_of_ble_eq_true rfl), Nat.le_trans (show slots ≤ 400000 by omega) (Nat.le_of_ble_eq_true rfl)⟩
  obtain ⟨v9, k9, r9, hF9, hG9, hR9⟩ := p_undo 5000 (Nat.le_of_ble_eq_true rfl) k r hR
  refine lv_aload_n hx hb dL_law_712 rfl (lv_at hl 1 rfl) ?_
  refine z_callK0 _ (rest := []) S hF hH (kM_undo l G cy E 5000 q k k9 v9 hF9) (cwV 0 hts gv_X11_undo rfl rfl rfl (by decide +kernel) ⟨Nat.le_of_ble_eq_true rfl, Nat.le_of_ble_eq_true rfl⟩) rfl rfl rfl hl.1 (Nat.le_of_ble_eq_true rfl) dL_law_713 hf (fun H locs hH => ?_)
  refine lv_aload_n hx hb dL_law_716 rfl (lv_at hl 2 rfl) ?_
  refine z_callK2 _ _ _ (rest := [.int v9]) S hF hH (rM_undo l G cy E 5000 q2 r r9 v9 hG9) (cwV 0 hts gv_X12_undo rfl rfl rfl (by decide +kernel) ⟨Nat.le_of_ble_eq_true rfl, Nat.le_of_ble_eq_true rfl⟩) rfl rfl rfl hl.1 (Nat.le_of_ble_eq_true rfl) dL_law_717 hf (fun H locs hH => ?_)
  refine lv_icmp_eq (tgt := 1357) hx hb dL_law_720 (by decide) (fun _ => ?_) (fun h => absurd rfl h)
  refine W.widen (k := cells + 20) (n := slots + 500) (by omega) (by omega) ?_
  exact kk _ _ ls k9 r9 hl ⟨hR9, qv, mm, nn, ml, f, t, g, a1, a2, a3, a4, by rw [(gt_undo 5000 r r9 v9 hG9).1, (gt_undo 5000 r r9 v9 hG9).2]; exact a5, hH⟩
set_option maxHeartbeats 4000000 in
set_option maxRecDepth 100000 in
theorem lc_comes {p : Program} {l : Launch} {e : Env} {s : State} {m : MethodId} {args : Array Value} {below : List Frame} {meth : Method} {c : Code} {H : Heap} {locs : List Loc} {cells slots : Nat} {Q : State → Prop} {ls : Array Slot} {G : va_G} {cy : Nat → ClassId} {E : Nat → Nat} {A : Nat → Prop} {b L : Nat} {xs : Nat → Int32} {q q2 : Nat → Nat} {qo : Nat} {k : KS} {r : RS} {v : Int32} (hlt : l.stackTraces = false) (hc1 : zxB s) (S : CallFix p m c cL_law 7 s args LT RL) (hF : zF G cy E A s) (hX : va_X b L xs s s.heap) (hbl : b < s.heap.size) (hbA : ¬ A b) (hl : lv_has ls 7 [(0, .ref b), (1, .ref (q 0)), (2, .ref (q2 0)), (3, .ref qo), (4, .int v)]) (hin : ∀ j : Nat, j ≤ 5 → vp_in (v + nI j) L) (hce : cells + 20 ≤ 30000) (hsl : slots + 500 ≤ 400000) (hI : LInv G cy A s q q2 qo H locs k r)
    (kk : ∀ (H1 : Heap) (locs1 : List Loc) (ls' : Array Slot) (k' : KS) (r' : RS), lv_has ls' 7 [(0, .ref b), (1, .ref (q 0)), (2, .ref (q2 0)), (3, .ref qo), (4, .int v)] → LInv G cy A s q q2 qo H1 locs1 k' r' → W p l e room_1 s m args below meth c H1 locs1 (cells + 20) (slots + 500) Q (F0 m 1357 ls' [])) : W p l e room_1 s m args below meth c H locs cells slots Q (F0 m 725 ls []) := by
  obtain ⟨hR, qv, mm, nn, ml, f, t, g, a1, a2, a3, a4, a5, hH⟩ := hI
  obtain ⟨hx, hb, hml, hown, hts⟩ := id S
  have hf : cells ≤ room_1.cells ∧ slots ≤ room_1.slots := ⟨Nat.le_trans (show cells ≤ 30000 by omega) (Nat.le_of_ble_eq_true rfl), Nat.le_trans (show slots ≤ 400000 by omega) (Nat.le_of_ble_eq_true rfl)⟩
  obtain ⟨v9, k9, r9, hF9, hG9, hR9⟩ := p_comes 5000 (Nat.le_of_ble_eq_true rfl) (xs (v + nI 1).toNatClampNeg) (xs (v + nI 2).toNatClampNeg) k r hR
  refine lv_aload_n hx hb dL_law_725 rfl (lv_at hl 1 rfl) ?_
  refine lz_arg (w := nI 1) hx hb hX hbl hbA hH (lv_at hl 0 rfl) (lv_at hl 4 rfl) (by decide) (hin 1 (by decide)) dL_law_726 dL_law_727 dL_law_729 dL_law_730 dL_law_731 ?_
  refine lz_arg (w := nI 2) hx hb hX hbl hbA hH (lv_at hl 0 rfl) (lv_at hl 4 rfl) (by decide) (hin 2 (by decide)) dL_law_732 dL_law_733 dL_law_735 dL_law_736 dL_law_737 ?_
  refine z_callK0 _ (rest := []) S hF hH (kM_comes l G cy E 5000 q (xs (v + nI 1).toNatClampNeg) (xs (v + nI 2).toNatClampNeg) k k9 v9 hF9) (cwV 2 hts gv_X11_comes rfl rfl rfl (by decide +kernel) ⟨Nat.le_of_ble_eq_true rfl, Nat.le_of_ble_eq_true rfl⟩) rfl rfl rfl hl.1 (Nat.le_of_ble_eq_true rfl) dL_law_738 hf (fun H locs hH => ?_)
  refine lv_aload_n hx hb dL_law_741 rfl (lv_at hl 2 rfl) ?_
  refine lz_arg (w := nI 1) hx hb hX hbl hbA hH (lv_at hl 0 rfl) (lv_at hl 4 rfl) (by decide) (hin 1 (by decide)) dL_law_742 dL_law_743 dL_law_745 dL_law_746 dL_law_747 ?_
  refine lz_arg (w := nI 2) hx hb hX hbl hbA hH (lv_at hl 0 rfl) (lv_at hl 4 rfl) (by decide) (hin 2 (by decide)) dL_law_748 dL_law_749 dL_law_751 dL_law_752 dL_law_753 ?_
  refine z_callK2 _ _ _ (rest := [.int v9]) S hF hH (rM_comes l G cy E 5000 q2 (xs (v + nI 1).toNatClampNeg) (xs (v + nI 2).toNatClampNeg) r r9 v9 hG9) (cwV 2 hts gv_X12_comes rfl rfl rfl (by decide +kernel) ⟨Nat.le_of_ble_eq_true rfl, Nat.le_of_ble_eq_true rfl⟩) rfl rfl rfl hl.1 (Nat.le_of_ble_eq_true rfl) dL_law_754 hf (fun H locs hH => ?_)
  refine lv_icmp_eq (tgt := 1357) hx hb dL_law_757 (by decide) (fun _ => ?_) (fun h => absurd rfl h)
  refine W.widen (k := cells + 20) (n := slots + 500) (by omega) (by omega) ?_
  exact kk _ _ ls k9 r9 hl ⟨hR9, qv, mm, nn, ml, f, t, g, a1, a2, a3, a4, by rw [(gt_comes 5000 (xs (v + nI 1).toNatClampNeg) (xs (v + nI 2).toNatClampNeg) r r9 v9 hG9).1, (gt_comes 5000 (xs (v + nI 1).toNatClampNeg) (xs (v + nI 2).toNatClampNeg) r r9 v9 hG9).2]; exact a5, hH⟩
set_option maxHeartbeats 4000000 in
set_option maxRecDepth 100000 in
theorem lc_all {p : Program} {l : Launch} {e : Env} {s : State} {m : MethodId} {args : Array Value} {below : List Frame} {meth : Method} {c : Code} {H : Heap} {locs : List Loc} {cells slots : Nat} {Q : State → Prop} {ls : Array Slot} {G : va_G} {cy : Nat → ClassId} {E : Nat → Nat} {A : Nat → Prop} {b L : Nat} {xs : Nat → Int32} {q q2 : Nat → Nat} {qo : Nat} {k : KS} {r : RS} {v : Int32} (hlt : l.stackTraces = false) (hc1 : zxB s) (S : CallFix p m c cL_law 7 s args LT RL) (hF : zF G cy E A s) (hX : va_X b L xs s s.heap) (hbl : b < s.heap.size) (hbA : ¬ A b) (hl : lv_has ls 7 [(0, .ref b), (1, .ref (q 0)), (2, .ref (q2 0)), (3, .ref qo), (4, .int v)]) (hin : ∀ j : Nat, j ≤ 5 → vp_in (v + nI j) L) (hce : cells + 20 ≤ 30000) (hsl : slots + 500 ≤ 400000) (hI : LInv G cy A s q q2 qo H locs k r)
    (kk : ∀ (H1 : Heap) (locs1 : List Loc) (ls' : Array Slot) (k' : KS) (r' : RS), lv_has ls' 7 [(0, .ref b), (1, .ref (q 0)), (2, .ref (q2 0)), (3, .ref qo), (4, .int v)] → LInv G cy A s q q2 qo H1 locs1 k' r' → W p l e room_1 s m args below meth c H1 locs1 (cells + 20) (slots + 500) Q (F0 m 1357 ls' [])) : W p l e room_1 s m args below meth c H locs cells slots Q (F0 m 762 ls []) := by
  obtain ⟨hR, qv, mm, nn, ml, f, t, g, a1, a2, a3, a4, a5, hH⟩ := hI
  obtain ⟨hx, hb, hml, hown, hts⟩ := id S
  have hf : cells ≤ room_1.cells ∧ slots ≤ room_1.slots := ⟨Nat.le_trans (show cells ≤ 30000 by omega) (Nat.le_of_ble_eq_true rfl), Nat.le_trans (show slots ≤ 400000 by omega) (Nat.le_of_ble_eq_true rfl)⟩
  obtain ⟨v9, k9, r9, hF9, hG9, hR9⟩ := p_all 5000 (Nat.le_of_ble_eq_true rfl) (xs (v + nI 1).toNatClampNeg) k r hR
  refine lv_aload_n hx hb dL_law_762 rfl (lv_at hl 1 rfl) ?_
  refine lz_arg (w := nI 1) hx hb hX hbl hbA hH (lv_at hl 0 rfl) (lv_at hl 4 rfl) (by decide) (hin 1 (by decide)) dL_law_763 dL_law_764 dL_law_766 dL_law_767 dL_law_768 ?_
  refine z_callK0 _ (rest := []) S hF hH (kM_all l G cy E 5000 q (xs (v + nI 1).toNatClampNeg) k k9 v9 hF9) (cwV 1 hts gv_X11_all rfl rfl rfl (by decide +kernel) ⟨Nat.le_of_ble_eq_true rfl, Nat.le_of_ble_eq_true rfl⟩) rfl rfl rfl hl.1 (Nat.le_of_ble_eq_true rfl) dL_law_769 hf (fun H locs hH => ?_)
  refine lv_aload_n hx hb dL_law_772 rfl (lv_at hl 2 rfl) ?_
  refine lz_arg (w := nI 1) hx hb hX hbl hbA hH (lv_at hl 0 rfl) (lv_at hl 4 rfl) (by decide) (hin 1 (by decide)) dL_law_773 dL_law_774 dL_law_776 dL_law_777 dL_law_778 ?_
  refine z_callK2 _ _ _ (rest := [.int v9]) S hF hH (rM_all l G cy E 5000 q2 (xs (v + nI 1).toNatClampNeg) r r9 v9 hG9) (cwV 1 hts gv_X12_all rfl rfl rfl (by decide +kernel) ⟨Nat.le_of_ble_eq_true rfl, Nat.le_of_ble_eq_true rfl⟩) rfl rfl rfl hl.1 (Nat.le_of_ble_eq_true rfl) dL_law_779 hf (fun H locs hH => ?_)
  refine lv_icmp_eq (tgt := 1357) hx hb dL_law_782 (by decide) (fun _ => ?_) (fun h => absurd rfl h)
  refine W.widen (k := cells + 20) (n := slots + 500) (by omega) (by omega) ?_
  exact kk _ _ ls k9 r9 hl ⟨hR9, qv, mm, nn, ml, f, t, g, a1, a2, a3, a4, by rw [(gt_all 5000 (xs (v + nI 1).toNatClampNeg) r r9 v9 hG9).1, (gt_all 5000 (xs (v + nI 1).toNatClampNeg) r r9 v9 hG9).2]; exact a5, hH⟩
set_option maxHeartbeats 4000000 in
set_option maxRecDepth 100000 in
theorem lc_missed {p : Program} {l : Launch} {e : Env} {s : State} {m : MethodId} {args : Array Value} {below : List Frame} {meth : Method} {c : Code} {H : Heap} {locs : List Loc} {cells slots : Nat} {Q : State → Prop} {ls : Array Slot} {G : va_G} {cy : Nat → ClassId} {E : Nat → Nat} {A : Nat → Prop} {b L : Nat} {xs : Nat → Int32} {q q2 : Nat → Nat} {qo : Nat} {k : KS} {r : RS} {v : Int32} (hlt : l.stackTraces = false) (hc1 : zxB s) (S : CallFix p m c cL_law 7 s args LT RL) (hF : zF G cy E A s) (hX : va_X b L xs s s.heap) (hbl : b < s.heap.size) (hbA : ¬ A b) (hl : lv_has ls 7 [(0, .ref b), (1, .ref (q 0)), (2, .ref (q2 0)), (3, .ref qo), (4, .int v)]) (hin : ∀ j : Nat, j ≤ 5 → vp_in (v + nI j) L) (hce : cells + 20 ≤ 30000) (hsl : slots + 500 ≤ 400000) (hI : LInv G cy A s q q2 qo H locs k r)
    (kk : ∀ (H1 : Heap) (locs1 : List Loc) (ls' : Array Slot) (k' : KS) (r' : RS), lv_has ls' 7 [(0, .ref b), (1, .ref (q 0)), (2, .ref (q2 0)), (3, .ref qo), (4, .int v)] → LInv G cy A s q q2 qo H1 locs1 k' r' → W p l e room_1 s m args below meth c H1 locs1 (cells + 20) (slots + 500) Q (F0 m 1357 ls' [])) : W p l e room_1 s m args below meth c H locs cells slots Q (F0 m 787 ls []) := by
  obtain ⟨hR, qv, mm, nn, ml, f, t, g, a1, a2, a3, a4, a5, hH⟩ := hI
  obtain ⟨hx, hb, hml, hown, hts⟩ := id S
  have hf : cells ≤ room_1.cells ∧ slots ≤ room_1.slots := ⟨Nat.le_trans (show cells ≤ 30000 by omega) (Nat.le_of_ble_eq_true rfl), Nat.le_trans (show slots ≤ 400000 by omega) (Nat.le_of_ble_eq_true rfl)⟩
  obtain ⟨v9, k9, r9, hF9, hG9, hR9⟩ := p_missed 5000 (Nat.le_of_ble_eq_true rfl) (xs (v + nI 1).toNatClampNeg) k r hR
  refine lv_aload_n hx hb dL_law_787 rfl (lv_at hl 1 rfl) ?_
  refine lz_arg (w := nI 1) hx hb hX hbl hbA hH (lv_at hl 0 rfl) (lv_at hl 4 rfl) (by decide) (hin 1 (by decide)) dL_law_788 dL_law_789 dL_law_791 dL_law_792 dL_law_793 ?_
  refine z_callK0 _ (rest := []) S hF hH (kM_missed l G cy E 5000 q (xs (v + nI 1).toNatClampNeg) k k9 v9 hF9) (cwV 1 hts gv_X11_missed rfl rfl rfl (by decide +kernel) ⟨Nat.le_of_ble_eq_true rfl, Nat.le_of_ble_eq_true rfl⟩) rfl rfl rfl hl.1 (Nat.le_of_ble_eq_true rfl) dL_law_794 hf (fun H locs hH => ?_)
  refine lv_aload_n hx hb dL_law_797 rfl (lv_at hl 2 rfl) ?_
  refine lz_arg (w := nI 1) hx hb hX hbl hbA hH (lv_at hl 0 rfl) (lv_at hl 4 rfl) (by decide) (hin 1 (by decide)) dL_law_798 dL_law_799 dL_law_801 dL_law_802 dL_law_803 ?_
  refine z_callK2 _ _ _ (rest := [.int v9]) S hF hH (rM_missed l G cy E 5000 q2 (xs (v + nI 1).toNatClampNeg) r r9 v9 hG9) (cwV 1 hts gv_X12_missed rfl rfl rfl (by decide +kernel) ⟨Nat.le_of_ble_eq_true rfl, Nat.le_of_ble_eq_true rfl⟩) rfl rfl rfl hl.1 (Nat.le_of_ble_eq_true rfl) dL_law_804 hf (fun H locs hH => ?_)
  refine lv_icmp_eq (tgt := 1357) hx hb dL_law_807 (by decide) (fun _ => ?_) (fun h => absurd rfl h)
  refine W.widen (k := cells + 20) (n := slots + 500) (by omega) (by omega) ?_
  exact kk _ _ ls k9 r9 hl ⟨hR9, qv, mm, nn, ml, f, t, g, a1, a2, a3, a4, by rw [(gt_missed 5000 (xs (v + nI 1).toNatClampNeg) r r9 v9 hG9).1, (gt_missed 5000 (xs (v + nI 1).toNatClampNeg) r r9 v9 hG9).2]; exact a5, hH⟩
set_option maxHeartbeats 4000000 in
set_option maxRecDepth 100000 in
theorem lc_caught {p : Program} {l : Launch} {e : Env} {s : State} {m : MethodId} {args : Array Value} {below : List Frame} {meth : Method} {c : Code} {H : Heap} {locs : List Loc} {cells slots : Nat} {Q : State → Prop} {ls : Array Slot} {G : va_G} {cy : Nat → ClassId} {E : Nat → Nat} {A : Nat → Prop} {b L : Nat} {xs : Nat → Int32} {q q2 : Nat → Nat} {qo : Nat} {k : KS} {r : RS} {v : Int32} (hlt : l.stackTraces = false) (hc1 : zxB s) (S : CallFix p m c cL_law 7 s args LT RL) (hF : zF G cy E A s) (hX : va_X b L xs s s.heap) (hbl : b < s.heap.size) (hbA : ¬ A b) (hl : lv_has ls 7 [(0, .ref b), (1, .ref (q 0)), (2, .ref (q2 0)), (3, .ref qo), (4, .int v)]) (hin : ∀ j : Nat, j ≤ 5 → vp_in (v + nI j) L) (hce : cells + 20 ≤ 30000) (hsl : slots + 500 ≤ 400000) (hI : LInv G cy A s q q2 qo H locs k r)
    (kk : ∀ (H1 : Heap) (locs1 : List Loc) (ls' : Array Slot) (k' : KS) (r' : RS), lv_has ls' 7 [(0, .ref b), (1, .ref (q 0)), (2, .ref (q2 0)), (3, .ref qo), (4, .int v)] → LInv G cy A s q q2 qo H1 locs1 k' r' → W p l e room_1 s m args below meth c H1 locs1 (cells + 20) (slots + 500) Q (F0 m 1357 ls' [])) : W p l e room_1 s m args below meth c H locs cells slots Q (F0 m 812 ls []) := by
  obtain ⟨hR, qv, mm, nn, ml, f, t, g, a1, a2, a3, a4, a5, hH⟩ := hI
  obtain ⟨hx, hb, hml, hown, hts⟩ := id S
  have hf : cells ≤ room_1.cells ∧ slots ≤ room_1.slots := ⟨Nat.le_trans (show cells ≤ 30000 by omega) (Nat.le_of_ble_eq_true rfl), Nat.le_trans (show slots ≤ 400000 by omega) (Nat.le_of_ble_eq_true rfl)⟩
  obtain ⟨v9, k9, r9, hF9, hG9, hR9⟩ := p_caught 5000 (Nat.le_of_ble_eq_true rfl) (xs (v + nI 1).toNatClampNeg) k r hR
  refine lv_aload_n hx hb dL_law_812 rfl (lv_at hl 1 rfl) ?_
  refine lz_arg (w := nI 1) hx hb hX hbl hbA hH (lv_at hl 0 rfl) (lv_at hl 4 rfl) (by decide) (hin 1 (by decide)) dL_law_813 dL_law_814 dL_law_816 dL_law_817 dL_law_818 ?_
  refine z_callK0 _ (rest := []) S hF hH (kM_caught l G cy E 5000 q (xs (v + nI 1).toNatClampNeg) k k9 v9 hF9) (cwV 1 hts gv_X11_caught rfl rfl rfl (by decide +kernel) ⟨Nat.le_of_ble_eq_true rfl, Nat.le_of_ble_eq_true rfl⟩) rfl rfl rfl hl.1 (Nat.le_of_ble_eq_true rfl) dL_law_819 hf (fun H locs hH => ?_)
  refine lv_aload_n hx hb dL_law_822 rfl (lv_at hl 2 rfl) ?_
  refine lz_arg (w := nI 1) hx hb hX hbl hbA hH (lv_at hl 0 rfl) (lv_at hl 4 rfl) (by decide) (hin 1 (by decide)) dL_law_823 dL_law_824 dL_law_826 dL_law_827 dL_law_828 ?_
  refine z_callK2 _ _ _ (rest := [.int v9]) S hF hH (rM_caught l G cy E 5000 q2 (xs (v + nI 1).toNatClampNeg) r r9 v9 hG9) (cwV 1 hts gv_X12_caught rfl rfl rfl (by decide +kernel) ⟨Nat.le_of_ble_eq_true rfl, Nat.le_of_ble_eq_true rfl⟩) rfl rfl rfl hl.1 (Nat.le_of_ble_eq_true rfl) dL_law_829 hf (fun H locs hH => ?_)
  refine lv_icmp_eq (tgt := 1357) hx hb dL_law_832 (by decide) (fun _ => ?_) (fun h => absurd rfl h)
  refine W.widen (k := cells + 20) (n := slots + 500) (by omega) (by omega) ?_
  exact kk _ _ ls k9 r9 hl ⟨hR9, qv, mm, nn, ml, f, t, g, a1, a2, a3, a4, by rw [(gt_caught 5000 (xs (v + nI 1).toNatClampNeg) r r9 v9 hG9).1, (gt_caught 5000 (xs (v + nI 1).toNatClampNeg) r r9 v9 hG9).2]; exact a5, hH⟩
