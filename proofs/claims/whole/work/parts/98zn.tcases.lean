/-! ===== the law's cases that may throw ===== -/
theorem zsome_inj : ∀ a b : va_W, a.map some = b.map some → a = b
  | [], [], _ => rfl
  | [], _ :: _, h => by cases h
  | _ :: _, [], h => by cases h
  | x :: a, y :: b, h => by
    rw [List.map_cons, List.map_cons] at h
    injection h with h1 h2
    rw [Option.some.inj h1, zsome_inj a b h2]
section ZO
variable {s : State} {H : Heap} {locs : List Loc} {G : va_G} {A : Nat → Prop}
theorem zH_o (X Y Z : va_W) (o : Nat × va_E) (hH : zH G A s H locs (X ++ (Y ++ (Z ++ [o])))) : zH G A s H locs (o :: (X ++ (Y ++ Z))) := by
  have h1 : X ++ (Y ++ (Z ++ [o])) = (X ++ (Y ++ Z)) ++ [o] := by simp only [List.append_assoc]
  rw [h1] at hH
  exact zH_perm List.perm_append_comm hH
theorem zH_u (X Y Z : va_W) (o : Nat × va_E) (hH : zH G A s H locs (o :: (X ++ (Y ++ Z)))) : zH G A s H locs (X ++ (Y ++ (Z ++ [o]))) := by
  have h1 : X ++ (Y ++ (Z ++ [o])) = (X ++ (Y ++ Z)) ++ [o] := by simp only [List.append_assoc]
  rw [h1]
  exact zH_perm (List.perm_append_comm (l₁ := [o])) hH
end ZO
set_option maxHeartbeats 4000000 in
set_option maxRecDepth 100000 in
theorem kX_wrong (l : Launch) (hlt : l.stackTraces = false) (G : va_G) (cy : Nat → ClassId) (E : Nat → Nat) (q : Nat → Nat) (x0 : Int32) (k : KS) (h : f_X11_isClock 5000 x0 k.here.clocks = some 0) : ∃ (wc : va_W) (isC : List Nat) (fs : List Value), zMX l G cy E yX11_wrong wsX11_wrongB rm_X11_wrongT (.ref (q 0) :: [.int x0]) wc ∧ va_nd isC = true ∧ wc[0]? = some (q 0, .inr (12, fs)) ∧ isC.map (fun i => (KW cy q k)[i]?) = wc.map some :=
  ⟨_, [0, 21, 22, 34, 37, 35, 26, 36], _, xB_X11_wrong l hlt G cy E 5000 (q 0) (q 1) (q 2) (q 3) (q 4) (q 5) (q 6) (q 7) (q 8) (q 9) (q 10) (q 11) (q 29) (q 30) (q 31) (q 32) (q 33) (q 34) (q 35) (q 36) (q 37) (q 38) (q 39) (q 40) (q 41) (q 42) (q 43) (q 44) (q 45) (q 46) (q 47) (q 48) k.lastFault k.lastLateness k.here_kept k.here.clocks k.here.masters k.here.meets k.here.patience k.day.minute k.day.out k.day.stopped k.day.stood k.day.ahead k.here.clockGain k.day.since x0 (wrT_ok _ _ _ _ _ _ _ _ _ h), by decide +kernel, rfl, rfl⟩
set_option maxHeartbeats 4000000 in
set_option maxRecDepth 100000 in
theorem kX_master (l : Launch) (hlt : l.stackTraces = false) (G : va_G) (cy : Nat → ClassId) (E : Nat → Nat) (q : Nat → Nat) (x0 : Int32) (x1 : Int32) (k : KS) (h : f_X11_isMaster 5000 x0 k.here.masters = some 0 ∨ (f_X11_isMaster 5000 x0 k.here.masters = some 1 ∧ (x1 < 0 ∨ (¬ x1 < 0 ∧ ¬ x1 ≤ 6)))) : ∃ (wc : va_W) (isC : List Nat) (fs : List Value), zMX l G cy E yX11_master wsX11_masterB rm_X11_masterT (.ref (q 0) :: [.int x0, .int x1]) wc ∧ va_nd isC = true ∧ wc[0]? = some (q 0, .inr (12, fs)) ∧ isC.map (fun i => (KW cy q k)[i]?) = wc.map some :=
  ⟨_, [0, 21, 22, 28, 34, 40, 39, 31, 30, 29], _, xB_X11_master l hlt G cy E 5000 (q 0) (q 1) (q 2) (q 3) (q 4) (q 5) (q 6) (q 7) (q 8) (q 9) (q 10) (q 11) (q 29) (q 30) (q 31) (q 32) (q 33) (q 34) (q 35) (q 36) (q 37) (q 38) (q 39) (q 40) (q 41) (q 42) (q 43) (q 44) (q 45) (q 46) (q 47) (q 48) k.lastFault k.lastLateness k.here_kept k.here.clocks k.here.masters k.here.meets k.here.patience k.here.masterCorner k.day.minute k.day.out k.day.stopped k.day.came k.day.left k.here.masterMeets k.here.masterClock k.here.masterLate x0 x1 (maT_ok _ _ _ _ _ _ _ _ _ _ _ _ h), by decide +kernel, rfl, rfl⟩
set_option maxHeartbeats 4000000 in
set_option maxRecDepth 100000 in
theorem kX_mean (l : Launch) (hlt : l.stackTraces = false) (G : va_G) (cy : Nat → ClassId) (E : Nat → Nat) (q : Nat → Nat) (x0 : Int32) (k : KS) (h : ∃ z, f_X3_howOftenCame 5000 k.here.masters k.here.meets k.day.came = some z ∧ (z = 0 ∨ (¬ z = 0 ∧ (x0 < 0 ∨ (¬ x0 < 0 ∧ ¬ x0 ≤ 1))))) : ∃ (wc : va_W) (isC : List Nat) (fs : List Value), zMX l G cy E yX11_mean wsX11_meanB rm_X11_meanT (.ref (q 0) :: [.int x0]) wc ∧ va_nd isC = true ∧ wc[0]? = some (q 0, .inr (12, fs)) ∧ isC.map (fun i => (KW cy q k)[i]?) = wc.map some :=
  ⟨_, [0, 21, 34, 22, 40, 38], _, xB_X11_mean l hlt G cy E 5000 (q 0) (q 1) (q 2) (q 3) (q 4) (q 5) (q 6) (q 7) (q 8) (q 9) (q 10) (q 11) (q 29) (q 30) (q 31) (q 43) (q 44) (q 45) (q 46) (q 47) (q 48) (q 32) (q 33) (q 34) (q 35) (q 36) (q 37) (q 38) (q 39) (q 40) (q 41) (q 42) k.lastFault k.lastLateness k.here_kept k.day.minute k.day.out k.day.stopped k.here.clocks k.here.masters k.here.meets k.here.patience k.day.came k.day.due x0 (meT_ok _ _ _ _ _ _ h), by decide +kernel, rfl, rfl⟩
set_option maxHeartbeats 4000000 in
set_option maxRecDepth 100000 in
theorem lc_wrong {p : Program} {l : Launch} {e : Env} {s : State} {m : MethodId} {args : Array Value} {below : List Frame} {meth : Method} {c : Code} {H : Heap} {locs : List Loc} {cells slots : Nat} {Q : State → Prop} {ls : Array Slot} {G : va_G} {cy : Nat → ClassId} {E : Nat → Nat} {A : Nat → Prop} {b L : Nat} {xs : Nat → Int32} {q q2 : Nat → Nat} {qo : Nat} {k : KS} {r : RS} {v : Int32} (hlt : l.stackTraces = false) (hc1 : zxB s) (S : CallFix p m c cL_law 7 s args LT RL) (hF : zF G cy E A s) (hX : va_X b L xs s s.heap) (hbl : b < s.heap.size) (hbA : ¬ A b) (hl : lv_has ls 7 [(0, .ref b), (1, .ref (q 0)), (2, .ref (q2 0)), (3, .ref qo), (4, .int v)]) (hin : ∀ j : Nat, j ≤ 5 → vp_in (v + nI j) L) (hce : cells + 20 ≤ 30000) (hsl : slots + 500 ≤ 400000) (hI : LInv G cy A s q q2 qo H locs k r)
    (kk : ∀ (H1 : Heap) (locs1 : List Loc) (ls' : Array Slot) (k' : KS) (r' : RS), lv_has ls' 7 [(0, .ref b), (1, .ref (q 0)), (2, .ref (q2 0)), (3, .ref qo), (4, .int v)] → LInv G cy A s q q2 qo H1 locs1 k' r' → W p l e room_1 s m args below meth c H1 locs1 (cells + 20) (slots + 500) Q (F0 m 1357 ls' [])) : W p l e room_1 s m args below meth c H locs cells slots Q (F0 m 377 ls []) := by
  obtain ⟨hR, qv, mm, nn, ml, f, t, g, a1, a2, a3, a4, a5, hH⟩ := hI
  obtain ⟨hx, hb, hml, hown, hts⟩ := id S
  have hf : cells ≤ room_1.cells ∧ slots ≤ room_1.slots := ⟨Nat.le_trans (show cells ≤ 30000 by omega) (Nat.le_of_ble_eq_true rfl), Nat.le_trans (show slots ≤ 400000 by omega) (Nat.le_of_ble_eq_true rfl)⟩
  have hO := zH_o _ _ _ _ hH
  have hf1 : cells + 1 ≤ room_1.cells ∧ slots + 6 ≤ room_1.slots := ⟨Nat.le_trans (show cells + 1 ≤ 30000 by omega) (Nat.le_of_ble_eq_true rfl), Nat.le_trans (show slots + 6 ≤ 400000 by omega) (Nat.le_of_ble_eq_true rfl)⟩
  refine lv_aload_n hx hb dL_law_377 rfl (lv_at hl 1 rfl) ?_
  refine lz_arg (w := nI 1) hx hb hX hbl hbA hH (lv_at hl 0 rfl) (lv_at hl 4 rfl) (by decide) (hin 1 (by decide)) dL_law_378 dL_law_379 dL_law_381 dL_law_382 dL_law_383 ?_
  refine lv_aload_n hx hb dL_law_384 rfl (lv_at hl 3 rfl) ?_
  rcases p_wrong 5000 (xs (v + nI 1).toNatClampNeg) k r hR with ⟨v9, hF9, hG9⟩ | ⟨hT9, hG9⟩
  · obtain ⟨wc, w1, isC, fs, hZ, hnd, had, h0, bs9, hcov, hz9, hC, hC'⟩ := kM_wrong l G cy E 5000 q (xs (v + nI 1).toNatClampNeg) k k v9 hF9
    have hw : w1 = wc := zsome_inj _ _ (hC'.symm.trans hC)
    subst hw
    have hf2 : cells + 1 ≤ room_1.cells ∧ slots + 6 ≤ room_1.slots := hf1
    refine z_callO _ (o := (qo, .inl (cy 2, 1, .inr (.inl g)))) (o' := (qo, .inl (cy 2, 1, .inr (.inl (vp_updL g 0 v9.toInt64))))) (As := [.ref (q 0), .int (xs (v + nI 1).toNatClampNeg), .ref qo]) (rest := []) rfl S hF hc1 hO isC hnd hC (cB_L_wrong l G cy E _ (q 0) qo fs (xs (v + nI 1).toNatClampNeg) v9 g h0 hZ) (vx_cwSW 3 hts gv_L_wrong rfl rfl rfl (by decide +kernel) ⟨Nat.le_of_ble_eq_true rfl, Nat.le_of_ble_eq_true rfl⟩) rfl rfl hl.1 (Nat.le_of_ble_eq_true rfl) dL_law_385 hf1 (fun H locs hH => ?_)
    have hH := zH_u _ _ _ _ hH
    refine lv_istore (lv' := [(5, .int 0), (0, .ref b), (1, .ref (q 0)), (2, .ref (q2 0)), (3, .ref qo), (4, .int v)]) hx hb dL_law_388 hl (by decide) rfl (fun ls hl => ?_)
    refine lv_aload_n hx hb dL_law_390 rfl (lv_at hl 3 rfl) ?_
    refine lz_arg (w := nI 1) hx hb hX hbl hbA hH (lv_at hl 1 rfl) (lv_at hl 5 rfl) (by decide) (hin 1 (by decide)) dL_law_391 dL_law_392 dL_law_394 dL_law_395 dL_law_396 ?_
    refine z_callK2 _ _ _ (rest := []) S hF hH (rM_wrong l G cy E 5000 q2 (xs (v + nI 1).toNatClampNeg) r (r.thr 0) v9 hG9) (cwV 1 hts gv_X12_wrong rfl rfl rfl (by decide +kernel) ⟨Nat.le_of_ble_eq_true rfl, Nat.le_of_ble_eq_true rfl⟩) rfl rfl rfl hl.1 (Nat.le_of_ble_eq_true rfl) dL_law_397 hf2 (fun H locs hH => ?_)
    refine lv_istore (lv' := [(6, .int v9), (5, .int 0), (0, .ref b), (1, .ref (q 0)), (2, .ref (q2 0)), (3, .ref qo), (4, .int v)]) hx hb dL_law_400 hl (by decide) rfl (fun ls hl => ?_)
    refine lv_aload_n hx hb dL_law_402 rfl (lv_at hl 4 rfl) ?_
    refine z_callK2 _ _ _ (rest := []) S hF hH (rM_thrown l G cy E 5000 q2 (r.thr 0) (r.thr 0) 0 rfl) (cwV 0 hts gv_X12_thrown rfl rfl rfl (by decide +kernel) ⟨Nat.le_of_ble_eq_true rfl, Nat.le_of_ble_eq_true rfl⟩) rfl rfl rfl hl.1 (Nat.le_of_ble_eq_true rfl) dL_law_403 hf2 (fun H locs hH => ?_)
    refine lv_iload hx hb dL_law_406 (lv_at hl 1 rfl) ?_
    refine lv_icmp_eq (tgt := 413) hx hb dL_law_408 (by decide) (fun _ => ?_) (fun h => absurd rfl h)
    refine lv_iload hx hb dL_law_413 (lv_at hl 1 rfl) ?_
    refine lv_if_ne (tgt := 430) hx hb dL_law_415 (by decide) (fun h => absurd rfl h) (fun _ => ?_)
    have hO2 := zH_o _ _ _ _ hH
    refine lv_aload_n hx hb dL_law_418 rfl (lv_at hl 5 rfl) ?_
    refine lv_iconst (v := 0) hx hb dL_law_419 (by decide) ?_
    refine z_lald (n := 1) (f := vp_updL g 0 v9.toInt64) (j := 0) S hF hO2 0 rfl (by decide) (by decide) dL_law_420 ?_
    refine lv_iload hx hb dL_law_421 (lv_at hl 0 rfl) ?_
    refine lv_i2l (v := v9.toInt64) hx hb dL_law_423 rfl ?_
    refine W.lcmp hx hb dL_law_424 ?_
    refine lv_if_eq (tgt := 430) hx hb dL_law_425 (by decide) (fun _ => ?_) (fun h => absurd ((lg_cmp_eq _ _).mpr rfl) h)
    refine lv_goto (tgt := 1357) hx hb dL_law_430 (by decide) ?_
    refine W.widen (k := cells + 20) (n := slots + 500) (by omega) (by omega) ?_
    exact kk _ _ ls k (r.thr 0) (lv_sub hl [2, 3, 4, 5, 6] rfl) ⟨hR.th 0, qv, mm, nn, ml, f, t, _, a1, a2, a3, a4, a5, hH⟩
  · obtain ⟨wc, isC, fs, hZ, hnd, h0, hC⟩ := kX_wrong l hlt G cy E q (xs (v + nI 1).toNatClampNeg) k hT9
    have hf2 : cells + 1 ≤ room_1.cells ∧ slots + 6 ≤ room_1.slots := hf1
    refine z_callO _ (o := (qo, .inl (cy 2, 1, .inr (.inl g)))) (o' := (qo, .inl (cy 2, 1, .inr (.inl g)))) (As := [.ref (q 0), .int (xs (v + nI 1).toNatClampNeg), .ref qo]) (rest := []) rfl S hF hc1 hO isC hnd hC (xB_L_wrong l G cy E _ (q 0) qo fs (xs (v + nI 1).toNatClampNeg) 0 g h0 hZ) (vx_cwSW 3 hts gv_L_wrong rfl rfl rfl (by decide +kernel) ⟨Nat.le_of_ble_eq_true rfl, Nat.le_of_ble_eq_true rfl⟩) rfl rfl hl.1 (Nat.le_of_ble_eq_true rfl) dL_law_385 hf1 (fun H locs hH => ?_)
    have hH := zH_u _ _ _ _ hH
    refine lv_istore (lv' := [(5, .int 1), (0, .ref b), (1, .ref (q 0)), (2, .ref (q2 0)), (3, .ref qo), (4, .int v)]) hx hb dL_law_388 hl (by decide) rfl (fun ls hl => ?_)
    refine lv_aload_n hx hb dL_law_390 rfl (lv_at hl 3 rfl) ?_
    refine lz_arg (w := nI 1) hx hb hX hbl hbA hH (lv_at hl 1 rfl) (lv_at hl 5 rfl) (by decide) (hin 1 (by decide)) dL_law_391 dL_law_392 dL_law_394 dL_law_395 dL_law_396 ?_
    refine z_callK2 _ _ _ (rest := []) S hF hH (rM_wrong l G cy E 5000 q2 (xs (v + nI 1).toNatClampNeg) r (r.thr 1) 0 hG9) (cwV 1 hts gv_X12_wrong rfl rfl rfl (by decide +kernel) ⟨Nat.le_of_ble_eq_true rfl, Nat.le_of_ble_eq_true rfl⟩) rfl rfl rfl hl.1 (Nat.le_of_ble_eq_true rfl) dL_law_397 hf2 (fun H locs hH => ?_)
    refine lv_istore (lv' := [(6, .int 0), (5, .int 1), (0, .ref b), (1, .ref (q 0)), (2, .ref (q2 0)), (3, .ref qo), (4, .int v)]) hx hb dL_law_400 hl (by decide) rfl (fun ls hl => ?_)
    refine lv_aload_n hx hb dL_law_402 rfl (lv_at hl 4 rfl) ?_
    refine z_callK2 _ _ _ (rest := []) S hF hH (rM_thrown l G cy E 5000 q2 (r.thr 1) (r.thr 1) 1 rfl) (cwV 0 hts gv_X12_thrown rfl rfl rfl (by decide +kernel) ⟨Nat.le_of_ble_eq_true rfl, Nat.le_of_ble_eq_true rfl⟩) rfl rfl rfl hl.1 (Nat.le_of_ble_eq_true rfl) dL_law_403 hf2 (fun H locs hH => ?_)
    refine lv_iload hx hb dL_law_406 (lv_at hl 1 rfl) ?_
    refine lv_icmp_eq (tgt := 413) hx hb dL_law_408 (by decide) (fun _ => ?_) (fun h => absurd rfl h)
    refine lv_iload hx hb dL_law_413 (lv_at hl 1 rfl) ?_
    refine lv_if_ne (tgt := 430) hx hb dL_law_415 (by decide) (fun _ => ?_) (fun h => absurd h (by decide))
    refine lv_goto (tgt := 1357) hx hb dL_law_430 (by decide) ?_
    refine W.widen (k := cells + 20) (n := slots + 500) (by omega) (by omega) ?_
    exact kk _ _ ls k (r.thr 1) (lv_sub hl [2, 3, 4, 5, 6] rfl) ⟨hR.th 1, qv, mm, nn, ml, f, t, _, a1, a2, a3, a4, a5, hH⟩
set_option maxHeartbeats 4000000 in
set_option maxRecDepth 100000 in
theorem lc_master {p : Program} {l : Launch} {e : Env} {s : State} {m : MethodId} {args : Array Value} {below : List Frame} {meth : Method} {c : Code} {H : Heap} {locs : List Loc} {cells slots : Nat} {Q : State → Prop} {ls : Array Slot} {G : va_G} {cy : Nat → ClassId} {E : Nat → Nat} {A : Nat → Prop} {b L : Nat} {xs : Nat → Int32} {q q2 : Nat → Nat} {qo : Nat} {k : KS} {r : RS} {v : Int32} (hlt : l.stackTraces = false) (hc1 : zxB s) (S : CallFix p m c cL_law 7 s args LT RL) (hF : zF G cy E A s) (hX : va_X b L xs s s.heap) (hbl : b < s.heap.size) (hbA : ¬ A b) (hl : lv_has ls 7 [(0, .ref b), (1, .ref (q 0)), (2, .ref (q2 0)), (3, .ref qo), (4, .int v)]) (hin : ∀ j : Nat, j ≤ 5 → vp_in (v + nI j) L) (hce : cells + 20 ≤ 30000) (hsl : slots + 500 ≤ 400000) (hI : LInv G cy A s q q2 qo H locs k r)
    (kk : ∀ (H1 : Heap) (locs1 : List Loc) (ls' : Array Slot) (k' : KS) (r' : RS), lv_has ls' 7 [(0, .ref b), (1, .ref (q 0)), (2, .ref (q2 0)), (3, .ref qo), (4, .int v)] → LInv G cy A s q q2 qo H1 locs1 k' r' → W p l e room_1 s m args below meth c H1 locs1 (cells + 20) (slots + 500) Q (F0 m 1357 ls' [])) : W p l e room_1 s m args below meth c H locs cells slots Q (F0 m 433 ls []) := by
  obtain ⟨hR, qv, mm, nn, ml, f, t, g, a1, a2, a3, a4, a5, hH⟩ := hI
  obtain ⟨hx, hb, hml, hown, hts⟩ := id S
  have hf : cells ≤ room_1.cells ∧ slots ≤ room_1.slots := ⟨Nat.le_trans (show cells ≤ 30000 by omega) (Nat.le_of_ble_eq_true rfl), Nat.le_trans (show slots ≤ 400000 by omega) (Nat.le_of_ble_eq_true rfl)⟩
  have hO := zH_o _ _ _ _ hH
  have hf1 : cells + 1 ≤ room_1.cells ∧ slots + 6 ≤ room_1.slots := ⟨Nat.le_trans (show cells + 1 ≤ 30000 by omega) (Nat.le_of_ble_eq_true rfl), Nat.le_trans (show slots + 6 ≤ 400000 by omega) (Nat.le_of_ble_eq_true rfl)⟩
  refine lv_aload_n hx hb dL_law_433 rfl (lv_at hl 1 rfl) ?_
  refine lz_arg (w := nI 1) hx hb hX hbl hbA hH (lv_at hl 0 rfl) (lv_at hl 4 rfl) (by decide) (hin 1 (by decide)) dL_law_434 dL_law_435 dL_law_437 dL_law_438 dL_law_439 ?_
  refine lz_arg (w := nI 2) hx hb hX hbl hbA hH (lv_at hl 0 rfl) (lv_at hl 4 rfl) (by decide) (hin 2 (by decide)) dL_law_440 dL_law_441 dL_law_443 dL_law_444 dL_law_445 ?_
  refine lv_aload_n hx hb dL_law_446 rfl (lv_at hl 3 rfl) ?_
  rcases p_master 5000 (Nat.le_of_ble_eq_true rfl) (xs (v + nI 1).toNatClampNeg) (xs (v + nI 2).toNatClampNeg) k r hR with ⟨v9, hF9, hG9⟩ | ⟨hT9, hG9⟩
  · obtain ⟨wc, w1, isC, fs, hZ, hnd, had, h0, bs9, hcov, hz9, hC, hC'⟩ := kM_master l G cy E 5000 q (xs (v + nI 1).toNatClampNeg) (xs (v + nI 2).toNatClampNeg) k k v9 hF9
    have hw : w1 = wc := zsome_inj _ _ (hC'.symm.trans hC)
    subst hw
    have hf2 : cells + 1 ≤ room_1.cells ∧ slots + 6 ≤ room_1.slots := hf1
    refine z_callO _ (o := (qo, .inl (cy 2, 1, .inr (.inl g)))) (o' := (qo, .inl (cy 2, 1, .inr (.inl (vp_updL g 0 v9.toInt64))))) (As := [.ref (q 0), .int (xs (v + nI 1).toNatClampNeg), .int (xs (v + nI 2).toNatClampNeg), .ref qo]) (rest := []) rfl S hF hc1 hO isC hnd hC (cB_L_master l G cy E _ (q 0) qo fs (xs (v + nI 1).toNatClampNeg) (xs (v + nI 2).toNatClampNeg) v9 g h0 hZ) (vx_cwSW 4 hts gv_L_master rfl rfl rfl (by decide +kernel) ⟨Nat.le_of_ble_eq_true rfl, Nat.le_of_ble_eq_true rfl⟩) rfl rfl hl.1 (Nat.le_of_ble_eq_true rfl) dL_law_447 hf1 (fun H locs hH => ?_)
    have hH := zH_u _ _ _ _ hH
    refine lv_istore (lv' := [(5, .int 0), (0, .ref b), (1, .ref (q 0)), (2, .ref (q2 0)), (3, .ref qo), (4, .int v)]) hx hb dL_law_450 hl (by decide) rfl (fun ls hl => ?_)
    refine lv_aload_n hx hb dL_law_452 rfl (lv_at hl 3 rfl) ?_
    refine lz_arg (w := nI 1) hx hb hX hbl hbA hH (lv_at hl 1 rfl) (lv_at hl 5 rfl) (by decide) (hin 1 (by decide)) dL_law_453 dL_law_454 dL_law_456 dL_law_457 dL_law_458 ?_
    refine lz_arg (w := nI 2) hx hb hX hbl hbA hH (lv_at hl 1 rfl) (lv_at hl 5 rfl) (by decide) (hin 2 (by decide)) dL_law_459 dL_law_460 dL_law_462 dL_law_463 dL_law_464 ?_
    refine z_callK2 _ _ _ (rest := []) S hF hH (rM_master l G cy E 5000 q2 (xs (v + nI 1).toNatClampNeg) (xs (v + nI 2).toNatClampNeg) r (r.thr 0) v9 hG9) (cwV 2 hts gv_X12_master rfl rfl rfl (by decide +kernel) ⟨Nat.le_of_ble_eq_true rfl, Nat.le_of_ble_eq_true rfl⟩) rfl rfl rfl hl.1 (Nat.le_of_ble_eq_true rfl) dL_law_465 hf2 (fun H locs hH => ?_)
    refine lv_istore (lv' := [(6, .int v9), (5, .int 0), (0, .ref b), (1, .ref (q 0)), (2, .ref (q2 0)), (3, .ref qo), (4, .int v)]) hx hb dL_law_468 hl (by decide) rfl (fun ls hl => ?_)
    refine lv_aload_n hx hb dL_law_470 rfl (lv_at hl 4 rfl) ?_
    refine z_callK2 _ _ _ (rest := []) S hF hH (rM_thrown l G cy E 5000 q2 (r.thr 0) (r.thr 0) 0 rfl) (cwV 0 hts gv_X12_thrown rfl rfl rfl (by decide +kernel) ⟨Nat.le_of_ble_eq_true rfl, Nat.le_of_ble_eq_true rfl⟩) rfl rfl rfl hl.1 (Nat.le_of_ble_eq_true rfl) dL_law_471 hf2 (fun H locs hH => ?_)
    refine lv_iload hx hb dL_law_474 (lv_at hl 1 rfl) ?_
    refine lv_icmp_eq (tgt := 481) hx hb dL_law_476 (by decide) (fun _ => ?_) (fun h => absurd rfl h)
    refine lv_iload hx hb dL_law_481 (lv_at hl 1 rfl) ?_
    refine lv_if_ne (tgt := 498) hx hb dL_law_483 (by decide) (fun h => absurd rfl h) (fun _ => ?_)
    have hO2 := zH_o _ _ _ _ hH
    refine lv_aload_n hx hb dL_law_486 rfl (lv_at hl 5 rfl) ?_
    refine lv_iconst (v := 0) hx hb dL_law_487 (by decide) ?_
    refine z_lald (n := 1) (f := vp_updL g 0 v9.toInt64) (j := 0) S hF hO2 0 rfl (by decide) (by decide) dL_law_488 ?_
    refine lv_iload hx hb dL_law_489 (lv_at hl 0 rfl) ?_
    refine lv_i2l (v := v9.toInt64) hx hb dL_law_491 rfl ?_
    refine W.lcmp hx hb dL_law_492 ?_
    refine lv_if_eq (tgt := 498) hx hb dL_law_493 (by decide) (fun _ => ?_) (fun h => absurd ((lg_cmp_eq _ _).mpr rfl) h)
    refine lv_goto (tgt := 1357) hx hb dL_law_498 (by decide) ?_
    refine W.widen (k := cells + 20) (n := slots + 500) (by omega) (by omega) ?_
    exact kk _ _ ls k (r.thr 0) (lv_sub hl [2, 3, 4, 5, 6] rfl) ⟨hR.th 0, qv, mm, nn, ml, f, t, _, a1, a2, a3, a4, a5, hH⟩
  · obtain ⟨wc, isC, fs, hZ, hnd, h0, hC⟩ := kX_master l hlt G cy E q (xs (v + nI 1).toNatClampNeg) (xs (v + nI 2).toNatClampNeg) k hT9
    have hf2 : cells + 1 ≤ room_1.cells ∧ slots + 6 ≤ room_1.slots := hf1
    refine z_callO _ (o := (qo, .inl (cy 2, 1, .inr (.inl g)))) (o' := (qo, .inl (cy 2, 1, .inr (.inl g)))) (As := [.ref (q 0), .int (xs (v + nI 1).toNatClampNeg), .int (xs (v + nI 2).toNatClampNeg), .ref qo]) (rest := []) rfl S hF hc1 hO isC hnd hC (xB_L_master l G cy E _ (q 0) qo fs (xs (v + nI 1).toNatClampNeg) (xs (v + nI 2).toNatClampNeg) 0 g h0 hZ) (vx_cwSW 4 hts gv_L_master rfl rfl rfl (by decide +kernel) ⟨Nat.le_of_ble_eq_true rfl, Nat.le_of_ble_eq_true rfl⟩) rfl rfl hl.1 (Nat.le_of_ble_eq_true rfl) dL_law_447 hf1 (fun H locs hH => ?_)
    have hH := zH_u _ _ _ _ hH
    refine lv_istore (lv' := [(5, .int 1), (0, .ref b), (1, .ref (q 0)), (2, .ref (q2 0)), (3, .ref qo), (4, .int v)]) hx hb dL_law_450 hl (by decide) rfl (fun ls hl => ?_)
    refine lv_aload_n hx hb dL_law_452 rfl (lv_at hl 3 rfl) ?_
    refine lz_arg (w := nI 1) hx hb hX hbl hbA hH (lv_at hl 1 rfl) (lv_at hl 5 rfl) (by decide) (hin 1 (by decide)) dL_law_453 dL_law_454 dL_law_456 dL_law_457 dL_law_458 ?_
    refine lz_arg (w := nI 2) hx hb hX hbl hbA hH (lv_at hl 1 rfl) (lv_at hl 5 rfl) (by decide) (hin 2 (by decide)) dL_law_459 dL_law_460 dL_law_462 dL_law_463 dL_law_464 ?_
    refine z_callK2 _ _ _ (rest := []) S hF hH (rM_master l G cy E 5000 q2 (xs (v + nI 1).toNatClampNeg) (xs (v + nI 2).toNatClampNeg) r (r.thr 1) 0 hG9) (cwV 2 hts gv_X12_master rfl rfl rfl (by decide +kernel) ⟨Nat.le_of_ble_eq_true rfl, Nat.le_of_ble_eq_true rfl⟩) rfl rfl rfl hl.1 (Nat.le_of_ble_eq_true rfl) dL_law_465 hf2 (fun H locs hH => ?_)
    refine lv_istore (lv' := [(6, .int 0), (5, .int 1), (0, .ref b), (1, .ref (q 0)), (2, .ref (q2 0)), (3, .ref qo), (4, .int v)]) hx hb dL_law_468 hl (by decide) rfl (fun ls hl => ?_)
    refine lv_aload_n hx hb dL_law_470 rfl (lv_at hl 4 rfl) ?_
    refine z_callK2 _ _ _ (rest := []) S hF hH (rM_thrown l G cy E 5000 q2 (r.thr 1) (r.thr 1) 1 rfl) (cwV 0 hts gv_X12_thrown rfl rfl rfl (by decide +kernel) ⟨Nat.le_of_ble_eq_true rfl, Nat.le_of_ble_eq_true rfl⟩) rfl rfl rfl hl.1 (Nat.le_of_ble_eq_true rfl) dL_law_471 hf2 (fun H locs hH => ?_)
    refine lv_iload hx hb dL_law_474 (lv_at hl 1 rfl) ?_
    refine lv_icmp_eq (tgt := 481) hx hb dL_law_476 (by decide) (fun _ => ?_) (fun h => absurd rfl h)
    refine lv_iload hx hb dL_law_481 (lv_at hl 1 rfl) ?_
    refine lv_if_ne (tgt := 498) hx hb dL_law_483 (by decide) (fun _ => ?_) (fun h => absurd h (by decide))
    refine lv_goto (tgt := 1357) hx hb dL_law_498 (by decide) ?_
    refine W.widen (k := cells + 20) (n := slots + 500) (by omega) (by omega) ?_
    exact kk _ _ ls k (r.thr 1) (lv_sub hl [2, 3, 4, 5, 6] rfl) ⟨hR.th 1, qv, mm, nn, ml, f, t, _, a1, a2, a3, a4, a5, hH⟩
set_option maxHeartbeats 4000000 in
set_option maxRecDepth 100000 in
theorem lc_mean {p : Program} {l : Launch} {e : Env} {s : State} {m : MethodId} {args : Array Value} {below : List Frame} {meth : Method} {c : Code} {H : Heap} {locs : List Loc} {cells slots : Nat} {Q : State → Prop} {ls : Array Slot} {G : va_G} {cy : Nat → ClassId} {E : Nat → Nat} {A : Nat → Prop} {b L : Nat} {xs : Nat → Int32} {q q2 : Nat → Nat} {qo : Nat} {k : KS} {r : RS} {v : Int32} (hlt : l.stackTraces = false) (hc1 : zxB s) (S : CallFix p m c cL_law 7 s args LT RL) (hF : zF G cy E A s) (hX : va_X b L xs s s.heap) (hbl : b < s.heap.size) (hbA : ¬ A b) (hl : lv_has ls 7 [(0, .ref b), (1, .ref (q 0)), (2, .ref (q2 0)), (3, .ref qo), (4, .int v)]) (hin : ∀ j : Nat, j ≤ 5 → vp_in (v + nI j) L) (hce : cells + 20 ≤ 30000) (hsl : slots + 500 ≤ 400000) (hI : LInv G cy A s q q2 qo H locs k r)
    (kk : ∀ (H1 : Heap) (locs1 : List Loc) (ls' : Array Slot) (k' : KS) (r' : RS), lv_has ls' 7 [(0, .ref b), (1, .ref (q 0)), (2, .ref (q2 0)), (3, .ref qo), (4, .int v)] → LInv G cy A s q q2 qo H1 locs1 k' r' → W p l e room_1 s m args below meth c H1 locs1 (cells + 20) (slots + 500) Q (F0 m 1357 ls' [])) : W p l e room_1 s m args below meth c H locs cells slots Q (F0 m 1002 ls []) := by
  obtain ⟨hR, qv, mm, nn, ml, f, t, g, a1, a2, a3, a4, a5, hH⟩ := hI
  obtain ⟨hx, hb, hml, hown, hts⟩ := id S
  have hf : cells ≤ room_1.cells ∧ slots ≤ room_1.slots := ⟨Nat.le_trans (show cells ≤ 30000 by omega) (Nat.le_of_ble_eq_true rfl), Nat.le_trans (show slots ≤ 400000 by omega) (Nat.le_of_ble_eq_true rfl)⟩
  have hO := zH_o _ _ _ _ hH
  have hf1 : cells + 1 ≤ room_1.cells ∧ slots + 6 ≤ room_1.slots := ⟨Nat.le_trans (show cells + 1 ≤ 30000 by omega) (Nat.le_of_ble_eq_true rfl), Nat.le_trans (show slots + 6 ≤ 400000 by omega) (Nat.le_of_ble_eq_true rfl)⟩
  refine lv_aload_n hx hb dL_law_1002 rfl (lv_at hl 1 rfl) ?_
  refine lz_arg (w := nI 1) hx hb hX hbl hbA hH (lv_at hl 0 rfl) (lv_at hl 4 rfl) (by decide) (hin 1 (by decide)) dL_law_1003 dL_law_1004 dL_law_1006 dL_law_1007 dL_law_1008 ?_
  refine lv_aload_n hx hb dL_law_1009 rfl (lv_at hl 3 rfl) ?_
  rcases p_mean 5000 (Nat.le_of_ble_eq_true rfl) (xs (v + nI 1).toNatClampNeg) k r hR with ⟨v9, hF9, hG9⟩ | ⟨hT9, hG9⟩
  · obtain ⟨wc, w1, isC, fs, hZ, hnd, had, h0, bs9, hcov, hz9, hC, hC'⟩ := kM_mean l G cy E 5000 q (xs (v + nI 1).toNatClampNeg) k k v9 hF9
    have hw : w1 = wc := zsome_inj _ _ (hC'.symm.trans hC)
    subst hw
    have hf2 : cells + 1 ≤ room_1.cells ∧ slots + 6 ≤ room_1.slots := hf1
    refine z_callO _ (o := (qo, .inl (cy 2, 1, .inr (.inl g)))) (o' := (qo, .inl (cy 2, 1, .inr (.inl (vp_updL g 0 v9.toInt64))))) (As := [.ref (q 0), .int (xs (v + nI 1).toNatClampNeg), .ref qo]) (rest := []) rfl S hF hc1 hO isC hnd hC (cB_L_mean l G cy E _ (q 0) qo fs (xs (v + nI 1).toNatClampNeg) v9 g h0 hZ) (vx_cwSW 3 hts gv_L_mean rfl rfl rfl (by decide +kernel) ⟨Nat.le_of_ble_eq_true rfl, Nat.le_of_ble_eq_true rfl⟩) rfl rfl hl.1 (Nat.le_of_ble_eq_true rfl) dL_law_1010 hf1 (fun H locs hH => ?_)
    have hH := zH_u _ _ _ _ hH
    refine lv_istore (lv' := [(5, .int 0), (0, .ref b), (1, .ref (q 0)), (2, .ref (q2 0)), (3, .ref qo), (4, .int v)]) hx hb dL_law_1013 hl (by decide) rfl (fun ls hl => ?_)
    refine lv_aload_n hx hb dL_law_1015 rfl (lv_at hl 3 rfl) ?_
    refine lz_arg (w := nI 1) hx hb hX hbl hbA hH (lv_at hl 1 rfl) (lv_at hl 5 rfl) (by decide) (hin 1 (by decide)) dL_law_1016 dL_law_1017 dL_law_1019 dL_law_1020 dL_law_1021 ?_
    refine z_callK2 _ _ _ (rest := []) S hF hH (rM_mean l G cy E 5000 q2 (xs (v + nI 1).toNatClampNeg) r (r.thr 0) v9 hG9) (cwV 1 hts gv_X12_mean rfl rfl rfl (by decide +kernel) ⟨Nat.le_of_ble_eq_true rfl, Nat.le_of_ble_eq_true rfl⟩) rfl rfl rfl hl.1 (Nat.le_of_ble_eq_true rfl) dL_law_1022 hf2 (fun H locs hH => ?_)
    refine lv_istore (lv' := [(6, .int v9), (5, .int 0), (0, .ref b), (1, .ref (q 0)), (2, .ref (q2 0)), (3, .ref qo), (4, .int v)]) hx hb dL_law_1025 hl (by decide) rfl (fun ls hl => ?_)
    refine lv_aload_n hx hb dL_law_1027 rfl (lv_at hl 4 rfl) ?_
    refine z_callK2 _ _ _ (rest := []) S hF hH (rM_thrown l G cy E 5000 q2 (r.thr 0) (r.thr 0) 0 rfl) (cwV 0 hts gv_X12_thrown rfl rfl rfl (by decide +kernel) ⟨Nat.le_of_ble_eq_true rfl, Nat.le_of_ble_eq_true rfl⟩) rfl rfl rfl hl.1 (Nat.le_of_ble_eq_true rfl) dL_law_1028 hf2 (fun H locs hH => ?_)
    refine lv_iload hx hb dL_law_1031 (lv_at hl 1 rfl) ?_
    refine lv_icmp_eq (tgt := 1038) hx hb dL_law_1033 (by decide) (fun _ => ?_) (fun h => absurd rfl h)
    refine lv_iload hx hb dL_law_1038 (lv_at hl 1 rfl) ?_
    refine lv_if_ne (tgt := 1055) hx hb dL_law_1040 (by decide) (fun h => absurd rfl h) (fun _ => ?_)
    have hO2 := zH_o _ _ _ _ hH
    refine lv_aload_n hx hb dL_law_1043 rfl (lv_at hl 5 rfl) ?_
    refine lv_iconst (v := 0) hx hb dL_law_1044 (by decide) ?_
    refine z_lald (n := 1) (f := vp_updL g 0 v9.toInt64) (j := 0) S hF hO2 0 rfl (by decide) (by decide) dL_law_1045 ?_
    refine lv_iload hx hb dL_law_1046 (lv_at hl 0 rfl) ?_
    refine lv_i2l (v := v9.toInt64) hx hb dL_law_1048 rfl ?_
    refine W.lcmp hx hb dL_law_1049 ?_
    refine lv_if_eq (tgt := 1055) hx hb dL_law_1050 (by decide) (fun _ => ?_) (fun h => absurd ((lg_cmp_eq _ _).mpr rfl) h)
    refine lv_goto (tgt := 1357) hx hb dL_law_1055 (by decide) ?_
    refine W.widen (k := cells + 20) (n := slots + 500) (by omega) (by omega) ?_
    exact kk _ _ ls k (r.thr 0) (lv_sub hl [2, 3, 4, 5, 6] rfl) ⟨hR.th 0, qv, mm, nn, ml, f, t, _, a1, a2, a3, a4, a5, hH⟩
  · obtain ⟨wc, isC, fs, hZ, hnd, h0, hC⟩ := kX_mean l hlt G cy E q (xs (v + nI 1).toNatClampNeg) k hT9
    have hf2 : cells + 1 ≤ room_1.cells ∧ slots + 6 ≤ room_1.slots := hf1
    refine z_callO _ (o := (qo, .inl (cy 2, 1, .inr (.inl g)))) (o' := (qo, .inl (cy 2, 1, .inr (.inl g)))) (As := [.ref (q 0), .int (xs (v + nI 1).toNatClampNeg), .ref qo]) (rest := []) rfl S hF hc1 hO isC hnd hC (xB_L_mean l G cy E _ (q 0) qo fs (xs (v + nI 1).toNatClampNeg) 0 g h0 hZ) (vx_cwSW 3 hts gv_L_mean rfl rfl rfl (by decide +kernel) ⟨Nat.le_of_ble_eq_true rfl, Nat.le_of_ble_eq_true rfl⟩) rfl rfl hl.1 (Nat.le_of_ble_eq_true rfl) dL_law_1010 hf1 (fun H locs hH => ?_)
    have hH := zH_u _ _ _ _ hH
    refine lv_istore (lv' := [(5, .int 1), (0, .ref b), (1, .ref (q 0)), (2, .ref (q2 0)), (3, .ref qo), (4, .int v)]) hx hb dL_law_1013 hl (by decide) rfl (fun ls hl => ?_)
    refine lv_aload_n hx hb dL_law_1015 rfl (lv_at hl 3 rfl) ?_
    refine lz_arg (w := nI 1) hx hb hX hbl hbA hH (lv_at hl 1 rfl) (lv_at hl 5 rfl) (by decide) (hin 1 (by decide)) dL_law_1016 dL_law_1017 dL_law_1019 dL_law_1020 dL_law_1021 ?_
    refine z_callK2 _ _ _ (rest := []) S hF hH (rM_mean l G cy E 5000 q2 (xs (v + nI 1).toNatClampNeg) r (r.thr 1) 0 hG9) (cwV 1 hts gv_X12_mean rfl rfl rfl (by decide +kernel) ⟨Nat.le_of_ble_eq_true rfl, Nat.le_of_ble_eq_true rfl⟩) rfl rfl rfl hl.1 (Nat.le_of_ble_eq_true rfl) dL_law_1022 hf2 (fun H locs hH => ?_)
    refine lv_istore (lv' := [(6, .int 0), (5, .int 1), (0, .ref b), (1, .ref (q 0)), (2, .ref (q2 0)), (3, .ref qo), (4, .int v)]) hx hb dL_law_1025 hl (by decide) rfl (fun ls hl => ?_)
    refine lv_aload_n hx hb dL_law_1027 rfl (lv_at hl 4 rfl) ?_
    refine z_callK2 _ _ _ (rest := []) S hF hH (rM_thrown l G cy E 5000 q2 (r.thr 1) (r.thr 1) 1 rfl) (cwV 0 hts gv_X12_thrown rfl rfl rfl (by decide +kernel) ⟨Nat.le_of_ble_eq_true rfl, Nat.le_of_ble_eq_true rfl⟩) rfl rfl rfl hl.1 (Nat.le_of_ble_eq_true rfl) dL_law_1028 hf2 (fun H locs hH => ?_)
    refine lv_iload hx hb dL_law_1031 (lv_at hl 1 rfl) ?_
    refine lv_icmp_eq (tgt := 1038) hx hb dL_law_1033 (by decide) (fun _ => ?_) (fun h => absurd rfl h)
    refine lv_iload hx hb dL_law_1038 (lv_at hl 1 rfl) ?_
    refine lv_if_ne (tgt := 1055) hx hb dL_law_1040 (by decide) (fun _ => ?_) (fun h => absurd h (by decide))
    refine lv_goto (tgt := 1357) hx hb dL_law_1055 (by decide) ?_
    refine W.widen (k := cells + 20) (n := slots + 500) (by omega) (by omega) ?_
    exact kk _ _ ls k (r.thr 1) (lv_sub hl [2, 3, 4, 5, 6] rfl) ⟨hR.th 1, qv, mm, nn, ml, f, t, _, a1, a2, a3, a4, a5, hH⟩
