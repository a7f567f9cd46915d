/-! ===== face and byteAt in the law ===== -/
abbrev FW (cy : Nat → ClassId) (q : Nat → Nat) (k : KS) (qv mm nn : Nat) (ml : Int32) (f : Nat → Int32) : va_W := [((q 0), .inr (12, [.ref (q 1), .ref (q 2), .ref (q 3), .ref (q 4), .ref (q 5), .ref (q 6), .ref (q 7), .ref (q 8), .ref (q 9), .ref (q 10), .ref (q 11), .int k.lastFault, .int k.lastLateness])), ((q 3), .inr (11, [.ref (q 29), .ref (q 30), .ref (q 31), .int k.here_kept])), ((q 29), .inr (2, [.int k.here.clocks, .int k.here.masters, .int k.here.meets, .int k.here.patience, .ref (q 32), .ref (q 33), .ref (q 34), .ref (q 35), .ref (q 36), .ref (q 37), .ref (q 38), .ref (q 39), .ref (q 40), .ref (q 41), .ref (q 42)])), ((q 30), .inr (4, [.ref (q 29), .int k.day.minute, .int k.day.out, .int k.day.stopped, .ref (q 43), .ref (q 44), .ref (q 45), .ref (q 46), .ref (q 47), .ref (q 48)])), ((q 32), .inl (cy 2, 6, .inr (.inl k.here.clockName))), ((q 45), .inl (cy 1, 6, .inl k.day.stood)), ((q 43), .inl (cy 1, 6, .inl k.day.ahead)), ((q 35), .inl (cy 1, 6, .inl k.here.clockGain)), ((q 44), .inl (cy 1, 6, .inl k.day.since)), ((q 11), .inr (0, [.ref qv, .int 0, .int ml, .int (nI nn)])), (qv, .inl (cy 0, mm, .inl f))]
abbrev BW (cy : Nat → ClassId) (q : Nat → Nat) (k : KS) (qv mm nn : Nat) (ml : Int32) (f : Nat → Int32) : va_W := [((q 0), .inr (12, [.ref (q 1), .ref (q 2), .ref (q 3), .ref (q 4), .ref (q 5), .ref (q 6), .ref (q 7), .ref (q 8), .ref (q 9), .ref (q 10), .ref (q 11), .int k.lastFault, .int k.lastLateness])), ((q 11), .inr (0, [.ref qv, .int 0, .int ml, .int (nI nn)])), (qv, .inl (cy 0, mm, .inl f))]
set_option maxHeartbeats 4000000 in
set_option maxRecDepth 100000 in
theorem kF_C (cy : Nat → ClassId) (q : Nat → Nat) (k : KS) (qv mm nn : Nat) (ml : Int32) (f : Nat → Int32) (P : va_W) : ([0, 21, 22, 34, 23, 37, 35, 26, 36, 164, 165] : List Nat).map (fun i => (KW cy q k ++ (DW cy q qv mm nn ml f ++ P))[i]?) = (FW cy q k qv mm nn ml f).map some := rfl
theorem kF_R (cy : Nat → ClassId) (q : Nat → Nat) (k : KS) (qv mm nn : Nat) (ml : Int32) (f : Nat → Int32) (qv2 mm2 nn2 : Nat) (ml2 : Int32) (f2 : Nat → Int32) (P : va_W) (i : Nat) (hi : i ∉ ([0, 21, 22, 34, 23, 37, 35, 26, 36, 164, 165] : List Nat)) : (KW cy q k ++ (DW cy q qv2 mm2 nn2 ml2 f2 ++ P))[i]? = (KW cy q k ++ (DW cy q qv mm nn ml f ++ P))[i]? := zk_R2 rfl rfl i (fun h => hi (by rw [show i = 164 from h]; decide)) (fun h => hi (by rw [show i = 165 from h]; decide))
set_option maxHeartbeats 4000000 in
set_option maxRecDepth 100000 in
theorem kB_C (cy : Nat → ClassId) (q : Nat → Nat) (k : KS) (qv mm nn : Nat) (ml : Int32) (f : Nat → Int32) (P : va_W) : ([0, 164, 165] : List Nat).map (fun i => (KW cy q k ++ (DW cy q qv mm nn ml f ++ P))[i]?) = (BW cy q k qv mm nn ml f).map some := rfl
theorem kB_R (cy : Nat → ClassId) (q : Nat → Nat) (k : KS) (qv mm nn : Nat) (ml : Int32) (f : Nat → Int32) (qv2 mm2 nn2 : Nat) (ml2 : Int32) (f2 : Nat → Int32) (P : va_W) (i : Nat) (hi : i ∉ ([0, 164, 165] : List Nat)) : (KW cy q k ++ (DW cy q qv2 mm2 nn2 ml2 f2 ++ P))[i]? = (KW cy q k ++ (DW cy q qv mm nn ml f ++ P))[i]? := zk_R2 rfl rfl i (fun h => hi (by rw [show i = 164 from h]; decide)) (fun h => hi (by rw [show i = 165 from h]; decide))
set_option maxHeartbeats 4000000 in
set_option maxRecDepth 100000 in
theorem lc_face {p : Program} {l : Launch} {e : Env} {s : State} {m : MethodId} {args : Array Value} {below : List Frame} {meth : Method} {c : Code} {H : Heap} {locs : List Loc} {cells slots : Nat} {Q : State → Prop} {ls : Array Slot} {G : va_G} {cy : Nat → ClassId} {E : Nat → Nat} {A : Nat → Prop} {b L : Nat} {xs : Nat → Int32} {q q2 : Nat → Nat} {qo : Nat} {k : KS} {r : RS} {v : Int32} (hlt : l.stackTraces = false) (hc1 : zxB s) (S : CallFix p m c cL_law 7 s args LT RL) (hF : zF G cy E A s) (hX : va_X b L xs s s.heap) (hbl : b < s.heap.size) (hbA : ¬ A b) (hl : lv_has ls 7 [(0, .ref b), (1, .ref (q 0)), (2, .ref (q2 0)), (3, .ref qo), (4, .int v)]) (hin : ∀ j : Nat, j ≤ 5 → vp_in (v + nI j) L) (hce : cells + 20 ≤ 30000) (hsl : slots + 500 ≤ 400000) (hI : LInv G cy A s q q2 qo H locs k r)
    (kk : ∀ (H1 : Heap) (locs1 : List Loc) (ls' : Array Slot) (k' : KS) (r' : RS), lv_has ls' 7 [(0, .ref b), (1, .ref (q 0)), (2, .ref (q2 0)), (3, .ref qo), (4, .int v)] → LInv G cy A s q q2 qo H1 locs1 k' r' → W p l e room_1 s m args below meth c H1 locs1 (cells + 20) (slots + 500) Q (F0 m 1357 ls' [])) : W p l e room_1 s m args below meth c H locs cells slots Q (F0 m 1058 ls []) := by
  obtain ⟨hR, qv, mm, nn, ml, f, t, g, a1, a2, a3, a4, a5, hH⟩ := hI
  obtain ⟨hx, hb, hml, hown, hts⟩ := id S
  have hf : cells ≤ room_1.cells ∧ slots ≤ room_1.slots := ⟨Nat.le_trans (show cells ≤ 30000 by omega) (Nat.le_of_ble_eq_true rfl), Nat.le_trans (show slots ≤ 400000 by omega) (Nat.le_of_ble_eq_true rfl)⟩
  have hf1 : cells + 14 ≤ room_1.cells ∧ slots + 476 ≤ room_1.slots := ⟨Nat.le_trans (show cells + 14 ≤ 30000 by omega) (Nat.le_of_ble_eq_true rfl), Nat.le_trans (show slots + 476 ≤ 400000 by omega) (Nat.le_of_ble_eq_true rfl)⟩
  obtain ⟨b9, d9, hWR, hrest⟩ := id hR
  obtain ⟨y9, hy9⟩ : ∃ y9, y9 = (xs (v + nI 1).toNatClampNeg) := ⟨_, rfl⟩
  refine lv_aload_n hx hb dL_law_1058 rfl (lv_at hl 1 rfl) ?_
  refine lz_arg (w := nI 1) hx hb hX hbl hbA hH (lv_at hl 0 rfl) (lv_at hl 4 rfl) (by decide) (hin 1 (by decide)) dL_law_1059 dL_law_1060 dL_law_1062 dL_law_1063 dL_law_1064 ?_
  rw [← hy9]
  rcases fac_ok hWR.1 hWR.2.1 5000 (Nat.le_of_ble_eq_true rfl) y9 r.thrown r.textMany r.text with ⟨g1, g2⟩ | ⟨n9, v9, bs, tm9, tx9, e1, e2, e3, e4, e5, e6, e7, e8⟩
  · refine z_callVqy (wsx := fun _ : Unit => KW cy q k ++ (DW cy q qv mm nn ml f ++ (RW cy q2 r ++ OW cy qo g))) (As := [.int y9]) (rest := []) S hF hH (c_X11_face0 l G cy E 5000 (q 0) (q 1) (q 2) (q 3) (q 4) (q 5) (q 6) (q 7) (q 8) (q 9) (q 10) (q 29) (q 30) (q 31) (q 43) (q 44) (q 45) (q 46) (q 47) (q 48) (q 32) (q 33) (q 34) (q 35) (q 36) (q 37) (q 38) (q 39) (q 40) (q 41) (q 42) (q 11) qv mm nn k.lastFault k.lastLateness k.here_kept k.here.clocks k.here.masters k.here.meets k.here.patience k.day.minute k.day.out k.day.stopped ml k.here.clockName k.day.stood k.day.ahead k.here.clockGain k.day.since f y9 g1) (cwV 1 hts gv_X11_face rfl rfl rfl (by decide +kernel) ⟨Nat.le_of_ble_eq_true rfl, Nat.le_of_ble_eq_true rfl⟩) 12 0 rfl rfl [0, 21, 22, 34, 23, 37, 35, 26, 36, 164, 165] (by decide +kernel) (kF_C cy q k qv mm nn ml f _) (fun _ => kF_C cy q k qv mm nn ml f _) (fun _ i _ => rfl) rfl rfl hl.1 (Nat.le_of_ble_eq_true rfl) dL_law_1065 hf (fun _ H locs _ hH => ?_)
    have hG9 : G_face 5000 y9 r = some (-1, r.thr 0) := by
      unfold G_face
      rw [g2]
      rfl
    refine lv_aload_n hx hb dL_law_1068 rfl (lv_at hl 2 rfl) ?_
    refine lz_arg (w := nI 1) hx hb hX hbl hbA hH (lv_at hl 0 rfl) (lv_at hl 4 rfl) (by decide) (hin 1 (by decide)) dL_law_1069 dL_law_1070 dL_law_1072 dL_law_1073 dL_law_1074 ?_
    rw [← hy9]
    refine z_callK2 _ _ _ (rest := [.int (-1)]) S hF hH (rM_face l G cy E 5000 q2 y9 r (r.thr 0) (-1) hG9) (cwV 1 hts gv_X12_face rfl rfl rfl (by decide +kernel) ⟨Nat.le_of_ble_eq_true rfl, Nat.le_of_ble_eq_true rfl⟩) rfl rfl rfl hl.1 (Nat.le_of_ble_eq_true rfl) dL_law_1075 hf (fun H locs hH => ?_)
    refine lv_icmp_eq (tgt := 1357) hx hb dL_law_1078 (by decide) (fun _ => ?_) (fun h => absurd rfl h)
    refine W.widen (k := cells + 20) (n := slots + 500) (by omega) (by omega) ?_
    exact kk _ _ ls k (r.thr 0) hl ⟨hR.th 0, qv, mm, nn, ml, f, t, g, a1, a2, a3, a4, a5, hH⟩
  · obtain ⟨T9, hT9⟩ : ∃ T9, fc9 (k.here.clockName n9) v9 bs = T9 := ⟨_, rfl⟩
    rw [hT9] at e7 e8
    rw [e1]
    rw [e1] at e4 e5 e6 e7
    refine z_callVqy (wsx := fun x : Nat × Nat × (Nat → Int32) => KW cy q k ++ (DW cy q x.1 x.2.1 T9.2 (if nn = 0 then ml else 1) x.2.2 ++ (RW cy q2 r ++ OW cy qo g))) (As := [.int (nI n9)]) (rest := []) S hF hH (c_X11_face1 l G cy E 5000 (q 0) (q 1) (q 2) (q 3) (q 4) (q 5) (q 6) (q 7) (q 8) (q 9) (q 10) (q 29) (q 30) (q 31) (q 43) (q 44) (q 45) (q 46) (q 47) (q 48) (q 32) (q 33) (q 34) (q 35) (q 36) (q 37) (q 38) (q 39) (q 40) (q 41) (q 42) (q 11) qv mm nn k.lastFault k.lastLateness k.here_kept k.here.clocks k.here.masters k.here.meets k.here.patience k.day.minute k.day.out k.day.stopped ml k.here.clockName k.day.stood k.day.ahead k.here.clockGain k.day.since f n9 v9 bs T9 a1 a2 a4 e2 e3 e4 e5 e6 hT9) (cwV 1 hts gv_X11_face rfl rfl rfl (by decide +kernel) ⟨Nat.le_of_ble_eq_true rfl, Nat.le_of_ble_eq_true rfl⟩) 12 0 rfl rfl [0, 21, 22, 34, 23, 37, 35, 26, 36, 164, 165] (by decide +kernel) (kF_C cy q k qv mm nn ml f _) (fun x => kF_C cy q k x.1 x.2.1 T9.2 (if nn = 0 then ml else 1) x.2.2 _) (fun x i hi => kF_R cy q k qv mm nn ml f x.1 x.2.1 T9.2 (if nn = 0 then ml else 1) x.2.2 _ i hi) rfl rfl hl.1 (Nat.le_of_ble_eq_true rfl) dL_law_1065 hf1 (fun x H locs px hH => ?_)
    have hG9 : ∃ r9, G_face 5000 (nI n9) r = some (nI T9.2, r9) ∧ Rel k r9 ∧ r9.textMany = nI T9.2 ∧ r9.text = tx9 := by
      unfold G_face
      rw [e7]
      exact ⟨_, rfl, hR, rfl, rfl⟩
    obtain ⟨r9, hG9, hR9, ht1, ht2⟩ := hG9
    refine lv_aload_n hx hb dL_law_1068 rfl (lv_at hl 2 rfl) ?_
    refine lz_arg (w := nI 1) hx hb hX hbl hbA hH (lv_at hl 0 rfl) (lv_at hl 4 rfl) (by decide) (hin 1 (by decide)) dL_law_1069 dL_law_1070 dL_law_1072 dL_law_1073 dL_law_1074 ?_
    rw [← hy9, e1]
    refine z_callK2 _ _ _ (rest := [.int (nI T9.2)]) S hF hH (rM_face l G cy E 5000 q2 (nI n9) r r9 (nI T9.2) hG9) (cwV 1 hts gv_X12_face rfl rfl rfl (by decide +kernel) ⟨Nat.le_of_ble_eq_true rfl, Nat.le_of_ble_eq_true rfl⟩) rfl rfl rfl hl.1 (Nat.le_of_ble_eq_true rfl) dL_law_1075 hf1 (fun H locs hH => ?_)
    refine lv_icmp_eq (tgt := 1357) hx hb dL_law_1078 (by decide) (fun _ => ?_) (fun h => absurd rfl h)
    refine W.widen (k := cells + 20) (n := slots + 500) (by omega) (by omega) ?_
    exact kk _ _ ls k r9 hl ⟨hR9, x.1, x.2.1, T9.2, _, x.2.2, T9.1, g, px.1, px.2.1, px.2.2.1, px.2.2.2, by rw [ht1, ht2]; exact e8, hH⟩
set_option maxHeartbeats 4000000 in
set_option maxRecDepth 100000 in
theorem lc_byteAt {p : Program} {l : Launch} {e : Env} {s : State} {m : MethodId} {args : Array Value} {below : List Frame} {meth : Method} {c : Code} {H : Heap} {locs : List Loc} {cells slots : Nat} {Q : State → Prop} {ls : Array Slot} {G : va_G} {cy : Nat → ClassId} {E : Nat → Nat} {A : Nat → Prop} {b L : Nat} {xs : Nat → Int32} {q q2 : Nat → Nat} {qo : Nat} {k : KS} {r : RS} {v : Int32} (hlt : l.stackTraces = false) (hc1 : zxB s) (S : CallFix p m c cL_law 7 s args LT RL) (hF : zF G cy E A s) (hX : va_X b L xs s s.heap) (hbl : b < s.heap.size) (hbA : ¬ A b) (hl : lv_has ls 7 [(0, .ref b), (1, .ref (q 0)), (2, .ref (q2 0)), (3, .ref qo), (4, .int v)]) (hin : ∀ j : Nat, j ≤ 5 → vp_in (v + nI j) L) (hce : cells + 20 ≤ 30000) (hsl : slots + 500 ≤ 400000) (hI : LInv G cy A s q q2 qo H locs k r)
    (kk : ∀ (H1 : Heap) (locs1 : List Loc) (ls' : Array Slot) (k' : KS) (r' : RS), lv_has ls' 7 [(0, .ref b), (1, .ref (q 0)), (2, .ref (q2 0)), (3, .ref qo), (4, .int v)] → LInv G cy A s q q2 qo H1 locs1 k' r' → W p l e room_1 s m args below meth c H1 locs1 (cells + 20) (slots + 500) Q (F0 m 1357 ls' [])) : W p l e room_1 s m args below meth c H locs cells slots Q (F0 m 1083 ls []) := by
  obtain ⟨hR, qv, mm, nn, ml, f, t, g, a1, a2, a3, a4, a5, hH⟩ := hI
  obtain ⟨hx, hb, hml, hown, hts⟩ := id S
  have hf : cells ≤ room_1.cells ∧ slots ≤ room_1.slots := ⟨Nat.le_trans (show cells ≤ 30000 by omega) (Nat.le_of_ble_eq_true rfl), Nat.le_trans (show slots ≤ 400000 by omega) (Nat.le_of_ble_eq_true rfl)⟩
  obtain ⟨y9, hy9⟩ : ∃ y9, y9 = (xs (v + nI 1).toNatClampNeg) := ⟨_, rfl⟩
  refine lv_aload_n hx hb dL_law_1083 rfl (lv_at hl 1 rfl) ?_
  refine lz_arg (w := nI 1) hx hb hX hbl hbA hH (lv_at hl 0 rfl) (lv_at hl 4 rfl) (by decide) (hin 1 (by decide)) dL_law_1084 dL_law_1085 dL_law_1087 dL_law_1088 dL_law_1089 ?_
  rw [← hy9]
  obtain ⟨v9, g1, g2⟩ := byt_ok 5000 a5 (show nn ≤ 34 by rcases a1 with h | h <;> omega) y9 r.thrown
  refine z_callVqy (wsx := fun _ : Unit => KW cy q k ++ (DW cy q qv mm nn ml f ++ (RW cy q2 r ++ OW cy qo g))) (As := [.int y9]) (rest := []) S hF hH (c_X11_byteAt l G cy E (q 0) (q 1) (q 2) (q 3) (q 4) (q 5) (q 6) (q 7) (q 8) (q 9) (q 10) (q 11) qv mm nn k.lastFault k.lastLateness ml f t y9 v9 a1 a2 a3 g2) (cwV 1 hts gv_X11_byteAt rfl rfl rfl (by decide +kernel) ⟨Nat.le_of_ble_eq_true rfl, Nat.le_of_ble_eq_true rfl⟩) 12 0 rfl rfl [0, 164, 165] (by decide +kernel) (kB_C cy q k qv mm nn ml f _) (fun _ => kB_C cy q k qv mm nn ml f _) (fun _ i _ => rfl) rfl rfl hl.1 (Nat.le_of_ble_eq_true rfl) dL_law_1090 hf (fun _ H locs _ hH => ?_)
  have hG9 : G_byteAt 5000 y9 r = some (v9, r.thr 0) := by
    unfold G_byteAt
    rw [g1]
    rfl
  refine lv_aload_n hx hb dL_law_1093 rfl (lv_at hl 2 rfl) ?_
  refine lz_arg (w := nI 1) hx hb hX hbl hbA hH (lv_at hl 0 rfl) (lv_at hl 4 rfl) (by decide) (hin 1 (by decide)) dL_law_1094 dL_law_1095 dL_law_1097 dL_law_1098 dL_law_1099 ?_
  rw [← hy9]
  refine z_callK2 _ _ _ (rest := [.int v9]) S hF hH (rM_byteAt l G cy E 5000 q2 y9 r (r.thr 0) v9 hG9) (cwV 1 hts gv_X12_byteAt rfl rfl rfl (by decide +kernel) ⟨Nat.le_of_ble_eq_true rfl, Nat.le_of_ble_eq_true rfl⟩) rfl rfl rfl hl.1 (Nat.le_of_ble_eq_true rfl) dL_law_1100 hf (fun H locs hH => ?_)
  refine lv_icmp_eq (tgt := 1357) hx hb dL_law_1103 (by decide) (fun _ => ?_) (fun h => absurd rfl h)
  refine W.widen (k := cells + 20) (n := slots + 500) (by omega) (by omega) ?_
  exact kk _ _ ls k (r.thr 0) hl ⟨hR.th 0, qv, mm, nn, ml, f, t, g, a1, a2, a3, a4, a5, hH⟩
