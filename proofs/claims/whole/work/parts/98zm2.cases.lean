/-! ===== the law's cases ===== -/
set_option maxHeartbeats 4000000 in
set_option maxRecDepth 100000 in
theorem lc_plan {p : Program} {l : Launch} {e : Env} {s : State} {m : MethodId} {args : Array Value} {below : List Frame} {meth : Method} {c : Code} {H : Heap} {locs : List Loc} {cells slots : Nat} {Q : State → Prop} {ls : Array Slot} {G : va_G} {cy : Nat → ClassId} {E : Nat → Nat} {A : Nat → Prop} {b L : Nat} {xs : Nat → Int32} {q q2 : Nat → Nat} {qo : Nat} {k : KS} {r : RS} {v : Int32} (hlt : l.stackTraces = false) (hc1 : zxB s) (S : CallFix p m c cL_law 7 s args LT RL) (hF : zF G cy E A s) (hX : va_X b L xs s s.heap) (hbl : b < s.heap.size) (hbA : ¬ A b) (hl : lv_has ls 7 [(0, .ref b), (1, .ref (q 0)), (2, .ref (q2 0)), (3, .ref qo), (4, .int v)]) (hin : ∀ j : Nat, j ≤ 5 → vp_in (v + nI j) L) (hce : cells + 20 ≤ 30000) (hsl : slots + 500 ≤ 400000) (hI : LInv G cy A s q q2 qo H locs k r)
    (kk : ∀ (H1 : Heap) (locs1 : List Loc) (ls' : Array Slot) (k' : KS) (r' : RS), lv_has ls' 7 [(0, .ref b), (1, .ref (q 0)), (2, .ref (q2 0)), (3, .ref qo), (4, .int v)] → LInv G cy A s q q2 qo H1 locs1 k' r' → W p l e room_1 s m args below meth c H1 locs1 (cells + 20) (slots + 500) Q (F0 m 1357 ls' [])) : W p l e room_1 s m args below meth c H locs cells slots Q (F0 m 837 ls []) := by
  obtain ⟨hR, qv, mm, nn, ml, f, t, g, a1, a2, a3, a4, a5, hH⟩ := hI
  obtain ⟨hx, hb, hml, hown, hts⟩ := id S
  have hf : cells ≤ room_1.cells ∧ slots ≤ room_1.slots := ⟨Nat.le_trans (show cells ≤ 30000 by omega) (Nat.le_of_ble_eq_true rfl), Nat.le_trans (show slots ≤ 400000 by omega) (Nat.le_of_ble_eq_true rfl)⟩
  obtain ⟨v9, k9, r9, hF9, hG9, hR9⟩ := p_plan 5000 (Nat.le_of_ble_eq_true rfl) (xs (v + nI 1).toNatClampNeg) (xs (v + nI 2).toNatClampNeg) k r hR
  refine lv_aload_n hx hb dL_law_837 rfl (lv_at hl 1 rfl) ?_
  refine lz_arg (w := nI 1) hx hb hX hbl hbA hH (lv_at hl 0 rfl) (lv_at hl 4 rfl) (by decide) (hin 1 (by decide)) dL_law_838 dL_law_839 dL_law_841 dL_law_842 dL_law_843 ?_
  refine lz_arg (w := nI 2) hx hb hX hbl hbA hH (lv_at hl 0 rfl) (lv_at hl 4 rfl) (by decide) (hin 2 (by decide)) dL_law_844 dL_law_845 dL_law_847 dL_law_848 dL_law_849 ?_
  refine z_callK0 _ (rest := []) S hF hH (kM_plan l G cy E 5000 q (xs (v + nI 1).toNatClampNeg) (xs (v + nI 2).toNatClampNeg) k k9 v9 hF9) (cwV 2 hts gv_X11_plan rfl rfl rfl (by decide +kernel) ⟨Nat.le_of_ble_eq_true rfl, Nat.le_of_ble_eq_true rfl⟩) rfl rfl rfl hl.1 (Nat.le_of_ble_eq_true rfl) dL_law_850 hf (fun H locs hH => ?_)
  refine lv_aload_n hx hb dL_law_853 rfl (lv_at hl 2 rfl) ?_
  refine lz_arg (w := nI 1) hx hb hX hbl hbA hH (lv_at hl 0 rfl) (lv_at hl 4 rfl) (by decide) (hin 1 (by decide)) dL_law_854 dL_law_855 dL_law_857 dL_law_858 dL_law_859 ?_
  refine lz_arg (w := nI 2) hx hb hX hbl hbA hH (lv_at hl 0 rfl) (lv_at hl 4 rfl) (by decide) (hin 2 (by decide)) dL_law_860 dL_law_861 dL_law_863 dL_law_864 dL_law_865 ?_
  refine z_callK2 _ _ _ (rest := [.int v9]) S hF hH (rM_plan l G cy E 5000 q2 (xs (v + nI 1).toNatClampNeg) (xs (v + nI 2).toNatClampNeg) r r9 v9 hG9) (cwV 2 hts gv_X12_plan rfl rfl rfl (by decide +kernel) ⟨Nat.le_of_ble_eq_true rfl, Nat.le_of_ble_eq_true rfl⟩) rfl rfl rfl hl.1 (Nat.le_of_ble_eq_true rfl) dL_law_866 hf (fun H locs hH => ?_)
  refine lv_icmp_eq (tgt := 1357) hx hb dL_law_869 (by decide) (fun _ => ?_) (fun h => absurd rfl h)
  refine W.widen (k := cells + 20) (n := slots + 500) (by omega) (by omega) ?_
  exact kk _ _ ls k9 r9 hl ⟨hR9, qv, mm, nn, ml, f, t, g, a1, a2, a3, a4, by rw [(gt_plan 5000 (xs (v + nI 1).toNatClampNeg) (xs (v + nI 2).toNatClampNeg) r r9 v9 hG9).1, (gt_plan 5000 (xs (v + nI 1).toNatClampNeg) (xs (v + nI 2).toNatClampNeg) r r9 v9 hG9).2]; exact a5, hH⟩
set_option maxHeartbeats 4000000 in
set_option maxRecDepth 100000 in
theorem lc_time {p : Program} {l : Launch} {e : Env} {s : State} {m : MethodId} {args : Array Value} {below : List Frame} {meth : Method} {c : Code} {H : Heap} {locs : List Loc} {cells slots : Nat} {Q : State → Prop} {ls : Array Slot} {G : va_G} {cy : Nat → ClassId} {E : Nat → Nat} {A : Nat → Prop} {b L : Nat} {xs : Nat → Int32} {q q2 : Nat → Nat} {qo : Nat} {k : KS} {r : RS} {v : Int32} (hlt : l.stackTraces = false) (hc1 : zxB s) (S : CallFix p m c cL_law 7 s args LT RL) (hF : zF G cy E A s) (hX : va_X b L xs s s.heap) (hbl : b < s.heap.size) (hbA : ¬ A b) (hl : lv_has ls 7 [(0, .ref b), (1, .ref (q 0)), (2, .ref (q2 0)), (3, .ref qo), (4, .int v)]) (hin : ∀ j : Nat, j ≤ 5 → vp_in (v + nI j) L) (hce : cells + 20 ≤ 30000) (hsl : slots + 500 ≤ 400000) (hI : LInv G cy A s q q2 qo H locs k r)
    (kk : ∀ (H1 : Heap) (locs1 : List Loc) (ls' : Array Slot) (k' : KS) (r' : RS), lv_has ls' 7 [(0, .ref b), (1, .ref (q 0)), (2, .ref (q2 0)), (3, .ref qo), (4, .int v)] → LInv G cy A s q q2 qo H1 locs1 k' r' → W p l e room_1 s m args below meth c H1 locs1 (cells + 20) (slots + 500) Q (F0 m 1357 ls' [])) : W p l e room_1 s m args below meth c H locs cells slots Q (F0 m 874 ls []) := by
  obtain ⟨hR, qv, mm, nn, ml, f, t, g, a1, a2, a3, a4, a5, hH⟩ := hI
  obtain ⟨hx, hb, hml, hown, hts⟩ := id S
  have hf : cells ≤ room_1.cells ∧ slots ≤ room_1.slots := ⟨Nat.le_trans (show cells ≤ 30000 by omega) (Nat.le_of_ble_eq_true rfl), Nat.le_trans (show slots ≤ 400000 by omega) (Nat.le_of_ble_eq_true rfl)⟩
  obtain ⟨v9, k9, r9, hF9, hG9, hR9⟩ := p_time 5000 (Nat.le_of_ble_eq_true rfl) k r hR
  refine lv_aload_n hx hb dL_law_874 rfl (lv_at hl 1 rfl) ?_
  refine z_callK0 _ (rest := []) S hF hH (kM_time l G cy E 5000 q k k9 v9 hF9) (cwV 0 hts gv_X11_time rfl rfl rfl (by decide +kernel) ⟨Nat.le_of_ble_eq_true rfl, Nat.le_of_ble_eq_true rfl⟩) rfl rfl rfl hl.1 (Nat.le_of_ble_eq_true rfl) dL_law_875 hf (fun H locs hH => ?_)
  refine lv_aload_n hx hb dL_law_878 rfl (lv_at hl 2 rfl) ?_
  refine z_callK2 _ _ _ (rest := [.int v9]) S hF hH (rM_time l G cy E 5000 q2 r r9 v9 hG9) (cwV 0 hts gv_X12_time rfl rfl rfl (by decide +kernel) ⟨Nat.le_of_ble_eq_true rfl, Nat.le_of_ble_eq_true rfl⟩) rfl rfl rfl hl.1 (Nat.le_of_ble_eq_true rfl) dL_law_879 hf (fun H locs hH => ?_)
  refine lv_icmp_eq (tgt := 1357) hx hb dL_law_882 (by decide) (fun _ => ?_) (fun h => absurd rfl h)
  refine W.widen (k := cells + 20) (n := slots + 500) (by omega) (by omega) ?_
  exact kk _ _ ls k9 r9 hl ⟨hR9, qv, mm, nn, ml, f, t, g, a1, a2, a3, a4, by rw [(gt_time 5000 r r9 v9 hG9).1, (gt_time 5000 r r9 v9 hG9).2]; exact a5, hH⟩
set_option maxHeartbeats 4000000 in
set_option maxRecDepth 100000 in
theorem lc_timeFirst {p : Program} {l : Launch} {e : Env} {s : State} {m : MethodId} {args : Array Value} {below : List Frame} {meth : Method} {c : Code} {H : Heap} {locs : List Loc} {cells slots : Nat} {Q : State → Prop} {ls : Array Slot} {G : va_G} {cy : Nat → ClassId} {E : Nat → Nat} {A : Nat → Prop} {b L : Nat} {xs : Nat → Int32} {q q2 : Nat → Nat} {qo : Nat} {k : KS} {r : RS} {v : Int32} (hlt : l.stackTraces = false) (hc1 : zxB s) (S : CallFix p m c cL_law 7 s args LT RL) (hF : zF G cy E A s) (hX : va_X b L xs s s.heap) (hbl : b < s.heap.size) (hbA : ¬ A b) (hl : lv_has ls 7 [(0, .ref b), (1, .ref (q 0)), (2, .ref (q2 0)), (3, .ref qo), (4, .int v)]) (hin : ∀ j : Nat, j ≤ 5 → vp_in (v + nI j) L) (hce : cells + 20 ≤ 30000) (hsl : slots + 500 ≤ 400000) (hI : LInv G cy A s q q2 qo H locs k r)
    (kk : ∀ (H1 : Heap) (locs1 : List Loc) (ls' : Array Slot) (k' : KS) (r' : RS), lv_has ls' 7 [(0, .ref b), (1, .ref (q 0)), (2, .ref (q2 0)), (3, .ref qo), (4, .int v)] → LInv G cy A s q q2 qo H1 locs1 k' r' → W p l e room_1 s m args below meth c H1 locs1 (cells + 20) (slots + 500) Q (F0 m 1357 ls' [])) : W p l e room_1 s m args below meth c H locs cells slots Q (F0 m 887 ls []) := by
  obtain ⟨hR, qv, mm, nn, ml, f, t, g, a1, a2, a3, a4, a5, hH⟩ := hI
  obtain ⟨hx, hb, hml, hown, hts⟩ := id S
  have hf : cells ≤ room_1.cells ∧ slots ≤ room_1.slots := ⟨Nat.le_trans (show cells ≤ 30000 by omega) (Nat.le_of_ble_eq_true rfl), Nat.le_trans (show slots ≤ 400000 by omega) (Nat.le_of_ble_eq_true rfl)⟩
  obtain ⟨v9, k9, r9, hF9, hG9, hR9⟩ := p_timeFirst 5000 k r hR
  refine lv_aload_n hx hb dL_law_887 rfl (lv_at hl 1 rfl) ?_
  refine z_callK0 _ (rest := []) S hF hH (kM_timeFirst l G cy E 5000 q k k9 v9 hF9) (cwV 0 hts gv_X11_timeFirst rfl rfl rfl (by decide +kernel) ⟨Nat.le_of_ble_eq_true rfl, Nat.le_of_ble_eq_true rfl⟩) rfl rfl rfl hl.1 (Nat.le_of_ble_eq_true rfl) dL_law_888 hf (fun H locs hH => ?_)
  refine lv_aload_n hx hb dL_law_891 rfl (lv_at hl 2 rfl) ?_
  refine z_callK2 _ _ _ (rest := [.int v9]) S hF hH (rM_timeFirst l G cy E 5000 q2 r r9 v9 hG9) (cwV 0 hts gv_X12_timeFirst rfl rfl rfl (by decide +kernel) ⟨Nat.le_of_ble_eq_true rfl, Nat.le_of_ble_eq_true rfl⟩) rfl rfl rfl hl.1 (Nat.le_of_ble_eq_true rfl) dL_law_892 hf (fun H locs hH => ?_)
  refine lv_icmp_eq (tgt := 1357) hx hb dL_law_895 (by decide) (fun _ => ?_) (fun h => absurd rfl h)
  refine W.widen (k := cells + 20) (n := slots + 500) (by omega) (by omega) ?_
  exact kk _ _ ls k9 r9 hl ⟨hR9, qv, mm, nn, ml, f, t, g, a1, a2, a3, a4, by rw [(gt_timeFirst 5000 r r9 v9 hG9).1, (gt_timeFirst 5000 r r9 v9 hG9).2]; exact a5, hH⟩
set_option maxHeartbeats 4000000 in
set_option maxRecDepth 100000 in
theorem lc_look {p : Program} {l : Launch} {e : Env} {s : State} {m : MethodId} {args : Array Value} {below : List Frame} {meth : Method} {c : Code} {H : Heap} {locs : List Loc} {cells slots : Nat} {Q : State → Prop} {ls : Array Slot} {G : va_G} {cy : Nat → ClassId} {E : Nat → Nat} {A : Nat → Prop} {b L : Nat} {xs : Nat → Int32} {q q2 : Nat → Nat} {qo : Nat} {k : KS} {r : RS} {v : Int32} (hlt : l.stackTraces = false) (hc1 : zxB s) (S : CallFix p m c cL_law 7 s args LT RL) (hF : zF G cy E A s) (hX : va_X b L xs s s.heap) (hbl : b < s.heap.size) (hbA : ¬ A b) (hl : lv_has ls 7 [(0, .ref b), (1, .ref (q 0)), (2, .ref (q2 0)), (3, .ref qo), (4, .int v)]) (hin : ∀ j : Nat, j ≤ 5 → vp_in (v + nI j) L) (hce : cells + 20 ≤ 30000) (hsl : slots + 500 ≤ 400000) (hI : LInv G cy A s q q2 qo H locs k r)
    (kk : ∀ (H1 : Heap) (locs1 : List Loc) (ls' : Array Slot) (k' : KS) (r' : RS), lv_has ls' 7 [(0, .ref b), (1, .ref (q 0)), (2, .ref (q2 0)), (3, .ref qo), (4, .int v)] → LInv G cy A s q q2 qo H1 locs1 k' r' → W p l e room_1 s m args below meth c H1 locs1 (cells + 20) (slots + 500) Q (F0 m 1357 ls' [])) : W p l e room_1 s m args below meth c H locs cells slots Q (F0 m 900 ls []) := by
  obtain ⟨hR, qv, mm, nn, ml, f, t, g, a1, a2, a3, a4, a5, hH⟩ := hI
  obtain ⟨hx, hb, hml, hown, hts⟩ := id S
  have hf : cells ≤ room_1.cells ∧ slots ≤ room_1.slots := ⟨Nat.le_trans (show cells ≤ 30000 by omega) (Nat.le_of_ble_eq_true rfl), Nat.le_trans (show slots ≤ 400000 by omega) (Nat.le_of_ble_eq_true rfl)⟩
  obtain ⟨v9, k9, r9, hF9, hG9, hR9⟩ := p_look 5000 k r hR
  refine lv_aload_n hx hb dL_law_900 rfl (lv_at hl 1 rfl) ?_
  refine z_callK0 _ (rest := []) S hF hH (kM_look l G cy E 5000 q k k9 v9 hF9) (cwV 0 hts gv_X11_look rfl rfl rfl (by decide +kernel) ⟨Nat.le_of_ble_eq_true rfl, Nat.le_of_ble_eq_true rfl⟩) rfl rfl rfl hl.1 (Nat.le_of_ble_eq_true rfl) dL_law_901 hf (fun H locs hH => ?_)
  refine lv_aload_n hx hb dL_law_904 rfl (lv_at hl 2 rfl) ?_
  refine z_callK2 _ _ _ (rest := [.int v9]) S hF hH (rM_look l G cy E 5000 q2 r r9 v9 hG9) (cwV 0 hts gv_X12_look rfl rfl rfl (by decide +kernel) ⟨Nat.le_of_ble_eq_true rfl, Nat.le_of_ble_eq_true rfl⟩) rfl rfl rfl hl.1 (Nat.le_of_ble_eq_true rfl) dL_law_905 hf (fun H locs hH => ?_)
  refine lv_icmp_eq (tgt := 1357) hx hb dL_law_908 (by decide) (fun _ => ?_) (fun h => absurd rfl h)
  refine W.widen (k := cells + 20) (n := slots + 500) (by omega) (by omega) ?_
  exact kk _ _ ls k9 r9 hl ⟨hR9, qv, mm, nn, ml, f, t, g, a1, a2, a3, a4, by rw [(gt_look 5000 r r9 v9 hG9).1, (gt_look 5000 r r9 v9 hG9).2]; exact a5, hH⟩
set_option maxHeartbeats 4000000 in
set_option maxRecDepth 100000 in
theorem lc_alike {p : Program} {l : Launch} {e : Env} {s : State} {m : MethodId} {args : Array Value} {below : List Frame} {meth : Method} {c : Code} {H : Heap} {locs : List Loc} {cells slots : Nat} {Q : State → Prop} {ls : Array Slot} {G : va_G} {cy : Nat → ClassId} {E : Nat → Nat} {A : Nat → Prop} {b L : Nat} {xs : Nat → Int32} {q q2 : Nat → Nat} {qo : Nat} {k : KS} {r : RS} {v : Int32} (hlt : l.stackTraces = false) (hc1 : zxB s) (S : CallFix p m c cL_law 7 s args LT RL) (hF : zF G cy E A s) (hX : va_X b L xs s s.heap) (hbl : b < s.heap.size) (hbA : ¬ A b) (hl : lv_has ls 7 [(0, .ref b), (1, .ref (q 0)), (2, .ref (q2 0)), (3, .ref qo), (4, .int v)]) (hin : ∀ j : Nat, j ≤ 5 → vp_in (v + nI j) L) (hce : cells + 20 ≤ 30000) (hsl : slots + 500 ≤ 400000) (hI : LInv G cy A s q q2 qo H locs k r)
    (kk : ∀ (H1 : Heap) (locs1 : List Loc) (ls' : Array Slot) (k' : KS) (r' : RS), lv_has ls' 7 [(0, .ref b), (1, .ref (q 0)), (2, .ref (q2 0)), (3, .ref qo), (4, .int v)] → LInv G cy A s q q2 qo H1 locs1 k' r' → W p l e room_1 s m args below meth c H1 locs1 (cells + 20) (slots + 500) Q (F0 m 1357 ls' [])) : W p l e room_1 s m args below meth c H locs cells slots Q (F0 m 913 ls []) := by
  obtain ⟨hR, qv, mm, nn, ml, f, t, g, a1, a2, a3, a4, a5, hH⟩ := hI
  obtain ⟨hx, hb, hml, hown, hts⟩ := id S
  have hf : cells ≤ room_1.cells ∧ slots ≤ room_1.slots := ⟨Nat.le_trans (show cells ≤ 30000 by omega) (Nat.le_of_ble_eq_true rfl), Nat.le_trans (show slots ≤ 400000 by omega) (Nat.le_of_ble_eq_true rfl)⟩
  obtain ⟨v9, k9, r9, hF9, hG9, hR9⟩ := p_alike 5000 (Nat.le_of_ble_eq_true rfl) k r hR
  refine lv_aload_n hx hb dL_law_913 rfl (lv_at hl 1 rfl) ?_
  refine z_callK0 _ (rest := []) S hF hH (kM_alike l G cy E 5000 q k k9 v9 hF9) (cwV 0 hts gv_X11_alike rfl rfl rfl (by decide +kernel) ⟨Nat.le_of_ble_eq_true rfl, Nat.le_of_ble_eq_true rfl⟩) rfl rfl rfl hl.1 (Nat.le_of_ble_eq_true rfl) dL_law_914 hf (fun H locs hH => ?_)
  refine lv_aload_n hx hb dL_law_917 rfl (lv_at hl 2 rfl) ?_
  refine z_callK2 _ _ _ (rest := [.int v9]) S hF hH (rM_alike l G cy E 5000 q2 r r9 v9 hG9) (cwV 0 hts gv_X12_alike rfl rfl rfl (by decide +kernel) ⟨Nat.le_of_ble_eq_true rfl, Nat.le_of_ble_eq_true rfl⟩) rfl rfl rfl hl.1 (Nat.le_of_ble_eq_true rfl) dL_law_918 hf (fun H locs hH => ?_)
  refine lv_icmp_eq (tgt := 1357) hx hb dL_law_921 (by decide) (fun _ => ?_) (fun h => absurd rfl h)
  refine W.widen (k := cells + 20) (n := slots + 500) (by omega) (by omega) ?_
  exact kk _ _ ls k9 r9 hl ⟨hR9, qv, mm, nn, ml, f, t, g, a1, a2, a3, a4, by rw [(gt_alike 5000 r r9 v9 hG9).1, (gt_alike 5000 r r9 v9 hG9).2]; exact a5, hH⟩
set_option maxHeartbeats 4000000 in
set_option maxRecDepth 100000 in
theorem lc_tend {p : Program} {l : Launch} {e : Env} {s : State} {m : MethodId} {args : Array Value} {below : List Frame} {meth : Method} {c : Code} {H : Heap} {locs : List Loc} {cells slots : Nat} {Q : State → Prop} {ls : Array Slot} {G : va_G} {cy : Nat → ClassId} {E : Nat → Nat} {A : Nat → Prop} {b L : Nat} {xs : Nat → Int32} {q q2 : Nat → Nat} {qo : Nat} {k : KS} {r : RS} {v : Int32} (hlt : l.stackTraces = false) (hc1 : zxB s) (S : CallFix p m c cL_law 7 s args LT RL) (hF : zF G cy E A s) (hX : va_X b L xs s s.heap) (hbl : b < s.heap.size) (hbA : ¬ A b) (hl : lv_has ls 7 [(0, .ref b), (1, .ref (q 0)), (2, .ref (q2 0)), (3, .ref qo), (4, .int v)]) (hin : ∀ j : Nat, j ≤ 5 → vp_in (v + nI j) L) (hce : cells + 20 ≤ 30000) (hsl : slots + 500 ≤ 400000) (hI : LInv G cy A s q q2 qo H locs k r)
    (kk : ∀ (H1 : Heap) (locs1 : List Loc) (ls' : Array Slot) (k' : KS) (r' : RS), lv_has ls' 7 [(0, .ref b), (1, .ref (q 0)), (2, .ref (q2 0)), (3, .ref qo), (4, .int v)] → LInv G cy A s q q2 qo H1 locs1 k' r' → W p l e room_1 s m args below meth c H1 locs1 (cells + 20) (slots + 500) Q (F0 m 1357 ls' [])) : W p l e room_1 s m args below meth c H locs cells slots Q (F0 m 926 ls []) := by
  obtain ⟨hR, qv, mm, nn, ml, f, t, g, a1, a2, a3, a4, a5, hH⟩ := hI
  obtain ⟨hx, hb, hml, hown, hts⟩ := id S
  have hf : cells ≤ room_1.cells ∧ slots ≤ room_1.slots := ⟨Nat.le_trans (show cells ≤ 30000 by omega) (Nat.le_of_ble_eq_true rfl), Nat.le_trans (show slots ≤ 400000 by omega) (Nat.le_of_ble_eq_true rfl)⟩
  obtain ⟨v9, k9, r9, hF9, hG9, hR9⟩ := p_tend 5000 (Nat.le_of_ble_eq_true rfl) (xs (v + nI 1).toNatClampNeg) (xs (v + nI 2).toNatClampNeg) k r hR
  refine lv_aload_n hx hb dL_law_926 rfl (lv_at hl 1 rfl) ?_
  refine lz_arg (w := nI 1) hx hb hX hbl hbA hH (lv_at hl 0 rfl) (lv_at hl 4 rfl) (by decide) (hin 1 (by decide)) dL_law_927 dL_law_928 dL_law_930 dL_law_931 dL_law_932 ?_
  refine lz_arg (w := nI 2) hx hb hX hbl hbA hH (lv_at hl 0 rfl) (lv_at hl 4 rfl) (by decide) (hin 2 (by decide)) dL_law_933 dL_law_934 dL_law_936 dL_law_937 dL_law_938 ?_
  refine z_callK0 _ (rest := []) S hF hH (kM_tend l G cy E 5000 q (xs (v + nI 1).toNatClampNeg) (xs (v + nI 2).toNatClampNeg) k k9 v9 hF9) (cwV 2 hts gv_X11_tend rfl rfl rfl (by decide +kernel) ⟨Nat.le_of_ble_eq_true rfl, Nat.le_of_ble_eq_true rfl⟩) rfl rfl rfl hl.1 (Nat.le_of_ble_eq_true rfl) dL_law_939 hf (fun H locs hH => ?_)
  refine lv_aload_n hx hb dL_law_942 rfl (lv_at hl 2 rfl) ?_
  refine lz_arg (w := nI 1) hx hb hX hbl hbA hH (lv_at hl 0 rfl) (lv_at hl 4 rfl) (by decide) (hin 1 (by decide)) dL_law_943 dL_law_944 dL_law_946 dL_law_947 dL_law_948 ?_
  refine lz_arg (w := nI 2) hx hb hX hbl hbA hH (lv_at hl 0 rfl) (lv_at hl 4 rfl) (by decide) (hin 2 (by decide)) dL_law_949 dL_law_950 dL_law_952 dL_law_953 dL_law_954 ?_
  refine z_callK2 _ _ _ (rest := [.int v9]) S hF hH (rM_tend l G cy E 5000 q2 (xs (v + nI 1).toNatClampNeg) (xs (v + nI 2).toNatClampNeg) r r9 v9 hG9) (cwV 2 hts gv_X12_tend rfl rfl rfl (by decide +kernel) ⟨Nat.le_of_ble_eq_true rfl, Nat.le_of_ble_eq_true rfl⟩) rfl rfl rfl hl.1 (Nat.le_of_ble_eq_true rfl) dL_law_955 hf (fun H locs hH => ?_)
  refine lv_icmp_eq (tgt := 1357) hx hb dL_law_958 (by decide) (fun _ => ?_) (fun h => absurd rfl h)
  refine W.widen (k := cells + 20) (n := slots + 500) (by omega) (by omega) ?_
  exact kk _ _ ls k9 r9 hl ⟨hR9, qv, mm, nn, ml, f, t, g, a1, a2, a3, a4, by rw [(gt_tend 5000 (xs (v + nI 1).toNatClampNeg) (xs (v + nI 2).toNatClampNeg) r r9 v9 hG9).1, (gt_tend 5000 (xs (v + nI 1).toNatClampNeg) (xs (v + nI 2).toNatClampNeg) r r9 v9 hG9).2]; exact a5, hH⟩
set_option maxHeartbeats 4000000 in
set_option maxRecDepth 100000 in
theorem lc_worst {p : Program} {l : Launch} {e : Env} {s : State} {m : MethodId} {args : Array Value} {below : List Frame} {meth : Method} {c : Code} {H : Heap} {locs : List Loc} {cells slots : Nat} {Q : State → Prop} {ls : Array Slot} {G : va_G} {cy : Nat → ClassId} {E : Nat → Nat} {A : Nat → Prop} {b L : Nat} {xs : Nat → Int32} {q q2 : Nat → Nat} {qo : Nat} {k : KS} {r : RS} {v : Int32} (hlt : l.stackTraces = false) (hc1 : zxB s) (S : CallFix p m c cL_law 7 s args LT RL) (hF : zF G cy E A s) (hX : va_X b L xs s s.heap) (hbl : b < s.heap.size) (hbA : ¬ A b) (hl : lv_has ls 7 [(0, .ref b), (1, .ref (q 0)), (2, .ref (q2 0)), (3, .ref qo), (4, .int v)]) (hin : ∀ j : Nat, j ≤ 5 → vp_in (v + nI j) L) (hce : cells + 20 ≤ 30000) (hsl : slots + 500 ≤ 400000) (hI : LInv G cy A s q q2 qo H locs k r)
    (kk : ∀ (H1 : Heap) (locs1 : List Loc) (ls' : Array Slot) (k' : KS) (r' : RS), lv_has ls' 7 [(0, .ref b), (1, .ref (q 0)), (2, .ref (q2 0)), (3, .ref qo), (4, .int v)] → LInv G cy A s q q2 qo H1 locs1 k' r' → W p l e room_1 s m args below meth c H1 locs1 (cells + 20) (slots + 500) Q (F0 m 1357 ls' [])) : W p l e room_1 s m args below meth c H locs cells slots Q (F0 m 963 ls []) := by
  obtain ⟨hR, qv, mm, nn, ml, f, t, g, a1, a2, a3, a4, a5, hH⟩ := hI
  obtain ⟨hx, hb, hml, hown, hts⟩ := id S
  have hf : cells ≤ room_1.cells ∧ slots ≤ room_1.slots := ⟨Nat.le_trans (show cells ≤ 30000 by omega) (Nat.le_of_ble_eq_true rfl), Nat.le_trans (show slots ≤ 400000 by omega) (Nat.le_of_ble_eq_true rfl)⟩
  obtain ⟨v9, k9, r9, hF9, hG9, hR9⟩ := p_worst 5000 (Nat.le_of_ble_eq_true rfl) k r hR
  refine lv_aload_n hx hb dL_law_963 rfl (lv_at hl 1 rfl) ?_
  refine z_callK0 _ (rest := []) S hF hH (kM_worst l G cy E 5000 q k k9 v9 hF9) (cwV 0 hts gv_X11_worst rfl rfl rfl (by decide +kernel) ⟨Nat.le_of_ble_eq_true rfl, Nat.le_of_ble_eq_true rfl⟩) rfl rfl rfl hl.1 (Nat.le_of_ble_eq_true rfl) dL_law_964 hf (fun H locs hH => ?_)
  refine lv_aload_n hx hb dL_law_967 rfl (lv_at hl 2 rfl) ?_
  refine z_callK2 _ _ _ (rest := [.int v9]) S hF hH (rM_worst l G cy E 5000 q2 r r9 v9 hG9) (cwV 0 hts gv_X12_worst rfl rfl rfl (by decide +kernel) ⟨Nat.le_of_ble_eq_true rfl, Nat.le_of_ble_eq_true rfl⟩) rfl rfl rfl hl.1 (Nat.le_of_ble_eq_true rfl) dL_law_968 hf (fun H locs hH => ?_)
  refine lv_icmp_eq (tgt := 1357) hx hb dL_law_971 (by decide) (fun _ => ?_) (fun h => absurd rfl h)
  refine W.widen (k := cells + 20) (n := slots + 500) (by omega) (by omega) ?_
  exact kk _ _ ls k9 r9 hl ⟨hR9, qv, mm, nn, ml, f, t, g, a1, a2, a3, a4, by rw [(gt_worst 5000 r r9 v9 hG9).1, (gt_worst 5000 r r9 v9 hG9).2]; exact a5, hH⟩
set_option maxHeartbeats 4000000 in
set_option maxRecDepth 100000 in
theorem lc_latest {p : Program} {l : Launch} {e : Env} {s : State} {m : MethodId} {args : Array Value} {below : List Frame} {meth : Method} {c : Code} {H : Heap} {locs : List Loc} {cells slots : Nat} {Q : State → Prop} {ls : Array Slot} {G : va_G} {cy : Nat → ClassId} {E : Nat → Nat} {A : Nat → Prop} {b L : Nat} {xs : Nat → Int32} {q q2 : Nat → Nat} {qo : Nat} {k : KS} {r : RS} {v : Int32} (hlt : l.stackTraces = false) (hc1 : zxB s) (S : CallFix p m c cL_law 7 s args LT RL) (hF : zF G cy E A s) (hX : va_X b L xs s s.heap) (hbl : b < s.heap.size) (hbA : ¬ A b) (hl : lv_has ls 7 [(0, .ref b), (1, .ref (q 0)), (2, .ref (q2 0)), (3, .ref qo), (4, .int v)]) (hin : ∀ j : Nat, j ≤ 5 → vp_in (v + nI j) L) (hce : cells + 20 ≤ 30000) (hsl : slots + 500 ≤ 400000) (hI : LInv G cy A s q q2 qo H locs k r)
    (kk : ∀ (H1 : Heap) (locs1 : List Loc) (ls' : Array Slot) (k' : KS) (r' : RS), lv_has ls' 7 [(0, .ref b), (1, .ref (q 0)), (2, .ref (q2 0)), (3, .ref qo), (4, .int v)] → LInv G cy A s q q2 qo H1 locs1 k' r' → W p l e room_1 s m args below meth c H1 locs1 (cells + 20) (slots + 500) Q (F0 m 1357 ls' [])) : W p l e room_1 s m args below meth c H locs cells slots Q (F0 m 976 ls []) := by
  obtain ⟨hR, qv, mm, nn, ml, f, t, g, a1, a2, a3, a4, a5, hH⟩ := hI
  obtain ⟨hx, hb, hml, hown, hts⟩ := id S
  have hf : cells ≤ room_1.cells ∧ slots ≤ room_1.slots := ⟨Nat.le_trans (show cells ≤ 30000 by omega) (Nat.le_of_ble_eq_true rfl), Nat.le_trans (show slots ≤ 400000 by omega) (Nat.le_of_ble_eq_true rfl)⟩
  obtain ⟨v9, k9, r9, hF9, hG9, hR9⟩ := p_latest 5000 (Nat.le_of_ble_eq_true rfl) k r hR
  refine lv_aload_n hx hb dL_law_976 rfl (lv_at hl 1 rfl) ?_
  refine z_callK0 _ (rest := []) S hF hH (kM_latest l G cy E 5000 q k k9 v9 hF9) (cwV 0 hts gv_X11_latest rfl rfl rfl (by decide +kernel) ⟨Nat.le_of_ble_eq_true rfl, Nat.le_of_ble_eq_true rfl⟩) rfl rfl rfl hl.1 (Nat.le_of_ble_eq_true rfl) dL_law_977 hf (fun H locs hH => ?_)
  refine lv_aload_n hx hb dL_law_980 rfl (lv_at hl 2 rfl) ?_
  refine z_callK2 _ _ _ (rest := [.int v9]) S hF hH (rM_latest l G cy E 5000 q2 r r9 v9 hG9) (cwV 0 hts gv_X12_latest rfl rfl rfl (by decide +kernel) ⟨Nat.le_of_ble_eq_true rfl, Nat.le_of_ble_eq_true rfl⟩) rfl rfl rfl hl.1 (Nat.le_of_ble_eq_true rfl) dL_law_981 hf (fun H locs hH => ?_)
  refine lv_icmp_eq (tgt := 1357) hx hb dL_law_984 (by decide) (fun _ => ?_) (fun h => absurd rfl h)
  refine W.widen (k := cells + 20) (n := slots + 500) (by omega) (by omega) ?_
  exact kk _ _ ls k9 r9 hl ⟨hR9, qv, mm, nn, ml, f, t, g, a1, a2, a3, a4, by rw [(gt_latest 5000 r r9 v9 hG9).1, (gt_latest 5000 r r9 v9 hG9).2]; exact a5, hH⟩
set_option maxHeartbeats 4000000 in
set_option maxRecDepth 100000 in
theorem lc_latestBy {p : Program} {l : Launch} {e : Env} {s : State} {m : MethodId} {args : Array Value} {below : List Frame} {meth : Method} {c : Code} {H : Heap} {locs : List Loc} {cells slots : Nat} {Q : State → Prop} {ls : Array Slot} {G : va_G} {cy : Nat → ClassId} {E : Nat → Nat} {A : Nat → Prop} {b L : Nat} {xs : Nat → Int32} {q q2 : Nat → Nat} {qo : Nat} {k : KS} {r : RS} {v : Int32} (hlt : l.stackTraces = false) (hc1 : zxB s) (S : CallFix p m c cL_law 7 s args LT RL) (hF : zF G cy E A s) (hX : va_X b L xs s s.heap) (hbl : b < s.heap.size) (hbA : ¬ A b) (hl : lv_has ls 7 [(0, .ref b), (1, .ref (q 0)), (2, .ref (q2 0)), (3, .ref qo), (4, .int v)]) (hin : ∀ j : Nat, j ≤ 5 → vp_in (v + nI j) L) (hce : cells + 20 ≤ 30000) (hsl : slots + 500 ≤ 400000) (hI : LInv G cy A s q q2 qo H locs k r)
    (kk : ∀ (H1 : Heap) (locs1 : List Loc) (ls' : Array Slot) (k' : KS) (r' : RS), lv_has ls' 7 [(0, .ref b), (1, .ref (q 0)), (2, .ref (q2 0)), (3, .ref qo), (4, .int v)] → LInv G cy A s q q2 qo H1 locs1 k' r' → W p l e room_1 s m args below meth c H1 locs1 (cells + 20) (slots + 500) Q (F0 m 1357 ls' [])) : W p l e room_1 s m args below meth c H locs cells slots Q (F0 m 989 ls []) := by
  obtain ⟨hR, qv, mm, nn, ml, f, t, g, a1, a2, a3, a4, a5, hH⟩ := hI
  obtain ⟨hx, hb, hml, hown, hts⟩ := id S
  have hf : cells ≤ room_1.cells ∧ slots ≤ room_1.slots := ⟨Nat.le_trans (show cells ≤ 30000 by omega) (Nat.le_of_ble_eq_true rfl), Nat.le_trans (show slots ≤ 400000 by omega) (Nat.le_of_ble_eq_true rfl)⟩
  obtain ⟨v9, k9, r9, hF9, hG9, hR9⟩ := p_latestBy 5000 k r hR
  refine lv_aload_n hx hb dL_law_989 rfl (lv_at hl 1 rfl) ?_
  refine z_callK0 _ (rest := []) S hF hH (kM_latestBy l G cy E 5000 q k k9 v9 hF9) (cwV 0 hts gv_X11_latestBy rfl rfl rfl (by decide +kernel) ⟨Nat.le_of_ble_eq_true rfl, Nat.le_of_ble_eq_true rfl⟩) rfl rfl rfl hl.1 (Nat.le_of_ble_eq_true rfl) dL_law_990 hf (fun H locs hH => ?_)
  refine lv_aload_n hx hb dL_law_993 rfl (lv_at hl 2 rfl) ?_
  refine z_callK2 _ _ _ (rest := [.int v9]) S hF hH (rM_latestBy l G cy E 5000 q2 r r9 v9 hG9) (cwV 0 hts gv_X12_latestBy rfl rfl rfl (by decide +kernel) ⟨Nat.le_of_ble_eq_true rfl, Nat.le_of_ble_eq_true rfl⟩) rfl rfl rfl hl.1 (Nat.le_of_ble_eq_true rfl) dL_law_994 hf (fun H locs hH => ?_)
  refine lv_icmp_eq (tgt := 1357) hx hb dL_law_997 (by decide) (fun _ => ?_) (fun h => absurd rfl h)
  refine W.widen (k := cells + 20) (n := slots + 500) (by omega) (by omega) ?_
  exact kk _ _ ls k9 r9 hl ⟨hR9, qv, mm, nn, ml, f, t, g, a1, a2, a3, a4, by rw [(gt_latestBy 5000 r r9 v9 hG9).1, (gt_latestBy 5000 r r9 v9 hG9).2]; exact a5, hH⟩
set_option maxHeartbeats 4000000 in
set_option maxRecDepth 100000 in
theorem lc_drawn {p : Program} {l : Launch} {e : Env} {s : State} {m : MethodId} {args : Array Value} {below : List Frame} {meth : Method} {c : Code} {H : Heap} {locs : List Loc} {cells slots : Nat} {Q : State → Prop} {ls : Array Slot} {G : va_G} {cy : Nat → ClassId} {E : Nat → Nat} {A : Nat → Prop} {b L : Nat} {xs : Nat → Int32} {q q2 : Nat → Nat} {qo : Nat} {k : KS} {r : RS} {v : Int32} (hlt : l.stackTraces = false) (hc1 : zxB s) (S : CallFix p m c cL_law 7 s args LT RL) (hF : zF G cy E A s) (hX : va_X b L xs s s.heap) (hbl : b < s.heap.size) (hbA : ¬ A b) (hl : lv_has ls 7 [(0, .ref b), (1, .ref (q 0)), (2, .ref (q2 0)), (3, .ref qo), (4, .int v)]) (hin : ∀ j : Nat, j ≤ 5 → vp_in (v + nI j) L) (hce : cells + 20 ≤ 30000) (hsl : slots + 500 ≤ 400000) (hI : LInv G cy A s q q2 qo H locs k r)
    (kk : ∀ (H1 : Heap) (locs1 : List Loc) (ls' : Array Slot) (k' : KS) (r' : RS), lv_has ls' 7 [(0, .ref b), (1, .ref (q 0)), (2, .ref (q2 0)), (3, .ref qo), (4, .int v)] → LInv G cy A s q q2 qo H1 locs1 k' r' → W p l e room_1 s m args below meth c H1 locs1 (cells + 20) (slots + 500) Q (F0 m 1357 ls' [])) : W p l e room_1 s m args below meth c H locs cells slots Q (F0 m 1108 ls []) := by
  obtain ⟨hR, qv, mm, nn, ml, f, t, g, a1, a2, a3, a4, a5, hH⟩ := hI
  obtain ⟨hx, hb, hml, hown, hts⟩ := id S
  have hf : cells ≤ room_1.cells ∧ slots ≤ room_1.slots := ⟨Nat.le_trans (show cells ≤ 30000 by omega) (Nat.le_of_ble_eq_true rfl), Nat.le_trans (show slots ≤ 400000 by omega) (Nat.le_of_ble_eq_true rfl)⟩
  obtain ⟨v9, k9, r9, hF9, hG9, hR9⟩ := p_drawn 5000 (Nat.le_of_ble_eq_true rfl) (xs (v + nI 1).toNatClampNeg) (xs (v + nI 2).toNatClampNeg) k r hR
  refine lv_aload_n hx hb dL_law_1108 rfl (lv_at hl 1 rfl) ?_
  refine lz_arg (w := nI 1) hx hb hX hbl hbA hH (lv_at hl 0 rfl) (lv_at hl 4 rfl) (by decide) (hin 1 (by decide)) dL_law_1109 dL_law_1110 dL_law_1112 dL_law_1113 dL_law_1114 ?_
  refine lz_arg (w := nI 2) hx hb hX hbl hbA hH (lv_at hl 0 rfl) (lv_at hl 4 rfl) (by decide) (hin 2 (by decide)) dL_law_1115 dL_law_1116 dL_law_1118 dL_law_1119 dL_law_1120 ?_
  refine z_callK0 _ (rest := []) S hF hH (kM_drawn l G cy E 5000 q (xs (v + nI 1).toNatClampNeg) (xs (v + nI 2).toNatClampNeg) k k9 v9 hF9) (cwV 2 hts gv_X11_drawn rfl rfl rfl (by decide +kernel) ⟨Nat.le_of_ble_eq_true rfl, Nat.le_of_ble_eq_true rfl⟩) rfl rfl rfl hl.1 (Nat.le_of_ble_eq_true rfl) dL_law_1121 hf (fun H locs hH => ?_)
  refine lv_aload_n hx hb dL_law_1124 rfl (lv_at hl 2 rfl) ?_
  refine lz_arg (w := nI 1) hx hb hX hbl hbA hH (lv_at hl 0 rfl) (lv_at hl 4 rfl) (by decide) (hin 1 (by decide)) dL_law_1125 dL_law_1126 dL_law_1128 dL_law_1129 dL_law_1130 ?_
  refine lz_arg (w := nI 2) hx hb hX hbl hbA hH (lv_at hl 0 rfl) (lv_at hl 4 rfl) (by decide) (hin 2 (by decide)) dL_law_1131 dL_law_1132 dL_law_1134 dL_law_1135 dL_law_1136 ?_
  refine z_callK2 _ _ _ (rest := [.int v9]) S hF hH (rM_drawn l G cy E 5000 q2 (xs (v + nI 1).toNatClampNeg) (xs (v + nI 2).toNatClampNeg) r r9 v9 hG9) (cwV 2 hts gv_X12_drawn rfl rfl rfl (by decide +kernel) ⟨Nat.le_of_ble_eq_true rfl, Nat.le_of_ble_eq_true rfl⟩) rfl rfl rfl hl.1 (Nat.le_of_ble_eq_true rfl) dL_law_1137 hf (fun H locs hH => ?_)
  refine lv_icmp_eq (tgt := 1357) hx hb dL_law_1140 (by decide) (fun _ => ?_) (fun h => absurd rfl h)
  refine W.widen (k := cells + 20) (n := slots + 500) (by omega) (by omega) ?_
  exact kk _ _ ls k9 r9 hl ⟨hR9, qv, mm, nn, ml, f, t, g, a1, a2, a3, a4, by rw [(gt_drawn 5000 (xs (v + nI 1).toNatClampNeg) (xs (v + nI 2).toNatClampNeg) r r9 v9 hG9).1, (gt_drawn 5000 (xs (v + nI 1).toNatClampNeg) (xs (v + nI 2).toNatClampNeg) r r9 v9 hG9).2]; exact a5, hH⟩
set_option maxHeartbeats 4000000 in
set_option maxRecDepth 100000 in
theorem lc_odds {p : Program} {l : Launch} {e : Env} {s : State} {m : MethodId} {args : Array Value} {below : List Frame} {meth : Method} {c : Code} {H : Heap} {locs : List Loc} {cells slots : Nat} {Q : State → Prop} {ls : Array Slot} {G : va_G} {cy : Nat → ClassId} {E : Nat → Nat} {A : Nat → Prop} {b L : Nat} {xs : Nat → Int32} {q q2 : Nat → Nat} {qo : Nat} {k : KS} {r : RS} {v : Int32} (hlt : l.stackTraces = false) (hc1 : zxB s) (S : CallFix p m c cL_law 7 s args LT RL) (hF : zF G cy E A s) (hX : va_X b L xs s s.heap) (hbl : b < s.heap.size) (hbA : ¬ A b) (hl : lv_has ls 7 [(0, .ref b), (1, .ref (q 0)), (2, .ref (q2 0)), (3, .ref qo), (4, .int v)]) (hin : ∀ j : Nat, j ≤ 5 → vp_in (v + nI j) L) (hce : cells + 20 ≤ 30000) (hsl : slots + 500 ≤ 400000) (hI : LInv G cy A s q q2 qo H locs k r)
    (kk : ∀ (H1 : Heap) (locs1 : List Loc) (ls' : Array Slot) (k' : KS) (r' : RS), lv_has ls' 7 [(0, .ref b), (1, .ref (q 0)), (2, .ref (q2 0)), (3, .ref qo), (4, .int v)] → LInv G cy A s q q2 qo H1 locs1 k' r' → W p l e room_1 s m args below meth c H1 locs1 (cells + 20) (slots + 500) Q (F0 m 1357 ls' [])) : W p l e room_1 s m args below meth c H locs cells slots Q (F0 m 1145 ls []) := by
  obtain ⟨hR, qv, mm, nn, ml, f, t, g, a1, a2, a3, a4, a5, hH⟩ := hI
  obtain ⟨hx, hb, hml, hown, hts⟩ := id S
  have hf : cells ≤ room_1.cells ∧ slots ≤ room_1.slots := ⟨Nat.le_trans (show cells ≤ 30000 by omega) (Nat.le_of_ble_eq_true rfl), Nat.le_trans (show slots ≤ 400000 by omega) (Nat.le_of_ble_eq_true rfl)⟩
  obtain ⟨v9, k9, r9, hF9, hG9, hR9⟩ := p_odds 5000 (Nat.le_of_ble_eq_true rfl) (xs (v + nI 1).toNatClampNeg) (xs (v + nI 2).toNatClampNeg) (xs (v + nI 3).toNatClampNeg) k r hR
  refine lv_aload_n hx hb dL_law_1145 rfl (lv_at hl 1 rfl) ?_
  refine lz_arg (w := nI 1) hx hb hX hbl hbA hH (lv_at hl 0 rfl) (lv_at hl 4 rfl) (by decide) (hin 1 (by decide)) dL_law_1146 dL_law_1147 dL_law_1149 dL_law_1150 dL_law_1151 ?_
  refine lz_arg (w := nI 2) hx hb hX hbl hbA hH (lv_at hl 0 rfl) (lv_at hl 4 rfl) (by decide) (hin 2 (by decide)) dL_law_1152 dL_law_1153 dL_law_1155 dL_law_1156 dL_law_1157 ?_
  refine lz_arg (w := nI 3) hx hb hX hbl hbA hH (lv_at hl 0 rfl) (lv_at hl 4 rfl) (by decide) (hin 3 (by decide)) dL_law_1158 dL_law_1159 dL_law_1161 dL_law_1162 dL_law_1163 ?_
  refine z_callK0 _ (rest := []) S hF hH (kM_odds l G cy E 5000 q (xs (v + nI 1).toNatClampNeg) (xs (v + nI 2).toNatClampNeg) (xs (v + nI 3).toNatClampNeg) k k9 v9 hF9) (cwV 3 hts gv_X11_odds rfl rfl rfl (by decide +kernel) ⟨Nat.le_of_ble_eq_true rfl, Nat.le_of_ble_eq_true rfl⟩) rfl rfl rfl hl.1 (Nat.le_of_ble_eq_true rfl) dL_law_1164 hf (fun H locs hH => ?_)
  refine lv_aload_n hx hb dL_law_1167 rfl (lv_at hl 2 rfl) ?_
  refine lz_arg (w := nI 1) hx hb hX hbl hbA hH (lv_at hl 0 rfl) (lv_at hl 4 rfl) (by decide) (hin 1 (by decide)) dL_law_1168 dL_law_1169 dL_law_1171 dL_law_1172 dL_law_1173 ?_
  refine lz_arg (w := nI 2) hx hb hX hbl hbA hH (lv_at hl 0 rfl) (lv_at hl 4 rfl) (by decide) (hin 2 (by decide)) dL_law_1174 dL_law_1175 dL_law_1177 dL_law_1178 dL_law_1179 ?_
  refine lz_arg (w := nI 3) hx hb hX hbl hbA hH (lv_at hl 0 rfl) (lv_at hl 4 rfl) (by decide) (hin 3 (by decide)) dL_law_1180 dL_law_1181 dL_law_1183 dL_law_1184 dL_law_1185 ?_
  refine z_callK2 _ _ _ (rest := [.int v9]) S hF hH (rM_odds l G cy E 5000 q2 (xs (v + nI 1).toNatClampNeg) (xs (v + nI 2).toNatClampNeg) (xs (v + nI 3).toNatClampNeg) r r9 v9 hG9) (cwV 3 hts gv_X12_odds rfl rfl rfl (by decide +kernel) ⟨Nat.le_of_ble_eq_true rfl, Nat.le_of_ble_eq_true rfl⟩) rfl rfl rfl hl.1 (Nat.le_of_ble_eq_true rfl) dL_law_1186 hf (fun H locs hH => ?_)
  refine lv_icmp_eq (tgt := 1357) hx hb dL_law_1189 (by decide) (fun _ => ?_) (fun h => absurd rfl h)
  refine W.widen (k := cells + 20) (n := slots + 500) (by omega) (by omega) ?_
  exact kk _ _ ls k9 r9 hl ⟨hR9, qv, mm, nn, ml, f, t, g, a1, a2, a3, a4, by rw [(gt_odds 5000 (xs (v + nI 1).toNatClampNeg) (xs (v + nI 2).toNatClampNeg) (xs (v + nI 3).toNatClampNeg) r r9 v9 hG9).1, (gt_odds 5000 (xs (v + nI 1).toNatClampNeg) (xs (v + nI 2).toNatClampNeg) (xs (v + nI 3).toNatClampNeg) r r9 v9 hG9).2]; exact a5, hH⟩
set_option maxHeartbeats 4000000 in
set_option maxRecDepth 100000 in
theorem lc_book {p : Program} {l : Launch} {e : Env} {s : State} {m : MethodId} {args : Array Value} {below : List Frame} {meth : Method} {c : Code} {H : Heap} {locs : List Loc} {cells slots : Nat} {Q : State → Prop} {ls : Array Slot} {G : va_G} {cy : Nat → ClassId} {E : Nat → Nat} {A : Nat → Prop} {b L : Nat} {xs : Nat → Int32} {q q2 : Nat → Nat} {qo : Nat} {k : KS} {r : RS} {v : Int32} (hlt : l.stackTraces = false) (hc1 : zxB s) (S : CallFix p m c cL_law 7 s args LT RL) (hF : zF G cy E A s) (hX : va_X b L xs s s.heap) (hbl : b < s.heap.size) (hbA : ¬ A b) (hl : lv_has ls 7 [(0, .ref b), (1, .ref (q 0)), (2, .ref (q2 0)), (3, .ref qo), (4, .int v)]) (hin : ∀ j : Nat, j ≤ 5 → vp_in (v + nI j) L) (hce : cells + 20 ≤ 30000) (hsl : slots + 500 ≤ 400000) (hI : LInv G cy A s q q2 qo H locs k r)
    (kk : ∀ (H1 : Heap) (locs1 : List Loc) (ls' : Array Slot) (k' : KS) (r' : RS), lv_has ls' 7 [(0, .ref b), (1, .ref (q 0)), (2, .ref (q2 0)), (3, .ref qo), (4, .int v)] → LInv G cy A s q q2 qo H1 locs1 k' r' → W p l e room_1 s m args below meth c H1 locs1 (cells + 20) (slots + 500) Q (F0 m 1357 ls' [])) : W p l e room_1 s m args below meth c H locs cells slots Q (F0 m 1194 ls []) := by
  obtain ⟨hR, qv, mm, nn, ml, f, t, g, a1, a2, a3, a4, a5, hH⟩ := hI
  obtain ⟨hx, hb, hml, hown, hts⟩ := id S
  have hf : cells ≤ room_1.cells ∧ slots ≤ room_1.slots := ⟨Nat.le_trans (show cells ≤ 30000 by omega) (Nat.le_of_ble_eq_true rfl), Nat.le_trans (show slots ≤ 400000 by omega) (Nat.le_of_ble_eq_true rfl)⟩
  obtain ⟨v9, k9, r9, hF9, hG9, hR9⟩ := p_book 5000 (Nat.le_of_ble_eq_true rfl) (xs (v + nI 1).toNatClampNeg) k r hR
  refine lv_aload_n hx hb dL_law_1194 rfl (lv_at hl 1 rfl) ?_
  refine lz_arg (w := nI 1) hx hb hX hbl hbA hH (lv_at hl 0 rfl) (lv_at hl 4 rfl) (by decide) (hin 1 (by decide)) dL_law_1195 dL_law_1196 dL_law_1198 dL_law_1199 dL_law_1200 ?_
  refine z_callK0 _ (rest := []) S hF hH (kM_book l G cy E 5000 q (xs (v + nI 1).toNatClampNeg) k k9 v9 hF9) (cwV 1 hts gv_X11_book rfl rfl rfl (by decide +kernel) ⟨Nat.le_of_ble_eq_true rfl, Nat.le_of_ble_eq_true rfl⟩) rfl rfl rfl hl.1 (Nat.le_of_ble_eq_true rfl) dL_law_1201 hf (fun H locs hH => ?_)
  refine lv_aload_n hx hb dL_law_1204 rfl (lv_at hl 2 rfl) ?_
  refine lz_arg (w := nI 1) hx hb hX hbl hbA hH (lv_at hl 0 rfl) (lv_at hl 4 rfl) (by decide) (hin 1 (by decide)) dL_law_1205 dL_law_1206 dL_law_1208 dL_law_1209 dL_law_1210 ?_
  refine z_callK2 _ _ _ (rest := [.int v9]) S hF hH (rM_book l G cy E 5000 q2 (xs (v + nI 1).toNatClampNeg) r r9 v9 hG9) (cwV 1 hts gv_X12_book rfl rfl rfl (by decide +kernel) ⟨Nat.le_of_ble_eq_true rfl, Nat.le_of_ble_eq_true rfl⟩) rfl rfl rfl hl.1 (Nat.le_of_ble_eq_true rfl) dL_law_1211 hf (fun H locs hH => ?_)
  refine lv_icmp_eq (tgt := 1357) hx hb dL_law_1214 (by decide) (fun _ => ?_) (fun h => absurd rfl h)
  refine W.widen (k := cells + 20) (n := slots + 500) (by omega) (by omega) ?_
  exact kk _ _ ls k9 r9 hl ⟨hR9, qv, mm, nn, ml, f, t, g, a1, a2, a3, a4, by rw [(gt_book 5000 (xs (v + nI 1).toNatClampNeg) r r9 v9 hG9).1, (gt_book 5000 (xs (v + nI 1).toNatClampNeg) r r9 v9 hG9).2]; exact a5, hH⟩
set_option maxHeartbeats 4000000 in
set_option maxRecDepth 100000 in
theorem lc_told {p : Program} {l : Launch} {e : Env} {s : State} {m : MethodId} {args : Array Value} {below : List Frame} {meth : Method} {c : Code} {H : Heap} {locs : List Loc} {cells slots : Nat} {Q : State → Prop} {ls : Array Slot} {G : va_G} {cy : Nat → ClassId} {E : Nat → Nat} {A : Nat → Prop} {b L : Nat} {xs : Nat → Int32} {q q2 : Nat → Nat} {qo : Nat} {k : KS} {r : RS} {v : Int32} (hlt : l.stackTraces = false) (hc1 : zxB s) (S : CallFix p m c cL_law 7 s args LT RL) (hF : zF G cy E A s) (hX : va_X b L xs s s.heap) (hbl : b < s.heap.size) (hbA : ¬ A b) (hl : lv_has ls 7 [(0, .ref b), (1, .ref (q 0)), (2, .ref (q2 0)), (3, .ref qo), (4, .int v)]) (hin : ∀ j : Nat, j ≤ 5 → vp_in (v + nI j) L) (hce : cells + 20 ≤ 30000) (hsl : slots + 500 ≤ 400000) (hI : LInv G cy A s q q2 qo H locs k r)
    (kk : ∀ (H1 : Heap) (locs1 : List Loc) (ls' : Array Slot) (k' : KS) (r' : RS), lv_has ls' 7 [(0, .ref b), (1, .ref (q 0)), (2, .ref (q2 0)), (3, .ref qo), (4, .int v)] → LInv G cy A s q q2 qo H1 locs1 k' r' → W p l e room_1 s m args below meth c H1 locs1 (cells + 20) (slots + 500) Q (F0 m 1357 ls' [])) : W p l e room_1 s m args below meth c H locs cells slots Q (F0 m 1219 ls []) := by
  obtain ⟨hR, qv, mm, nn, ml, f, t, g, a1, a2, a3, a4, a5, hH⟩ := hI
  obtain ⟨hx, hb, hml, hown, hts⟩ := id S
  have hf : cells ≤ room_1.cells ∧ slots ≤ room_1.slots := ⟨Nat.le_trans (show cells ≤ 30000 by omega) (Nat.le_of_ble_eq_true rfl), Nat.le_trans (show slots ≤ 400000 by omega) (Nat.le_of_ble_eq_true rfl)⟩
  obtain ⟨v9, k9, r9, hF9, hG9, hR9⟩ := p_told 5000 (xs (v + nI 1).toNatClampNeg) k r hR
  refine lv_aload_n hx hb dL_law_1219 rfl (lv_at hl 1 rfl) ?_
  refine lz_arg (w := nI 1) hx hb hX hbl hbA hH (lv_at hl 0 rfl) (lv_at hl 4 rfl) (by decide) (hin 1 (by decide)) dL_law_1220 dL_law_1221 dL_law_1223 dL_law_1224 dL_law_1225 ?_
  refine z_callK0 _ (rest := []) S hF hH (kM_told l G cy E 5000 q (xs (v + nI 1).toNatClampNeg) k k9 v9 hF9) (cwV 1 hts gv_X11_told rfl rfl rfl (by decide +kernel) ⟨Nat.le_of_ble_eq_true rfl, Nat.le_of_ble_eq_true rfl⟩) rfl rfl rfl hl.1 (Nat.le_of_ble_eq_true rfl) dL_law_1226 hf (fun H locs hH => ?_)
  refine lv_aload_n hx hb dL_law_1229 rfl (lv_at hl 2 rfl) ?_
  refine lz_arg (w := nI 1) hx hb hX hbl hbA hH (lv_at hl 0 rfl) (lv_at hl 4 rfl) (by decide) (hin 1 (by decide)) dL_law_1230 dL_law_1231 dL_law_1233 dL_law_1234 dL_law_1235 ?_
  refine z_callK2 _ _ _ (rest := [.int v9]) S hF hH (rM_told l G cy E 5000 q2 (xs (v + nI 1).toNatClampNeg) r r9 v9 hG9) (cwV 1 hts gv_X12_told rfl rfl rfl (by decide +kernel) ⟨Nat.le_of_ble_eq_true rfl, Nat.le_of_ble_eq_true rfl⟩) rfl rfl rfl hl.1 (Nat.le_of_ble_eq_true rfl) dL_law_1236 hf (fun H locs hH => ?_)
  refine lv_icmp_eq (tgt := 1357) hx hb dL_law_1239 (by decide) (fun _ => ?_) (fun h => absurd rfl h)
  refine W.widen (k := cells + 20) (n := slots + 500) (by omega) (by omega) ?_
  exact kk _ _ ls k9 r9 hl ⟨hR9, qv, mm, nn, ml, f, t, g, a1, a2, a3, a4, by rw [(gt_told 5000 (xs (v + nI 1).toNatClampNeg) r r9 v9 hG9).1, (gt_told 5000 (xs (v + nI 1).toNatClampNeg) r r9 v9 hG9).2]; exact a5, hH⟩
set_option maxHeartbeats 4000000 in
set_option maxRecDepth 100000 in
theorem lc_sentence {p : Program} {l : Launch} {e : Env} {s : State} {m : MethodId} {args : Array Value} {below : List Frame} {meth : Method} {c : Code} {H : Heap} {locs : List Loc} {cells slots : Nat} {Q : State → Prop} {ls : Array Slot} {G : va_G} {cy : Nat → ClassId} {E : Nat → Nat} {A : Nat → Prop} {b L : Nat} {xs : Nat → Int32} {q q2 : Nat → Nat} {qo : Nat} {k : KS} {r : RS} {v : Int32} (hlt : l.stackTraces = false) (hc1 : zxB s) (S : CallFix p m c cL_law 7 s args LT RL) (hF : zF G cy E A s) (hX : va_X b L xs s s.heap) (hbl : b < s.heap.size) (hbA : ¬ A b) (hl : lv_has ls 7 [(0, .ref b), (1, .ref (q 0)), (2, .ref (q2 0)), (3, .ref qo), (4, .int v)]) (hin : ∀ j : Nat, j ≤ 5 → vp_in (v + nI j) L) (hce : cells + 20 ≤ 30000) (hsl : slots + 500 ≤ 400000) (hI : LInv G cy A s q q2 qo H locs k r)
    (kk : ∀ (H1 : Heap) (locs1 : List Loc) (ls' : Array Slot) (k' : KS) (r' : RS), lv_has ls' 7 [(0, .ref b), (1, .ref (q 0)), (2, .ref (q2 0)), (3, .ref qo), (4, .int v)] → LInv G cy A s q q2 qo H1 locs1 k' r' → W p l e room_1 s m args below meth c H1 locs1 (cells + 20) (slots + 500) Q (F0 m 1357 ls' [])) : W p l e room_1 s m args below meth c H locs cells slots Q (F0 m 1244 ls []) := by
  obtain ⟨hR, qv, mm, nn, ml, f, t, g, a1, a2, a3, a4, a5, hH⟩ := hI
  obtain ⟨hx, hb, hml, hown, hts⟩ := id S
  have hf : cells ≤ room_1.cells ∧ slots ≤ room_1.slots := ⟨Nat.le_trans (show cells ≤ 30000 by omega) (Nat.le_of_ble_eq_true rfl), Nat.le_trans (show slots ≤ 400000 by omega) (Nat.le_of_ble_eq_true rfl)⟩
  obtain ⟨v9, k9, r9, hF9, hG9, hR9⟩ := p_sentence 5000 (Nat.le_of_ble_eq_true rfl) k r hR
  refine lv_aload_n hx hb dL_law_1244 rfl (lv_at hl 1 rfl) ?_
  refine z_callK0 _ (rest := []) S hF hH (kM_sentence l G cy E 5000 q k k9 v9 hF9) (cwV 0 hts gv_X11_sentence rfl rfl rfl (by decide +kernel) ⟨Nat.le_of_ble_eq_true rfl, Nat.le_of_ble_eq_true rfl⟩) rfl rfl rfl hl.1 (Nat.le_of_ble_eq_true rfl) dL_law_1245 hf (fun H locs hH => ?_)
  refine lv_aload_n hx hb dL_law_1248 rfl (lv_at hl 2 rfl) ?_
  refine z_callK2 _ _ _ (rest := [.int v9]) S hF hH (rM_sentence l G cy E 5000 q2 r r9 v9 hG9) (cwV 0 hts gv_X12_sentence rfl rfl rfl (by decide +kernel) ⟨Nat.le_of_ble_eq_true rfl, Nat.le_of_ble_eq_true rfl⟩) rfl rfl rfl hl.1 (Nat.le_of_ble_eq_true rfl) dL_law_1249 hf (fun H locs hH => ?_)
  refine lv_icmp_eq (tgt := 1357) hx hb dL_law_1252 (by decide) (fun _ => ?_) (fun h => absurd rfl h)
  refine W.widen (k := cells + 20) (n := slots + 500) (by omega) (by omega) ?_
  exact kk _ _ ls k9 r9 hl ⟨hR9, qv, mm, nn, ml, f, t, g, a1, a2, a3, a4, by rw [(gt_sentence 5000 r r9 v9 hG9).1, (gt_sentence 5000 r r9 v9 hG9).2]; exact a5, hH⟩
set_option maxHeartbeats 4000000 in
set_option maxRecDepth 100000 in
theorem lc_said {p : Program} {l : Launch} {e : Env} {s : State} {m : MethodId} {args : Array Value} {below : List Frame} {meth : Method} {c : Code} {H : Heap} {locs : List Loc} {cells slots : Nat} {Q : State → Prop} {ls : Array Slot} {G : va_G} {cy : Nat → ClassId} {E : Nat → Nat} {A : Nat → Prop} {b L : Nat} {xs : Nat → Int32} {q q2 : Nat → Nat} {qo : Nat} {k : KS} {r : RS} {v : Int32} (hlt : l.stackTraces = false) (hc1 : zxB s) (S : CallFix p m c cL_law 7 s args LT RL) (hF : zF G cy E A s) (hX : va_X b L xs s s.heap) (hbl : b < s.heap.size) (hbA : ¬ A b) (hl : lv_has ls 7 [(0, .ref b), (1, .ref (q 0)), (2, .ref (q2 0)), (3, .ref qo), (4, .int v)]) (hin : ∀ j : Nat, j ≤ 5 → vp_in (v + nI j) L) (hce : cells + 20 ≤ 30000) (hsl : slots + 500 ≤ 400000) (hI : LInv G cy A s q q2 qo H locs k r)
    (kk : ∀ (H1 : Heap) (locs1 : List Loc) (ls' : Array Slot) (k' : KS) (r' : RS), lv_has ls' 7 [(0, .ref b), (1, .ref (q 0)), (2, .ref (q2 0)), (3, .ref qo), (4, .int v)] → LInv G cy A s q q2 qo H1 locs1 k' r' → W p l e room_1 s m args below meth c H1 locs1 (cells + 20) (slots + 500) Q (F0 m 1357 ls' [])) : W p l e room_1 s m args below meth c H locs cells slots Q (F0 m 1257 ls []) := by
  obtain ⟨hR, qv, mm, nn, ml, f, t, g, a1, a2, a3, a4, a5, hH⟩ := hI
  obtain ⟨hx, hb, hml, hown, hts⟩ := id S
  have hf : cells ≤ room_1.cells ∧ slots ≤ room_1.slots := ⟨Nat.le_trans (show cells ≤ 30000 by omega) (Nat.le_of_ble_eq_true rfl), Nat.le_trans (show slots ≤ 400000 by omega) (Nat.le_of_ble_eq_true rfl)⟩
  obtain ⟨v9, k9, r9, hF9, hG9, hR9⟩ := p_said 5000 (Nat.le_of_ble_eq_true rfl) (xs (v + nI 1).toNatClampNeg) k r hR
  refine lv_aload_n hx hb dL_law_1257 rfl (lv_at hl 1 rfl) ?_
  refine lz_arg (w := nI 1) hx hb hX hbl hbA hH (lv_at hl 0 rfl) (lv_at hl 4 rfl) (by decide) (hin 1 (by decide)) dL_law_1258 dL_law_1259 dL_law_1261 dL_law_1262 dL_law_1263 ?_
  refine z_callK0 _ (rest := []) S hF hH (kM_said l G cy E 5000 q (xs (v + nI 1).toNatClampNeg) k k9 v9 hF9) (cwV 1 hts gv_X11_said rfl rfl rfl (by decide +kernel) ⟨Nat.le_of_ble_eq_true rfl, Nat.le_of_ble_eq_true rfl⟩) rfl rfl rfl hl.1 (Nat.le_of_ble_eq_true rfl) dL_law_1264 hf (fun H locs hH => ?_)
  refine lv_aload_n hx hb dL_law_1267 rfl (lv_at hl 2 rfl) ?_
  refine lz_arg (w := nI 1) hx hb hX hbl hbA hH (lv_at hl 0 rfl) (lv_at hl 4 rfl) (by decide) (hin 1 (by decide)) dL_law_1268 dL_law_1269 dL_law_1271 dL_law_1272 dL_law_1273 ?_
  refine z_callK2 _ _ _ (rest := [.int v9]) S hF hH (rM_said l G cy E 5000 q2 (xs (v + nI 1).toNatClampNeg) r r9 v9 hG9) (cwV 1 hts gv_X12_said rfl rfl rfl (by decide +kernel) ⟨Nat.le_of_ble_eq_true rfl, Nat.le_of_ble_eq_true rfl⟩) rfl rfl rfl hl.1 (Nat.le_of_ble_eq_true rfl) dL_law_1274 hf (fun H locs hH => ?_)
  refine lv_icmp_eq (tgt := 1357) hx hb dL_law_1277 (by decide) (fun _ => ?_) (fun h => absurd rfl h)
  refine W.widen (k := cells + 20) (n := slots + 500) (by omega) (by omega) ?_
  exact kk _ _ ls k9 r9 hl ⟨hR9, qv, mm, nn, ml, f, t, g, a1, a2, a3, a4, by rw [(gt_said 5000 (xs (v + nI 1).toNatClampNeg) r r9 v9 hG9).1, (gt_said 5000 (xs (v + nI 1).toNatClampNeg) r r9 v9 hG9).2]; exact a5, hH⟩
set_option maxHeartbeats 4000000 in
set_option maxRecDepth 100000 in
theorem lc_image {p : Program} {l : Launch} {e : Env} {s : State} {m : MethodId} {args : Array Value} {below : List Frame} {meth : Method} {c : Code} {H : Heap} {locs : List Loc} {cells slots : Nat} {Q : State → Prop} {ls : Array Slot} {G : va_G} {cy : Nat → ClassId} {E : Nat → Nat} {A : Nat → Prop} {b L : Nat} {xs : Nat → Int32} {q q2 : Nat → Nat} {qo : Nat} {k : KS} {r : RS} {v : Int32} (hlt : l.stackTraces = false) (hc1 : zxB s) (S : CallFix p m c cL_law 7 s args LT RL) (hF : zF G cy E A s) (hX : va_X b L xs s s.heap) (hbl : b < s.heap.size) (hbA : ¬ A b) (hl : lv_has ls 7 [(0, .ref b), (1, .ref (q 0)), (2, .ref (q2 0)), (3, .ref qo), (4, .int v)]) (hin : ∀ j : Nat, j ≤ 5 → vp_in (v + nI j) L) (hce : cells + 20 ≤ 30000) (hsl : slots + 500 ≤ 400000) (hI : LInv G cy A s q q2 qo H locs k r)
    (kk : ∀ (H1 : Heap) (locs1 : List Loc) (ls' : Array Slot) (k' : KS) (r' : RS), lv_has ls' 7 [(0, .ref b), (1, .ref (q 0)), (2, .ref (q2 0)), (3, .ref qo), (4, .int v)] → LInv G cy A s q q2 qo H1 locs1 k' r' → W p l e room_1 s m args below meth c H1 locs1 (cells + 20) (slots + 500) Q (F0 m 1357 ls' [])) : W p l e room_1 s m args below meth c H locs cells slots Q (F0 m 1282 ls []) := by
  obtain ⟨hR, qv, mm, nn, ml, f, t, g, a1, a2, a3, a4, a5, hH⟩ := hI
  obtain ⟨hx, hb, hml, hown, hts⟩ := id S
  have hf : cells ≤ room_1.cells ∧ slots ≤ room_1.slots := ⟨Nat.le_trans (show cells ≤ 30000 by omega) (Nat.le_of_ble_eq_true rfl), Nat.le_trans (show slots ≤ 400000 by omega) (Nat.le_of_ble_eq_true rfl)⟩
  obtain ⟨v9, k9, r9, hF9, hG9, hR9⟩ := p_image 5000 (Nat.le_of_ble_eq_true rfl) (xs (v + nI 1).toNatClampNeg) k r hR
  refine lv_aload_n hx hb dL_law_1282 rfl (lv_at hl 1 rfl) ?_
  refine lz_arg (w := nI 1) hx hb hX hbl hbA hH (lv_at hl 0 rfl) (lv_at hl 4 rfl) (by decide) (hin 1 (by decide)) dL_law_1283 dL_law_1284 dL_law_1286 dL_law_1287 dL_law_1288 ?_
  refine z_callK0 _ (rest := []) S hF hH (kM_image l G cy E 5000 q (xs (v + nI 1).toNatClampNeg) k k9 v9 hF9) (cwV 1 hts gv_X11_image rfl rfl rfl (by decide +kernel) ⟨Nat.le_of_ble_eq_true rfl, Nat.le_of_ble_eq_true rfl⟩) rfl rfl rfl hl.1 (Nat.le_of_ble_eq_true rfl) dL_law_1289 hf (fun H locs hH => ?_)
  refine lv_aload_n hx hb dL_law_1292 rfl (lv_at hl 2 rfl) ?_
  refine lz_arg (w := nI 1) hx hb hX hbl hbA hH (lv_at hl 0 rfl) (lv_at hl 4 rfl) (by decide) (hin 1 (by decide)) dL_law_1293 dL_law_1294 dL_law_1296 dL_law_1297 dL_law_1298 ?_
  refine z_callK2 _ _ _ (rest := [.int v9]) S hF hH (rM_image l G cy E 5000 q2 (xs (v + nI 1).toNatClampNeg) r r9 v9 hG9) (cwV 1 hts gv_X12_image rfl rfl rfl (by decide +kernel) ⟨Nat.le_of_ble_eq_true rfl, Nat.le_of_ble_eq_true rfl⟩) rfl rfl rfl hl.1 (Nat.le_of_ble_eq_true rfl) dL_law_1299 hf (fun H locs hH => ?_)
  refine lv_icmp_eq (tgt := 1357) hx hb dL_law_1302 (by decide) (fun _ => ?_) (fun h => absurd rfl h)
  refine W.widen (k := cells + 20) (n := slots + 500) (by omega) (by omega) ?_
  exact kk _ _ ls k9 r9 hl ⟨hR9, qv, mm, nn, ml, f, t, g, a1, a2, a3, a4, by rw [(gt_image 5000 (xs (v + nI 1).toNatClampNeg) r r9 v9 hG9).1, (gt_image 5000 (xs (v + nI 1).toNatClampNeg) r r9 v9 hG9).2]; exact a5, hH⟩
set_option maxHeartbeats 4000000 in
set_option maxRecDepth 100000 in
theorem lc_restore {p : Program} {l : Launch} {e : Env} {s : State} {m : MethodId} {args : Array Value} {below : List Frame} {meth : Method} {c : Code} {H : Heap} {locs : List Loc} {cells slots : Nat} {Q : State → Prop} {ls : Array Slot} {G : va_G} {cy : Nat → ClassId} {E : Nat → Nat} {A : Nat → Prop} {b L : Nat} {xs : Nat → Int32} {q q2 : Nat → Nat} {qo : Nat} {k : KS} {r : RS} {v : Int32} (hlt : l.stackTraces = false) (hc1 : zxB s) (S : CallFix p m c cL_law 7 s args LT RL) (hF : zF G cy E A s) (hX : va_X b L xs s s.heap) (hbl : b < s.heap.size) (hbA : ¬ A b) (hl : lv_has ls 7 [(0, .ref b), (1, .ref (q 0)), (2, .ref (q2 0)), (3, .ref qo), (4, .int v)]) (hin : ∀ j : Nat, j ≤ 5 → vp_in (v + nI j) L) (hce : cells + 20 ≤ 30000) (hsl : slots + 500 ≤ 400000) (hI : LInv G cy A s q q2 qo H locs k r)
    (kk : ∀ (H1 : Heap) (locs1 : List Loc) (ls' : Array Slot) (k' : KS) (r' : RS), lv_has ls' 7 [(0, .ref b), (1, .ref (q 0)), (2, .ref (q2 0)), (3, .ref qo), (4, .int v)] → LInv G cy A s q q2 qo H1 locs1 k' r' → W p l e room_1 s m args below meth c H1 locs1 (cells + 20) (slots + 500) Q (F0 m 1357 ls' [])) : W p l e room_1 s m args below meth c H locs cells slots Q (F0 m 1307 ls []) := by
  obtain ⟨hR, qv, mm, nn, ml, f, t, g, a1, a2, a3, a4, a5, hH⟩ := hI
  obtain ⟨hx, hb, hml, hown, hts⟩ := id S
  have hf : cells ≤ room_1.cells ∧ slots ≤ room_1.slots := ⟨Nat.le_trans (show cells ≤ 30000 by omega) (Nat.le_of_ble_eq_true rfl), Nat.le_trans (show slots ≤ 400000 by omega) (Nat.le_of_ble_eq_true rfl)⟩
  obtain ⟨v9, k9, r9, hF9, hG9, hR9⟩ := p_restore 5000 (Nat.le_of_ble_eq_true rfl) (xs (v + nI 1).toNatClampNeg) k r hR
  refine lv_aload_n hx hb dL_law_1307 rfl (lv_at hl 1 rfl) ?_
  refine lz_arg (w := nI 1) hx hb hX hbl hbA hH (lv_at hl 0 rfl) (lv_at hl 4 rfl) (by decide) (hin 1 (by decide)) dL_law_1308 dL_law_1309 dL_law_1311 dL_law_1312 dL_law_1313 ?_
  refine z_callK0 _ (rest := []) S hF hH (kM_restore l G cy E 5000 q (xs (v + nI 1).toNatClampNeg) k k9 v9 hF9) (cwV 1 hts gv_X11_restore rfl rfl rfl (by decide +kernel) ⟨Nat.le_of_ble_eq_true rfl, Nat.le_of_ble_eq_true rfl⟩) rfl rfl rfl hl.1 (Nat.le_of_ble_eq_true rfl) dL_law_1314 hf (fun H locs hH => ?_)
  refine lv_aload_n hx hb dL_law_1317 rfl (lv_at hl 2 rfl) ?_
  refine lz_arg (w := nI 1) hx hb hX hbl hbA hH (lv_at hl 0 rfl) (lv_at hl 4 rfl) (by decide) (hin 1 (by decide)) dL_law_1318 dL_law_1319 dL_law_1321 dL_law_1322 dL_law_1323 ?_
  refine z_callK2 _ _ _ (rest := [.int v9]) S hF hH (rM_restore l G cy E 5000 q2 (xs (v + nI 1).toNatClampNeg) r r9 v9 hG9) (cwV 1 hts gv_X12_restore rfl rfl rfl (by decide +kernel) ⟨Nat.le_of_ble_eq_true rfl, Nat.le_of_ble_eq_true rfl⟩) rfl rfl rfl hl.1 (Nat.le_of_ble_eq_true rfl) dL_law_1324 hf (fun H locs hH => ?_)
  refine lv_icmp_eq (tgt := 1357) hx hb dL_law_1327 (by decide) (fun _ => ?_) (fun h => absurd rfl h)
  refine W.widen (k := cells + 20) (n := slots + 500) (by omega) (by omega) ?_
  exact kk _ _ ls k9 r9 hl ⟨hR9, qv, mm, nn, ml, f, t, g, a1, a2, a3, a4, by rw [(gt_restore 5000 (xs (v + nI 1).toNatClampNeg) r r9 v9 hG9).1, (gt_restore 5000 (xs (v + nI 1).toNatClampNeg) r r9 v9 hG9).2]; exact a5, hH⟩
set_option maxHeartbeats 4000000 in
set_option maxRecDepth 100000 in
theorem lc_count {p : Program} {l : Launch} {e : Env} {s : State} {m : MethodId} {args : Array Value} {below : List Frame} {meth : Method} {c : Code} {H : Heap} {locs : List Loc} {cells slots : Nat} {Q : State → Prop} {ls : Array Slot} {G : va_G} {cy : Nat → ClassId} {E : Nat → Nat} {A : Nat → Prop} {b L : Nat} {xs : Nat → Int32} {q q2 : Nat → Nat} {qo : Nat} {k : KS} {r : RS} {v : Int32} (hlt : l.stackTraces = false) (hc1 : zxB s) (S : CallFix p m c cL_law 7 s args LT RL) (hF : zF G cy E A s) (hX : va_X b L xs s s.heap) (hbl : b < s.heap.size) (hbA : ¬ A b) (hl : lv_has ls 7 [(0, .ref b), (1, .ref (q 0)), (2, .ref (q2 0)), (3, .ref qo), (4, .int v)]) (hin : ∀ j : Nat, j ≤ 5 → vp_in (v + nI j) L) (hce : cells + 20 ≤ 30000) (hsl : slots + 500 ≤ 400000) (hI : LInv G cy A s q q2 qo H locs k r)
    (kk : ∀ (H1 : Heap) (locs1 : List Loc) (ls' : Array Slot) (k' : KS) (r' : RS), lv_has ls' 7 [(0, .ref b), (1, .ref (q 0)), (2, .ref (q2 0)), (3, .ref qo), (4, .int v)] → LInv G cy A s q q2 qo H1 locs1 k' r' → W p l e room_1 s m args below meth c H1 locs1 (cells + 20) (slots + 500) Q (F0 m 1357 ls' [])) : W p l e room_1 s m args below meth c H locs cells slots Q (F0 m 1332 ls []) := by
  obtain ⟨hR, qv, mm, nn, ml, f, t, g, a1, a2, a3, a4, a5, hH⟩ := hI
  obtain ⟨hx, hb, hml, hown, hts⟩ := id S
  have hf : cells ≤ room_1.cells ∧ slots ≤ room_1.slots := ⟨Nat.le_trans (show cells ≤ 30000 by omega) (Nat.le_of_ble_eq_true rfl), Nat.le_trans (show slots ≤ 400000 by omega) (Nat.le_of_ble_eq_true rfl)⟩
  obtain ⟨v9, k9, r9, hF9, hG9, hR9⟩ := p_count 5000 (xs (v + nI 1).toNatClampNeg) k r hR
  refine lv_aload_n hx hb dL_law_1332 rfl (lv_at hl 1 rfl) ?_
  refine lz_arg (w := nI 1) hx hb hX hbl hbA hH (lv_at hl 0 rfl) (lv_at hl 4 rfl) (by decide) (hin 1 (by decide)) dL_law_1333 dL_law_1334 dL_law_1336 dL_law_1337 dL_law_1338 ?_
  refine z_callK0 _ (rest := []) S hF hH (kM_count l G cy E 5000 q (xs (v + nI 1).toNatClampNeg) k k9 v9 hF9) (cwV 1 hts gv_X11_count rfl rfl rfl (by decide +kernel) ⟨Nat.le_of_ble_eq_true rfl, Nat.le_of_ble_eq_true rfl⟩) rfl rfl rfl hl.1 (Nat.le_of_ble_eq_true rfl) dL_law_1339 hf (fun H locs hH => ?_)
  refine lv_aload_n hx hb dL_law_1342 rfl (lv_at hl 2 rfl) ?_
  refine lz_arg (w := nI 1) hx hb hX hbl hbA hH (lv_at hl 0 rfl) (lv_at hl 4 rfl) (by decide) (hin 1 (by decide)) dL_law_1343 dL_law_1344 dL_law_1346 dL_law_1347 dL_law_1348 ?_
  refine z_callK2 _ _ _ (rest := [.int v9]) S hF hH (rM_count l G cy E 5000 q2 (xs (v + nI 1).toNatClampNeg) r r9 v9 hG9) (cwV 1 hts gv_X12_count rfl rfl rfl (by decide +kernel) ⟨Nat.le_of_ble_eq_true rfl, Nat.le_of_ble_eq_true rfl⟩) rfl rfl rfl hl.1 (Nat.le_of_ble_eq_true rfl) dL_law_1349 hf (fun H locs hH => ?_)
  refine lv_icmp_eq (tgt := 1357) hx hb dL_law_1352 (by decide) (fun _ => ?_) (fun h => absurd rfl h)
  refine W.widen (k := cells + 20) (n := slots + 500) (by omega) (by omega) ?_
  exact kk _ _ ls k9 r9 hl ⟨hR9, qv, mm, nn, ml, f, t, g, a1, a2, a3, a4, by rw [(gt_count 5000 (xs (v + nI 1).toNatClampNeg) r r9 v9 hG9).1, (gt_count 5000 (xs (v + nI 1).toNatClampNeg) r r9 v9 hG9).2]; exact a5, hH⟩
