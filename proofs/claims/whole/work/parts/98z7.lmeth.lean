/-! ===== the law's three methods with a handler ===== -/
section ZL
variable {p : Program} {l : Launch} {e : Env} {R : Room} {s : State} {m : MethodId} {args : Array Value} {below : List Frame} {meth : Method} {c : Code} {H : Heap} {locs : List Loc} {cells slots : Nat} {Q : State → Prop}
variable {cc : ByteArray} {pc nL : Nat} {ls : Array Slot} {rest : List Value} {G : va_G} {cy : Nat → ClassId} {E : Nat → Nat} {A : Nat → Prop} {a : Nat} {ws ws' w w' w0 : va_W} {Ts : List Cond} {own : String}
theorem zr_c (wr wc : va_W) : (List.range' wr.length wc.length).map (fun i => (wr ++ wc)[i]?) = wc.map some := by have := zr_map wc wr []; rw [List.append_nil] at this; exact this
theorem zr_r (wr wc : va_W) : (List.range' 0 wr.length).map (fun i => (wr ++ wc)[i]?) = wr.map some := zr_map wr [] wc
theorem z_callm {wc wr w1 : va_W} {oc : Option Value} {mc ms : Nat} {st0 : List Value} {a9 : Array Value} {free : Addr → Prop} (hH : zH G A s H locs (wr ++ wc)) (hF : zF G cy E A s)
    (hfr : free = va_A wc H.size) (hr : va_Run p l e R s m args below meth c H locs cells slots mc ms (F0 m pc ls st0) rest (zQ G wc w1 H.size oc a9) free)
    (kk : ∀ (H1 : Heap) (locs1 : List Loc), zH G A s H1 locs1 (wr ++ w1) → W p l e R s m args below meth c H1 locs1 (cells + mc) (slots + ms) Q (F0 m (pc + 3) ls (oc.toList ++ rest))) : W p l e R s m args below meth c H locs cells slots Q (F0 m pc ls st0) := by
  subst hfr
  obtain ⟨hP, hD, hS⟩ := hH
  have hFc := va_free (wc := wc) hD hS hF.2.2 _ (zr_c wr wc)
  intro T hT X
  obtain ⟨v, st₀, t, T', L, h0, X', hL, e1, e2, ⟨⟨hv, hP1, hD1⟩, hz, hk⟩, st⟩ := hr T hT X
  cases hv
  rw [h0] at hz hk
  obtain ⟨hP2, hD2⟩ := va_join (wr := wr) (w1 := w1) hP hD _ _ (zr_c wr wc) (zr_r wr wc) (zr_nd _ _) (fun i h1 h2 => by rw [List.mem_range'_1] at h1 h2; omega) hk hFc hP1 hD1
  have hS2 : va_S A s.heap T'.heap (locs ++ L) := ⟨Nat.le_trans hS.1 (by rw [e1]; exact hz), fun q h1 h2 => by rw [e1, hk q (Nat.lt_of_lt_of_le h1 hS.1) (fun z => h2 (hFc q z))]; exact hS.2.1 q h1 h2, fun q hq => by
      rcases List.mem_append.mp hq with h | h
      · exact hS.2.2 q h
      · exact hFc _ (hL q h)⟩
  obtain ⟨t2, a1, b1⟩ := kk T'.heap (locs ++ L) ⟨by rw [e1]; exact hP2, hD2, hS2⟩ T' rfl X'
  exact ⟨t2, st t2 a1, b1⟩
theorem z_calleV (wr : va_W) {wc w1 : va_W} {oc : Option Value} {mc ms n index maxL : Nat} {y : MethodName} {wy : List Cond} {rm : Room} {b : Nat} {As : List Value} {C : String} {bytes : ByteArray} {ret : Option FieldType} (S : CallFix p m c cc nL s args Ts own) (hF : zF G cy E A s) (hH : zH G A s H locs (wr ++ wc)) (hM : zM l G cy E y wy rm (.ref b :: As) wc w1 oc mc ms) (cw : CallW R s args own C index y bytes maxL ret wy rm mc ms n)
    (ci q0 : Nat) {T : u_T} {N : Nat} {fs : List Value} (hcl : vwCl[ci]? = some (C, T, N)) (hrec : wc[q0]? = some (b, .inr (ci, fs))) {st0 st1 : List Value} (hst : st0 = As.reverse ++ .ref b :: rest) (hst1 : oc.toList ++ rest = st1) (hna : As.length = n) (hl : ls.size = nL) (hW : (rest.map fun v => v.category).sum ≤ 8) (hdg : decode cc pc = .ok (.invokevirtual index, 3)) (hf : cells + mc ≤ R.cells ∧ slots + ms ≤ R.slots)
    (kk : ∀ (H1 : Heap) (locs1 : List Loc), zH G A s H1 locs1 (wr ++ w1) → W p l e R s m args below meth c H1 locs1 (cells + mc) (slots + ms) Q (F0 m (pc + 3) ls st1)) : W p l e R s m args below meth c H locs cells slots Q (F0 m pc ls st0) := by
  have hPc : va_P G vwCl wc H := ((z_aske hH hF (.ref b :: As)) { s with heap := H } rfl (State.WarmedH.refl s)).2.2.1
  exact z_callm hH hF rfl (va_runV (As := As) (rest := rest) S (hM H.size) cw ⟨zPre_blind, va_recv hF.1 hPc hcl hrec, z_aske hH hF _⟩ rfl hna hl hst (lv_room hW) hdg hf) (fun H1 locs1 h9 => by rw [hst1]; exact kk H1 locs1 h9)
theorem z_calleVX (wr : va_W) {wc : va_W} {n index maxL : Nat} {y : MethodName} {wy : List Cond} {rm : Room} {b : Nat} {As : List Value} {C : String} {bytes : ByteArray} {ret : Option FieldType} (S : CallFix p m c cc nL s args Ts own) (hF : zF G cy E A s) (hc1 : zxB s) (hH : zH G A s H locs (wr ++ wc)) (hM : zMX l G cy E y wy rm (.ref b :: As) wc) (cw : CallW R s args own C index y bytes maxL ret wy rm 1 6 n)
    (ci q0 : Nat) {T : u_T} {N : Nat} {fs : List Value} (hcl : vwCl[ci]? = some (C, T, N)) (hrec : wc[q0]? = some (b, .inr (ci, fs))) {st0 : List Value} (hst : st0 = As.reverse ++ .ref b :: rest) (hna : As.length = n) (hl : ls.size = nL) (hW : (rest.map fun v => v.category).sum ≤ 8) (hdg : decode cc pc = .ok (.invokevirtual index, 3)) (hf : cells + 1 ≤ R.cells ∧ slots + 6 ≤ R.slots)
    (kk : ∀ (q : Nat) (ce : Cell) (H1 : Heap) (locs1 : List Loc), zH G A s H1 locs1 (wr ++ wc) → H1[q]? = some ce → ce.vm = .none → s.vm.findClass zxN = some ce.cls → vx_W p l e R s m args below meth c H1 locs1 (cells + 1) (slots + 6) Q (F0 m pc ls rest) q) : W p l e R s m args below meth c H locs cells slots Q (F0 m pc ls st0) := by
  have hPc : va_P G vwCl wc H := ((z_aske hH hF (.ref b :: As)) { s with heap := H } rfl (State.WarmedH.refl s)).2.2.1
  have hr : vx_Run p l e R s m args below meth c H locs cells slots 1 6 (F0 m pc ls st0) rest (fun _ _ _ => False) (zXC G wc wc H.size) (va_A wc H.size) := vx_runV (As := As) (rest := rest) (g := F0 m pc ls st0) S (hM H.size) cw ⟨zc_blind, va_recv hF.1 hPc hcl hrec, zc_ask hc1 hH hF _ (zr_c wr wc) (zr_nd _ _) _⟩ rfl hna hl hst (lv_room hW) hdg hf
  obtain ⟨hP, hD, hS⟩ := hH
  have hFc := va_free (wc := wc) hD hS hF.2.2 _ (zr_c wr wc)
  intro T9 hT X
  rcases hr T9 hT X with ⟨v, st₀, t, T', L, h0, X', hL, e1, e2, hbad, st⟩ | ⟨q, st₀, t, T', L, E9, ce, h0, X', hL, e1, e2, ⟨rfl, hP1, hD1, hz, hk⟩, g1, g2, g3, st⟩
  · exact hbad.elim
  · rw [h0] at hz hk
    obtain ⟨hP2, hD2⟩ := va_join (wr := wr) (w1 := wc) hP hD _ _ (zr_c wr wc) (zr_r wr wc) (zr_nd _ _) (fun i h1 h2 => by rw [List.mem_range'_1] at h1 h2; omega) hk hFc hP1 hD1
    have hS2 : va_S A s.heap T'.heap (locs ++ L) := ⟨Nat.le_trans hS.1 (by rw [e1]; exact hz), fun q h1 h2 => by rw [e1, hk q (Nat.lt_of_lt_of_le h1 hS.1) (fun z => h2 (hFc q z))]; exact hS.2.1 q h1 h2, fun q hq => by
        rcases List.mem_append.mp hq with h | h
        · exact hS.2.2 q h
        · exact hFc _ (hL q h)⟩
    obtain ⟨t2, a1, b1⟩ := kk q ce T'.heap (locs ++ L) ⟨by rw [e1]; exact hP2, hD2, hS2⟩ (by rw [e1]; exact g1) g2 g3 T' rfl X'
    exact ⟨t2, st.trans a1, b1⟩
end ZL
abbrev rm_L : Room := { frames := 12, cells := 1, slots := 6, locals := 300 }
set_option maxHeartbeats 4000000 in
set_option maxRecDepth 100000 in
theorem c_L_wrong (l : Launch) (G : va_G) (cy : Nat → ClassId) (E : Nat → Nat) (wc : va_W) (q_t q_o : Nat) (fs : List Value) (x r : Int32) (f : Nat → Int64) (hrec : wc[0]? = some (q_t, .inr (12, fs))) (hM : zM l G cy E yX11_wrong wsX11_wrong rm_X11_wrong (.ref q_t :: [.int x]) wc wc (some (.int r)) 0 0) : zMc l G cy E yL_wrong wsL_wrong rm_L [.ref q_t, .int x, .ref q_o] ((q_o, .inl (cy 2, 1, .inr (.inl f))) :: wc) ((q_o, .inl (cy 2, 1, .inr (.inl (vp_updL f 0 r.toInt64)))) :: wc) (some (.int 0)) 1 6 := by
  refine z_bodyH (cc := cL_wrong) (maxL := 4) (ret := some .int) (hh := [(0, 9, 12, 13)]) (by decide) rfl (Nat.le_of_ble_eq_true rfl) ?_
  intro p e s m below meth c ls S hr hlocks hc1 htab hF hH hl
  have S : CallFix p m c cL_wrong 4 s ([.ref q_t, .int x, .ref q_o] : List Value).toArray wsL_wrong RL := S
  obtain ⟨hx, hb, hml, hown, hts⟩ := id S
  have hl : lv_has ls 4 [(0, .ref q_t), (1, .int x), (2, .ref q_o)] := hl
  refine lv_aload_n hx hb dL_wrong_0 rfl (lv_at hl 2 rfl) ?_
  refine lv_iconst (v := 0) hx hb dL_wrong_1 (by decide) ?_
  refine lv_aload_n hx hb dL_wrong_2 rfl (lv_at hl 0 rfl) ?_
  refine lv_iload_n hx hb dL_wrong_3 rfl (lv_at hl 1 rfl) ?_
  refine z_calleV [(q_o, .inl (cy 2, 1, .inr (.inl f)))] (As := [.int x]) (rest := [.int 0, .ref q_o]) (st1 := [.int r, .int 0, .ref q_o]) S hF hH hM (cwV 1 hts gL_wrong_X11_wrong rfl rfl rfl (by decide +kernel) ⟨Nat.le_of_ble_eq_true rfl, Nat.le_of_ble_eq_true rfl⟩) 12 0 rfl hrec rfl rfl rfl hl.1 (Nat.le_of_ble_eq_true rfl) dL_wrong_4 ⟨Nat.le_of_ble_eq_true rfl, Nat.le_of_ble_eq_true rfl⟩ (fun H locs hH => ?_)
  have hH : zH G (va_A ((q_o, .inl (cy 2, 1, .inr (.inl f))) :: wc) s.heap.size) s H locs ((q_o, .inl (cy 2, 1, .inr (.inl f))) :: wc) := hH
  refine lv_i2l (v := r.toInt64) hx hb dL_wrong_7 rfl ?_
  refine z_last (ws' := ((q_o, .inl (cy 2, 1, .inr (.inl (vp_updL f 0 r.toInt64)))) :: wc)) (j := 0) S hF hH 0 rfl (by decide) rfl rfl dL_wrong_8 (fun H locs hH => ?_)
  refine lv_goto (tgt := 15) hx hb dL_wrong_9 (by decide) ?_
  refine lv_iconst (v := 0) hx hb dL_wrong_15 (by decide) ?_
  refine W.widen (k := 1) (n := 6) (Nat.le_of_ble_eq_true rfl) (Nat.le_of_ble_eq_true rfl) ?_
  exact z_iret S hr hlocks hH dL_wrong_16
set_option maxHeartbeats 4000000 in
set_option maxRecDepth 100000 in
theorem x_L_wrong (l : Launch) (G : va_G) (cy : Nat → ClassId) (E : Nat → Nat) (wc : va_W) (q_t q_o : Nat) (fs : List Value) (x r : Int32) (f : Nat → Int64) (hrec : wc[0]? = some (q_t, .inr (12, fs))) (hM : zMX l G cy E yX11_wrong wsX11_wrong rm_X11_wrongT (.ref q_t :: [.int x]) wc) : zMc l G cy E yL_wrong wsL_wrong rm_L [.ref q_t, .int x, .ref q_o] ((q_o, .inl (cy 2, 1, .inr (.inl f))) :: wc) ((q_o, .inl (cy 2, 1, .inr (.inl f))) :: wc) (some (.int 1)) 1 6 := by
  refine z_bodyH (cc := cL_wrong) (maxL := 4) (ret := some .int) (hh := [(0, 9, 12, 13)]) (by decide) rfl (Nat.le_of_ble_eq_true rfl) ?_
  intro p e s m below meth c ls S hr hlocks hc1 htab hF hH hl
  have S : CallFix p m c cL_wrong 4 s ([.ref q_t, .int x, .ref q_o] : List Value).toArray wsL_wrong RL := S
  obtain ⟨hx, hb, hml, hown, hts⟩ := id S
  have hl : lv_has ls 4 [(0, .ref q_t), (1, .int x), (2, .ref q_o)] := hl
  refine lv_aload_n hx hb dL_wrong_0 rfl (lv_at hl 2 rfl) ?_
  refine lv_iconst (v := 0) hx hb dL_wrong_1 (by decide) ?_
  refine lv_aload_n hx hb dL_wrong_2 rfl (lv_at hl 0 rfl) ?_
  refine lv_iload_n hx hb dL_wrong_3 rfl (lv_at hl 1 rfl) ?_
  refine z_calleVX [(q_o, .inl (cy 2, 1, .inr (.inl f)))] (As := [.int x]) (rest := [.int 0, .ref q_o]) S hF hc1 hH hM (cwV 1 hts gL_wrong_X11_wrong rfl rfl rfl (by decide +kernel) ⟨Nat.le_of_ble_eq_true rfl, Nat.le_of_ble_eq_true rfl⟩) 12 0 rfl hrec rfl rfl hl.1 (Nat.le_of_ble_eq_true rfl) dL_wrong_4 ⟨Nat.le_of_ble_eq_true rfl, Nat.le_of_ble_eq_true rfl⟩ (fun q ce H locs hH g1 g2 g3 => ?_)
  have hH : zH G (va_A ((q_o, .inl (cy 2, 1, .inr (.inl f))) :: wc) s.heap.size) s H locs ((q_o, .inl (cy 2, 1, .inr (.inl f))) :: wc) := hH
  refine vx_catch (own := RL) (name := zxN) (E := zxN) hown [] ⟨0, 9, 12, 13⟩ [] htab (fun z hz => nomatch hz) (by decide) (by decide) (hts _ (List.mem_of_getElem? (i := 1) rfl)) (va_Nw.use rfl hc1.1) g1 g2 g3 ?_
  refine lv_astore_n (lv' := [(3, .ref q), (0, .ref q_t), (1, .int x), (2, .ref q_o)]) hx hb dL_wrong_12 rfl hl (by decide) rfl (fun ls hl => ?_)
  refine lv_iconst (v := 1) hx hb dL_wrong_13 (by decide) ?_
  exact z_iret S hr hlocks hH dL_wrong_14
set_option maxHeartbeats 4000000 in
set_option maxRecDepth 100000 in
theorem c_L_master (l : Launch) (G : va_G) (cy : Nat → ClassId) (E : Nat → Nat) (wc : va_W) (q_t q_o : Nat) (fs : List Value) (x y r : Int32) (f : Nat → Int64) (hrec : wc[0]? = some (q_t, .inr (12, fs))) (hM : zM l G cy E yX11_master wsX11_master rm_X11_master (.ref q_t :: [.int x, .int y]) wc wc (some (.int r)) 0 0) : zMc l G cy E yL_master wsL_master rm_L [.ref q_t, .int x, .int y, .ref q_o] ((q_o, .inl (cy 2, 1, .inr (.inl f))) :: wc) ((q_o, .inl (cy 2, 1, .inr (.inl (vp_updL f 0 r.toInt64)))) :: wc) (some (.int 0)) 1 6 := by
  refine z_bodyH (cc := cL_master) (maxL := 5) (ret := some .int) (hh := [(0, 10, 13, 13)]) (by decide) rfl (Nat.le_of_ble_eq_true rfl) ?_
  intro p e s m below meth c ls S hr hlocks hc1 htab hF hH hl
  have S : CallFix p m c cL_master 5 s ([.ref q_t, .int x, .int y, .ref q_o] : List Value).toArray wsL_master RL := S
  obtain ⟨hx, hb, hml, hown, hts⟩ := id S
  have hl : lv_has ls 5 [(0, .ref q_t), (1, .int x), (2, .int y), (3, .ref q_o)] := hl
  refine lv_aload_n hx hb dL_master_0 rfl (lv_at hl 3 rfl) ?_
  refine lv_iconst (v := 0) hx hb dL_master_1 (by decide) ?_
  refine lv_aload_n hx hb dL_master_2 rfl (lv_at hl 0 rfl) ?_
  refine lv_iload_n hx hb dL_master_3 rfl (lv_at hl 1 rfl) ?_
  refine lv_iload_n hx hb dL_master_4 rfl (lv_at hl 2 rfl) ?_
  refine z_calleV [(q_o, .inl (cy 2, 1, .inr (.inl f)))] (As := [.int x, .int y]) (rest := [.int 0, .ref q_o]) (st1 := [.int r, .int 0, .ref q_o]) S hF hH hM (cwV 2 hts gL_master_X11_master rfl rfl rfl (by decide +kernel) ⟨Nat.le_of_ble_eq_true rfl, Nat.le_of_ble_eq_true rfl⟩) 12 0 rfl hrec rfl rfl rfl hl.1 (Nat.le_of_ble_eq_true rfl) dL_master_5 ⟨Nat.le_of_ble_eq_true rfl, Nat.le_of_ble_eq_true rfl⟩ (fun H locs hH => ?_)
  have hH : zH G (va_A ((q_o, .inl (cy 2, 1, .inr (.inl f))) :: wc) s.heap.size) s H locs ((q_o, .inl (cy 2, 1, .inr (.inl f))) :: wc) := hH
  refine lv_i2l (v := r.toInt64) hx hb dL_master_8 rfl ?_
  refine z_last (ws' := ((q_o, .inl (cy 2, 1, .inr (.inl (vp_updL f 0 r.toInt64)))) :: wc)) (j := 0) S hF hH 0 rfl (by decide) rfl rfl dL_master_9 (fun H locs hH => ?_)
  refine lv_goto (tgt := 17) hx hb dL_master_10 (by decide) ?_
  refine lv_iconst (v := 0) hx hb dL_master_17 (by decide) ?_
  refine W.widen (k := 1) (n := 6) (Nat.le_of_ble_eq_true rfl) (Nat.le_of_ble_eq_true rfl) ?_
  exact z_iret S hr hlocks hH dL_master_18
set_option maxHeartbeats 4000000 in
set_option maxRecDepth 100000 in
theorem x_L_master (l : Launch) (G : va_G) (cy : Nat → ClassId) (E : Nat → Nat) (wc : va_W) (q_t q_o : Nat) (fs : List Value) (x y r : Int32) (f : Nat → Int64) (hrec : wc[0]? = some (q_t, .inr (12, fs))) (hM : zMX l G cy E yX11_master wsX11_master rm_X11_masterT (.ref q_t :: [.int x, .int y]) wc) : zMc l G cy E yL_master wsL_master rm_L [.ref q_t, .int x, .int y, .ref q_o] ((q_o, .inl (cy 2, 1, .inr (.inl f))) :: wc) ((q_o, .inl (cy 2, 1, .inr (.inl f))) :: wc) (some (.int 1)) 1 6 := by
  refine z_bodyH (cc := cL_master) (maxL := 5) (ret := some .int) (hh := [(0, 10, 13, 13)]) (by decide) rfl (Nat.le_of_ble_eq_true rfl) ?_
  intro p e s m below meth c ls S hr hlocks hc1 htab hF hH hl
  have S : CallFix p m c cL_master 5 s ([.ref q_t, .int x, .int y, .ref q_o] : List Value).toArray wsL_master RL := S
  obtain ⟨hx, hb, hml, hown, hts⟩ := id S
  have hl : lv_has ls 5 [(0, .ref q_t), (1, .int x), (2, .int y), (3, .ref q_o)] := hl
  refine lv_aload_n hx hb dL_master_0 rfl (lv_at hl 3 rfl) ?_
  refine lv_iconst (v := 0) hx hb dL_master_1 (by decide) ?_
  refine lv_aload_n hx hb dL_master_2 rfl (lv_at hl 0 rfl) ?_
  refine lv_iload_n hx hb dL_master_3 rfl (lv_at hl 1 rfl) ?_
  refine lv_iload_n hx hb dL_master_4 rfl (lv_at hl 2 rfl) ?_
  refine z_calleVX [(q_o, .inl (cy 2, 1, .inr (.inl f)))] (As := [.int x, .int y]) (rest := [.int 0, .ref q_o]) S hF hc1 hH hM (cwV 2 hts gL_master_X11_master rfl rfl rfl (by decide +kernel) ⟨Nat.le_of_ble_eq_true rfl, Nat.le_of_ble_eq_true rfl⟩) 12 0 rfl hrec rfl rfl hl.1 (Nat.le_of_ble_eq_true rfl) dL_master_5 ⟨Nat.le_of_ble_eq_true rfl, Nat.le_of_ble_eq_true rfl⟩ (fun q ce H locs hH g1 g2 g3 => ?_)
  have hH : zH G (va_A ((q_o, .inl (cy 2, 1, .inr (.inl f))) :: wc) s.heap.size) s H locs ((q_o, .inl (cy 2, 1, .inr (.inl f))) :: wc) := hH
  refine vx_catch (own := RL) (name := zxN) (E := zxN) hown [] ⟨0, 10, 13, 13⟩ [] htab (fun z hz => nomatch hz) (by decide) (by decide) (hts _ (List.mem_of_getElem? (i := 1) rfl)) (va_Nw.use rfl hc1.1) g1 g2 g3 ?_
  refine lv_astore (lv' := [(4, .ref q), (0, .ref q_t), (1, .int x), (2, .int y), (3, .ref q_o)]) hx hb dL_master_13 hl (by decide) rfl (fun ls hl => ?_)
  refine lv_iconst (v := 1) hx hb dL_master_15 (by decide) ?_
  exact z_iret S hr hlocks hH dL_master_16
set_option maxHeartbeats 4000000 in
set_option maxRecDepth 100000 in
theorem c_L_mean (l : Launch) (G : va_G) (cy : Nat → ClassId) (E : Nat → Nat) (wc : va_W) (q_t q_o : Nat) (fs : List Value) (x r : Int32) (f : Nat → Int64) (hrec : wc[0]? = some (q_t, .inr (12, fs))) (hM : zM l G cy E yX11_mean wsX11_mean rm_X11_mean (.ref q_t :: [.int x]) wc wc (some (.int r)) 0 0) : zMc l G cy E yL_mean wsL_mean rm_L [.ref q_t, .int x, .ref q_o] ((q_o, .inl (cy 2, 1, .inr (.inl f))) :: wc) ((q_o, .inl (cy 2, 1, .inr (.inl (vp_updL f 0 r.toInt64)))) :: wc) (some (.int 0)) 1 6 := by
  refine z_bodyH (cc := cL_mean) (maxL := 4) (ret := some .int) (hh := [(0, 9, 12, 13)]) (by decide) rfl (Nat.le_of_ble_eq_true rfl) ?_
  intro p e s m below meth c ls S hr hlocks hc1 htab hF hH hl
  have S : CallFix p m c cL_mean 4 s ([.ref q_t, .int x, .ref q_o] : List Value).toArray wsL_mean RL := S
  obtain ⟨hx, hb, hml, hown, hts⟩ := id S
  have hl : lv_has ls 4 [(0, .ref q_t), (1, .int x), (2, .ref q_o)] := hl
  refine lv_aload_n hx hb dL_mean_0 rfl (lv_at hl 2 rfl) ?_
  refine lv_iconst (v := 0) hx hb dL_mean_1 (by decide) ?_
  refine lv_aload_n hx hb dL_mean_2 rfl (lv_at hl 0 rfl) ?_
  refine lv_iload_n hx hb dL_mean_3 rfl (lv_at hl 1 rfl) ?_
  refine z_calleV [(q_o, .inl (cy 2, 1, .inr (.inl f)))] (As := [.int x]) (rest := [.int 0, .ref q_o]) (st1 := [.int r, .int 0, .ref q_o]) S hF hH hM (cwV 1 hts gL_mean_X11_mean rfl rfl rfl (by decide +kernel) ⟨Nat.le_of_ble_eq_true rfl, Nat.le_of_ble_eq_true rfl⟩) 12 0 rfl hrec rfl rfl rfl hl.1 (Nat.le_of_ble_eq_true rfl) dL_mean_4 ⟨Nat.le_of_ble_eq_true rfl, Nat.le_of_ble_eq_true rfl⟩ (fun H locs hH => ?_)
  have hH : zH G (va_A ((q_o, .inl (cy 2, 1, .inr (.inl f))) :: wc) s.heap.size) s H locs ((q_o, .inl (cy 2, 1, .inr (.inl f))) :: wc) := hH
  refine lv_i2l (v := r.toInt64) hx hb dL_mean_7 rfl ?_
  refine z_last (ws' := ((q_o, .inl (cy 2, 1, .inr (.inl (vp_updL f 0 r.toInt64)))) :: wc)) (j := 0) S hF hH 0 rfl (by decide) rfl rfl dL_mean_8 (fun H locs hH => ?_)
  refine lv_goto (tgt := 15) hx hb dL_mean_9 (by decide) ?_
  refine lv_iconst (v := 0) hx hb dL_mean_15 (by decide) ?_
  refine W.widen (k := 1) (n := 6) (Nat.le_of_ble_eq_true rfl) (Nat.le_of_ble_eq_true rfl) ?_
  exact z_iret S hr hlocks hH dL_mean_16
set_option maxHeartbeats 4000000 in
set_option maxRecDepth 100000 in
theorem x_L_mean (l : Launch) (G : va_G) (cy : Nat → ClassId) (E : Nat → Nat) (wc : va_W) (q_t q_o : Nat) (fs : List Value) (x r : Int32) (f : Nat → Int64) (hrec : wc[0]? = some (q_t, .inr (12, fs))) (hM : zMX l G cy E yX11_mean wsX11_mean rm_X11_meanT (.ref q_t :: [.int x]) wc) : zMc l G cy E yL_mean wsL_mean rm_L [.ref q_t, .int x, .ref q_o] ((q_o, .inl (cy 2, 1, .inr (.inl f))) :: wc) ((q_o, .inl (cy 2, 1, .inr (.inl f))) :: wc) (some (.int 1)) 1 6 := by
  refine z_bodyH (cc := cL_mean) (maxL := 4) (ret := some .int) (hh := [(0, 9, 12, 13)]) (by decide) rfl (Nat.le_of_ble_eq_true rfl) ?_
  intro p e s m below meth c ls S hr hlocks hc1 htab hF hH hl
  have S : CallFix p m c cL_mean 4 s ([.ref q_t, .int x, .ref q_o] : List Value).toArray wsL_mean RL := S
  obtain ⟨hx, hb, hml, hown, hts⟩ := id S
  have hl : lv_has ls 4 [(0, .ref q_t), (1, .int x), (2, .ref q_o)] := hl
  refine lv_aload_n hx hb dL_mean_0 rfl (lv_at hl 2 rfl) ?_
  refine lv_iconst (v := 0) hx hb dL_mean_1 (by decide) ?_
  refine lv_aload_n hx hb dL_mean_2 rfl (lv_at hl 0 rfl) ?_
  refine lv_iload_n hx hb dL_mean_3 rfl (lv_at hl 1 rfl) ?_
  refine z_calleVX [(q_o, .inl (cy 2, 1, .inr (.inl f)))] (As := [.int x]) (rest := [.int 0, .ref q_o]) S hF hc1 hH hM (cwV 1 hts gL_mean_X11_mean rfl rfl rfl (by decide +kernel) ⟨Nat.le_of_ble_eq_true rfl, Nat.le_of_ble_eq_true rfl⟩) 12 0 rfl hrec rfl rfl hl.1 (Nat.le_of_ble_eq_true rfl) dL_mean_4 ⟨Nat.le_of_ble_eq_true rfl, Nat.le_of_ble_eq_true rfl⟩ (fun q ce H locs hH g1 g2 g3 => ?_)
  have hH : zH G (va_A ((q_o, .inl (cy 2, 1, .inr (.inl f))) :: wc) s.heap.size) s H locs ((q_o, .inl (cy 2, 1, .inr (.inl f))) :: wc) := hH
  refine vx_catch (own := RL) (name := zxN) (E := zxN) hown [] ⟨0, 9, 12, 13⟩ [] htab (fun z hz => nomatch hz) (by decide) (by decide) (hts _ (List.mem_of_getElem? (i := 1) rfl)) (va_Nw.use rfl hc1.1) g1 g2 g3 ?_
  refine lv_astore_n (lv' := [(3, .ref q), (0, .ref q_t), (1, .int x), (2, .ref q_o)]) hx hb dL_mean_12 rfl hl (by decide) rfl (fun ls hl => ?_)
  refine lv_iconst (v := 1) hx hb dL_mean_13 (by decide) ?_
  exact z_iret S hr hlocks hH dL_mean_14
