/-! ===== a call whose cells are the world's last ===== -/
theorem zr_map : ∀ (w pre suf : va_W), (List.range' pre.length w.length).map (fun i => (pre ++ (w ++ suf))[i]?) = w.map some
  | [], _, _ => rfl
  | x :: w, pre, suf => by
    have ih := zr_map w (pre ++ [x]) suf
    have e1 : (pre ++ [x]).length = pre.length + 1 := by simp
    have e2 : (pre ++ [x]) ++ (w ++ suf) = pre ++ ((x :: w) ++ suf) := by simp
    rw [e1, e2] at ih
    rw [List.length_cons, List.range'_succ, List.map_cons, List.map_cons, ih]
    congr 1
    rw [List.getElem?_append_right (Nat.le_refl _), Nat.sub_self]
    rfl
theorem zr_nd : ∀ (n a : Nat), va_nd (List.range' a n) = true
  | 0, _ => rfl
  | n + 1, a => by
    rw [List.range'_succ]
    show (decide (a ∉ List.range' (a + 1) n) && va_nd (List.range' (a + 1) n)) = true
    rw [zr_nd n (a + 1), Bool.and_true, decide_eq_true_eq, List.mem_range'_1]
    omega
section ZE
variable {p : Program} {l : Launch} {e : Env} {R : Room} {s : State} {m : MethodId} {args : Array Value} {below : List Frame} {meth : Method} {c : Code} {H : Heap} {locs : List Loc} {cells slots : Nat} {Q : State → Prop}
variable {cc : ByteArray} {pc nL : Nat} {ls : Array Slot} {rest : List Value} {G : va_G} {cy : Nat → ClassId} {E : Nat → Nat} {A : Nat → Prop} {a : Nat} {ws ws' w w' : va_W} {Ts : List Cond} {own : String}
theorem zH_perm (hp : ws.Perm ws') (hH : zH G A s H locs ws) : zH G A s H locs ws' := by
  obtain ⟨hP, hD, hS⟩ := hH
  have key : ∀ (k : Nat) (q : Nat × va_E), ws'[k]? = some q → ∃ i : Nat, ws[i]? = some q := fun k q hk => List.mem_iff_getElem?.mp (hp.mem_iff.mpr (List.mem_of_getElem? hk))
  have h1 : ws.Pairwise (fun x y => x.1 ≠ y.1) := List.pairwise_iff_getElem.mpr (fun i j hi hj hij h => by
    have := hD.1 i j ws[i] ws[j] (List.getElem?_eq_getElem hi) (List.getElem?_eq_getElem hj) h
    omega)
  have h2 : ws'.Pairwise (fun x y => x.1 ≠ y.1) := hp.pairwise h1 (fun h => Ne.symm h)
  have h3 := List.pairwise_iff_getElem.mp h2
  refine ⟨fun k q hk => ?_, ⟨fun i j x y hi hj hxy => ?_, fun k q hk => ?_⟩, hS⟩
  · obtain ⟨i, hi⟩ := key k q hk
    exact hP i q hi
  · obtain ⟨a1, a2⟩ := List.getElem?_eq_some_iff.mp hi
    obtain ⟨b1, b2⟩ := List.getElem?_eq_some_iff.mp hj
    rcases Nat.lt_trichotomy i j with h | h | h
    · exact absurd (by rw [a2, b2]; exact hxy) (h3 i j a1 b1 h)
    · exact h
    · exact absurd (by rw [a2, b2]; exact hxy.symm) (h3 j i b1 a1 h)
  · obtain ⟨i, hi⟩ := key k q hk
    exact hD.2 i q hi
theorem zH_mv (X P Y : va_W) (hH : zH G A s H locs ((X ++ P) ++ Y)) : zH G A s H locs (X ++ (Y ++ P)) := by
  rw [List.append_assoc] at hH
  exact zH_perm (List.Perm.append_left X List.perm_append_comm) hH
theorem zH_pk (X : va_W) {P P' : va_W} (h : P' = P) (hH : zH G A s H locs (X ++ P)) : zH G A s H locs (X ++ P') := by rw [h]; exact hH
theorem z_calle {wc wr : va_W} {w1 : (Nat → Nat) → va_W} {oc : Option Value} {mc ms : Nat} {st0 : List Value} {a9 : Array Value} {free : Addr → Prop} (hH : zH G A s H locs (wr ++ wc)) (hF : zF G cy E A s)
    (hfr : free = va_A wc H.size) (hr : va_Run p l e R s m args below meth c H locs cells slots mc ms (F0 m pc ls st0) rest (zQx G wc w1 H.size oc a9) free)
    (kk : ∀ (q : Nat → Nat) (H1 : Heap) (locs1 : List Loc), zH G A s H1 locs1 (wr ++ w1 q) → W p l e R s m args below meth c H1 locs1 (cells + mc) (slots + ms) Q (F0 m (pc + 3) ls (oc.toList ++ rest))) : W p l e R s m args below meth c H locs cells slots Q (F0 m pc ls st0) := by
  subst hfr
  have hC : (List.range' wr.length wc.length).map (fun i => (wr ++ wc)[i]?) = wc.map some := by have := zr_map wc wr []; rw [List.append_nil] at this; exact this
  have hR : (List.range' 0 wr.length).map (fun i => (wr ++ wc)[i]?) = wr.map some := zr_map wr [] wc
  obtain ⟨hP, hD, hS⟩ := hH
  have hFc := va_free (wc := wc) hD hS hF.2.2 _ hC
  intro T hT X
  obtain ⟨v, st₀, t, T', L, h0, X', hL, e1, e2, ⟨⟨hv, q, hP1, hD1⟩, hz, hk⟩, st⟩ := hr T hT X
  cases hv
  rw [h0] at hz hk
  obtain ⟨hP2, hD2⟩ := va_join (wr := wr) (w1 := w1 q) hP hD _ _ hC hR (zr_nd _ _) (fun i h1 h2 => by rw [List.mem_range'_1] at h1 h2; omega) hk hFc hP1 hD1
  have hS2 : va_S A s.heap T'.heap (locs ++ L) := ⟨Nat.le_trans hS.1 (by rw [e1]; exact hz), fun q h1 h2 => by rw [e1, hk q (Nat.lt_of_lt_of_le h1 hS.1) (fun z => h2 (hFc q z))]; exact hS.2.1 q h1 h2, fun q hq => by
      rcases List.mem_append.mp hq with h | h
      · exact hS.2.2 q h
      · exact hFc _ (hL q h)⟩
  obtain ⟨t2, a1, b1⟩ := kk q T'.heap (locs ++ L) ⟨by rw [e1]; exact hP2, hD2, hS2⟩ T' rfl X'
  exact ⟨t2, st t2 a1, b1⟩
theorem z_aske {wc wr : va_W} (hH : zH G A s H locs (wr ++ wc)) (hF : zF G cy E A s) (av : List Value) : ∀ U : State, U.heap = H → s.WarmedH U.vm → va_Pc av (zPre G cy E wc H.size) av.toArray U :=
  z_ask hH hF (List.range' wr.length wc.length) (by have := zr_map wc wr []; rw [List.append_nil] at this; exact this) (zr_nd _ _) av
theorem z_calleI (wr : va_W) {wc : va_W} {w1 : (Nat → Nat) → va_W} {oc : Option Value} {mc ms n index maxL : Nat} {y : MethodName} {wy : List Cond} {rm : Room} {b : Nat} {As : List Value} {bytes : ByteArray} (S : CallFix p m c cc nL s args Ts own) (hF : zF G cy E A s) (hH : zH G A s H locs (wr ++ wc)) (hM : zMx l G cy E y wy rm (.ref b :: As) wc w1 oc mc ms) (cw : CallB R s args own index y bytes maxL none wy rm mc ms n ∧ y.name = "<init>" ∧ (Cond.instanceMethod y).before args s = true)
    {st0 st1 : List Value} (hst : st0 = As.reverse ++ .ref b :: rest) (hst1 : oc.toList ++ rest = st1) (hna : As.length = n) (hl : ls.size = nL) (hW : (rest.map fun v => v.category).sum ≤ 8) (hdg : decode cc pc = .ok (.invokespecial index, 3)) (hf : cells + mc ≤ R.cells ∧ slots + ms ≤ R.slots)
    (kk : ∀ (q : Nat → Nat) (H1 : Heap) (locs1 : List Loc), zH G A s H1 locs1 (wr ++ w1 q) → W p l e R s m args below meth c H1 locs1 (cells + mc) (slots + ms) Q (F0 m (pc + 3) ls st1)) : W p l e R s m args below meth c H locs cells slots Q (F0 m pc ls st0) :=
  z_calle hH hF rfl (va_runI (As := As) (rest := rest) S (hM H.size) cw ⟨zPre_blind, z_aske hH hF _⟩ rfl hna hl hst (lv_room hW) hdg hf) (fun q H1 locs1 h9 => by rw [hst1]; exact kk q H1 locs1 h9)
theorem z_calleIN (wr : va_W) {wc : va_W} {w1 : (Nat → Nat) → va_W} {oc : Option Value} {mc ms n index maxL : Nat} {y : MethodName} {wy : List Cond} {rm : Room} {b : Nat} {As : List Value} {bytes : ByteArray} {host : String} (S : CallFix p m c cc nL s args Ts own) (hF : zF G cy E A s) (hH : zH G A s H locs (wr ++ wc)) (hM : zMx l G cy E y wy rm (.ref b :: As) wc w1 oc mc ms) (cw : va_CN R s args own index y host bytes maxL none wy rm mc ms n ∧ y.name = "<init>" ∧ (Cond.instanceMethod y).before args s = true)
    {st0 st1 : List Value} (hst : st0 = As.reverse ++ .ref b :: rest) (hst1 : oc.toList ++ rest = st1) (hna : As.length = n) (hl : ls.size = nL) (hW : (rest.map fun v => v.category).sum ≤ 8) (hdg : decode cc pc = .ok (.invokespecial index, 3)) (hf : cells + mc ≤ R.cells ∧ slots + ms ≤ R.slots)
    (kk : ∀ (q : Nat → Nat) (H1 : Heap) (locs1 : List Loc), zH G A s H1 locs1 (wr ++ w1 q) → W p l e R s m args below meth c H1 locs1 (cells + mc) (slots + ms) Q (F0 m (pc + 3) ls st1)) : W p l e R s m args below meth c H locs cells slots Q (F0 m pc ls st0) :=
  z_calle hH hF rfl (va_runIN (As := As) (rest := rest) S (hM H.size) cw ⟨zPre_blind, z_aske hH hF _⟩ rfl hna hl hst (lv_room hW) hdg hf) (fun q H1 locs1 h9 => by rw [hst1]; exact kk q H1 locs1 h9)
end ZE
