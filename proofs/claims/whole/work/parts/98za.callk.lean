/-! ===== a call over a list of cells of which the callee's own are some, whatever lies before and behind ===== -/
/-- the cells that a mask leaves alone are the same in both lists -/
def zfr : List Bool → va_W → va_W → Prop
  | [], w, w' => w = [] ∧ w' = []
  | b :: bs, w, w' => ∃ (x : Nat × va_E) (v : va_W) (y : Nat × va_E) (v' : va_W), w = x :: v ∧ w' = y :: v' ∧ (b = false → x = y) ∧ zfr bs v v'
theorem zf_n : zfr [] [] [] := ⟨rfl, rfl⟩
theorem zf_t {b : List Bool} {x y : Nat × va_E} {w w' : va_W} (h : zfr b w w') : zfr (true :: b) (x :: w) (y :: w') := ⟨x, w, y, w', rfl, rfl, fun e => Bool.noConfusion e, h⟩
theorem zf_f {b : List Bool} {x : Nat × va_E} {w w' : va_W} (h : zfr b w w') : zfr (false :: b) (x :: w) (x :: w') := ⟨x, w, x, w', rfl, rfl, fun _ => rfl, h⟩
theorem zf_use : ∀ (b : List Bool) (w w' : va_W), zfr b w w' → w.length = b.length ∧ w'.length = b.length ∧ ∀ i : Nat, b[i]? = some false → w[i]? = w'[i]? := by
  intro b
  induction b with
  | nil =>
    intro w w' h
    obtain ⟨h1, h2⟩ := h
    subst h1
    subst h2
    exact ⟨rfl, rfl, fun i _ => rfl⟩
  | cons b bs ih =>
    intro w w' h
    obtain ⟨x, v, y, v', h1, h2, he, ht⟩ := h
    subst h1
    subst h2
    obtain ⟨h1, h2, h3⟩ := ih v v' ht
    refine ⟨by rw [List.length_cons, List.length_cons, h1], by rw [List.length_cons, List.length_cons, h2], fun i hi => ?_⟩
    cases i with
    | zero =>
      have hb : b = false := by simpa using hi
      show some x = some y
      rw [he hb]
    | succ i =>
      rw [List.getElem?_cons_succ] at hi
      rw [List.getElem?_cons_succ, List.getElem?_cons_succ]
      exact h3 i hi
/-- a method that answers v and makes the list W into W' -/
def KM (l : Launch) (G : va_G) (cy : Nat → ClassId) (E : Nat → Nat) (y : MethodName) (wy : List Cond) (rm : Room) (As : List Value) (v : Int32) (W W' : va_W) (b ci : Nat) : Prop := ∃ (wc w1 : va_W) (isC : List Nat) (fs : List Value), zM l G cy E y wy rm (.ref b :: As) wc w1 (some (.int v)) 0 0 ∧ va_nd isC = true ∧ w1.map (fun q => q.1) = wc.map (fun q => q.1) ∧ wc[0]? = some (b, .inr (ci, fs)) ∧ ∃ bs : List Bool, (∀ i, i < bs.length → i ∈ isC ∨ bs[i]? = some false) ∧ zfr bs W W' ∧ isC.map (fun i => W[i]?) = wc.map some ∧ isC.map (fun i => W'[i]?) = w1.map some
theorem zk_at {W wc : va_W} {isC : List Nat} (h : isC.map (fun i => W[i]?) = wc.map some) {i j : Nat} (hj : isC[j]? = some i) : ∃ x, wc[j]? = some x ∧ W[i]? = some x := by
  have e1 : (isC.map (fun i => W[i]?))[j]? = (wc.map some)[j]? := by rw [h]
  rw [List.getElem?_map, hj, List.getElem?_map] at e1
  cases hw : wc[j]? with
  | none => rw [hw] at e1; cases e1
  | some x => rw [hw] at e1; exact ⟨x, rfl, Option.some.inj e1⟩
theorem zk_pl {W wc P : va_W} {isC : List Nat} (h : isC.map (fun i => W[i]?) = wc.map some) : isC.map (fun i => (W ++ P)[i]?) = wc.map some := by
  rw [← h]
  apply List.map_congr_left
  intro i hi
  obtain ⟨j, hj⟩ := List.mem_iff_getElem?.mp hi
  obtain ⟨x, -, f⟩ := zk_at h hj
  exact List.getElem?_append_left (List.getElem?_eq_some_iff.mp f).1
/-- from places to what z_callq asks -/
theorem zk_key {W W' wc w1 P : va_W} {isC : List Nat} {bs : List Bool} (had : w1.map (fun q => q.1) = wc.map (fun q => q.1)) (hcov : ∀ i, i < bs.length → i ∈ isC ∨ bs[i]? = some false) (hz : zfr bs W W') (hC : isC.map (fun i => W[i]?) = wc.map some) (hC' : isC.map (fun i => W'[i]?) = w1.map some) :
    ∀ (k : Nat) (q : Nat × va_E), (W' ++ P)[k]? = some q → ∃ x0, (W ++ P)[k]? = some x0 ∧ x0.1 = q.1 ∧ ((∃ j : Nat, isC[j]? = some k ∧ w1[j]? = some q) ∨ (k ∉ isC ∧ x0 = q)) := by
  obtain ⟨hn, hn', hR⟩ := zf_use bs W W' hz
  intro k q h
  by_cases hk : k < bs.length
  · have g1 : k < W'.length := by omega
    have g2 : k < W.length := by omega
    rw [List.getElem?_append_left g1] at h
    rw [List.getElem?_append_left g2]
    by_cases hc : k ∈ isC
    · obtain ⟨j, hj⟩ := List.mem_iff_getElem?.mp hc
      obtain ⟨x, h1, f1⟩ := zk_at hC hj
      obtain ⟨y, h2, f2⟩ := zk_at hC' hj
      rw [h] at f2
      cases f2
      have e3 : (w1.map (fun q => q.1))[j]? = (wc.map (fun q => q.1))[j]? := by rw [had]
      rw [List.getElem?_map, List.getElem?_map, h1, h2] at e3
      exact ⟨x, f1, (Option.some.inj e3).symm, Or.inl ⟨j, hj, h2⟩⟩
    · have hr := (hcov k hk).resolve_left hc
      have f1 : W[k]? = W'[k]? := hR k hr
      exact ⟨q, f1.trans h, rfl, Or.inr ⟨hc, rfl⟩⟩
  · have g1 : W'.length ≤ k := by omega
    have g2 : W.length ≤ k := by omega
    rw [List.getElem?_append_right g1] at h
    refine ⟨q, ?_, rfl, Or.inr ⟨fun hc => ?_, rfl⟩⟩
    · rw [List.getElem?_append_right g2, hn, ← hn']
      exact h
    · obtain ⟨j, hj⟩ := List.mem_iff_getElem?.mp hc
      obtain ⟨x, -, f⟩ := zk_at hC hj
      exact absurd (List.getElem?_eq_some_iff.mp f).1 (by omega)
section ZK
variable {p : Program} {l : Launch} {e : Env} {R : Room} {s : State} {m : MethodId} {args : Array Value} {below : List Frame} {meth : Method} {c : Code} {H : Heap} {locs : List Loc} {cells slots : Nat} {Q : State → Prop}
variable {cc : ByteArray} {pc nL : Nat} {ls : Array Slot} {rest : List Value} {G : va_G} {cy : Nat → ClassId} {E : Nat → Nat} {A : Nat → Prop} {ws ws' : va_W} {Ts : List Cond} {own : String}
theorem z_callq {wc w1 : va_W} {oc : Option Value} {mc ms : Nat} {st0 : List Value} {a9 : Array Value} {free : Addr → Prop} (hH : zH G A s H locs ws) (hF : zF G cy E A s) (isC : List Nat) (hC : isC.map (fun i => ws[i]?) = wc.map some)
    (hkey : ∀ (k : Nat) (q : Nat × va_E), ws'[k]? = some q → ∃ x0, ws[k]? = some x0 ∧ x0.1 = q.1 ∧ ((∃ j : Nat, isC[j]? = some k ∧ w1[j]? = some q) ∨ (k ∉ isC ∧ x0 = q)))
    (hfr : free = va_A wc H.size) (hr : va_Run p l e R s m args below meth c H locs cells slots mc ms (F0 m pc ls st0) rest (zQ G wc w1 H.size oc a9) free)
    (kk : ∀ (H1 : Heap) (locs1 : List Loc), zH G A s H1 locs1 ws' → W p l e R s m args below meth c H1 locs1 (cells + mc) (slots + ms) Q (F0 m (pc + 3) ls (oc.toList ++ rest))) : W p l e R s m args below meth c H locs cells slots Q (F0 m pc ls st0) := by
  subst hfr
  obtain ⟨hP, hD, hS⟩ := hH
  have hFc := va_free (wc := wc) hD hS hF.2.2 isC hC
  intro T hT X
  obtain ⟨v, st₀, t, T', L, h0, X', hL, e1, e2, ⟨⟨hv, hP1, hD1⟩, hz, hk⟩, st⟩ := hr T hT X
  cases hv
  rw [h0] at hz hk
  have hS2 : va_S A s.heap T'.heap (locs ++ L) := ⟨Nat.le_trans hS.1 (by rw [e1]; exact hz), fun q h1 h2 => by rw [e1, hk q (Nat.lt_of_lt_of_le h1 hS.1) (fun z => h2 (hFc q z))]; exact hS.2.1 q h1 h2, fun q hq => by
      rcases List.mem_append.mp hq with h | h
      · exact hS.2.2 q h
      · exact hFc _ (hL q h)⟩
  have hD3 : va_D A ws' := by
    refine ⟨fun i j x y hi hj hxy => ?_, fun k q hq => ?_⟩
    · obtain ⟨x0, f1, f2, -⟩ := hkey i x hi
      obtain ⟨y0, f3, f4, -⟩ := hkey j y hj
      exact hD.1 i j x0 y0 f1 f3 (f2.trans (hxy.trans f4.symm))
    · obtain ⟨x0, f1, f2, -⟩ := hkey k q hq
      rw [← f2]
      exact hD.2 k x0 f1
  have hP3 : va_P G vwCl ws' T'.heap := by
    intro k q hq
    obtain ⟨x0, f1, f2, f3⟩ := hkey k q hq
    rw [e1]
    rcases f3 with ⟨j, -, g2⟩ | ⟨hno, hx0⟩
    · exact hP1 j q g2
    · rw [hx0] at f1
      have hl := (hP k q f1).lt
      refine (hP k q f1).kept (hk q.1 hl (fun z => ?_))
      rcases z with ⟨k2, e9, h9⟩ | h9
      · have h1 : (isC.map (fun i => ws[i]?))[k2]? = some (some (q.1, e9)) := by rw [hC, List.getElem?_map, h9]; rfl
        rw [List.getElem?_map] at h1
        cases hi : isC[k2]? with
        | none => rw [hi] at h1; cases h1
        | some i =>
          rw [hi] at h1
          have hik := hD.1 i k (q.1, e9) q (Option.some.inj h1) f1 rfl
          subst hik
          exact hno (List.mem_of_getElem? hi)
      · omega
  obtain ⟨t2, a1, b1⟩ := kk T'.heap (locs ++ L) ⟨hP3, hD3, hS2⟩ T' rfl X'
  exact ⟨t2, st t2 a1, b1⟩
theorem zH_out (X Y P : va_W) (hH : zH G A s H locs (X ++ (Y ++ P))) : zH G A s H locs (Y ++ (P ++ X)) := by
  have h1 := zH_perm (List.perm_append_comm (l₁ := X) (l₂ := Y ++ P)) hH
  rw [List.append_assoc] at h1
  exact h1
theorem zH_in (X Y P : va_W) (hH : zH G A s H locs (Y ++ (P ++ X))) : zH G A s H locs (X ++ (Y ++ P)) := by
  rw [← List.append_assoc] at hH
  exact zH_perm List.perm_append_comm hH
theorem z_callK (X P : va_W) {W9 W' : va_W} {v : Int32} {n index maxL b ci : Nat} {y : MethodName} {wy : List Cond} {rm : Room} {As : List Value} {C : String} {bytes : ByteArray} {ret : Option FieldType} (S : CallFix p m c cc nL s args Ts own) (hF : zF G cy E A s) (hH : zH G A s H locs (X ++ (W9 ++ P))) (hM : KM l G cy E y wy rm As v W9 W' b ci) (cw : CallW R s args own C index y bytes maxL ret wy rm 0 0 n)
    {T : u_T} {N : Nat} (hcl : vwCl[ci]? = some (C, T, N)) {st0 : List Value} (hst : st0 = As.reverse ++ .ref b :: rest) (hna : As.length = n) (hl : ls.size = nL) (hW : (rest.map fun v => v.category).sum ≤ 8) (hdg : decode cc pc = .ok (.invokevirtual index, 3)) (hf : cells ≤ R.cells ∧ slots ≤ R.slots)
    (kk : ∀ (H1 : Heap) (locs1 : List Loc), zH G A s H1 locs1 (X ++ (W' ++ P)) → W p l e R s m args below meth c H1 locs1 cells slots Q (F0 m (pc + 3) ls (.int v :: rest))) : W p l e R s m args below meth c H locs cells slots Q (F0 m pc ls st0) := by
  obtain ⟨wc, w1, isC, fs, hZ, hnd, had, h0, bs, hcov, hz, hC, hC'⟩ := hM
  have hH2 := zH_out X W9 P hH
  have hC2 := zk_pl (P := P ++ X) hC
  have hPc : va_P G vwCl wc H := ((z_ask hH2 hF isC hC2 hnd (.ref b :: As)) { s with heap := H } rfl (State.WarmedH.refl s)).2.2.1
  exact z_callq hH2 hF isC hC2 (zk_key (P := P ++ X) had hcov hz hC hC') rfl (va_runV (As := As) (rest := rest) S (hZ H.size) cw ⟨zPre_blind, va_recv hF.1 hPc hcl h0, z_ask hH2 hF isC hC2 hnd _⟩ rfl hna hl hst (lv_room hW) hdg hf) (fun H1 locs1 h9 => kk H1 locs1 (zH_in X W' P h9))
end ZK
