/-! ===== more of our base: groups of cells by a number, new cells, constructors ===== -/
def zup {α : Type} (f : Nat → α) (j : Nat) (v : α) : Nat → α := fun k => if k = j then v else f k
/-- a constructor's contract: over the world w it leaves w' of some new addresses -/
def zQx (G : va_G) (w : va_W) (w' : (Nat → Nat) → va_W) (sz : Nat) (oc : Option Value) : Array Value → State → Outcome → State → Prop := fun _ st o t => (o = .returned oc ∧ ∃ q : Nat → Nat, va_P G vwCl (w' q) t.heap ∧ va_D (va_A w sz) (w' q)) ∧ va_F (va_A w sz) st t
def zMx (l : Launch) (G : va_G) (cy : Nat → ClassId) (E : Nat → Nat) (y : MethodName) (wy : List Cond) (rm : Room) (av : List Value) (w : va_W) (w' : (Nat → Nat) → va_W) (oc : Option Value) (mc ms : Nat) : Prop := ∀ sz, Met l y wy rm (va_Pc av (zPre G cy E w sz)) (zQx G w w' sz oc) mc ms (va_A w sz)
theorem z_up8 {a0 a1 a2 a3 a4 a5 a6 a7 : Nat} : (va_up (va_up (va_up (va_up (va_up (va_up (va_up (va_up (fun _ => none) (Int32.toNatClampNeg 0) (some a0)) (Int32.toNatClampNeg 1) (some a1)) (Int32.toNatClampNeg 2) (some a2)) (Int32.toNatClampNeg 3) (some a3)) (Int32.toNatClampNeg 4) (some a4)) (Int32.toNatClampNeg 5) (some a5)) (Int32.toNatClampNeg 6) (some a6)) (Int32.toNatClampNeg 7) (some a7)) = (fun k => ([a0, a1, a2, a3, a4, a5, a6, a7] : List Nat)[k]?) := by
  funext k
  rcases k with _ | _ | _ | _ | _ | _ | _ | _ | k <;> first | rfl | (simp [va_up] <;> omega)
theorem z_up2 {a0 a1 : Nat} : (va_up (va_up (fun _ => none) (Int32.toNatClampNeg 0) (some a0)) (Int32.toNatClampNeg 1) (some a1)) = (fun k => ([a0, a1] : List Nat)[k]?) := by
  funext k
  rcases k with _ | _ | k <;> first | rfl | (simp [va_up] <;> omega)
section ZC
variable {p : Program} {l : Launch} {e : Env} {R : Room} {s : State} {m : MethodId} {args : Array Value} {below : List Frame} {meth : Method} {c : Code} {H : Heap} {locs : List Loc} {cells slots : Nat} {Q : State → Prop}
variable {cc : ByteArray} {pc nL : Nat} {ls : Array Slot} {rest : List Value} {G : va_G} {cy : Nat → ClassId} {E : Nat → Nat} {A : Nat → Prop} {a : Nat} {ws ws' w w' : va_W} {Ts : List Cond} {own : String}
theorem z_aald (S : CallFix p m c cc nL s args Ts own) (hF : zF G cy E A s) (hH : zH G A s H locs ws) (q0 t0 : Nat) {C : String} {n q : Nat} {f : Nat → Option Nat} (ha : ws[q0]? = some (a, .inl (cy t0, n, .inr (.inr (.inr (.inr f)))))) (ht : (ztys cy)[t0]? = some (cy t0, .object C)) {i : Int32} (hin : zin i n = true) (hq : va_rf (f i.toNatClampNeg) = .ref q) (hdg : decode cc pc = .ok (.aaload, 1))
    (kk : W p l e R s m args below meth c H locs cells slots Q (F0 m (pc + 1) ls (.ref q :: rest))) : W p l e R s m args below meth c H locs cells slots Q (F0 m pc ls (.int i :: .ref a :: rest)) :=
  va_aldq S.1 S.2.1 hF.1 hH.1 q0 t0 ha ht (zin_e hin) hdg (by rw [hq]; exact kk)
theorem z_cA {t0 : Nat} {cA : ClassId} {ty : FieldType} {tys : List (ClassId × FieldType)} (hF : va_K G vwCl (ztys cy) s) (ht : (ztys cy)[t0]? = some (cy t0, ty)) (hK : va_K G vwCl (tys ++ [(cA, ty)]) s) : cA = cy t0 := by
  have h1 := (hF.2 t0 _ ht).2
  have h2 := (hK.2 tys.length (cA, ty) (by simp)).2
  cases ty with
  | object C =>
    obtain ⟨_, _, _, _, _, g1⟩ := h1
    obtain ⟨_, _, _, _, _, g2⟩ := h2
    exact Option.some.inj (g2.symm.trans g1)
  | _ => exact Option.some.inj (h2.symm.trans h1)
theorem z_newa (S : CallFix p m c cc nL s args Ts own) (hF : zF G cy E A s) (hH : zH G A s H locs ws) (t0 : Nat) {atype : ArrayType} (harr : Cond.arrayClass (newarray.typeOf atype) ∈ Ts) (ht : (ztys cy)[t0]? = some (cy t0, newarray.typeOf atype))
    {n : Int32} {N' : Nat} {a0 : vp_A} (ha : ∀ cA : ClassId, vp_cell cA a0 = arrV cA N' (fun _ => defaultValue (newarray.typeOf atype))) (hn : ¬ n < 0) (hN : n.toNatClampNeg = N') (hbytes : N' * componentBytes (newarray.typeOf atype) ≤ 536870912) (hcells : cells + 1 ≤ R.cells) (hslots : slots + N' ≤ R.slots) (hdg : decode cc pc = .ok (.newarray atype, 2))
    (kk : ∀ (q : Nat) (H1 : Heap), zH G A s H1 locs (ws ++ [(q, .inl (cy t0, a0))]) → W p l e R s m args below meth c H1 locs (cells + 1) (slots + N') Q (F0 m (pc + 2) ls (.ref q :: rest))) : W p l e R s m args below meth c H locs cells slots Q (F0 m pc ls (.int n :: rest)) :=
  va_newa S.1 S.2.1 (S.2.2.2.2 _ harr) rfl hF.1 hH.1 hH.2.1 hH.2.2 hF.2.2 ha hn hN hbytes hcells hslots hdg (fun q cA H1 hK hP hD hS => by
    have e := z_cA hF.1 ht hK
    subst e
    exact kk q H1 ⟨hP, hD, hS⟩)
theorem z_newq (S : CallFix p m c cc nL s args Ts own) (hF : zF G cy E A s) (hH : zH G A s H locs ws) (t0 : Nat) {C : String} {index : Nat} (hcl : Cond.classLink own index C ∈ Ts) (hover : va_AO C s) (ht : (ztys cy)[t0]? = some (cy t0, .object C))
    {n : Int32} {N' : Nat} (hn : ¬ n < 0) (hN : n.toNatClampNeg = N') (hbytes : N' * 4 ≤ 536870912) (hcells : cells + 1 ≤ R.cells) (hslots : slots + N' ≤ R.slots) (hdg : decode cc pc = .ok (.anewarray index, 3))
    (kk : ∀ (q : Nat) (H1 : Heap), zH G A s H1 locs (ws ++ [(q, .inl (cy t0, N', .inr (.inr (.inr (.inr (fun _ => none))))))]) → W p l e R s m args below meth c H1 locs (cells + 1) (slots + N') Q (F0 m (pc + 3) ls (.ref q :: rest))) : W p l e R s m args below meth c H locs cells slots Q (F0 m pc ls (.int n :: rest)) :=
  va_newq S.1 S.2.1 S.2.2.2.1 (S.2.2.2.2 _ hcl) hover hF.1 hH.1 hH.2.1 hH.2.2 hF.2.2 hn hN hbytes hcells hslots hdg (fun q cA H1 hK hP hD hS => by
    have e := z_cA hF.1 ht hK
    subst e
    exact kk q H1 ⟨hP, hD, hS⟩)
theorem z_aast (S : CallFix p m c cc nL s args Ts own) (hF : zF G cy E A s) (hH : zH G A s H locs ws) (q0 t0 qk ci : Nat) {r : vw_C} {n v : Nat} {vs : List Value} {f : Nat → Option Nat} (ha : ws[q0]? = some (a, .inl (cy t0, n, .inr (.inr (.inr (.inr f)))))) (ht : (ztys cy)[t0]? = some (cy t0, .object r.1)) (hv : ws[qk]? = some (v, .inr (ci, vs))) (hc : vwCl[ci]? = some r) {i : Int32} (hin : zin i n = true) (hw : ws.set q0 (a, .inl (cy t0, n, .inr (.inr (.inr (.inr (va_up f i.toNatClampNeg (some v))))))) = ws') (hdg : decode cc pc = .ok (.aastore, 1))
    (kk : ∀ (H1 : Heap) (locs1 : List Loc), zH G A s H1 locs1 ws' → W p l e R s m args below meth c H1 locs1 cells slots Q (F0 m (pc + 1) ls rest)) : W p l e R s m args below meth c H locs cells slots Q (F0 m pc ls (.ref v :: .int i :: .ref a :: rest)) :=
  va_astq S.1 S.2.1 hF.1 hH.1 hH.2.1 hH.2.2 q0 t0 qk ci ha ht hv hc (zin_e hin) hdg (fun H1 locs1 hP hD hS => kk H1 locs1 ⟨by rw [← hw]; exact hP, by rw [← hw]; exact hD, hS⟩)
theorem z_new (S : CallFix p m c cc nL s args Ts own) (hF : zF G cy E A s) (hH : zH G A s H locs ws) {C : String} {T : u_T} {N ci index : Nat} (hin : ∀ w ∈ u_ws C T N, w ∈ Ts) (ty : Nat → FieldType) (hty : ∀ k, k < N → parseFieldDescriptor (T k).2.2.1 = some (ty k)) (hcl : Cond.classLink own index C ∈ Ts) (hinst : Cond.instantiable C N ∈ Ts) (hini : Cond.initialized C ∈ Ts) (hc : vwCl[ci]? = some (C, T, N)) {fs : List Value} (hfs : ∀ j, j < N → defaultValue (ty j) = vp_V fs j) (hcells : cells + 1 ≤ R.cells) (hslots : slots + N ≤ R.slots) (hdg : decode cc pc = .ok (.new index, 3))
    (kk : ∀ (q : Nat) (H1 : Heap), zH G A s H1 locs (ws ++ [(q, .inr (ci, fs))]) → W p l e R s m args below meth c H1 locs (cells + 1) (slots + N) Q (F0 m (pc + 3) ls (.ref q :: rest))) : W p l e R s m args below meth c H locs cells slots Q (F0 m pc ls rest) :=
  va_new S.1 S.2.1 S.2.2.2.2 hin ty hty S.2.2.2.1 (S.2.2.2.2 _ hcl) (S.2.2.2.2 _ hinst) (S.2.2.2.2 _ hini) hF.1 hH.1 hH.2.1 hH.2.2 hF.2.2 hc hfs hcells hslots hdg (fun q H1 hP hD hS => kk q H1 ⟨hP, hD, hS⟩)
theorem z_obj (S : CallFix p m c cc nL s args Ts own) (hl : ls.size = nL) {idx : Nat} (h1 : Cond.methodLink own idx objectInit ∈ Ts) (h2 : Cond.instanceMethod objectInit ∈ Ts) (h3 : Cond.code objectInit ⟨#[0xb1]⟩ 1 none ∈ Ts) (hd : decode cc pc = .ok (.invokespecial idx, 3)) (hframes : 1 ≤ R.frames) (hlocals : (rest.map fun v => v.category).sum + 12 ≤ R.locals)
    (kk : W p l e R s m args below meth c H locs cells slots Q (F0 m (pc + 3) ls rest)) : W p l e R s m args below meth c H locs cells slots Q (F0 m pc ls (.ref a :: rest)) :=
  W.objInit S.1 S.2.1 S.2.2.2.1 (S.2.2.2.2 _ h1) (S.2.2.2.2 _ h2) (S.2.2.2.2 _ h3) rfl (hl.trans S.2.2.1.symm) rfl hd hframes (by have := hlocals; simpa [JFrame.monitorRoom] using this) kk
theorem z_bodyx {y : MethodName} {wy wy' : List Cond} {rm : Room} {av : List Value} {oc : Option Value} {mc ms maxL : Nat} {ret : Option FieldType} {wx : (Nat → Nat) → va_W} (hy : plainName y.cls = true) (hw : wy = Cond.code y cc maxL ret :: wy') (hlen : (lg_sl av).length ≤ maxL)
    (body : ∀ (p : Program) (e : Env) (s : State) (m : MethodId) (below : List Frame) (meth : Method) (c : Code) (ls : Array Slot), CallFix p m c cc maxL s av.toArray wy y.cls → meth.sig.returnType = ret → meth.locks = false → meth.name = y.name → zF G cy E (va_A w s.heap.size) s → zH G (va_A w s.heap.size) s s.heap [] w → lv_has ls maxL (lv_args 0 av) →
      W p l e rm s m av.toArray below meth c s.heap [] 0 0 (MQ below (zQx G w wx s.heap.size oc) av.toArray s mc ms (va_A w s.heap.size)) (F0 m 0 ls [])) : zMx l G cy E y wy rm av w wx oc mc ms := by
  intro sz
  refine Met.ofW (cc := cc) (maxL := maxL) (ret := ret) hy hw ?_
  intro p e s m args below meth c s₁ B hml hv
  obtain ⟨rfl, hsz, hP, hK, hD0, hE⟩ := hv
  subst hsz
  have hl := lv_entry av (n := maxL) hlen
  rw [lg_entry_eq]
  generalize (lg_sl av ++ List.replicate (maxL - (lg_sl av).length) Slot.unset).toArray = ls at hl ⊢
  exact body p e s m below meth c ls ⟨B.exec, B.bytes, hml, findClass_of_methodNamed B.named, atoms_spec (ws := wy) B.pre⟩ B.returns B.notSynchronized (name_of_methodNamed B.named B.method).1 ⟨hK, hE, fun q h => Or.inr h⟩ ⟨hP, hD0.self, va_S.rf⟩ hl
theorem z_vretx {wx : (Nat → Nat) → va_W} (S : CallFix p m c cc nL s args Ts own) (hr : meth.sig.returnType = none) (hlocks : meth.locks = false) (q : Nat → Nat) (hH : zH G (va_A w s.heap.size) s H locs (wx q)) (hdg : decode cc pc = .ok (.return_, 1)) : W p l e R s m args below meth c H locs cells slots (MQ below (zQx G w wx s.heap.size none) args s cells slots (va_A w s.heap.size)) (F0 m pc ls []) :=
  W.vret S.1 S.2.1 hr (fun t ht _ => ⟨⟨rfl, q, by rw [ht]; exact hH.1, hH.2.1⟩, hH.2.2.F ht⟩) hH.2.2.2.2 hdg hlocks
/-- the law of a part of the walk that ends as zQ does, where new addresses are known -/
theorem z_toX {wx : (Nat → Nat) → va_W} {oc : Option Value} {mc ms : Nat} {g : JFrame} (q : Nat → Nat) (h : W p l e R s m args below meth c H locs cells slots (MQ below (zQ G w (wx q) s.heap.size oc) args s mc ms (va_A w s.heap.size)) g) : W p l e R s m args below meth c H locs cells slots (MQ below (zQx G w wx s.heap.size oc) args s mc ms (va_A w s.heap.size)) g := by
  intro T hT X
  obtain ⟨t, st, o, h1, h2, ⟨⟨h3, h4, h5⟩, h6⟩, h7⟩ := h T hT X
  exact ⟨t, st, o, h1, h2, ⟨⟨h3, q, h4, h5⟩, h6⟩, h7⟩
theorem z_callx {wc wr : va_W} {w1 : (Nat → Nat) → va_W} {wsx : (Nat → Nat) → va_W} {oc : Option Value} {mc ms : Nat} {st0 : List Value} {a9 : Array Value} {free : Addr → Prop} (hH : zH G A s H locs ws) (hF : zF G cy E A s) (isC isR perm : List Nat) (hC : isC.map (fun i => ws[i]?) = wc.map some) (hR : isR.map (fun i => ws[i]?) = wr.map some) (hn : va_nd isR = true) (hdis : ∀ i ∈ isR, i ∉ isC) (hpn : va_nd perm = true) (hperm : ∀ q, perm.map (fun i => (wr ++ w1 q)[i]?) = (wsx q).map some)
    (hfr : free = va_A wc H.size) (hr : va_Run p l e R s m args below meth c H locs cells slots mc ms (F0 m pc ls st0) rest (zQx G wc w1 H.size oc a9) free)
    (kk : ∀ (q : Nat → Nat) (H1 : Heap) (locs1 : List Loc), zH G A s H1 locs1 (wsx q) → W p l e R s m args below meth c H1 locs1 (cells + mc) (slots + ms) Q (F0 m (pc + 3) ls (oc.toList ++ rest))) : W p l e R s m args below meth c H locs cells slots Q (F0 m pc ls st0) := by
  subst hfr
  obtain ⟨hP, hD, hS⟩ := hH
  have hFc := va_free (wc := wc) hD hS hF.2.2 isC hC
  intro T hT X
  obtain ⟨v, st₀, t, T', L, h0, X', hL, e1, e2, ⟨⟨hv, q, hP1, hD1⟩, hz, hk⟩, st⟩ := hr T hT X
  cases hv
  rw [h0] at hz hk
  obtain ⟨hP2, hD2⟩ := va_join (wr := wr) (w1 := w1 q) hP hD isC isR hC hR hn hdis hk hFc hP1 hD1
  have hS2 : va_S A s.heap T'.heap (locs ++ L) := ⟨Nat.le_trans hS.1 (by rw [e1]; exact hz), fun q h1 h2 => by rw [e1, hk q (Nat.lt_of_lt_of_le h1 hS.1) (fun z => h2 (hFc q z))]; exact hS.2.1 q h1 h2, fun q hq => by
      rcases List.mem_append.mp hq with h | h
      · exact hS.2.2 q h
      · exact hFc _ (hL q h)⟩
  have hD3 : va_D A (wsx q) := hD2.sub perm hpn (hperm q)
  have hP3 : va_P G vwCl (wsx q) T'.heap := by
    intro k x hq
    have h1 : (perm.map (fun i => (wr ++ w1 q)[i]?))[k]? = some (some x) := by rw [hperm q, List.getElem?_map, hq]; rfl
    rw [List.getElem?_map] at h1
    cases hi : perm[k]? with
    | none => rw [hi] at h1; cases h1
    | some i => rw [hi] at h1; rw [e1]; exact hP2 i x (Option.some.inj h1)
  obtain ⟨t2, a1, b1⟩ := kk q T'.heap (locs ++ L) ⟨hP3, hD3, hS2⟩ T' rfl X'
  exact ⟨t2, st t2 a1, b1⟩
theorem z_callIx {wc : va_W} {w1 wsx : (Nat → Nat) → va_W} {oc : Option Value} {mc ms n index maxL : Nat} {y : MethodName} {wy : List Cond} {rm : Room} {b : Nat} {As : List Value} {bytes : ByteArray} (S : CallFix p m c cc nL s args Ts own) (hF : zF G cy E A s) (hH : zH G A s H locs ws) (hM : zMx l G cy E y wy rm (.ref b :: As) wc w1 oc mc ms) (cw : CallB R s args own index y bytes maxL none wy rm mc ms n ∧ y.name = "<init>" ∧ (Cond.instanceMethod y).before args s = true)
    (isC isR perm : List Nat) (hC : isC.map (fun i => ws[i]?) = wc.map some) (hR : isR.all (fun i => Nat.blt i ws.length) = true) (hnC : va_nd isC = true) (hn : va_nd isR = true) (hdis : ∀ i ∈ isR, i ∉ isC) (hpn : va_nd perm = true) (hperm : ∀ q, perm.map (fun i => (isR.filterMap (fun i => ws[i]?) ++ w1 q)[i]?) = (wsx q).map some)
    {st0 st1 : List Value} (hst : st0 = As.reverse ++ .ref b :: rest) (hst1 : oc.toList ++ rest = st1) (hna : As.length = n) (hl : ls.size = nL) (hW : (rest.map fun v => v.category).sum ≤ 8) (hdg : decode cc pc = .ok (.invokespecial index, 3)) (hf : cells + mc ≤ R.cells ∧ slots + ms ≤ R.slots)
    (kk : ∀ (q : Nat → Nat) (H1 : Heap) (locs1 : List Loc), zH G A s H1 locs1 (wsx q) → W p l e R s m args below meth c H1 locs1 (cells + mc) (slots + ms) Q (F0 m (pc + 3) ls st1)) : W p l e R s m args below meth c H locs cells slots Q (F0 m pc ls st0) :=
  z_callx hH hF isC isR perm hC (z_rest hR) hn hdis hpn hperm rfl (va_runI (As := As) (rest := rest) S (hM H.size) cw ⟨zPre_blind, z_ask hH hF isC hC hnC _⟩ rfl hna hl hst (lv_room hW) hdg hf) (fun q H1 locs1 h9 => by rw [hst1]; exact kk q H1 locs1 h9)
theorem z_callINx {wc : va_W} {w1 wsx : (Nat → Nat) → va_W} {oc : Option Value} {mc ms n index maxL : Nat} {y : MethodName} {wy : List Cond} {rm : Room} {b : Nat} {As : List Value} {bytes : ByteArray} {host : String} (S : CallFix p m c cc nL s args Ts own) (hF : zF G cy E A s) (hH : zH G A s H locs ws) (hM : zMx l G cy E y wy rm (.ref b :: As) wc w1 oc mc ms) (cw : va_CN R s args own index y host bytes maxL none wy rm mc ms n ∧ y.name = "<init>" ∧ (Cond.instanceMethod y).before args s = true)
    (isC isR perm : List Nat) (hC : isC.map (fun i => ws[i]?) = wc.map some) (hR : isR.all (fun i => Nat.blt i ws.length) = true) (hnC : va_nd isC = true) (hn : va_nd isR = true) (hdis : ∀ i ∈ isR, i ∉ isC) (hpn : va_nd perm = true) (hperm : ∀ q, perm.map (fun i => (isR.filterMap (fun i => ws[i]?) ++ w1 q)[i]?) = (wsx q).map some)
    {st0 st1 : List Value} (hst : st0 = As.reverse ++ .ref b :: rest) (hst1 : oc.toList ++ rest = st1) (hna : As.length = n) (hl : ls.size = nL) (hW : (rest.map fun v => v.category).sum ≤ 8) (hdg : decode cc pc = .ok (.invokespecial index, 3)) (hf : cells + mc ≤ R.cells ∧ slots + ms ≤ R.slots)
    (kk : ∀ (q : Nat → Nat) (H1 : Heap) (locs1 : List Loc), zH G A s H1 locs1 (wsx q) → W p l e R s m args below meth c H1 locs1 (cells + mc) (slots + ms) Q (F0 m (pc + 3) ls st1)) : W p l e R s m args below meth c H locs cells slots Q (F0 m pc ls st0) :=
  z_callx hH hF isC isR perm hC (z_rest hR) hn hdis hpn hperm rfl (va_runIN (As := As) (rest := rest) S (hM H.size) cw ⟨zPre_blind, z_ask hH hF isC hC hnC _⟩ rfl hna hl hst (lv_room hW) hdg hf) (fun q H1 locs1 h9 => by rw [hst1]; exact kk q H1 locs1 h9)
/-- a body of a class of which other methods are run by entries of the machine -/
theorem z_bodyF {y : MethodName} {wy wy' : List Cond} {rm : Room} {av : List Value} {oc : Option Value} {mc ms maxL : Nat} {ret : Option FieldType} (hy : plainFor y = true) (hw : wy = Cond.code y cc maxL ret :: wy') (hlen : (lg_sl av).length ≤ maxL)
    (body : ∀ (p : Program) (e : Env) (s : State) (m : MethodId) (below : List Frame) (meth : Method) (c : Code) (ls : Array Slot), CallFix p m c cc maxL s av.toArray wy y.cls → meth.sig.returnType = ret → meth.locks = false → meth.name = y.name → zF G cy E (va_A w s.heap.size) s → zH G (va_A w s.heap.size) s s.heap [] w → lv_has ls maxL (lv_args 0 av) →
      W p l e rm s m av.toArray below meth c s.heap [] 0 0 (MQ below (zQ G w w' s.heap.size oc) av.toArray s mc ms (va_A w s.heap.size)) (F0 m 0 ls [])) : zM l G cy E y wy rm av w w' oc mc ms := by
  intro sz
  refine MetFree.of_bodySF (code := cc) (maxLocals := maxL) (ret := ret) hy ?_ ?_
  · intro args s m h hn
    obtain ⟨meth, c, h1, h2, h3, h4, h5, h6, -, -⟩ := Cond.code_spec hn (atoms_spec (ws := wy) h _ (by rw [hw]; exact List.mem_cons_self))
    exact ⟨meth, c, h1, h2, h3, h4, h5, h6⟩
  · intro p e s m args below meth c s₁ B hml hP _
    have hh0 : s₁.heap = s.heap := by rw [B.state]; rfl
    obtain ⟨rfl, hsz, hP, hK, hD0, hE⟩ := hP
    subst hsz
    have hl := lv_entry av (n := maxL) hlen
    have hb := body p e s m below meth c _ ⟨B.exec, B.bytes, hml, findClass_of_methodNamed B.named, atoms_spec (ws := wy) B.pre⟩ B.returns B.notSynchronized (name_of_methodNamed B.named B.method).1 ⟨hK, hE, fun q h => Or.inr h⟩ ⟨hP, hD0.self, va_S.rf⟩ hl
    rw [lg_entry_eq]
    obtain ⟨t, a1, o, b1, b2, b3⟩ := hb s₁ hh0 (Stand.of_body B)
    exact ⟨t, o, a1, b1, b2, ⟨b3.1, b3.2⟩⟩
end ZC
