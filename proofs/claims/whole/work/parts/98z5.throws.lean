/-! ===== methods that throw ===== -/
abbrev zxN : String := "java/util/NoSuchElementException"
abbrev zxL : List String := ["java/lang/RuntimeException", "java/lang/Exception"]
abbrev zxW : List Cond := [.castable zxN zxN, .declares (Bundle.initS "java/lang/RuntimeException"), .declares (Bundle.initS "java/lang/Exception"), .declares (Bundle.initS Bundle.tN)]
/-- the words of a throw that warming alone does not keep -/
def zxB (U : State) : Prop := va_Nw (.castable zxN zxN) U ∧ va_Nw (.declares (Bundle.initS "java/lang/RuntimeException")) U ∧ va_Nw (.declares (Bundle.initS "java/lang/Exception")) U ∧ va_Nw (.declares (Bundle.initS Bundle.tN)) U
theorem zxB.warm {s U : State} (hW : s.WarmedH U.vm) (h : zxB s) : zxB U := ⟨va_Nw.warmC hW h.1, va_Nw.warmD hW h.2.1, va_Nw.warmD hW h.2.2.1, va_Nw.warmD hW h.2.2.2⟩
theorem zxB.same {s U : State} (hv : s.vm = U.vm) (h : zxB s) : zxB U := ⟨va_Nw.same rfl hv h.1, va_Nw.same rfl hv h.2.1, va_Nw.same rfl hv h.2.2.1, va_Nw.same rfl hv h.2.2.2⟩
theorem zxB.use {s : State} {args : Array Value} (h : zxB s) : ∀ w ∈ zxW, w.before args s = true := vx_c (va_Nw.use rfl h.1) (vx_c (va_Nw.use rfl h.2.1) (vx_c (va_Nw.use rfl h.2.2.1) (vx_c (va_Nw.use rfl h.2.2.2) vx_n)))
def zXC (G : va_G) (w0 w : va_W) (sz : Nat) : String → State → State → Prop := fun C st t => C = zxN ∧ va_P G vwCl w t.heap ∧ va_D (va_A w0 sz) w ∧ va_F (va_A w0 sz) st t
/-- a method's contract where it throws: its world stays -/
def zMX (l : Launch) (G : va_G) (cy : Nat → ClassId) (E : Nat → Nat) (y : MethodName) (wy : List Cond) (rm : Room) (av : List Value) (w : va_W) : Prop := ∀ sz, vx_Met l y wy rm (va_Pc av (fun U => zPre G cy E w sz U ∧ zxB U)) (fun _ _ _ _ => False) (zXC G w w sz) 1 6 (va_A w sz)
theorem zx_bad : ∀ w ∈ (vx_atS RX11 174 zxN zxL).filter (fun w => !goodWord w), w ∈ zxW := by decide +kernel
theorem zx_good : ∀ w ∈ Cond.classLink RX11 170 zxN :: Cond.initialized zxN :: vx_atS RX11 174 zxN zxL, vx_ot w = true := by decide +kernel
theorem zx_fit : Bundle.fit zxN = true ∧ ∀ n ∈ zxL, Bundle.fit n = true := by decide +kernel
section ZX
variable {p : Program} {l : Launch} {e : Env} {R : Room} {s : State} {m : MethodId} {args : Array Value} {below : List Frame} {meth : Method} {c : Code} {H : Heap} {locs : List Loc} {cells slots : Nat} {Q : State → Prop}
variable {cc : ByteArray} {pc nL : Nat} {ls : Array Slot} {rest : List Value} {G : va_G} {cy : Nat → ClassId} {E : Nat → Nat} {A : Nat → Prop} {a : Nat} {ws ws' w w' w0 : va_W} {Ts : List Cond}
theorem z_bodyX {y : MethodName} {wy wy' : List Cond} {rm : Room} {av : List Value} {maxL : Nat} {ret : Option FieldType} (hy : plainName y.cls = true) (hw : wy = Cond.code y cc maxL ret :: wy') (hlen : (lg_sl av).length ≤ maxL)
    (body : ∀ (p : Program) (e : Env) (s : State) (m : MethodId) (below : List Frame) (meth : Method) (c : Code) (ls : Array Slot), CallFix p m c cc maxL s av.toArray wy y.cls → meth.sig.returnType = ret → meth.locks = false → meth.name = y.name → zF G cy E (va_A w s.heap.size) s → (zxB s ∧ ∀ x ∈ c.exceptionTable.toList, False) → zH G (va_A w s.heap.size) s s.heap [] w → lv_has ls maxL (lv_args 0 av) →
      W p l e rm s m av.toArray below meth c s.heap [] 0 0 (vx_MQ below (fun _ _ _ _ => False) (zXC G w w s.heap.size) av.toArray s 1 6 (va_A w s.heap.size)) (F0 m 0 ls [])) : zMX l G cy E y wy rm av w := by
  intro sz
  refine vx_ofW (cc := cc) (maxL := maxL) (ret := ret) hy hw ?_
  intro p e s m args below meth c s₁ B hml hx hv
  obtain ⟨rfl, ⟨hsz, hP, hK, hD0, hE⟩, hcx⟩ := hv
  subst hsz
  have hl := lv_entry av (n := maxL) hlen
  rw [lg_entry_eq]
  generalize (lg_sl av ++ List.replicate (maxL - (lg_sl av).length) Slot.unset).toArray = ls at hl ⊢
  exact body p e s m below meth c ls ⟨B.exec, B.bytes, hml, findClass_of_methodNamed B.named, atoms_spec (ws := wy) B.pre⟩ B.returns B.notSynchronized (name_of_methodNamed B.named B.method).1 ⟨hK, hE, fun q h => Or.inr h⟩ ⟨hcx, hx⟩ ⟨hP, hD0.self, va_S.rf⟩ hl
theorem zx_end (hH : zH G (va_A w0 s.heap.size) s H locs w) : ∀ t : State, s.vm.Alike t.vm → H.size ≤ t.heap.size → (∀ q : Nat, q < H.size → t.heap[q]? = H[q]?) → zXC G w0 w s.heap.size zxN s t := fun t _ h1 h2 =>
  ⟨rfl, hH.1.kept (fun k q hk => h2 q.1 (hH.1 k q hk).lt), hH.2.1, Nat.le_trans hH.2.2.1 h1, fun q q1 q2 => (h2 q (Nat.lt_of_lt_of_le q1 hH.2.2.1)).trans (hH.2.2.2.1 q q1 q2)⟩
theorem z_throwS {is sa : Nat} {text : String} (S : CallFix p m c cc nL s args Ts RX11) (hlt : l.stackTraces = false) (hF : zF G cy E (va_A w0 s.heap.size) s) (hH : zH G (va_A w0 s.heap.size) s H locs w) (hc1 : zxB s) (hc2 : ∀ x ∈ c.exceptionTable.toList, False) (hlocks : meth.locks = false) (hl : ls.size = nL) (h1 : Cond.classLink RX11 170 zxN ∈ Ts) (h2 : Cond.initialized zxN ∈ Ts) (h3 : ∀ w ∈ (vx_atS RX11 174 zxN zxL).filter goodWord, w ∈ Ts) (hstr : vk_R RX11 is text sa s)
    (d0 : decode cc pc = .ok (.new 170, 3)) (d3 : decode cc (pc + 3) = .ok (.dup, 1)) (d4 : decode cc (pc + 4) = .ok (.ldc is, 2)) (d6 : decode cc (pc + 6) = .ok (.invokespecial 174, 3)) (d9 : decode cc (pc + 9) = .ok (.athrow, 1)) (hfr : 5 < R.frames) (hlo : (rest.map fun v => v.category).sum + 82 ≤ R.locals) (hce : 0 + 1 ≤ R.cells) (hsl : 0 + 6 ≤ R.slots) :
    W p l e R s m args below meth c H locs 0 0 (vx_MQ below (fun _ _ _ _ => False) (zXC G w0 w s.heap.size) args s 1 6 (va_A w0 s.heap.size)) (F0 m pc ls rest) :=
  vx_throwS (names := zxL) (A := va_A w0 s.heap.size) S.1 S.2.1 hlt S.2.2.2.1 zx_fit.1 zx_fit.2 (S.2.2.2.2 _ h1) (S.2.2.2.2 _ h2) hstr (vx_hat (fun w hw => S.2.2.2.2 w (h3 w hw)) zx_bad hc1.use) zx_good hF.2.1.2.2.2.2.2.2.1 hF.2.1.2.2.2.2.2.2.2.1 hH.2.2 (hl.trans S.2.2.1.symm) d0 d3 d4 d6 d9 (fun x hx => (hc2 x hx).elim) hfr hlo hce hsl hlocks (zx_end hH) hH.2.2.2.2 (Nat.le_refl _) (Nat.le_refl _)
theorem z_throwSW {is sa : Nat} {text : String} (S : CallFix p m c cc nL s args Ts RX11) (hlt : l.stackTraces = false) (hF : zF G cy E (va_A w0 s.heap.size) s) (hH : zH G (va_A w0 s.heap.size) s H locs w) (hc1 : zxB s) (hc2 : ∀ x ∈ c.exceptionTable.toList, False) (hlocks : meth.locks = false) (hl : ls.size = nL) (h1 : Cond.classLink RX11 170 zxN ∈ Ts) (h2 : Cond.initialized zxN ∈ Ts) (h3 : ∀ w ∈ (vx_atS RX11 174 zxN zxL).filter goodWord, w ∈ Ts) (hstr : vk_R RX11 is text sa s)
    (d0 : decode cc pc = .ok (.new 170, 3)) (d3 : decode cc (pc + 3) = .ok (.dup, 1)) (d4 : decode cc (pc + 4) = .ok (.ldc_w is, 3)) (d7 : decode cc (pc + 7) = .ok (.invokespecial 174, 3)) (d10 : decode cc (pc + 10) = .ok (.athrow, 1)) (hfr : 5 < R.frames) (hlo : (rest.map fun v => v.category).sum + 82 ≤ R.locals) (hce : 0 + 1 ≤ R.cells) (hsl : 0 + 6 ≤ R.slots) :
    W p l e R s m args below meth c H locs 0 0 (vx_MQ below (fun _ _ _ _ => False) (zXC G w0 w s.heap.size) args s 1 6 (va_A w0 s.heap.size)) (F0 m pc ls rest) :=
  vx_throwSW (names := zxL) (A := va_A w0 s.heap.size) S.1 S.2.1 hlt S.2.2.2.1 zx_fit.1 zx_fit.2 (S.2.2.2.2 _ h1) (S.2.2.2.2 _ h2) hstr (vx_hat (fun w hw => S.2.2.2.2 w (h3 w hw)) zx_bad hc1.use) zx_good hF.2.1.2.2.2.2.2.2.1 hF.2.1.2.2.2.2.2.2.2.1 hH.2.2 (hl.trans S.2.2.1.symm) d0 d3 d4 d7 d10 (fun x hx => (hc2 x hx).elim) hfr hlo hce hsl hlocks (zx_end hH) hH.2.2.2.2 (Nat.le_refl _) (Nat.le_refl _)
theorem zc_blind {sz : Nat} {av : List Value} : FrameBlind (va_Pc av (fun U => zPre G cy E w sz U ∧ zxB U)) := by
  intro a U g mk q
  obtain ⟨q0, ⟨q1, qP, qK, qD, qE⟩, qC⟩ := q
  exact ⟨q0, ⟨q1, qP, va_K.moved (u := U) (U := U.calling g mk a) (Vm.Alike.refl U.vm) qK, qD, zE.same (U := U.calling g mk a) rfl rfl qE⟩, zxB.same rfl qC⟩
theorem zc_ask {wc : va_W} (hc1 : zxB s) (hH : zH G A s H locs ws) (hF : zF G cy E A s) (isC : List Nat) (hC : isC.map (fun i => ws[i]?) = wc.map some) (hnC : va_nd isC = true) (av : List Value) : ∀ U : State, U.heap = H → s.WarmedH U.vm → va_Pc av (fun U => zPre G cy E wc H.size U ∧ zxB U) av.toArray U := fun U hU hW =>
  ⟨(z_ask hH hF isC hC hnC av U hU hW).1, (z_ask hH hF isC hC hnC av U hU hW).2, zxB.warm hW hc1⟩
/-- a method with a table of handlers, that returns -/
def zMc (l : Launch) (G : va_G) (cy : Nat → ClassId) (E : Nat → Nat) (y : MethodName) (wy : List Cond) (rm : Room) (av : List Value) (w w' : va_W) (oc : Option Value) (mc ms : Nat) : Prop := ∀ sz, Met l y wy rm (va_Pc av (fun U => zPre G cy E w sz U ∧ zxB U)) (zQ G w w' sz oc) mc ms (va_A w sz)
theorem z_bodyH {y : MethodName} {wy wy' : List Cond} {rm : Room} {av : List Value} {oc : Option Value} {mc ms maxL : Nat} {ret : Option FieldType} {hh : List (Nat × Nat × Nat × Nat)} (hy : plainName y.cls = true) (hw : wy = Cond.codeWith y cc maxL ret hh :: wy') (hlen : (lg_sl av).length ≤ maxL)
    (body : ∀ (p : Program) (e : Env) (s : State) (m : MethodId) (below : List Frame) (meth : Method) (c : Code) (ls : Array Slot), CallFix p m c cc maxL s av.toArray wy y.cls → meth.sig.returnType = ret → meth.locks = false → zxB s → c.exceptionTable.toList = tableOf hh → zF G cy E (va_A w s.heap.size) s → zH G (va_A w s.heap.size) s s.heap [] w → lv_has ls maxL (lv_args 0 av) →
      W p l e rm s m av.toArray below meth c s.heap [] 0 0 (MQ below (zQ G w w' s.heap.size oc) av.toArray s mc ms (va_A w s.heap.size)) (F0 m 0 ls [])) : zMc l G cy E y wy rm av w w' oc mc ms := by
  intro sz
  refine MetFree.of_bodyS (code := cc) (maxLocals := maxL) (ret := ret) hy ?_ ?_
  · intro args s m h hn
    obtain ⟨m9, meth, c, hn9, h1, h2, h3, h4, -, h5, h6, -⟩ := Cond.codeWith_spec (atoms_spec (ws := wy) h _ (by rw [hw]; exact List.mem_cons_self))
    cases hn.symm.trans hn9
    exact ⟨meth, c, h1, h2, h3, h4, h5, h6⟩
  · intro p e s m args below meth c s₁ B hml hP _
    have hh0 : s₁.heap = s.heap := by rw [B.state]; rfl
    have htab := vx_table (x := y) B (atoms_spec (ws := wy) B.pre _ (by rw [hw]; exact List.mem_cons_self))
    obtain ⟨rfl, ⟨hsz, hP, hK, hD0, hE⟩, hcx⟩ := hP
    subst hsz
    have hl := lv_entry av (n := maxL) hlen
    have hb := body p e s m below meth c _ ⟨B.exec, B.bytes, hml, findClass_of_methodNamed B.named, atoms_spec (ws := wy) B.pre⟩ B.returns B.notSynchronized hcx htab ⟨hK, hE, fun q h => Or.inr h⟩ ⟨hP, hD0.self, va_S.rf⟩ hl
    rw [lg_entry_eq]
    obtain ⟨t, a1, o, b1, b2, b3⟩ := hb s₁ hh0 (Stand.of_body B)
    exact ⟨t, o, a1, b1, b2, ⟨b3.1, b3.2⟩⟩
end ZX
