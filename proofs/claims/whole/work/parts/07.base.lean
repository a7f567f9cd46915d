/-! ===== our own base: the model's words, a world of named cells, a contract by a model, rows in one breath ===== -/
def zbn {α β : Type} (e : α) (k : α → Option β) : Option β := k e
theorem zbn_e {α β : Type} {e : α} {k : α → Option β} {r : β} (h : zbn e k = some r) : ∃ x, x = e ∧ k x = some r := ⟨e, rfl, h⟩
def zck {β : Type} (b : Bool) (k : Option β) : Option β := match b with
  | true => k
  | false => none
theorem zck_e {β : Type} {b : Bool} {k : Option β} {r : β} (h : zck b k = some r) : b = true ∧ k = some r := by
  cases b with
  | true => exact ⟨rfl, h⟩
  | false => cases h
def zcl {α β : Type} (x : Option α) (k : α → Option β) : Option β := match x with
  | some a => k a
  | none => none
theorem zcl_e {α β : Type} {x : Option α} {k : α → Option β} {r : β} (h : zcl x k = some r) : ∃ a, x = some a ∧ k a = some r := by
  cases x with
  | none => cases h
  | some a => exact ⟨a, rfl, h⟩
def zin (i : Int32) (n : Nat) : Bool := decide (0 ≤ i.toInt ∧ i.toInt < n)
theorem zin_e {i : Int32} {n : Nat} (h : zin i n = true) : vp_in i n := vp_in_iff.mpr (of_decide_eq_true h)
def zne0 (x : Int32) : Bool := decide (¬ x = 0)
theorem zne0_e {x : Int32} (h : zne0 x = true) : ¬ x = 0 := of_decide_eq_true h
/-- a boolean's int -/
def zbo (x : Int32) : Bool := decide (x = 0 ∨ x = 1)
theorem zbo_e {x : Int32} (h : zbo x = true) : narrow .boolean (.int x) = .int x := by
  rcases of_decide_eq_true h with h | h <;> subst h <;> rfl
theorem zbo_f {x : Int32} (h : zbo x = true) : fits .boolean (.int x) = true := by
  rcases of_decide_eq_true h with h | h <;> subst h <;> rfl
theorem zif_t {c : Prop} {i : Decidable c} {β : Type} {a b : Option β} {r : β} (hc : c) (h : (@ite (Option β) c i a b) = some r) : a = some r := by rw [if_pos hc] at h; exact h
theorem zif_f {c : Prop} {i : Decidable c} {β : Type} {a b : Option β} {r : β} (hc : ¬ c) (h : (@ite (Option β) c i a b) = some r) : b = some r := by rw [if_neg hc] at h; exact h
abbrev ztys (cy : Nat → ClassId) : List (ClassId × FieldType) := [(cy 0, .byte), (cy 1, .int), (cy 2, .long), (cy 3, .boolean), (cy 4, .object "LateMasters$Day"), (cy 5, .object "LateMasters$World")]
def znest : List (String × Nat × MethodName) := [("LateMasters", 9, ⟨"LateMasters$Tape", "<init>", "()V"⟩), ("LateMasters", 27, ⟨"LateMasters$World", "<init>", "()V"⟩), ("LateMasters$World", 9, ⟨"LateMasters$Burgh", "<init>", "()V"⟩), ("LateMasters$World", 27, ⟨"LateMasters$Sentence", "<init>", "()V"⟩), ("LateMasters$BurghReader", 11, ⟨"LateMasters$Burgh", "<init>", "()V"⟩), ("LateMasters$SentenceReader", 11, ⟨"LateMasters$Sentence", "<init>", "()V"⟩), ("LateMasters", 83, ⟨"LateMasters$Watch", "<init>", "()V"⟩), ("LateMasters$Burgh", 69, ⟨"LateMasters", "hasBit", "(II)Z"⟩), ("LateMasters$Day", 131, ⟨"LateMasters", "slot", "(II)I"⟩)]
/-- the String constants: whose, which, the text; their lengths and bytes -/
def zsO : List (String × Nat × String) := [("LateMasters$Tokens", 112, "clock master meet comes wait fast slow gains loses sets stop start move minute or and not out going right by to late corner came number "), ("LateMasters", 341, " shows "), ("LateMasters", 352, " stopped"), ("LateMasters", 172, "no such clock"), ("LateMasters", 183, "no such master, or nothing such of one"), ("LateMasters", 325, "nobody came, or no such part of a fraction")]
def zsL : List Nat := [136, 7, 8, 13, 38, 42]
def zsB : List (List Int32) := [[99, 108, 111, 99, 107, 32, 109, 97, 115, 116, 101, 114, 32, 109, 101, 101, 116, 32, 99, 111, 109, 101, 115, 32, 119, 97, 105, 116, 32, 102, 97, 115, 116, 32, 115, 108, 111, 119, 32, 103, 97, 105, 110, 115, 32, 108, 111, 115, 101, 115, 32, 115, 101, 116, 115, 32, 115, 116, 111, 112, 32, 115, 116, 97, 114, 116, 32, 109, 111, 118, 101, 32, 109, 105, 110, 117, 116, 101, 32, 111, 114, 32, 97, 110, 100, 32, 110, 111, 116, 32, 111, 117, 116, 32, 103, 111, 105, 110, 103, 32, 114, 105, 103, 104, 116, 32, 98, 121, 32, 116, 111, 32, 108, 97, 116, 101, 32, 99, 111, 114, 110, 101, 114, 32, 99, 97, 109, 101, 32, 110, 117, 109, 98, 101, 114, 32], [32, 115, 104, 111, 119, 115, 32], [32, 115, 116, 111, 112, 112, 101, 100], [110, 111, 32, 115, 117, 99, 104, 32, 99, 108, 111, 99, 107], [110, 111, 32, 115, 117, 99, 104, 32, 109, 97, 115, 116, 101, 114, 44, 32, 111, 114, 32, 110, 111, 116, 104, 105, 110, 103, 32, 115, 117, 99, 104, 32, 111, 102, 32, 111, 110, 101], [110, 111, 98, 111, 100, 121, 32, 99, 97, 109, 101, 44, 32, 111, 114, 32, 110, 111, 32, 115, 117, 99, 104, 32, 112, 97, 114, 116, 32, 111, 102, 32, 97, 32, 102, 114, 97, 99, 116, 105, 111, 110]]
/-- what stays as it was and is nobody's: statics and String constants (the i-th at E i, its bytes at E (i + 10)) -/
def zEs (E : Nat → Nat) (A : Nat → Prop) (U : State) (H : Heap) : Prop := va_Z "java/lang/String" "COMPACT_STRINGS" "Z" (.int 1) A U H ∧ va_Zq "jdk/internal/util/Preconditions" "SIOOBE_FORMATTER" "Ljava/util/function/BiFunction;" A U H ∧ vk_S 6 zsL zsB (fun i => E i) (fun i => E (i + 10)) A U H ∧ (∀ (i : Nat) (x : String × Nat × String), zsO[i]? = some x → vk_R x.1 x.2.1 x.2.2 (E i) U) ∧ vx_Zq Bundle.tN "UNASSIGNED_STACK" Bundle.steD A U H ∧ vx_Zq Bundle.tN "SUPPRESSED_SENTINEL" Bundle.listD A U H ∧ (va_Z "java/lang/Integer" "DigitOnes" "[B" (.ref (E 20)) A U H ∧ va_T .byte (E 20) 100 (fun j => .int (Int32.ofNat (48 + j % 10))) A U H) ∧ (va_Z "java/lang/Integer" "DigitTens" "[B" (.ref (E 21)) A U H ∧ va_T .byte (E 21) 100 (fun j => .int (Int32.ofNat (48 + j / 10))) A U H)
def zE (E : Nat → Nat) (A : Nat → Prop) (U : State) (H : Heap) : Prop := (∀ q ∈ znest, va_Nw (.methodLinkNest q.1 q.2.1 q.2.2 "LateMasters") U) ∧ (va_AO "LateMasters$Day" U ∧ va_AO "LateMasters$World" U) ∧ zEs E A U H
theorem zEs.ask {E : Nat → Nat} {A B : Nat → Prop} {s U : State} {H : Heap} {locs : List Loc} (hW : s.WarmedH U.vm) (hU : U.heap = H) (hS : va_S A s.heap H locs) (hB : ∀ q, B q → A q) (h : zEs E A s s.heap) : zEs E B U U.heap := by
  obtain ⟨h1, h2, h3, h4, h5, h6, h7, h8⟩ := h
  have hq : ∀ a : Nat, a < s.heap.size → ¬ A a → U.heap[a]? = s.heap[a]? := by rw [hU]; exact hS.2.1
  exact ⟨((va_Z.moved hW.alike h1).kept hq).narrow hB, ((va_Zq.moved hW.alike h2).kept hq).narrow hB, ((vk_S.moved hW.alike h3).kept hq).narrow hB, fun i x hx => (h4 i x hx).warm hW, ((vx_Zq.moved hW.alike h5).kept hq).narrow hB, ((vx_Zq.moved hW.alike h6).kept hq).narrow hB, ⟨((va_Z.moved hW.alike h7.1).kept hq).narrow hB, ((va_T.moved hW.alike h7.2).kept hq).narrow hB⟩, ⟨((va_Z.moved hW.alike h8.1).kept hq).narrow hB, ((va_T.moved hW.alike h8.2).kept hq).narrow hB⟩⟩
theorem zEs.same {E : Nat → Nat} {A : Nat → Prop} {s U : State} (hv : s.vm = U.vm) (hh : s.heap = U.heap) (h : zEs E A s s.heap) : zEs E A U U.heap := by
  obtain ⟨h1, h2, h3, h4, h5, h6, h7, h8⟩ := h
  have ha : s.vm.Alike U.vm := by rw [hv]; exact Vm.Alike.refl _
  rw [← hh]
  exact ⟨va_Z.moved ha h1, va_Zq.moved ha h2, vk_S.moved ha h3, fun i x hx => (h4 i x hx).same hv.symm, vx_Zq.moved ha h5, vx_Zq.moved ha h6, ⟨va_Z.moved ha h7.1, va_T.moved ha h7.2⟩, ⟨va_Z.moved ha h8.1, va_T.moved ha h8.2⟩⟩
theorem zE.ask {E : Nat → Nat} {A B : Nat → Prop} {s U : State} {H : Heap} {locs : List Loc} (hW : s.WarmedH U.vm) (hU : U.heap = H) (hS : va_S A s.heap H locs) (hB : ∀ q, B q → A q) (h : zE E A s s.heap) : zE E B U U.heap :=
  ⟨fun q hq => va_Nw.warmM hW (h.1 q hq), ⟨h.2.1.1.moved hW.alike, h.2.1.2.moved hW.alike⟩, zEs.ask hW hU hS hB h.2.2⟩
theorem zE.same {E : Nat → Nat} {A : Nat → Prop} {s U : State} (hv : s.vm = U.vm) (hh : s.heap = U.heap) (h : zE E A s s.heap) : zE E A U U.heap :=
  ⟨fun q hq => va_Nw.same rfl hv (h.1 q hq), ⟨h.2.1.1.moved (by rw [hv]; exact Vm.Alike.refl _), h.2.1.2.moved (by rw [hv]; exact Vm.Alike.refl _)⟩, zEs.same hv hh h.2.2⟩
def zF (G : va_G) (cy : Nat → ClassId) (E : Nat → Nat) (A : Nat → Prop) (s : State) : Prop := va_K G vwCl (ztys cy) s ∧ zE E A s s.heap ∧ ∀ q, s.heap.size ≤ q → A q
def zH (G : va_G) (A : Nat → Prop) (s : State) (H : Heap) (locs : List Loc) (ws : va_W) : Prop := va_P G vwCl ws H ∧ va_D A ws ∧ va_S A s.heap H locs
def zPre (G : va_G) (cy : Nat → ClassId) (E : Nat → Nat) (w : va_W) (sz : Nat) (U : State) : Prop := U.heap.size = sz ∧ va_P G vwCl w U.heap ∧ va_K G vwCl (ztys cy) U ∧ va_D (fun _ => True) w ∧ zE E (va_A w sz) U U.heap
def zQ (G : va_G) (w w' : va_W) (sz : Nat) (oc : Option Value) : Array Value → State → Outcome → State → Prop := fun _ st o t => (o = .returned oc ∧ va_P G vwCl w' t.heap ∧ va_D (va_A w sz) w') ∧ va_F (va_A w sz) st t
/-- a method's contract: over the world w it answers oc and leaves w' -/
def zM (l : Launch) (G : va_G) (cy : Nat → ClassId) (E : Nat → Nat) (y : MethodName) (wy : List Cond) (rm : Room) (av : List Value) (w w' : va_W) (oc : Option Value) (mc ms : Nat) : Prop := ∀ sz, Met l y wy rm (va_Pc av (zPre G cy E w sz)) (zQ G w w' sz oc) mc ms (va_A w sz)
theorem zPre_blind {G : va_G} {cy : Nat → ClassId} {E : Nat → Nat} {w : va_W} {sz : Nat} {av : List Value} : FrameBlind (va_Pc av (zPre G cy E w sz)) := by
  intro a U g mk q
  obtain ⟨q0, q1, qP, qK, qD, qE⟩ := q
  exact ⟨q0, q1, qP, va_K.moved (u := U) (U := U.calling g mk a) (Vm.Alike.refl U.vm) qK, qD, zE.same (U := U.calling g mk a) rfl rfl qE⟩
def zmax (x y : Int32) : Int32 := if x < y then y else x
def zmin (x y : Int32) : Int32 := if y < x then y else x
def zabs (x : Int32) : Int32 := if 0 ≤ x then x else 0 - x
def zrem (x y : Int32) : Int32 := x - x / y * y
def zushr (x y : Int32) : Int32 := (x.toUInt32 >>> (y.toUInt32 &&& Int32.toUInt32 31)).toInt32
def zi2c (x : Int32) : Int32 := (x.toUInt32 % 65536).toInt32
def zlshl (x : Int64) (y : Int32) : Int64 := x <<< (y.toInt64 &&& 63)
def zlshr (x : Int64) (y : Int32) : Int64 := x >>> (y.toInt64 &&& 63)
theorem z_sw {x : Int32} {lo hi : Int} (h : ∀ k : Int, lo ≤ k → k ≤ hi → ¬ x = Int32.ofInt k) : x.toInt < lo ∨ hi < x.toInt := by
  rcases Int.lt_or_le x.toInt lo with h1 | h1
  · exact Or.inl h1
  · rcases Int.lt_or_le hi x.toInt with h2 | h2
    · exact Or.inr h2
    · exact absurd (Int32.ofInt_toInt x).symm (h _ h1 h2)
/-- cells put at their places -/
def zput : va_W → List Nat → va_W → va_W
  | ws, i :: is, c :: cs => zput (ws.set i c) is cs
  | ws, _, _ => ws
theorem zput_get : ∀ (is : List Nat) (ws cs : va_W) (k : Nat) (q : Nat × va_E), va_nd is = true → is.length = cs.length → (∀ i ∈ is, i < ws.length) → (zput ws is cs)[k]? = some q → (∃ j : Nat, is[j]? = some k ∧ cs[j]? = some q) ∨ (k ∉ is ∧ ws[k]? = some q)
  | [], ws, cs, k, q, _, _, _, h => Or.inr ⟨List.not_mem_nil, by cases cs <;> exact h⟩
  | i :: is, ws, [], k, q, _, hl, _, _ => by cases hl
  | i :: is, ws, c :: cs, k, q, hn, hl, hb, h => by
    simp only [va_nd, Bool.and_eq_true, decide_eq_true_eq] at hn
    have h1 := zput_get is (ws.set i c) cs k q hn.2 (by simpa using hl) (fun j hj => by rw [List.length_set]; exact hb j (List.mem_cons_of_mem _ hj)) h
    rcases h1 with ⟨j, g1, g2⟩ | ⟨g1, g2⟩
    · exact Or.inl ⟨j + 1, g1, g2⟩
    · by_cases hk : k = i
      · subst hk
        rw [List.getElem?_set_self (hb k List.mem_cons_self)] at g2
        cases g2
        exact Or.inl ⟨0, rfl, rfl⟩
      · rw [List.getElem?_set_ne (Ne.symm hk)] at g2
        exact Or.inr ⟨fun z => (List.mem_cons.mp z).elim hk g1, g2⟩
theorem zput_spec {ws wc w1 : va_W} {isC : List Nat} (hC : isC.map (fun i => ws[i]?) = wc.map some) (hn : va_nd isC = true) (had : w1.map (fun q => q.1) = wc.map (fun q => q.1)) (k : Nat) (q : Nat × va_E) (h : (zput ws isC w1)[k]? = some q) : ∃ x0, ws[k]? = some x0 ∧ x0.1 = q.1 ∧ ((∃ j : Nat, isC[j]? = some k ∧ w1[j]? = some q) ∨ (k ∉ isC ∧ x0 = q)) := by
  have hl1 : isC.length = wc.length := by have := congrArg List.length hC; simpa using this
  have hl2 : w1.length = wc.length := by have := congrArg List.length had; simpa using this
  have at' : ∀ (j i : Nat), isC[j]? = some i → ∃ x, wc[j]? = some x ∧ ws[i]? = some x := by
    intro j i hj
    have h1 : (isC.map (fun i => ws[i]?))[j]? = (wc.map some)[j]? := by rw [hC]
    rw [List.getElem?_map, hj, List.getElem?_map] at h1
    cases hw : wc[j]? with
    | none => rw [hw] at h1; cases h1
    | some x => rw [hw] at h1; exact ⟨x, rfl, Option.some.inj h1⟩
  have hb : ∀ i ∈ isC, i < ws.length := by
    intro i hi
    obtain ⟨j, hj⟩ := List.getElem?_of_mem hi
    obtain ⟨x, -, hx⟩ := at' j i hj
    exact (List.getElem?_eq_some_iff.mp hx).1
  rcases zput_get isC ws w1 k q hn (by omega) hb h with ⟨j, g1, g2⟩ | ⟨g1, g2⟩
  · obtain ⟨x, h1, h2⟩ := at' j k g1
    refine ⟨x, h2, ?_, Or.inl ⟨j, g1, g2⟩⟩
    have h3 : (w1.map (fun q => q.1))[j]? = (wc.map (fun q => q.1))[j]? := by rw [had]
    rw [List.getElem?_map, List.getElem?_map, g2, h1] at h3
    exact (Option.some.inj h3).symm
  · exact ⟨q, g2, rfl, Or.inr ⟨g1, rfl⟩⟩
theorem z_rest {ws : va_W} : ∀ {isR : List Nat}, isR.all (fun i => Nat.blt i ws.length) = true → isR.map (fun i => ws[i]?) = (isR.filterMap (fun i => ws[i]?)).map some
  | [], _ => rfl
  | i :: l, h => by
    rw [List.all_cons, Bool.and_eq_true] at h
    have hi : i < ws.length := Nat.le_of_ble_eq_true h.1
    have ih := z_rest (ws := ws) h.2
    have e : ws[i]? = some ws[i] := List.getElem?_eq_getElem hi
    rw [List.map_cons, List.filterMap_cons, e, ih, List.map_cons]
section ZB
variable {p : Program} {l : Launch} {e : Env} {R : Room} {s : State} {m : MethodId} {args : Array Value} {below : List Frame} {meth : Method} {c : Code} {H : Heap} {locs : List Loc} {cells slots : Nat} {Q : State → Prop}
variable {cc : ByteArray} {pc nL : Nat} {ls : Array Slot} {rest : List Value} {G : va_G} {cy : Nat → ClassId} {E : Nat → Nat} {A : Nat → Prop} {a : Nat} {ws ws' w w' : va_W} {Ts : List Cond} {own : String}
theorem z_body {y : MethodName} {wy wy' : List Cond} {rm : Room} {av : List Value} {oc : Option Value} {mc ms maxL : Nat} {ret : Option FieldType} (hy : plainName y.cls = true) (hw : wy = Cond.code y cc maxL ret :: wy') (hlen : (lg_sl av).length ≤ maxL)
    (body : ∀ (p : Program) (e : Env) (s : State) (m : MethodId) (below : List Frame) (meth : Method) (c : Code) (ls : Array Slot), CallFix p m c cc maxL s av.toArray wy y.cls → meth.sig.returnType = ret → meth.locks = false → meth.name = y.name → zF G cy E (va_A w s.heap.size) s → zH G (va_A w s.heap.size) s s.heap [] w → lv_has ls maxL (lv_args 0 av) →
      W p l e rm s m av.toArray below meth c s.heap [] 0 0 (MQ below (zQ G w w' s.heap.size oc) av.toArray s mc ms (va_A w s.heap.size)) (F0 m 0 ls [])) : zM l G cy E y wy rm av w w' oc mc ms := by
  intro sz
  refine Met.ofW (cc := cc) (maxL := maxL) (ret := ret) hy hw ?_
  intro p e s m args below meth c s₁ B hml hv
  obtain ⟨rfl, hsz, hP, hK, hD0, hE⟩ := hv
  subst hsz
  have hl := lv_entry av (n := maxL) hlen
  rw [lg_entry_eq]
  generalize (lg_sl av ++ List.replicate (maxL - (lg_sl av).length) Slot.unset).toArray = ls at hl ⊢
  exact body p e s m below meth c ls ⟨B.exec, B.bytes, hml, findClass_of_methodNamed B.named, atoms_spec (ws := wy) B.pre⟩ B.returns B.notSynchronized (name_of_methodNamed B.named B.method).1 ⟨hK, hE, fun q h => Or.inr h⟩ ⟨hP, hD0.self, va_S.rf⟩ hl
theorem z_top {x y : Int32} (h : y = x) (k : W p l e R s m args below meth c H locs cells slots Q (F0 m pc ls (.int y :: rest))) : W p l e R s m args below meth c H locs cells slots Q (F0 m pc ls (.int x :: rest)) := h ▸ k
theorem z_topl {x y : Int64} (h : y = x) (k : W p l e R s m args below meth c H locs cells slots Q (F0 m pc ls (.long y :: rest))) : W p l e R s m args below meth c H locs cells slots Q (F0 m pc ls (.long x :: rest)) := h ▸ k
theorem z_get (S : CallFix p m c cc nL s args Ts own) (hF : zF G cy E A s) (hH : zH G A s H locs ws) {C : String} {T : u_T} {N ci index : Nat} (hin : ∀ w ∈ u_ws C T N, w ∈ Ts) (q0 : Nat) {fs : List Value} (he : ws[q0]? = some (a, .inr (ci, fs))) (hc : vwCl[ci]? = some (C, T, N)) (k : Nat) (hk : k < N) (hlink : Cond.fieldLink own index (T k).1 (T k).2.1 (T k).2.2.1 ∈ Ts) {v : Value} (hv : fs[k]? = some v) (hdg : decode cc pc = .ok (.getfield index, 3))
    (kk : W p l e R s m args below meth c H locs cells slots Q (F0 m (pc + 3) ls (v :: rest))) : W p l e R s m args below meth c H locs cells slots Q (F0 m pc ls (.ref a :: rest)) :=
  va_get S.1 S.2.1 S.2.2.2.2 hin S.2.2.2.1 hF.1 hH.1 q0 he hc k hk (S.2.2.2.2 _ hlink) (fun _ h9 => h9) hv hdg kk
theorem z_put (S : CallFix p m c cc nL s args Ts own) (hF : zF G cy E A s) (hH : zH G A s H locs ws) {C : String} {T : u_T} {N ci index : Nat} (hin : ∀ w ∈ u_ws C T N, w ∈ Ts) (ty0 : Nat → FieldType) (hty : ∀ k, k < N → parseFieldDescriptor (T k).2.2.1 = some (ty0 k)) (hnm : ∀ a, a < N → ∀ b, b < N → a ≠ b → (T a).2.1 ≠ (T b).2.1) (q0 : Nat) {fs : List Value} (he : ws[q0]? = some (a, .inr (ci, fs))) (hc : vwCl[ci]? = some (C, T, N)) (k : Nat) (hk : k < N) (hlink : Cond.fieldLink own index (T k).1 (T k).2.1 (T k).2.2.1 ∈ Ts) (hfin : (T k).2.2.2 = false) {v : Value} (hn : narrow (ty0 k) v = v) (hfit : fits (ty0 k) v = true) (hl : k < fs.length)
    (hw : ws.set q0 (a, .inr (ci, fs.set k v)) = ws') (hdg : decode cc pc = .ok (.putfield index, 3)) (kk : ∀ (H1 : Heap) (locs1 : List Loc), zH G A s H1 locs1 ws' → W p l e R s m args below meth c H1 locs1 cells slots Q (F0 m (pc + 3) ls rest)) : W p l e R s m args below meth c H locs cells slots Q (F0 m pc ls (v :: .ref a :: rest)) :=
  va_put S.1 S.2.1 S.2.2.2.2 hin ty0 hty hnm S.2.2.2.1 hF.1 hH.1 hH.2.1 hH.2.2 q0 he hc k hk (S.2.2.2.2 _ hlink) (fun _ h9 => h9) hfin (hty k hk) hn hfit hl hdg (fun H1 locs1 hP hD hS => kk H1 locs1 ⟨by rw [← hw]; exact hP, by rw [← hw]; exact hD, hS⟩)
theorem z_putF (S : CallFix p m c cc nL s args Ts own) (hF : zF G cy E A s) (hH : zH G A s H locs ws) {C : String} {T : u_T} {N ci index : Nat} (hin : ∀ w ∈ u_ws C T N, w ∈ Ts) (ty0 : Nat → FieldType) (hty : ∀ k, k < N → parseFieldDescriptor (T k).2.2.1 = some (ty0 k)) (hnm : ∀ a, a < N → ∀ b, b < N → a ≠ b → (T a).2.1 ≠ (T b).2.1) (q0 : Nat) {fs : List Value} (he : ws[q0]? = some (a, .inr (ci, fs))) (hc : vwCl[ci]? = some (C, T, N)) (k : Nat) (hk : k < N) (hlink : Cond.fieldLink own index (T k).1 (T k).2.1 (T k).2.2.1 ∈ Ts) (hfin : (T k).2.2.2 = true) (hin2 : meth.name = "<init>") (hdecl : (T k).1 = own) {v : Value} (hn : narrow (ty0 k) v = v) (hfit : fits (ty0 k) v = true) (hl : k < fs.length)
    (hw : ws.set q0 (a, .inr (ci, fs.set k v)) = ws') (hdg : decode cc pc = .ok (.putfield index, 3)) (kk : ∀ (H1 : Heap) (locs1 : List Loc), zH G A s H1 locs1 ws' → W p l e R s m args below meth c H1 locs1 cells slots Q (F0 m (pc + 3) ls rest)) : W p l e R s m args below meth c H locs cells slots Q (F0 m pc ls (v :: .ref a :: rest)) :=
  va_putF S.1 S.2.1 S.2.2.2.2 hin ty0 hty hnm S.2.2.2.1 hF.1 hH.1 hH.2.1 hH.2.2 q0 he hc k hk (S.2.2.2.2 _ hlink) (fun _ h9 => h9) hfin hin2 hdecl (hty k hk) hn hfit hl hdg (fun H1 locs1 hP hD hS => kk H1 locs1 ⟨by rw [← hw]; exact hP, by rw [← hw]; exact hD, hS⟩)
theorem z_iald (S : CallFix p m c cc nL s args Ts own) (hF : zF G cy E A s) (hH : zH G A s H locs ws) (q0 : Nat) {n : Nat} {f : Nat → Int32} (ha : ws[q0]? = some (a, .inl (cy 1, n, .inl f))) {i : Int32} {j : Nat} (hin : zin i n = true) (hj : i.toNatClampNeg = j) (hdg : decode cc pc = .ok (.iaload, 1))
    (kk : W p l e R s m args below meth c H locs cells slots Q (F0 m (pc + 1) ls (.int (f j) :: rest))) : W p l e R s m args below meth c H locs cells slots Q (F0 m pc ls (.int i :: .ref a :: rest)) :=
  va_iald S.1 S.2.1 hF.1 hH.1 q0 1 ha rfl (zin_e hin) hdg (by rw [hj]; exact kk)
theorem z_bald (S : CallFix p m c cc nL s args Ts own) (hF : zF G cy E A s) (hH : zH G A s H locs ws) (q0 : Nat) {n : Nat} {f : Nat → Int32} (ha : ws[q0]? = some (a, .inl (cy 0, n, .inl f))) {i : Int32} {j : Nat} (hin : zin i n = true) (hj : i.toNatClampNeg = j) (hdg : decode cc pc = .ok (.baload, 1))
    (kk : W p l e R s m args below meth c H locs cells slots Q (F0 m (pc + 1) ls (.int (f j) :: rest))) : W p l e R s m args below meth c H locs cells slots Q (F0 m pc ls (.int i :: .ref a :: rest)) :=
  va_bald S.1 S.2.1 hF.1 hH.1 q0 0 ha rfl (zin_e hin) hdg (by rw [hj]; exact kk)
theorem z_zald (S : CallFix p m c cc nL s args Ts own) (hF : zF G cy E A s) (hH : zH G A s H locs ws) (q0 : Nat) {n : Nat} {f : Nat → Int32} (ha : ws[q0]? = some (a, .inl (cy 3, n, .inl f))) {i : Int32} {j : Nat} (hin : zin i n = true) (hj : i.toNatClampNeg = j) (hdg : decode cc pc = .ok (.baload, 1))
    (kk : W p l e R s m args below meth c H locs cells slots Q (F0 m (pc + 1) ls (.int (f j) :: rest))) : W p l e R s m args below meth c H locs cells slots Q (F0 m pc ls (.int i :: .ref a :: rest)) :=
  va_zald S.1 S.2.1 hF.1 hH.1 q0 3 ha rfl (zin_e hin) hdg (by rw [hj]; exact kk)
theorem z_lald (S : CallFix p m c cc nL s args Ts own) (hF : zF G cy E A s) (hH : zH G A s H locs ws) (q0 : Nat) {n : Nat} {f : Nat → Int64} (ha : ws[q0]? = some (a, .inl (cy 2, n, .inr (.inl f)))) {i : Int32} {j : Nat} (hin : zin i n = true) (hj : i.toNatClampNeg = j) (hdg : decode cc pc = .ok (.laload, 1))
    (kk : W p l e R s m args below meth c H locs cells slots Q (F0 m (pc + 1) ls (.long (f j) :: rest))) : W p l e R s m args below meth c H locs cells slots Q (F0 m pc ls (.int i :: .ref a :: rest)) :=
  va_lald S.1 S.2.1 hF.1 hH.1 q0 2 ha rfl (zin_e hin) hdg (by rw [hj]; exact kk)
theorem z_iast (S : CallFix p m c cc nL s args Ts own) (hF : zF G cy E A s) (hH : zH G A s H locs ws) (q0 : Nat) {n : Nat} {f : Nat → Int32} (ha : ws[q0]? = some (a, .inl (cy 1, n, .inl f))) {i x : Int32} {j : Nat} (hin : zin i n = true) (hj : i.toNatClampNeg = j) (hw : ws.set q0 (a, .inl (cy 1, n, .inl (upd f j x))) = ws') (hdg : decode cc pc = .ok (.iastore, 1))
    (kk : ∀ (H1 : Heap) (locs1 : List Loc), zH G A s H1 locs1 ws' → W p l e R s m args below meth c H1 locs1 cells slots Q (F0 m (pc + 1) ls rest)) : W p l e R s m args below meth c H locs cells slots Q (F0 m pc ls (.int x :: .int i :: .ref a :: rest)) := by
  subst hj
  exact va_iast S.1 S.2.1 hF.1 hH.1 hH.2.1 hH.2.2 q0 1 ha rfl (zin_e hin) hdg (fun H1 locs1 hP hD hS => kk H1 locs1 ⟨by rw [← hw]; exact hP, by rw [← hw]; exact hD, hS⟩)
theorem z_bast (S : CallFix p m c cc nL s args Ts own) (hF : zF G cy E A s) (hH : zH G A s H locs ws) (q0 : Nat) {n : Nat} {f : Nat → Int32} (ha : ws[q0]? = some (a, .inl (cy 0, n, .inl f))) {i x : Int32} {j : Nat} (hin : zin i n = true) (hj : i.toNatClampNeg = j) (hw : ws.set q0 (a, .inl (cy 0, n, .inl (upd f j x.toInt8.toInt32))) = ws') (hdg : decode cc pc = .ok (.bastore, 1))
    (kk : ∀ (H1 : Heap) (locs1 : List Loc), zH G A s H1 locs1 ws' → W p l e R s m args below meth c H1 locs1 cells slots Q (F0 m (pc + 1) ls rest)) : W p l e R s m args below meth c H locs cells slots Q (F0 m pc ls (.int x :: .int i :: .ref a :: rest)) := by
  subst hj
  exact va_bast S.1 S.2.1 hF.1 hH.1 hH.2.1 hH.2.2 q0 0 ha rfl (zin_e hin) hdg (fun H1 locs1 hP hD hS => kk H1 locs1 ⟨by rw [← hw, ← vp_nar_byte]; exact hP, by rw [← hw, ← vp_nar_byte]; exact hD, hS⟩)
theorem z_zast (S : CallFix p m c cc nL s args Ts own) (hF : zF G cy E A s) (hH : zH G A s H locs ws) (q0 : Nat) {n : Nat} {f : Nat → Int32} (ha : ws[q0]? = some (a, .inl (cy 3, n, .inl f))) {i x : Int32} {j : Nat} (hin : zin i n = true) (hj : i.toNatClampNeg = j) (hx : zbo x = true) (hw : ws.set q0 (a, .inl (cy 3, n, .inl (upd f j x))) = ws') (hdg : decode cc pc = .ok (.bastore, 1))
    (kk : ∀ (H1 : Heap) (locs1 : List Loc), zH G A s H1 locs1 ws' → W p l e R s m args below meth c H1 locs1 cells slots Q (F0 m (pc + 1) ls rest)) : W p l e R s m args below meth c H locs cells slots Q (F0 m pc ls (.int x :: .int i :: .ref a :: rest)) := by
  subst hj
  have hv : vp_nar .boolean x = x := by unfold vp_nar; rw [zbo_e hx]
  exact va_zast S.1 S.2.1 hF.1 hH.1 hH.2.1 hH.2.2 q0 3 ha rfl (zin_e hin) hdg (fun H1 locs1 hP hD hS => kk H1 locs1 ⟨by rw [hv] at hP; rw [← hw]; exact hP, by rw [hv] at hD; rw [← hw]; exact hD, hS⟩)
theorem z_last (S : CallFix p m c cc nL s args Ts own) (hF : zF G cy E A s) (hH : zH G A s H locs ws) (q0 : Nat) {n : Nat} {f : Nat → Int64} (ha : ws[q0]? = some (a, .inl (cy 2, n, .inr (.inl f)))) {i : Int32} {x : Int64} {j : Nat} (hin : zin i n = true) (hj : i.toNatClampNeg = j) (hw : ws.set q0 (a, .inl (cy 2, n, .inr (.inl (vp_updL f j x)))) = ws') (hdg : decode cc pc = .ok (.lastore, 1))
    (kk : ∀ (H1 : Heap) (locs1 : List Loc), zH G A s H1 locs1 ws' → W p l e R s m args below meth c H1 locs1 cells slots Q (F0 m (pc + 1) ls rest)) : W p l e R s m args below meth c H locs cells slots Q (F0 m pc ls (.long x :: .int i :: .ref a :: rest)) := by
  subst hj
  exact va_last S.1 S.2.1 hF.1 hH.1 hH.2.1 hH.2.2 q0 2 ha rfl (zin_e hin) hdg (fun H1 locs1 hP hD hS => kk H1 locs1 ⟨by rw [← hw]; exact hP, by rw [← hw]; exact hD, hS⟩)
theorem z_alen (S : CallFix p m c cc nL s args Ts own) (hF : zF G cy E A s) (hH : zH G A s H locs ws) (q0 t0 : Nat) {cA : ClassId} {x : vp_A} (ha : ws[q0]? = some (a, .inl (cA, x))) {ty : FieldType} (ht : (ztys cy)[t0]? = some (cA, ty)) {v : Int32} (hv : Int32.ofNat x.1 = v) (hdg : decode cc pc = .ok (.arraylength, 1))
    (kk : W p l e R s m args below meth c H locs cells slots Q (F0 m (pc + 1) ls (.int v :: rest))) : W p l e R s m args below meth c H locs cells slots Q (F0 m pc ls (.ref a :: rest)) :=
  va_alen S.1 S.2.1 hF.1 hH.1 q0 t0 ha ht hv hdg kk
/-- the ends -/
theorem z_end (hH : zH G (va_A w s.heap.size) s H locs w') {oc : Option Value} : ∀ t : State, t.heap = H → s.WarmedH t.vm → zQ G w w' s.heap.size oc args s (.returned oc) t := fun t ht _ => ⟨⟨rfl, by rw [ht]; exact hH.1, hH.2.1⟩, hH.2.2.F ht⟩
theorem z_iret (S : CallFix p m c cc nL s args Ts own) (hr : meth.sig.returnType = some .int) (hlocks : meth.locks = false) (hH : zH G (va_A w s.heap.size) s H locs w') {v : Int32} (hdg : decode cc pc = .ok (.ireturn, 1)) : W p l e R s m args below meth c H locs cells slots (MQ below (zQ G w w' s.heap.size (some (.int v))) args s cells slots (va_A w s.heap.size)) (F0 m pc ls [.int v]) :=
  W.iret S.1 S.2.1 hr (z_end hH) hH.2.2.2.2 hdg hlocks
theorem z_zret (S : CallFix p m c cc nL s args Ts own) (hr : meth.sig.returnType = some .boolean) (hlocks : meth.locks = false) (hH : zH G (va_A w s.heap.size) s H locs w') {v : Int32} (hv : zbo v = true) (hdg : decode cc pc = .ok (.ireturn, 1)) : W p l e R s m args below meth c H locs cells slots (MQ below (zQ G w w' s.heap.size (some (.int v))) args s cells slots (va_A w s.heap.size)) (F0 m pc ls [.int v]) :=
  W.zret S.1 S.2.1 hr (zbo_e hv) (z_end hH) hH.2.2.2.2 hdg hlocks
theorem z_vret (S : CallFix p m c cc nL s args Ts own) (hr : meth.sig.returnType = none) (hlocks : meth.locks = false) (hH : zH G (va_A w s.heap.size) s H locs w') (hdg : decode cc pc = .ok (.return_, 1)) : W p l e R s m args below meth c H locs cells slots (MQ below (zQ G w w' s.heap.size none) args s cells slots (va_A w s.heap.size)) (F0 m pc ls []) :=
  W.vret S.1 S.2.1 hr (z_end hH) hH.2.2.2.2 hdg hlocks
/-- behind a call: the callee's cells where they were, with what they hold now -/
theorem z_call {wc w1 : va_W} {oc : Option Value} {mc ms : Nat} {st0 : List Value} {a9 : Array Value} {free : Addr → Prop} (hH : zH G A s H locs ws) (hF : zF G cy E A s) (isC : List Nat) (hC : isC.map (fun i => ws[i]?) = wc.map some) (hnC : va_nd isC = true) (had : w1.map (fun q => q.1) = wc.map (fun q => q.1)) (hput : zput ws isC w1 = ws')
    (hfr : free = va_A wc H.size) (hr : va_Run p l e R s m args below meth c H locs cells slots mc ms (F0 m pc ls st0) rest (zQ G wc w1 H.size oc a9) free)
    (kk : ∀ (H1 : Heap) (locs1 : List Loc), zH G A s H1 locs1 ws' → W p l e R s m args below meth c H1 locs1 (cells + mc) (slots + ms) Q (F0 m (pc + 3) ls (oc.toList ++ rest))) : W p l e R s m args below meth c H locs cells slots Q (F0 m pc ls st0) := by
  subst hfr
  obtain ⟨hP, hD, hS⟩ := hH
  have hFc := va_free (wc := wc) hD hS hF.2.2 isC hC
  intro T hT X
  obtain ⟨v, st₀, t, T', L, h0, X', hL, e1, e2, ⟨⟨hv, hP1, hD1⟩, hz, hk⟩, st⟩ := hr T hT X
  cases hv
  rw [h0] at hz hk
  have hS2 : va_S A s.heap T'.heap (locs ++ L) := ⟨Nat.le_trans hS.1 (by rw [e1]; exact hz), fun q h1 h2 => by rw [e1, hk q (Nat.lt_of_lt_of_le h1 hS.1) (fun z => h2 (hFc q z))]; exact hS.2.1 q h1 h2, fun q hq => by
      rcases List.mem_append.mp hq with h | h
      · exact hS.2.2 q h
      · exact hFc _ (hL q h)⟩
  have hkey := zput_spec hC hnC had
  rw [hput] at hkey
  have hD3 : va_D A ws' := by
    refine ⟨fun i j x y hi hj hxy => ?_, fun k q hq => ?_⟩
    · obtain ⟨x0, f1, f2, -⟩ := hkey i x hi
      obtain ⟨y0, f3, f4, -⟩ := hkey j y hj
      exact hD.1 i j x0 y0 f1 f3 (f2.trans (hxy.trans f4.symm))
    · obtain ⟨x0, f1, f2, -⟩ := hkey k q hq
      rw [← f2]
      exact hD.2 k x0 f1
  have hP3 : va_P G vwCl ws' T'.heap := by
    intro k q hq
    obtain ⟨x0, f1, f2, f3⟩ := hkey k q hq
    rw [e1]
    rcases f3 with ⟨j, -, g2⟩ | ⟨hno, hx0⟩
    · exact hP1 j q g2
    · rw [hx0] at f1
      have hl := (hP k q f1).lt
      refine (hP k q f1).kept (hk q.1 hl (fun z => ?_))
      rcases z with ⟨k2, e9, h9⟩ | h9
      · have h1 : (isC.map (fun i => ws[i]?))[k2]? = some (some (q.1, e9)) := by rw [hC, List.getElem?_map, h9]; rfl
        rw [List.getElem?_map] at h1
        cases hi : isC[k2]? with
        | none => rw [hi] at h1; cases h1
        | some i =>
          rw [hi] at h1
          have hik := hD.1 i k (q.1, e9) q (Option.some.inj h1) f1 rfl
          subst hik
          exact hno (List.mem_of_getElem? hi)
      · omega
  obtain ⟨t2, a1, b1⟩ := kk T'.heap (locs ++ L) ⟨hP3, hD3, hS2⟩ T' rfl X'
  exact ⟨t2, st t2 a1, b1⟩
/-- what a callee asks at its start -/
theorem z_ask {wc : va_W} (hH : zH G A s H locs ws) (hF : zF G cy E A s) (isC : List Nat) (hC : isC.map (fun i => ws[i]?) = wc.map some) (hnC : va_nd isC = true) (av : List Value) : ∀ U : State, U.heap = H → s.WarmedH U.vm → va_Pc av (zPre G cy E wc H.size) av.toArray U := by
  intro U hU hW
  obtain ⟨hP, hD, hS⟩ := hH
  have hFc := va_free (wc := wc) hD hS hF.2.2 isC hC
  refine ⟨rfl, by rw [hU], ?_, va_K.moved hW.alike hF.1, (hD.sub isC hnC hC).weaken (fun _ _ _ _ => trivial), hF.2.1.ask hW hU hS hFc⟩
  intro k q hq
  have h1 : (isC.map (fun i => ws[i]?))[k]? = some (some q) := by rw [hC, List.getElem?_map, hq]; rfl
  rw [List.getElem?_map] at h1
  cases hi : isC[k]? with
  | none => rw [hi] at h1; cases h1
  | some i => rw [hi] at h1; rw [hU]; exact hP i q (Option.some.inj h1)
theorem z_callV {wc w1 : va_W} {oc : Option Value} {mc ms n index maxL : Nat} {y : MethodName} {wy : List Cond} {rm : Room} {b : Nat} {As : List Value} {C : String} {bytes : ByteArray} {ret : Option FieldType} (S : CallFix p m c cc nL s args Ts own) (hF : zF G cy E A s) (hH : zH G A s H locs ws) (hM : zM l G cy E y wy rm (.ref b :: As) wc w1 oc mc ms) (cw : CallW R s args own C index y bytes maxL ret wy rm mc ms n)
    (ci q0 : Nat) {T : u_T} {N : Nat} {fs : List Value} (hcl : vwCl[ci]? = some (C, T, N)) (hrec : wc[q0]? = some (b, .inr (ci, fs))) (isC : List Nat) (hC : isC.map (fun i => ws[i]?) = wc.map some) (hnC : va_nd isC = true) (had : w1.map (fun q => q.1) = wc.map (fun q => q.1)) (hput : zput ws isC w1 = ws')
    {st0 st1 : List Value} (hst : st0 = As.reverse ++ .ref b :: rest) (hst1 : oc.toList ++ rest = st1) (hna : As.length = n) (hl : ls.size = nL) (hW : (rest.map fun v => v.category).sum ≤ 8) (hdg : decode cc pc = .ok (.invokevirtual index, 3)) (hf : cells + mc ≤ R.cells ∧ slots + ms ≤ R.slots)
    (kk : ∀ (H1 : Heap) (locs1 : List Loc), zH G A s H1 locs1 ws' → W p l e R s m args below meth c H1 locs1 (cells + mc) (slots + ms) Q (F0 m (pc + 3) ls st1)) : W p l e R s m args below meth c H locs cells slots Q (F0 m pc ls st0) := by
  have hPc : va_P G vwCl wc H := ((z_ask hH hF isC hC hnC (.ref b :: As)) { s with heap := H } rfl (State.WarmedH.refl s)).2.2.1
  exact z_call hH hF isC hC hnC had hput rfl (va_runV (As := As) (rest := rest) S (hM H.size) cw ⟨zPre_blind, va_recv hF.1 hPc hcl hrec, z_ask hH hF isC hC hnC _⟩ rfl hna hl hst (lv_room hW) hdg hf) (fun H1 locs1 h9 => by rw [hst1]; exact kk H1 locs1 h9)
theorem z_callS {wc w1 : va_W} {oc : Option Value} {mc ms n index maxL : Nat} {y : MethodName} {wy : List Cond} {rm : Room} {As : List Value} {bytes : ByteArray} {ret : Option FieldType} (S : CallFix p m c cc nL s args Ts own) (hF : zF G cy E A s) (hH : zH G A s H locs ws) (hM : zM l G cy E y wy rm As wc w1 oc mc ms) (cw : CallB R s args own index y bytes maxL ret wy rm mc ms n ∧ (Cond.static y).before args s = true)
    (isC : List Nat) (hC : isC.map (fun i => ws[i]?) = wc.map some) (hnC : va_nd isC = true) (had : w1.map (fun q => q.1) = wc.map (fun q => q.1)) (hput : zput ws isC w1 = ws')
    {st0 st1 : List Value} (hst : st0 = As.reverse ++ rest) (hst1 : oc.toList ++ rest = st1) (hna : As.length = n) (hl : ls.size = nL) (hW : (rest.map fun v => v.category).sum ≤ 8) (hdg : decode cc pc = .ok (.invokestatic index, 3)) (hf : cells + mc ≤ R.cells ∧ slots + ms ≤ R.slots)
    (kk : ∀ (H1 : Heap) (locs1 : List Loc), zH G A s H1 locs1 ws' → W p l e R s m args below meth c H1 locs1 (cells + mc) (slots + ms) Q (F0 m (pc + 3) ls st1)) : W p l e R s m args below meth c H locs cells slots Q (F0 m pc ls st0) :=
  z_call hH hF isC hC hnC had hput rfl (va_runS (As := As) (rest := rest) S (hM H.size) cw ⟨zPre_blind, z_ask hH hF isC hC hnC _⟩ rfl hna hl hst (lv_room hW) hdg hf) (fun H1 locs1 h9 => by rw [hst1]; exact kk H1 locs1 h9)
theorem z_callSN {wc w1 : va_W} {oc : Option Value} {mc ms n index maxL : Nat} {y : MethodName} {wy : List Cond} {rm : Room} {As : List Value} {bytes : ByteArray} {ret : Option FieldType} {host : String} (S : CallFix p m c cc nL s args Ts own) (hF : zF G cy E A s) (hH : zH G A s H locs ws) (hM : zM l G cy E y wy rm As wc w1 oc mc ms) (cw : va_CN R s args own index y host bytes maxL ret wy rm mc ms n ∧ (Cond.static y).before args s = true ∧ True)
    (isC : List Nat) (hC : isC.map (fun i => ws[i]?) = wc.map some) (hnC : va_nd isC = true) (had : w1.map (fun q => q.1) = wc.map (fun q => q.1)) (hput : zput ws isC w1 = ws')
    {st0 st1 : List Value} (hst : st0 = As.reverse ++ rest) (hst1 : oc.toList ++ rest = st1) (hna : As.length = n) (hl : ls.size = nL) (hW : (rest.map fun v => v.category).sum ≤ 8) (hdg : decode cc pc = .ok (.invokestatic index, 3)) (hf : cells + mc ≤ R.cells ∧ slots + ms ≤ R.slots)
    (kk : ∀ (H1 : Heap) (locs1 : List Loc), zH G A s H1 locs1 ws' → W p l e R s m args below meth c H1 locs1 (cells + mc) (slots + ms) Q (F0 m (pc + 3) ls st1)) : W p l e R s m args below meth c H locs cells slots Q (F0 m pc ls st0) :=
  z_call hH hF isC hC hnC had hput rfl (va_runSN (As := As) (rest := rest) S (hM H.size) cw ⟨zPre_blind, z_ask hH hF isC hC hnC _⟩ rfl hna hl hst (lv_room hW) hdg hf) (fun H1 locs1 h9 => by rw [hst1]; exact kk H1 locs1 h9)
theorem z_callI {wc w1 : va_W} {oc : Option Value} {mc ms n index maxL : Nat} {y : MethodName} {wy : List Cond} {rm : Room} {b : Nat} {As : List Value} {bytes : ByteArray} (S : CallFix p m c cc nL s args Ts own) (hF : zF G cy E A s) (hH : zH G A s H locs ws) (hM : zM l G cy E y wy rm (.ref b :: As) wc w1 oc mc ms) (cw : CallB R s args own index y bytes maxL none wy rm mc ms n ∧ y.name = "<init>" ∧ (Cond.instanceMethod y).before args s = true)
    (isC : List Nat) (hC : isC.map (fun i => ws[i]?) = wc.map some) (hnC : va_nd isC = true) (had : w1.map (fun q => q.1) = wc.map (fun q => q.1)) (hput : zput ws isC w1 = ws')
    {st0 st1 : List Value} (hst : st0 = As.reverse ++ .ref b :: rest) (hst1 : oc.toList ++ rest = st1) (hna : As.length = n) (hl : ls.size = nL) (hW : (rest.map fun v => v.category).sum ≤ 8) (hdg : decode cc pc = .ok (.invokespecial index, 3)) (hf : cells + mc ≤ R.cells ∧ slots + ms ≤ R.slots)
    (kk : ∀ (H1 : Heap) (locs1 : List Loc), zH G A s H1 locs1 ws' → W p l e R s m args below meth c H1 locs1 (cells + mc) (slots + ms) Q (F0 m (pc + 3) ls st1)) : W p l e R s m args below meth c H locs cells slots Q (F0 m pc ls st0) :=
  z_call hH hF isC hC hnC had hput rfl (va_runI (As := As) (rest := rest) S (hM H.size) cw ⟨zPre_blind, z_ask hH hF isC hC hnC _⟩ rfl hna hl hst (lv_room hW) hdg hf) (fun H1 locs1 h9 => by rw [hst1]; exact kk H1 locs1 h9)
theorem z_callIN {wc w1 : va_W} {oc : Option Value} {mc ms n index maxL : Nat} {y : MethodName} {wy : List Cond} {rm : Room} {b : Nat} {As : List Value} {bytes : ByteArray} {host : String} (S : CallFix p m c cc nL s args Ts own) (hF : zF G cy E A s) (hH : zH G A s H locs ws) (hM : zM l G cy E y wy rm (.ref b :: As) wc w1 oc mc ms) (cw : va_CN R s args own index y host bytes maxL none wy rm mc ms n ∧ y.name = "<init>" ∧ (Cond.instanceMethod y).before args s = true)
    (isC : List Nat) (hC : isC.map (fun i => ws[i]?) = wc.map some) (hnC : va_nd isC = true) (had : w1.map (fun q => q.1) = wc.map (fun q => q.1)) (hput : zput ws isC w1 = ws')
    {st0 st1 : List Value} (hst : st0 = As.reverse ++ .ref b :: rest) (hst1 : oc.toList ++ rest = st1) (hna : As.length = n) (hl : ls.size = nL) (hW : (rest.map fun v => v.category).sum ≤ 8) (hdg : decode cc pc = .ok (.invokespecial index, 3)) (hf : cells + mc ≤ R.cells ∧ slots + ms ≤ R.slots)
    (kk : ∀ (H1 : Heap) (locs1 : List Loc), zH G A s H1 locs1 ws' → W p l e R s m args below meth c H1 locs1 (cells + mc) (slots + ms) Q (F0 m (pc + 3) ls st1)) : W p l e R s m args below meth c H locs cells slots Q (F0 m pc ls st0) :=
  z_call hH hF isC hC hnC had hput rfl (va_runIN (As := As) (rest := rest) S (hM H.size) cw ⟨zPre_blind, z_ask hH hF isC hC hnC _⟩ rfl hna hl hst (lv_room hW) hdg hf) (fun H1 locs1 h9 => by rw [hst1]; exact kk H1 locs1 h9)
theorem z_mmax (S : CallFix p m c cc nL s args Ts own) (hl : ls.size = nL) {index : Nat} (h1 : Cond.methodLink own index Lib.Math.max.name ∈ Ts) (h2 : Cond.static Lib.Math.max.name ∈ Ts) (h3 : Cond.initialized "java/lang/Math" ∈ Ts) (h4 : Cond.code Lib.Math.max.name Lib.Math.max.code 2 (some .int) ∈ Ts) (hfr : 1 ≤ R.frames) (hlo : (rest.map fun v => v.category).sum + 13 ≤ R.locals) (hc : cells ≤ R.cells) (hs : slots ≤ R.slots) {x y : Int32} (hdg : decode cc pc = .ok (.invokestatic index, 3))
    (kk : W p l e R s m args below meth c H locs cells slots Q (F0 m (pc + 3) ls (.int (zmax x y) :: rest))) : W p l e R s m args below meth c H locs cells slots Q (F0 m pc ls (.int y :: .int x :: rest)) :=
  va_mmax S.1 S.2.1 (S.2.2.1.trans hl.symm) S.2.2.2.1 (S.2.2.2.2 _ h1) (S.2.2.2.2 _ h2) (S.2.2.2.2 _ h3) (S.2.2.2.2 _ h4) hfr hlo hc hs hdg kk
theorem z_mmin (S : CallFix p m c cc nL s args Ts own) (hl : ls.size = nL) {index : Nat} (h1 : Cond.methodLink own index Lib.Math.min.name ∈ Ts) (h2 : Cond.static Lib.Math.min.name ∈ Ts) (h3 : Cond.initialized "java/lang/Math" ∈ Ts) (h4 : Cond.code Lib.Math.min.name Lib.Math.min.code 2 (some .int) ∈ Ts) (hfr : 1 ≤ R.frames) (hlo : (rest.map fun v => v.category).sum + 13 ≤ R.locals) (hc : cells ≤ R.cells) (hs : slots ≤ R.slots) {x y : Int32} (hdg : decode cc pc = .ok (.invokestatic index, 3))
    (kk : W p l e R s m args below meth c H locs cells slots Q (F0 m (pc + 3) ls (.int (zmin x y) :: rest))) : W p l e R s m args below meth c H locs cells slots Q (F0 m pc ls (.int y :: .int x :: rest)) :=
  va_mmin S.1 S.2.1 (S.2.2.1.trans hl.symm) S.2.2.2.1 (S.2.2.2.2 _ h1) (S.2.2.2.2 _ h2) (S.2.2.2.2 _ h3) (S.2.2.2.2 _ h4) hfr hlo hc hs hdg kk
theorem z_mabs (S : CallFix p m c cc nL s args Ts own) (hl : ls.size = nL) {index : Nat} (h1 : Cond.methodLink own index Lib.Math.abs.name ∈ Ts) (h2 : Cond.static Lib.Math.abs.name ∈ Ts) (h3 : Cond.initialized "java/lang/Math" ∈ Ts) (h4 : Cond.code Lib.Math.abs.name Lib.Math.abs.code 1 (some .int) ∈ Ts) (hfr : 1 ≤ R.frames) (hlo : (rest.map fun v => v.category).sum + 13 ≤ R.locals) (hc : cells ≤ R.cells) (hs : slots ≤ R.slots) {x : Int32} (hdg : decode cc pc = .ok (.invokestatic index, 3))
    (kk : W p l e R s m args below meth c H locs cells slots Q (F0 m (pc + 3) ls (.int (zabs x) :: rest))) : W p l e R s m args below meth c H locs cells slots Q (F0 m pc ls (.int x :: rest)) :=
  va_mabs S.1 S.2.1 (S.2.2.1.trans hl.symm) S.2.2.2.1 (S.2.2.2.2 _ h1) (S.2.2.2.2 _ h2) (S.2.2.2.2 _ h3) (S.2.2.2.2 _ h4) hfr hlo hc hs hdg kk
theorem z_irem (hx : p.tables.exec = Jvm.exec) (hb : c.code = cc) {x y : Int32} (hdg : decode cc pc = .ok (.irem, 1)) (hne : zne0 y = true)
    (k : W p l e R s m args below meth c H locs cells slots Q (F0 m (pc + 1) ls (.int (zrem x y) :: rest))) : W p l e R s m args below meth c H locs cells slots Q (F0 m pc ls (.int y :: .int x :: rest)) := lv_irem hx hb hdg (zne0_e hne) k
theorem z_copyi (S : CallFix p m c cc nL s args Ts own) (hF : zF G cy E A s) (hH : zH G A s H locs ws) (hl : ls.size = nL) {index : Nat} (g1 : Cond.methodLink own index arraycopyName ∈ Ts) (g2 : Cond.native arraycopyName ∈ Ts) (g3 : Cond.static arraycopyName ∈ Ts) (g4 : Cond.initialized "java/lang/System" ∈ Ts) (q0 q1 : Nat) {a0 n0 n1 : Nat} {f g : Nat → Int32} (ha0 : ws[q0]? = some (a0, .inl (cy 1, n0, .inl f))) (ha1 : ws[q1]? = some (a, .inl (cy 1, n1, .inl g))) {sp dp n : Int32} (spn dpn nn : Nat) (e1 : sp.toNatClampNeg = spn) (e2 : dp.toNatClampNeg = dpn) (e3 : n.toNatClampNeg = nn) (h1 : ¬ sp < 0) (h2 : ¬ dp < 0) (h3 : ¬ n < 0) (h4 : spn + nn ≤ n0) (h5 : dpn + nn ≤ n1) (hfr : 1 ≤ R.frames) (hlo : (rest.map fun v => v.category).sum + (nativeFrameWords "java/lang/System" "arraycopy" 5 + 11) ≤ R.locals)
    (hw : ws.set q1 (a, .inl (cy 1, n1, .inl (va_cpy f g spn dpn nn))) = ws') (hdg : decode cc pc = .ok (.invokestatic index, 3)) (kk : ∀ (H1 : Heap) (locs1 : List Loc), zH G A s H1 locs1 ws' → W p l e R s m args below meth c H1 locs1 cells slots Q (F0 m (pc + 3) ls rest)) : W p l e R s m args below meth c H locs cells slots Q (F0 m pc ls (.int n :: .int dp :: .ref a :: .int sp :: .ref a0 :: rest)) := by
  subst e1; subst e2; subst e3
  exact va_copyi S.1 S.2.1 (S.2.2.1.trans hl.symm) S.2.2.2.1 (S.2.2.2.2 _ g1) (S.2.2.2.2 _ g2) (S.2.2.2.2 _ g3) (S.2.2.2.2 _ g4) hF.1 hH.1 hH.2.1 hH.2.2 q0 q1 1 1 ha0 ha1 rfl rfl rfl h1 h2 h3 h4 h5 (fun _ _ => rfl) hfr hlo hdg (fun H1 locs1 hP hD hS => kk H1 locs1 ⟨by rw [← hw]; exact hP, by rw [← hw]; exact hD, hS⟩)
theorem z_copyl (S : CallFix p m c cc nL s args Ts own) (hF : zF G cy E A s) (hH : zH G A s H locs ws) (hl : ls.size = nL) {index : Nat} (g1 : Cond.methodLink own index arraycopyName ∈ Ts) (g2 : Cond.native arraycopyName ∈ Ts) (g3 : Cond.static arraycopyName ∈ Ts) (g4 : Cond.initialized "java/lang/System" ∈ Ts) (q0 q1 : Nat) {a0 n0 n1 : Nat} {f g : Nat → Int64} (ha0 : ws[q0]? = some (a0, .inl (cy 2, n0, .inr (.inl f)))) (ha1 : ws[q1]? = some (a, .inl (cy 2, n1, .inr (.inl g)))) {sp dp n : Int32} (spn dpn nn : Nat) (e1 : sp.toNatClampNeg = spn) (e2 : dp.toNatClampNeg = dpn) (e3 : n.toNatClampNeg = nn) (h1 : ¬ sp < 0) (h2 : ¬ dp < 0) (h3 : ¬ n < 0) (h4 : spn + nn ≤ n0) (h5 : dpn + nn ≤ n1) (hfr : 1 ≤ R.frames) (hlo : (rest.map fun v => v.category).sum + (nativeFrameWords "java/lang/System" "arraycopy" 5 + 11) ≤ R.locals)
    (hw : ws.set q1 (a, .inl (cy 2, n1, .inr (.inl (va_cpy f g spn dpn nn)))) = ws') (hdg : decode cc pc = .ok (.invokestatic index, 3)) (kk : ∀ (H1 : Heap) (locs1 : List Loc), zH G A s H1 locs1 ws' → W p l e R s m args below meth c H1 locs1 cells slots Q (F0 m (pc + 3) ls rest)) : W p l e R s m args below meth c H locs cells slots Q (F0 m pc ls (.int n :: .int dp :: .ref a :: .int sp :: .ref a0 :: rest)) := by
  subst e1; subst e2; subst e3
  exact va_copyl S.1 S.2.1 (S.2.2.1.trans hl.symm) S.2.2.2.1 (S.2.2.2.2 _ g1) (S.2.2.2.2 _ g2) (S.2.2.2.2 _ g3) (S.2.2.2.2 _ g4) hF.1 hH.1 hH.2.1 hH.2.2 q0 q1 2 2 ha0 ha1 rfl rfl rfl h1 h2 h3 h4 h5 (fun _ _ => rfl) hfr hlo hdg (fun H1 locs1 hP hD hS => kk H1 locs1 ⟨by rw [← hw]; exact hP, by rw [← hw]; exact hD, hS⟩)
end ZB
