/-! ===== the start: what the Statement gives, as zF asks it ===== -/
abbrev FT : List Cond := flatC (Jvm.Cond.and given_1 narrow_1)
abbrev zsT (i : Nat) : Term := .string (zsO.getD i ("", 0, "")).1 (zsO.getD i ("", 0, "")).2.1
def zpE : List Nat := [263, 403, 415, 429, 449, 495]
def zpC : List Nat := [264, 404, 416, 430, 450, 496]
def zpA : List Nat := [265, 405, 417, 431, 451, 497]
def zpL : List Nat := [266, 406, 418, 432, 452, 498]
def zpB : List (List Nat) := [[267, 268, 269, 270, 271, 272, 273, 274, 275, 276, 277, 278, 279, 280, 281, 282, 283, 284, 285, 286, 287, 288, 289, 290, 291, 292, 293, 294, 295, 296, 297, 298, 299, 300, 301, 302, 303, 304, 305, 306, 307, 308, 309, 310, 311, 312, 313, 314, 315, 316, 317, 318, 319, 320, 321, 322, 323, 324, 325, 326, 327, 328, 329, 330, 331, 332, 333, 334, 335, 336, 337, 338, 339, 340, 341, 342, 343, 344, 345, 346, 347, 348, 349, 350, 351, 352, 353, 354, 355, 356, 357, 358, 359, 360, 361, 362, 363, 364, 365, 366, 367, 368, 369, 370, 371, 372, 373, 374, 375, 376, 377, 378, 379, 380, 381, 382, 383, 384, 385, 386, 387, 388, 389, 390, 391, 392, 393, 394, 395, 396, 397, 398, 399, 400, 401, 402], [407, 408, 409, 410, 411, 412, 413], [419, 420, 421, 422, 423, 424, 425, 426], [433, 434, 435, 436, 437, 438, 439, 440, 441, 442, 443, 444, 445], [453, 454, 455, 456, 457, 458, 459, 460, 461, 462, 463, 464, 465, 466, 467, 468, 469, 470, 471, 472, 473, 474, 475, 476, 477, 478, 479, 480, 481, 482, 483, 484, 485, 486, 487, 488, 489, 490], [499, 500, 501, 502, 503, 504, 505, 506, 507, 508, 509, 510, 511, 512, 513, 514, 515, 516, 517, 518, 519, 520, 521, 522, 523, 524, 525, 526, 527, 528, 529, 530, 531, 532, 533, 534, 535, 536, 537, 538, 539, 540]]
def zpN : List Nat := [0, 414, 427, 446, 491, 541, 0, 0, 428, 447, 492, 542, 0, 0, 0, 448, 493, 543, 0, 0, 0, 0, 494, 544, 0, 0, 0, 0, 0, 545, 0, 0, 0, 0, 0, 0]
def zpO : List Nat := [12, 13, 14, 15, 16, 17, 18, 19, 20, 21, 22, 23, 24, 25, 26, 27, 28, 29, 30, 31, 32, 33, 34, 35, 36, 37, 38, 39, 40, 41, 42, 43, 44, 45, 46, 47, 48, 49, 50, 51, 52, 53, 54, 55, 56, 57, 58, 59, 60, 61, 62, 63, 64, 65, 66, 67, 68, 69, 70, 71, 72, 73, 74, 75, 76, 77, 78, 79, 80, 81, 82, 83, 84, 85, 86, 87, 88, 89, 90, 91, 92, 93, 94, 95, 96, 97, 98, 99, 100, 101, 102, 103, 104, 105, 106, 107, 108, 109, 110, 111]
def zpT : List Nat := [115, 116, 117, 118, 119, 120, 121, 122, 123, 124, 125, 126, 127, 128, 129, 130, 131, 132, 133, 134, 135, 136, 137, 138, 139, 140, 141, 142, 143, 144, 145, 146, 147, 148, 149, 150, 151, 152, 153, 154, 155, 156, 157, 158, 159, 160, 161, 162, 163, 164, 165, 166, 167, 168, 169, 170, 171, 172, 173, 174, 175, 176, 177, 178, 179, 180, 181, 182, 183, 184, 185, 186, 187, 188, 189, 190, 191, 192, 193, 194, 195, 196, 197, 198, 199, 200, 201, 202, 203, 204, 205, 206, 207, 208, 209, 210, 211, 212, 213, 214]
theorem zp_E : ∀ i, i < 6 → FT[zpE.getD i 0]? = some (.exactly (zsT i) "java/lang/String") := by decide +kernel
theorem zp_C : ∀ i, i < 6 → FT[zpC.getD i 0]? = some (.eq (.field (zsT i) "java/lang/String" "coder" "B") (.int 0)) := by decide +kernel
theorem zp_A : ∀ i, i < 6 → FT[zpA.getD i 0]? = some (.arrayOf (.field (zsT i) "java/lang/String" "value" "[B") .byte) := by decide +kernel
theorem zp_L : ∀ i, i < 6 → FT[zpL.getD i 0]? = some (.eq (.length (.field (zsT i) "java/lang/String" "value" "[B")) (.int (Int32.ofNat (zsL.getD i 0)))) := by decide +kernel
theorem zp_B0 : ∀ j, j < 136 → FT[(zpB.getD 0 []).getD j 0]? = some (.eq (.elem (.field (zsT 0) "java/lang/String" "value" "[B") (.int (Int32.ofNat j))) (.int ((zsB.getD 0 []).getD j 0))) := by decide +kernel
theorem zp_B1 : ∀ j, j < 7 → FT[(zpB.getD 1 []).getD j 0]? = some (.eq (.elem (.field (zsT 1) "java/lang/String" "value" "[B") (.int (Int32.ofNat j))) (.int ((zsB.getD 1 []).getD j 0))) := by decide +kernel
theorem zp_B2 : ∀ j, j < 8 → FT[(zpB.getD 2 []).getD j 0]? = some (.eq (.elem (.field (zsT 2) "java/lang/String" "value" "[B") (.int (Int32.ofNat j))) (.int ((zsB.getD 2 []).getD j 0))) := by decide +kernel
theorem zp_B3 : ∀ j, j < 13 → FT[(zpB.getD 3 []).getD j 0]? = some (.eq (.elem (.field (zsT 3) "java/lang/String" "value" "[B") (.int (Int32.ofNat j))) (.int ((zsB.getD 3 []).getD j 0))) := by decide +kernel
theorem zp_B4 : ∀ j, j < 38 → FT[(zpB.getD 4 []).getD j 0]? = some (.eq (.elem (.field (zsT 4) "java/lang/String" "value" "[B") (.int (Int32.ofNat j))) (.int ((zsB.getD 4 []).getD j 0))) := by decide +kernel
theorem zp_B5 : ∀ j, j < 42 → FT[(zpB.getD 5 []).getD j 0]? = some (.eq (.elem (.field (zsT 5) "java/lang/String" "value" "[B") (.int (Int32.ofNat j))) (.int ((zsB.getD 5 []).getD j 0))) := by decide +kernel
theorem zp_N : ∀ i, i < 6 → ∀ j, j < 6 → i < j → FT[zpN.getD (6 * i + j) 0]? = some (.not (.eq (zsT i) (zsT j))) := by decide +kernel
theorem zp_O : ∀ j, j < 100 → FT[zpO.getD j 0]? = some (.eq (.elem (.static "java/lang/Integer" "DigitOnes" "[B") (.int (Int32.ofNat j))) (.int (Int32.ofNat (48 + j % 10)))) := by decide +kernel
theorem zp_T : ∀ j, j < 100 → FT[zpT.getD j 0]? = some (.eq (.elem (.static "java/lang/Integer" "DigitTens" "[B") (.int (Int32.ofNat j))) (.int (Int32.ofNat (48 + j / 10)))) := by decide +kernel
theorem zp_nest : ∀ q ∈ znest, Cond.methodLinkNest q.1 q.2.1 q.2.2 "LateMasters" ∈ lw_tbl := by decide +kernel
theorem zp_str : ∀ i, i < 6 → Cond.stringRef (zsO.getD i ("", 0, "")).1 (zsO.getD i ("", 0, "")).2.1 (zsO.getD i ("", 0, "")).2.2 ∈ lw_tbl := by decide +kernel
theorem zs_cl {s : State} {args : Array Value} (hts : ∀ w ∈ LT, w.before args s = true) : ∀ q ∈ vwCl, ∃ (cC : ClassId) (iS : Nat → Nat), u_Kn s q.1 q.2.1 q.2.2 cC iS :=
  List.forall_mem_cons.mpr ⟨u_known (C := RJ4) (T := TJ4) (N := 4) (n := 4) hts (fun w h => (gk_wsJ40 w h).1) (hts _ mw_43.1), List.forall_mem_cons.mpr ⟨u_known (C := RX0) (T := TX0) (N := 11) (n := 11) hts (fun w h => (gk_wsX00 w h).1) (hts _ mw_35.1), List.forall_mem_cons.mpr ⟨u_known (C := RX1) (T := TX1) (N := 15) (n := 15) hts (fun w h => (gk_wsX10 w h).1) (hts _ mw_77.1), List.forall_mem_cons.mpr ⟨u_known (C := RX2) (T := TX2) (N := 3) (n := 3) hts (fun w h => (gk_wsX20 w h).1) (hts _ mw_27.1), List.forall_mem_cons.mpr ⟨u_known (C := RX3) (T := TX3) (N := 10) (n := 10) hts (fun w h => (gk_wsX30 w h).1) (hts _ mw_23.1), List.forall_mem_cons.mpr ⟨u_known (C := RX4) (T := TX4) (N := 3) (n := 3) hts (fun w h => (gk_wsX40 w h).1) (hts _ mw_18.1), List.forall_mem_cons.mpr ⟨u_known (C := RX5) (T := TX5) (N := 3) (n := 3) hts (fun w h => (gk_wsX50 w h).1) (hts _ mw_83.1), List.forall_mem_cons.mpr ⟨u_known (C := RX6) (T := TX6) (N := 4) (n := 4) hts (fun w h => (gk_wsX60 w h).1) (hts _ mw_31.1), List.forall_mem_cons.mpr ⟨u_known (C := RX7) (T := TX7) (N := 2) (n := 2) hts (fun w h => (gk_wsX70 w h).1) (hts _ mw_5.1), List.forall_mem_cons.mpr ⟨u_known (C := RX8) (T := TX8) (N := 13) (n := 13) hts (fun w h => (gk_wsX80 w h).1) (hts _ mw_9.1), List.forall_mem_cons.mpr ⟨u_known (C := RX9) (T := TX9) (N := 4) (n := 4) hts (fun w h => (gk_wsX90 w h).1) (hts _ mw_39.1), List.forall_mem_cons.mpr ⟨u_known (C := RX10) (T := TX10) (N := 4) (n := 4) hts (fun w h => (gk_wsX100 w h).1) (hts _ mw_13.1), List.forall_mem_cons.mpr ⟨u_known (C := RX11) (T := TX11) (N := 13) (n := 13) hts (fun w h => (gk_wsX110 w h).1) (hts _ mw_1734.1), List.forall_mem_cons.mpr ⟨u_known (C := RX12) (T := TX12) (N := 46) (n := 46) hts (fun w h => (gk_wsX120 w h).1) (hts _ mw_1736.1), fun _ h => absurd h List.not_mem_nil⟩⟩⟩⟩⟩⟩⟩⟩⟩⟩⟩⟩⟩⟩
theorem zs_ar {s : State} {args : Array Value} {ty : FieldType} (h : (Cond.arrayClass ty).before args s = true) (hty : ∀ C, ty ≠ .object C) : ∃ cA : ClassId, ArrOfT s cA ty ∧ va_RA s cA ty := by
  obtain ⟨cA, kA, comp, h1, h2, h3⟩ := Cond.arrayClass_spec h
  refine ⟨cA, fun n z => ⟨fun k h => (by cases h), kA, h2, comp, h3⟩, ?_⟩
  cases ty <;> first | exact h1 | exact absurd rfl (hty _)
theorem zs_ao {s : State} {args : Array Value} {C : String} (h : (Cond.arrayOver (.object C)).before args s = true) : ∃ cA : ClassId, ArrOfT s cA (.object C) ∧ va_RA s cA (.object C) := by
  obtain ⟨comp, cA, kA, h1, -, h2, h3, h4⟩ := Cond.arrayOver_spec h
  exact ⟨cA, fun n z => ⟨fun k h => (by cases h), kA, h2, comp, h3⟩, kA, comp, h2, h3, h1, h4⟩
theorem zs_K {s : State} {args : Array Value} (hts : ∀ w ∈ LT, w.before args s = true) : ∃ (G : va_G) (cy : Nat → ClassId), va_K G vwCl (ztys cy) s := by
  have hT : ∀ (w : Cond) (i : Nat), lw_tbl[i]? = some w → w.before args s = true := fun w i h => hts w (List.mem_append_right _ (List.mem_of_getElem? h))
  have hall := zs_cl hts
  obtain ⟨c9, i9, -⟩ := hall (RJ4, TJ4, 4) List.mem_cons_self
  have h0 : ∀ k : Nat, ∃ z : ClassId × (Nat → Nat), ∀ q, vwCl[k]? = some q → u_Kn s q.1 q.2.1 q.2.2 z.1 z.2 := by
    intro k
    cases h : vwCl[k]? with
    | none => exact ⟨(c9, i9), fun q h' => by cases h'⟩
    | some q =>
      obtain ⟨cC, iS, hK⟩ := hall q (List.mem_of_getElem? h)
      exact ⟨(cC, iS), fun q' h' => by cases h'; exact hK⟩
  obtain ⟨f, hf⟩ := Classical.axiomOfChoice h0
  obtain ⟨c0, a0, b0⟩ := zs_ar (hT (.arrayClass .byte) 158 (by decide +kernel)) (fun C h => by cases h)
  obtain ⟨c1, a1, b1⟩ := zs_ar (hT (.arrayClass .int) 214 (by decide +kernel)) (fun C h => by cases h)
  obtain ⟨c2, a2, b2⟩ := zs_ar (hT (.arrayClass .long) 215 (by decide +kernel)) (fun C h => by cases h)
  obtain ⟨c3, a3, b3⟩ := zs_ar (hT (.arrayClass .boolean) 1767 (by decide +kernel)) (fun C h => by cases h)
  obtain ⟨c4, a4, b4⟩ := zs_ao (hT (.arrayOver (.object "LateMasters$Day")) 420 (by decide +kernel))
  obtain ⟨c5, a5, b5⟩ := zs_ao (hT (.arrayOver (.object "LateMasters$World")) 412 (by decide +kernel))
  refine ⟨(fun k => (f k).1, fun k => (f k).2), fun k => [c0, c1, c2, c3, c4, c5].getD k c0, fun k q hq => hf k q hq, fun k q hq => ?_⟩
  have h2 : ∀ q ∈ [(c0, FieldType.byte), (c1, .int), (c2, .long), (c3, .boolean), (c4, .object "LateMasters$Day"), (c5, .object "LateMasters$World")], ArrOfT s q.1 q.2 ∧ va_RA s q.1 q.2 := List.forall_mem_cons.mpr ⟨⟨a0, b0⟩, List.forall_mem_cons.mpr ⟨⟨a1, b1⟩, List.forall_mem_cons.mpr ⟨⟨a2, b2⟩, List.forall_mem_cons.mpr ⟨⟨a3, b3⟩, List.forall_mem_cons.mpr ⟨⟨a4, b4⟩, List.forall_mem_cons.mpr ⟨⟨a5, b5⟩, fun _ h => absurd h List.not_mem_nil⟩⟩⟩⟩⟩⟩
  exact h2 q (List.mem_of_getElem? hq)
set_option maxHeartbeats 4000000 in
theorem zs_E {s : State} {args : Array Value} {A : Nat → Prop} (hA : ∀ a : Nat, a < s.heap.size → ¬ A a) (hts : ∀ w ∈ lw_tbl, w.before args s = true) (hgv : (Jvm.Cond.and given_1 narrow_1).before args s = true) : ∃ E : Nat → Nat, zE E A s s.heap := by
  have hT : ∀ (w : Cond) (i : Nat), lw_tbl[i]? = some w → w.before args s = true := fun w i h => hts w (List.mem_of_getElem? h)
  have hg : ∀ (w : Cond) (i : Nat), FT[i]? = some w → w.before args s = true := fun w i h => flat_of_before _ hgv w (List.mem_of_getElem? h)
  have hB : ∀ i : Nat, i < 6 → ∀ j : Nat, j < zsL.getD i 0 → (Cond.eq (.elem (.field (zsT i) "java/lang/String" "value" "[B") (.int (Int32.ofNat j))) (.int ((zsB.getD i []).getD j 0))).before args s = true := by
    intro i hi j hj
    match i, hi, hj with
    | 0, _, hj => exact hg _ _ (zp_B0 j hj)
    | 1, _, hj => exact hg _ _ (zp_B1 j hj)
    | 2, _, hj => exact hg _ _ (zp_B2 j hj)
    | 3, _, hj => exact hg _ _ (zp_B3 j hj)
    | 4, _, hj => exact hg _ _ (zp_B4 j hj)
    | 5, _, hj => exact hg _ _ (zp_B5 j hj)
    | i + 6, hi, _ => omega
  obtain ⟨adK, adV, hS, hev⟩ := vk_Sof (args := args) (s := s) (N := 6) (tm := zsT) (len := zsL) (byt := zsB) (A := A) (by decide +kernel) (fun i hi => hg _ _ (zp_E i hi)) (fun i hi => hg _ _ (zp_C i hi)) (fun i hi => hg _ _ (zp_A i hi)) (fun i hi => hg _ _ (zp_L i hi)) hB
    (fun i j hi hj hij => by
      rcases Nat.lt_or_gt_of_ne hij with h | h
      · exact Or.inl (hg _ _ (zp_N i hi j hj h))
      · exact Or.inr (hg _ _ (zp_N j hj i hi h))) hA
  obtain ⟨t1, e1, hT1⟩ := va_Tof (args := args) (s := s) (tm := .static "java/lang/Integer" "DigitOnes" "[B") (ty := .byte) (N := 100) (f := fun j => .int (Int32.ofNat (48 + j % 10))) (A := A) (by decide) (hg _ 10 (by decide +kernel)) (va_eqt (z := Int32.ofNat 100) (hg _ 11 (by decide +kernel))) (fun j hj => va_eqt (hg _ _ (zp_O j hj))) hA
  obtain ⟨t2, e2, hT2⟩ := va_Tof (args := args) (s := s) (tm := .static "java/lang/Integer" "DigitTens" "[B") (ty := .byte) (N := 100) (f := fun j => .int (Int32.ofNat (48 + j / 10))) (A := A) (by decide) (hg _ 113 (by decide +kernel)) (va_eqt (z := Int32.ofNat 100) (hg _ 114 (by decide +kernel))) (fun j hj => va_eqt (hg _ _ (zp_T j hj))) hA
  obtain ⟨E, hE⟩ : ∃ E : Nat → Nat, E = fun i => if i = 20 then t1 else if i = 21 then t2 else if i < 10 then adK i else adV (i - 10) := ⟨_, rfl⟩
  have k1 : ∀ i : Nat, i < 6 → E i = adK i := fun i hi => by rw [hE]; show (if i = 20 then t1 else if i = 21 then t2 else if i < 10 then adK i else adV (i - 10)) = adK i; rw [if_neg (by omega), if_neg (by omega), if_pos (by omega)]
  have k2 : ∀ i : Nat, i < 6 → E (i + 10) = adV i := fun i hi => by rw [hE]; show (if i + 10 = 20 then t1 else if i + 10 = 21 then t2 else if i + 10 < 10 then adK (i + 10) else adV (i + 10 - 10)) = adV i; rw [if_neg (by omega), if_neg (by omega), if_neg (by omega), Nat.add_sub_cancel]
  have k3 : E 20 = t1 := by rw [hE]; rfl
  have k4 : E 21 = t2 := by rw [hE]; rfl
  have q1 : vk_S 6 zsL zsB (fun i => E i) (fun i => E (i + 10)) A s s.heap := by
    refine ⟨fun i hi => ?_, fun i j hi hj e => ?_⟩
    · show va_O "java/lang/String" (E i) A s s.heap ∧ va_OF "java/lang/String" "coder" "B" (.int 0) (E i) A s s.heap ∧ va_OF "java/lang/String" "value" "[B" (.ref (E (i + 10))) (E i) A s s.heap ∧ va_T .byte (E (i + 10)) (zsL.getD i 0) (fun j => .int ((zsB.getD i []).getD j 0)) A s s.heap
      rw [k1 i hi, k2 i hi]
      exact hS.1 i hi
    · have e : E i = E j := e
      rw [k1 i hi, k1 j hj] at e
      exact hS.2 i j hi hj e
  have q2 : ∀ (i : Nat) (x : String × Nat × String), zsO[i]? = some x → vk_R x.1 x.2.1 x.2.2 (E i) s := by
    intro i x hx
    have hi : i < 6 := (List.getElem?_eq_some_iff.mp hx).1
    have hx2 : zsO.getD i ("", 0, "") = x := by rw [List.getD_eq_getElem?_getD, hx]; rfl
    have a1 := hts _ (zp_str i hi)
    have a2 := hev i hi
    show vk_R x.1 x.2.1 x.2.2 (E i) s
    rw [k1 i hi]
    have a3 : zsT i = .string x.1 x.2.1 := by show Term.string (zsO.getD i ("", 0, "")).1 (zsO.getD i ("", 0, "")).2.1 = _; rw [hx2]
    rw [hx2] at a1
    rw [a3] at a2
    exact vk_R.of a1 a2
  have q3 : va_Z "java/lang/Integer" "DigitOnes" "[B" (.ref (E 20)) A s s.heap ∧ va_T .byte (E 20) 100 (fun j => .int (Int32.ofNat (48 + j % 10))) A s s.heap := by
    rw [k3]
    exact ⟨va_Zof (hT (.laysStatic "java/lang/Integer" "DigitOnes" "[B") 1270 (by decide +kernel)) (hT (.initialized "java/lang/Integer") 132 (by decide +kernel)) e1 hA, hT1⟩
  have q4 : va_Z "java/lang/Integer" "DigitTens" "[B" (.ref (E 21)) A s s.heap ∧ va_T .byte (E 21) 100 (fun j => .int (Int32.ofNat (48 + j / 10))) A s s.heap := by
    rw [k4]
    exact ⟨va_Zof (hT (.laysStatic "java/lang/Integer" "DigitTens" "[B") 1272 (by decide +kernel)) (hT (.initialized "java/lang/Integer") 132 (by decide +kernel)) e2 hA, hT2⟩
  refine ⟨E, fun q hq => va_Nw.of rfl (hts _ (zp_nest q hq)), ⟨va_AO.of (hT (.arrayOver (.object "LateMasters$Day")) 420 (by decide +kernel)), va_AO.of (hT (.arrayOver (.object "LateMasters$World")) 412 (by decide +kernel))⟩, ?_, ?_, q1, q2, ?_, ?_, q3, q4⟩
  · exact va_Zof (hT (.laysStatic "java/lang/String" "COMPACT_STRINGS" "Z") 551 (by decide +kernel)) (hT (.initialized "java/lang/String") 120 (by decide +kernel)) (va_eqt (hg _ 4 (by decide +kernel))) hA
  · exact va_Zqof (hT (.laysStatic "jdk/internal/util/Preconditions" "SIOOBE_FORMATTER" "Ljava/util/function/BiFunction;") 689 (by decide +kernel)) (hT (.initialized "jdk/internal/util/Preconditions") 125 (by decide +kernel)) (hg _ 5 (by decide +kernel)) hA
  · exact vx_Zqof (hT (.laysStatic Bundle.tN "UNASSIGNED_STACK" Bundle.steD) 1518 (by decide +kernel)) (hT (.initialized Bundle.tN) 127 (by decide +kernel)) (hg _ 215 (by decide +kernel)) hA
  · exact vx_Zqof (hT (.laysStatic Bundle.tN "SUPPRESSED_SENTINEL" Bundle.listD) 1520 (by decide +kernel)) (hT (.initialized Bundle.tN) 127 (by decide +kernel)) (hg _ 216 (by decide +kernel)) hA
theorem zs_selp {s : State} {args : Array Value} {C : String} {y y0 : MethodName} (h0 : (Cond.selects C y0 y0).before args s = true) (hc : y.cls = y0.cls) (hy : y.cls ≠ "java/lang/invoke/MethodHandle" ∧ y.cls ≠ "java/lang/invoke/VarHandle") (hp : (Cond.privateMethod y).before args s = true) (hi : (Cond.instanceMethod y).before args s = true) : (Cond.selects C y y).before args s = true := by
  obtain ⟨c, r, m0, hC, -, hn0, -, mk, hk, hni⟩ := Cond.selects_spec h0
  obtain ⟨m1, methM, hnamed, hmethM, -, -⟩ := Cond.instanceMethod_spec hi
  have hfound : s.methodFound? y.cls y.name y.desc = some m1 := State.methodFound?_of_named hnamed hy
  have hcls : m1.cls = m0.cls := Option.some.inj ((findClass_of_methodNamed hnamed).symm.trans (by rw [hc]; exact findClass_of_methodNamed hn0))
  have hsel : selectMethod {} s.vm c m1 = .method m1 := selectMethod_private hmethM (Cond.privateMethod_at hp m1 methM hnamed hmethM)
  simp only [Cond.before, Cond.holds, Cond.value, hC, hfound, hnamed, hsel, hcls, hk]
  simp; exact hni
theorem zs_LT {s : State} {args : Array Value} (hts : ∀ w ∈ lw_tbl, w.before args s = true) : ∀ w ∈ LT, w.before args s = true := by
  have hT : ∀ (w : Cond) (i : Nat), lw_tbl[i]? = some w → w.before args s = true := fun w i h => hts w (List.mem_of_getElem? h)
  have h0 := hT (.selects RJ4 yJ5_isLatin1_aae02 yJ5_isLatin1_aae02) 1162 (by decide +kernel)
  have h6 : ∀ w ∈ z6, w.before args s = true := List.forall_mem_cons.mpr ⟨zs_selp h0 rfl (by decide +kernel) (hT (.privateMethod yJ5_ensureCapacityInternal_d00df) 1131 (by decide +kernel)) (hT (.instanceMethod yJ5_ensureCapacityInternal_d00df) 1132 (by decide +kernel)), List.forall_mem_cons.mpr ⟨zs_selp h0 rfl (by decide +kernel) (hT (.privateMethod yJ5_newCapacity_0f7a4) 1135 (by decide +kernel)) (hT (.instanceMethod yJ5_newCapacity_0f7a4) 1136 (by decide +kernel)), List.forall_mem_cons.mpr ⟨zs_selp h0 rfl (by decide +kernel) (hT (.privateMethod yJ5_inflate_da8c8) 1192 (by decide +kernel)) (hT (.instanceMethod yJ5_inflate_da8c8) 1193 (by decide +kernel)), List.forall_mem_cons.mpr ⟨zs_selp h0 rfl (by decide +kernel) (hT (.privateMethod yJ5_appendNull_278bc) 1225 (by decide +kernel)) (hT (.instanceMethod yJ5_appendNull_278bc) 1226 (by decide +kernel)), List.forall_mem_cons.mpr ⟨zs_selp h0 rfl (by decide +kernel) (hT (.privateMethod yJ5_putStringAt_47b60) 1242 (by decide +kernel)) (hT (.instanceMethod yJ5_putStringAt_47b60) 1243 (by decide +kernel)), List.forall_mem_cons.mpr ⟨zs_selp h0 rfl (by decide +kernel) (hT (.privateMethod yJ5_inflateIfNeededFor_a7421) 1246 (by decide +kernel)) (hT (.instanceMethod yJ5_inflateIfNeededFor_a7421) 1247 (by decide +kernel)), fun _ h => absurd h List.not_mem_nil⟩⟩⟩⟩⟩⟩
  exact fun w hw => (List.mem_append.mp hw).elim (h6 w) (hts w)
theorem zs_F {s : State} {args : Array Value} (hts : ∀ w ∈ lw_tbl, w.before args s = true) (hgv : (Jvm.Cond.and given_1 narrow_1).before args s = true) : ∃ (G : va_G) (cy : Nat → ClassId) (E : Nat → Nat), zF G cy E (fun q => s.heap.size ≤ q) s := by
  obtain ⟨G, cy, hK⟩ := zs_K (zs_LT hts)
  obtain ⟨E, hE⟩ := zs_E (A := fun q => s.heap.size ≤ q) (fun a h1 h2 => absurd h1 (Nat.not_lt.mpr h2)) hts hgv
  exact ⟨G, cy, E, hK, hE, fun q h => h⟩
theorem zs_X {s : State} {args : Array Value} (hts : ∀ w ∈ lw_tbl, w.before args s = true) : zxB s := by
  have hT : ∀ (w : Cond) (i : Nat), lw_tbl[i]? = some w → w.before args s = true := fun w i h => hts w (List.mem_of_getElem? h)
  exact ⟨va_Nw.of rfl (hT _ 1493 (by decide +kernel)), va_Nw.of rfl (hT _ 1495 (by decide +kernel)), va_Nw.of rfl (hT _ 1497 (by decide +kernel)), va_Nw.of rfl (hT _ 1499 (by decide +kernel))⟩
