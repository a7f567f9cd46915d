/-! ===== a book is read ===== -/
section RDK
variable {tp by9 : Nat → Int32} {L lim sz : Nat} {K P V : Nat → Int32} {W : Nat → Int64} {res : Nat → Int64} {b : MB} {B : CB} {s : Nat → Int32} {nm : Nat → Int64}
theorem bkR_ok (hE : EV tp L lim sz K P V W) (hv : RV res) (H : BR b B s nm) (N : Nat) (hN : 2010 ≤ N) (fp fa um ht x1 : Int32) (bf ta ud : Nat → Int32) : ∀ (n n' c lines : Nat) (kc : KU) (rc : RU) (vb wh wt rd : Nat → Int32) (got : Int32), CQ tp L lim sz c kc → RC tp L lim c rc → lines ≤ 40 → BK b lines vb wh wt rd → L - ps9 tp L lim c < n → L - ps9 tp L lim c < n' → (∃ (lines' : Nat) (kc' : KU) (rc' : RU) (got' : Int32) (vb' wh' wt' rd' : Nat → Int32), lines' ≤ 40 ∧ f_X0_read_15 N (nI L) by9 B.clocks B.masters B.meets B.masterName B.meetName B.clockName n (nI lines) kc.1 kc.2.1 kc.2.2.1 kc.2.2.2.1 0 fp (nI sz) kc.2.2.2.2 K P V W vb wh wt = some (nI lines', kc'.1, kc'.2.1, kc'.2.2.1, kc'.2.2.2.1, 0, fp, nI sz, kc'.2.2.2.2, K, P, V, W, vb', wh', wt') ∧ f_X12_book_39 N tp res nm n' x1 0 0 (nI L) rc.1 (nI lim) rc.2.1 rc.2.2.1 rc.2.2.2.1 rc.2.2.2.2.1 0 fa rc.2.2.2.2.2 got um (nI lines) ht s rd bf ta ud = f_X12_book_89 N tp res nm N x1 0 0 0 (nI L) rc'.1 (nI lim) rc'.2.1 rc'.2.2.1 rc'.2.2.2.1 rc'.2.2.2.2.1 0 fa rc'.2.2.2.2.2 got' um (nI lines') ht s rd' (va_cpy s bf 52 0 101) ta ud ∧ BK b lines' vb' wh' wt' rd') ∨ (∃ (l' k1 k2 k3 : Int32) (k4 : Int64) (fl pl k5 : Int32) (vb' wh' wt' : Nat → Int32) (p' tok' at' sp' nu' : Int32) (wd' : Int64) (got' tm' : Int32) (rd' : Nat → Int32), f_X0_read_15 N (nI L) by9 B.clocks B.masters B.meets B.masterName B.meetName B.clockName n (nI lines) kc.1 kc.2.1 kc.2.2.1 kc.2.2.2.1 0 fp (nI sz) kc.2.2.2.2 K P V W vb wh wt = some (l', k1, k2, k3, k4, fl, pl, nI sz, k5, K, P, V, W, vb', wh', wt') ∧ ¬ fl = 0 ∧ f_X12_book_39 N tp res nm n' x1 0 0 (nI L) rc.1 (nI lim) rc.2.1 rc.2.2.1 rc.2.2.2.1 rc.2.2.2.2.1 0 fa rc.2.2.2.2.2 got um (nI lines) ht s rd bf ta ud = some (-2 - pl, 0, 0, nI L, p', nI lim, tok', at', sp', nu', fl, pl, wd', got', um, tm', ht, s, rd', bf, ta, ud)) := by
  intro n
  induction n with
  | zero => intro n' c lines kc rc vb wh wt rd got _ _ _ _ hn; omega
  | succ n ih =>
    intro n' c lines kc rc vb wh wt rd got h hr hl hK hn hn'
    obtain ⟨n', rfl⟩ : ∃ m, n' = m + 1 := ⟨n' - 1, by omega⟩
    rw [f_X0_read_15, if_neg (show ¬ (40 : Int32) < nI lines from nI_nlt (a := 40) hl (by omega)), f_X12_book_39]
    rcases aend_ok h hr N with ⟨e1, e2⟩ | ⟨e1, e2⟩
    · left
      rw [e1, zcl_s, if_neg one0, if_pos e2, X12_tries_ok N s bf (by omega), zcl_s]
      exact ⟨lines, kc, rc, got, vb, wh, wt, rd, hl, rfl, rfl, hK⟩
    · rw [e1, zcl_s, if_pos rfl, if_neg e2]
      rcases bkL_ok hE h hr hv H N hN hl hK fp fa got with ⟨vb', wh', wt', rd', kc', rc', c', got', l4, x1, x2, x3, x4, x5, x6⟩ | ⟨z, w, x1, x2, x3, x4, x5, x6, x7⟩
      · rw [x1, zcl_s, x2, zcl_s]
        dsimp only
        rw [if_neg one0, if_neg one0]
        have ty := tsy_ok hE x3 x4 N 59 hN fp fa
        rw [show nI 59 = (59 : Int32) from rfl] at ty
        rcases ty with ⟨k2, r2, y1, y2, y3, y4, y5⟩ | ⟨y1, y2⟩
        · rw [y1, zcl_s, y2, zcl_s]
          dsimp only
          rw [if_neg one0, if_neg one0, zbn_s, zbn_s, nI_1]
          have hps2 := ps9_le (tp := tp) (L := L) (lim := lim) (c' + 1)
          exact ih n' (c' + 1) (lines + 1) k2 r2 vb' wh' wt' rd' got' y3 y4 (by omega) x6 (by omega) (by omega)
        · right
          rw [y1, zcl_s, y2, zcl_s]
          dsimp only
          rw [if_pos rfl, if_pos rfl]
          unfold f_X12_book_62
          exact ⟨_, _, _, _, _, _, _, _, _, _, _, _, _, _, _, _, _, _, _, _, rfl, one0, rfl⟩
      · right
        rw [x1, zcl_s, x2, zcl_s, if_pos x3, if_pos x4]
        unfold f_X12_book_62
        rw [← x6, ← x7]
        exact ⟨_, _, _, _, _, _, _, _, _, _, _, _, _, _, _, _, _, _, _, _, rfl, x5, rfl⟩
end RDK
/-! ===== what is before goes into the place that is kept ===== -/
theorem b89_ok (N : Nat) (hN : 100 ≤ N) (tp : Nat → Int32) (res nm : Nat → Int64) (x1 th len size p lim tok at_ span num flt fa : Int32) (word : Int64) (got um tm ht : Int32) (s rd bf ta ud : Nat → Int32) : f_X12_book_89 N tp res nm N x1 0 th len size p lim tok at_ span num flt fa word got um tm ht s rd bf ta ud = f_X12_book_111 N tp res nm N x1 (-1) 0 th len size p lim tok at_ span num flt fa word got um tm ht s rd bf (upd (upd (upd (upd ta 0 0) 1 0) 2 0) 3 0) ud := by
  obtain ⟨n, e⟩ : ∃ n, N = n + 1 + 1 + 1 + 1 + 1 := ⟨N - 5, by omega⟩
  have go : ∀ M : Nat, M = n + 1 + 1 + 1 + 1 + 1 → f_X12_book_89 N tp res nm M x1 0 th len size p lim tok at_ span num flt fa word got um tm ht s rd bf ta ud = f_X12_book_111 N tp res nm N x1 (-1) 0 th len size p lim tok at_ span num flt fa word got um tm ht s rd bf (upd (upd (upd (upd ta 0 0) 1 0) 2 0) 3 0) ud := by
    intro M eM
    rw [eM, f_X12_book_89, if_neg (show ¬ (4 : Int32) ≤ 0 by decide), show zin (0 : Int32) 4 = true from rfl, zck_t, zbn_s, zbn_s, show (0 : Int32) + 1 = 1 from rfl, show Int32.toNatClampNeg 0 = 0 from rfl]
    rw [f_X12_book_89, if_neg (show ¬ (4 : Int32) ≤ 1 by decide), show zin (1 : Int32) 4 = true from rfl, zck_t, zbn_s, zbn_s, show (1 : Int32) + 1 = 2 from rfl, show Int32.toNatClampNeg 1 = 1 from rfl]
    rw [f_X12_book_89, if_neg (show ¬ (4 : Int32) ≤ 2 by decide), show zin (2 : Int32) 4 = true from rfl, zck_t, zbn_s, zbn_s, show (2 : Int32) + 1 = 3 from rfl, show Int32.toNatClampNeg 2 = 2 from rfl]
    rw [f_X12_book_89, if_neg (show ¬ (4 : Int32) ≤ 3 by decide), show zin (3 : Int32) 4 = true from rfl, zck_t, zbn_s, zbn_s, show (3 : Int32) + 1 = 4 from rfl, show Int32.toNatClampNeg 3 = 3 from rfl]
    rw [f_X12_book_89, if_pos (show (4 : Int32) ≤ 4 by decide)]
  exact go N e
theorem b242_ok (N m : Nat) (hN : 200 ≤ N) (hm : m < 8) (tp : Nat → Int32) (res nm : Nat → Int64) (KK : Int32 → Int32 → Int32 → Int32 → Int32 → Int32 → Int32 → Int32 → Int32 → Int32 → Int32 → Int32 → Int32 → Int64 → Int32 → Int32 → Int32 → Int32 → (Nat → Int32) → (Nat → Int32) → (Nat → Int32) → (Nat → Int32) → (Nat → Int32) → (Option (Int32 × Int32 × Int32 × Int32 × Int32 × Int32 × Int32 × Int32 × Int32 × Int32 × Int32 × Int32 × Int64 × Int32 × Int32 × Int32 × Int32 × (Nat → Int32) × (Nat → Int32) × (Nat → Int32) × (Nat → Int32) × (Nat → Int32)))) (x1 x2 th len size p lim tok at_ span num flt fa : Int32) (word : Int64) (got tm ht : Int32) (s rd bf ta ud : Nat → Int32) : f_X12_book_242 N tp res nm KK N x1 x2 0 th len size p lim tok at_ span num flt fa word got (nI (m + 1)) tm ht s rd bf ta ud = KK x1 x2 th len size p lim tok at_ span num flt fa word got (nI (m + 1)) tm ht s rd bf ta (va_cpy bf ud 0 (101 * m) 101) := by
  have e1 : nI (m + 1) - 1 = nI m := sb_1 (show 1 ≤ m + 1 by omega)
  have e2 : (101 : Int32) * nI m = nI (101 * m) := by rw [show (101 : Int32) = nI 101 from rfl, pk_mul]
  have st : ∀ n i, i < 101 → f_X12_book_242 N tp res nm KK (n + 1) x1 x2 (nI i) th len size p lim tok at_ span num flt fa word got (nI (m + 1)) tm ht s rd bf ta (va_cpy bf ud 0 (101 * m) i) = f_X12_book_242 N tp res nm KK n x1 x2 (nI (i + 1)) th len size p lim tok at_ span num flt fa word got (nI (m + 1)) tm ht s rd bf ta (va_cpy bf ud 0 (101 * m) (i + 1)) := by
    intro n i hi
    rw [f_X12_book_242, if_neg (show ¬ (101 : Int32) ≤ nI i from nI_ge (b := 101) hi (by omega)), zin_nI hi (by omega), zck_t, zbn_s, e1, e2, nI_add, zin_nI (show 101 * m + i < 808 by omega) (by omega), zck_t, zbn_s, zbn_s, nI_1, cl_n (show i < 2147483648 by omega), cl_n (show 101 * m + i < 2147483648 by omega), cp9_y]
  have fi : ∀ n, f_X12_book_242 N tp res nm KK (n + 1) x1 x2 (nI 101) th len size p lim tok at_ span num flt fa word got (nI (m + 1)) tm ht s rd bf ta (va_cpy bf ud 0 (101 * m) 101) = KK x1 x2 th len size p lim tok at_ span num flt fa word got (nI (m + 1)) tm ht s rd bf ta (va_cpy bf ud 0 (101 * m) 101) := by
    intro n
    rw [f_X12_book_242, if_pos (show (101 : Int32) ≤ nI 101 by decide)]
  have := loopV (F := fun n i w => f_X12_book_242 N tp res nm KK n x1 x2 (nI i) th len size p lim tok at_ span num flt fa word got (nI (m + 1)) tm ht s rd bf ta w) (M := 101) (fun i => va_cpy bf ud 0 (101 * m) i) _ st fi N 0 (by omega) (by omega)
  rw [cp9_0] at this
  exact this
theorem kpb9 (s s' w u : Nat → Int32) (dp : Nat) : va_cpy (va_cpy s w 52 0 101) (va_cpy s' u 52 dp 101) 0 dp 101 = va_cpy s u 52 dp 101 := by
  funext i
  by_cases e : dp ≤ i ∧ i < dp + 101
  · rw [cpi _ _ 0 dp 101 i e.1 e.2, cpi s u 52 dp 101 i e.1 e.2, cpi s w 52 0 101 (0 + (i - dp)) (by omega) (by omega), show 52 + (0 + (i - dp) - 0) = 52 + (i - dp) by omega]
  · rw [cpo _ _ 0 dp 101 i (by omega), cpo _ _ 52 dp 101 i (by omega), cpo _ _ 52 dp 101 i (by omega)]
/-- kept as it was before, though the act is done already -/
theorem kpb_ok (N n : Nat) (hN : 800 ≤ N) (hn : n ≤ 8) (s s' w u : Nat → Int32) {many' : Int32} {u' : Nat → Int32} (h : f_X12_keep N (nI n) u s = some (many', u')) : ∃ (m : Nat) (u2 : Nat → Int32), m < 8 ∧ many' = nI (m + 1) ∧ f_X12_keep N (nI n) u s' = some (many', u2) ∧ va_cpy (va_cpy s w 52 0 101) u2 0 (101 * m) 101 = u' := by
  by_cases c : n < 8
  · rw [X12_keep_lt N n s u c hN] at h
    have h1 : nI (n + 1) = many' := congrArg Prod.fst (Option.some.inj h)
    have h2 : va_cpy s u 52 (101 * n) 101 = u' := congrArg Prod.snd (Option.some.inj h)
    refine ⟨n, _, c, h1.symm, by rw [X12_keep_lt N n s' u c hN, h1], ?_⟩
    rw [kpb9, h2]
  · obtain rfl : n = 8 := by omega
    rw [X12_keep_8 N s u hN] at h
    have h1 : nI 8 = many' := congrArg Prod.fst (Option.some.inj h)
    have h2 : va_cpy s (va_cpy u u 101 0 707) 52 707 101 = u' := congrArg Prod.snd (Option.some.inj h)
    refine ⟨7, _, by omega, h1.symm, by rw [X12_keep_8 N s' u hN, h1], ?_⟩
    show va_cpy (va_cpy s w 52 0 101) (va_cpy s' (va_cpy u u 101 0 707) 52 707 101) 0 707 101 = u'
    rw [kpb9, h2]
