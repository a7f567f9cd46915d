/-! ===== plan: halving, and counting down ===== -/
section PLAN3
variable {b : MB} {d : MD} {B : CB} {D : CY} {s : Nat → Int32} {nm : Nat → Int64}
theorem DY.plC (h : DY b d B D s) (N e k : Nat) (hN : 2010 ≤ N) (he : e < b.T) (hk : k ≤ 240) (hno : ∀ m, m < b.M → d.x.2.1 m e = none) (hex : ∃ m, m < b.M ∧ b.toC m e = true) : ∀ (n low high step : Nat) (best : Int32) (E : CY), d.t < low → low ≤ high + 1 → high ≤ 1999 → step + (high + 1 - low) < 2000 → high + 1 - low < n → ((best = -1 ∧ low = d.t + 1) ∨ (best = nI (low - 1) ∧ d.t < low - 1 ∧ AC b d e k (low - 1))) → (∀ v, high < v → v ≤ 1999 → ¬ AC b d e k v) → ∃ (R : Int32) (E' : CY), f_X11_plan_85 N B.masters B.meets B.masterMeets D.minute D.out D.stopped D.left D.ahead D.since D.stood D.due D.came B.masterCorner B.masterClock B.masterLate B.clockGain n (nI e) (nI k) best (nI low) (nI high) (nI step) E.minute E.out E.stopped E.ahead E.since E.stood E.due E.left E.came = some (R, E'.minute, E'.out, E'.stopped, E'.ahead, E'.since, E'.stood, E'.due, E'.left, E'.came) ∧ Best b d e k R := by
  intro n
  induction n with
  | zero => intro low high step best E _ _ _ _ hn; omega
  | succ n ih =>
    intro low high step best E h1 h2 h3 h4 hn hb hh
    rw [f_X11_plan_85, if_neg (show ¬ (2000 : Int32) ≤ nI step from nI_ge (b := 2000) (show step < 2000 by omega) (by omega))]
    by_cases c : high < low
    · rw [if_pos (nI_lt c (by omega))]
      refine ⟨best, E, rfl, ?_⟩
      rcases hb with ⟨b1, b2⟩ | ⟨b1, b2, b3⟩
      · exact Or.inl ⟨b1, fun v v1 v2 => hh v (by omega) v2⟩
      · exact Or.inr ⟨low - 1, b1, b2, by omega, b3, fun v v1 v2 => hh v (by omega) v2⟩
    · have em : (nI low + nI high) / 2 = nI ((low + high) / 2) := by
        rw [nI_add, show (2 : Int32) = nI 2 from rfl, pk_div (by omega) (by omega) (by omega)]
      obtain ⟨z, E', w1, w2⟩ := h.awc E N e k ((low + high) / 2) hN he hk (by omega) hno hex
      rw [if_neg (nI_nlt (show low ≤ high by omega) (by omega)), zbn_s, em, w1, zcl_s]
      dsimp only
      rcases w2 with ⟨w2, w3⟩ | ⟨w2, w3⟩
      · rw [w2, if_neg one0, zbn_s, zbn_s, nI_1, nI_1]
        exact ih ((low + high) / 2 + 1) high (step + 1) _ E' (by omega) (by omega) h3 (by omega) (by omega) (Or.inr ⟨by rw [Nat.add_sub_cancel], by omega, by rw [Nat.add_sub_cancel]; exact w3⟩) hh
      · rw [w2, if_pos rfl, zbn_s, zbn_s, nI_1, sb_1 (by omega)]
        refine ih low ((low + high) / 2 - 1) (step + 1) best E' h1 (by omega) (by omega) (by omega) (by omega) hb (fun v v1 v2 hA => ?_)
        exact w3 (h.acM he hno (by omega) hA)
theorem DY.plR (h : DY b d B D s) (N e k : Nat) (hN : 2010 ≤ N) (he : e < b.T) (hk : k ≤ 240) (hno : ∀ m, m < b.M → d.x.2.1 m e = none) (hex : ∃ m, m < b.M ∧ b.toC m e = true) : ∀ (n : Nat) (z : Int) (s1 w cr : Nat → Int32), (∀ i, i ≠ 75 + e → s1 i = s i) → z ≤ 1999 → -2000000 ≤ z → (z - d.t).toNat + 1 < n → (∀ v : Nat, z < v → v ≤ 1999 → ¬ AC b d e k v) → ∃ (R : Int32) (w' cr' : Nat → Int32), f_X12_plan_69 N n (nI e) (nI k) (s (75 + e)) (-1) (iI z) 0 s1 w cr = some (R, 0, s, w', cr') ∧ Best b d e k R := by
  have t6 := h.T6
  have t2 := h.t2
  have e75 : (75 : Int32) + nI e = nI (75 + e) := by rw [show (75 : Int32) = nI 75 from rfl, nI_add]
  have fin : ∀ (R : Int32) (s1 w cr : Nat → Int32), (∀ i, i ≠ 75 + e → s1 i = s i) → f_X12_plan_123 N (nI e) (s (75 + e)) R 0 s1 w cr = some (R, 0, s, w, cr) := by
    intro R s1 w cr hs
    unfold f_X12_plan_123
    rw [e75, zin_nI (show 75 + e < 334 by omega) (by omega), zck_t, zbn_s, cl_n (show 75 + e < 2147483648 by omega)]
    have : upd s1 (75 + e) (s (75 + e)) = s := by
      funext i
      by_cases c : i = 75 + e
      · rw [c, pk_us]
      · rw [pk_un c]; exact hs i c
    rw [this]
  intro n
  induction n with
  | zero => intro z s1 w cr _ _ _ hn; omega
  | succ n ih =>
    intro z s1 w cr hs z1 z2 hn hz
    have e52 : s1 52 = nI d.t := by rw [hs 52 (by omega)]; exact h.sm
    rw [f_X12_plan_69, e52]
    by_cases c : z ≤ d.t
    · rw [if_pos (show iI z ≤ nI d.t by rw [iI_nat, iI_le ⟨by omega, by omega⟩ ⟨by omega, by omega⟩]; exact c), fin _ _ _ _ hs]
      exact ⟨_, _, _, rfl, Or.inl ⟨rfl, fun v v1 v2 => hz v (by omega) v2⟩⟩
    · obtain ⟨v, rfl⟩ : ∃ v : Nat, z = v := ⟨z.toNat, by omega⟩
      have es : upd s1 (75 + e) (nI v) = upd s (75 + e) (nI v) := by
        funext i
        by_cases ci : i = 75 + e
        · rw [ci, pk_us, pk_us]
        · rw [pk_un ci, pk_un ci]; exact hs i ci
      have hD' := h.mov he v (by omega) hno
      obtain ⟨w', cr', l1, l2⟩ := hD'.lays N (k + 1) e (by omega) (by omega) he w cr
      obtain ⟨o', lf', c', s', q1, q2, hP, hs'⟩ := hD'.pas N (k + 1) hN (by omega)
      have hu : ∀ m, m < b.M → ∀ u, (pasD b (movD d e v) (min (k + 1) (2000 - d.t))).x.2.2 m e = some u → u < 2000 := fun m hm u hu => (hP.cf hm he).2.2 u hu
      have g2 := hD'.lasR N e (by omega) he cr' (fun m => (pasD b (movD d e v) (min (k + 1) (2000 - d.t))).x.2.2 m e) l2 hu
      rw [← iI_nat, if_neg (show ¬ nI v ≤ nI d.t from nI_ge (show d.t < v by omega) (by omega)), if_neg (show ¬ (0 : Int32) ≤ -1 by decide), e75, zin_nI (show 75 + e < 334 by omega) (by omega), zck_t, zbn_s, cl_n (show 75 + e < 2147483648 by omega), es, nI_1, l1, zcl_s]
      dsimp only
      rw [g2, zcl_s]
      have ev : nI v + (-1) = iI ((v : Int) - 1) := by rw [iI_nat, m1_iI, iI_add]; rfl
      have hs2 : ∀ i, i ≠ 75 + e → upd s (75 + e) (nI v) i = s i := fun i hi => pk_un hi
      rcases DY.lsA (b := b) (d := d) (e := e) hex k v with ⟨hA, hl⟩ | ⟨hA, hl⟩
      · have hb := ls9_b (P := fun m => b.toC m e) hu
        rw [if_neg (show ¬ iI (ls9 (fun m => b.toC m e) (fun m => (pasD b (movD d e v) (min (k + 1) (2000 - d.t))).x.2.2 m e) b.M 0 (-1)) < 0 from fun z => by have := (iI_lt (b := 0) ⟨by omega, by omega⟩ ⟨by omega, by omega⟩).mp z; omega), zbn_s]
        obtain ⟨n', rfl⟩ : ∃ n', n = n' + 1 := ⟨n - 1, by omega⟩
        rw [f_X12_plan_69]
        have hR : Best b d e k (nI v) := Or.inr ⟨v, rfl, by omega, by omega, hA, fun u u1 u2 => hz u (by omega) u2⟩
        by_cases cc : nI v + (-1) ≤ upd s (75 + e) (nI v) 52
        · rw [if_pos cc, fin _ _ _ _ hs2]; exact ⟨_, _, _, rfl, hR⟩
        · rw [if_neg cc, if_pos (show (0 : Int32) ≤ nI v from nI_le (Nat.zero_le v) (by omega)), fin _ _ _ _ hs2]; exact ⟨_, _, _, rfl, hR⟩
      · rw [hl, if_pos (show iI (-1) < 0 by decide), zbn_s, ev]
        refine ih _ _ _ _ hs2 (by omega) (by omega) (by omega) (fun u u1 u2 => ?_)
        by_cases cu : u = v
        · rw [cu]; exact hA
        · exact hz u (by omega) u2
theorem DY.ltI (h : DY b d B D s) (N e k m : Nat) (hN : 300 ≤ N) (hk : k ≤ 240) (hm : m < b.M) (L : Int) (hL : -2000000 ≤ L) (hL2 : L ≤ 1999) (K : Int32 → Int32 → Int32 → Int32 → Option Int32) : ∃ p : Int, -1000000 ≤ p ∧ p < 100000 ∧ (∀ j, j ≤ k → rdd b d (b.clk m) (d.t + j) ≤ p) ∧ f_X12_latestDue_39 N s K N (nI e) (nI k) (iI L) (nI m) (-1000000) 0 = K (nI e) (nI k) (iI (min L (p - b.late m))) (nI (m + 1)) := by
  have m6 := h.M6
  have c6 := h.C6
  have t2 := h.t2
  obtain ⟨r1, r2, r3, r4, r5, -, -⟩ := h.rk.2.2.1 m hm
  refine loopP (F := fun n i v => f_X12_latestDue_39 N s K n (nI e) (nI k) (iI L) (nI m) v (nI i)) (M := k + 1) (Post := fun z => ∃ p : Int, -1000000 ≤ p ∧ p < 100000 ∧ (∀ j, j ≤ k → rdd b d (b.clk m) (d.t + j) ≤ p) ∧ z = K (nI e) (nI k) (iI (min L (p - b.late m))) (nI (m + 1))) (fun i v => ∃ p : Int, v = iI p ∧ -1000000 ≤ p ∧ p < 100000 ∧ ∀ j, j < i → rdd b d (b.clk m) (d.t + j) ≤ p) ?_ ?_ N 0 (-1000000) (by omega) (by omega) ⟨-1000000, rfl, by omega, by omega, fun j hj => absurd hj (by omega)⟩
  · intro n i v hi ⟨p, hv, p1, p2, p3⟩
    subst hv
    left
    have rr := h.rb (b.clk m) r2 (d.t + i) (by omega)
    refine ⟨iI (max p (rdd b d (b.clk m) (d.t + i))), ?_, max p (rdd b d (b.clk m) (d.t + i)), rfl, by omega, by omega, fun j hj => ?_⟩
    · show f_X12_latestDue_39 N s K (n + 1) (nI e) (nI k) (iI L) (nI m) (iI p) (nI i) = f_X12_latestDue_39 N s K n (nI e) (nI k) (iI L) (nI m) (iI (max p (rdd b d (b.clk m) (d.t + i)))) (nI (i + 1))
      rw [f_X12_latestDue_39, if_neg (nI_nlt (show i ≤ k by omega) (by omega)), show (34 : Int32) + nI m = nI (34 + m) by rw [show (34 : Int32) = nI 34 from rfl, nI_add], zin_nI (show 34 + m < 334 by omega) (by omega), zck_t, cl_n (show 34 + m < 2147483648 by omega), r1, h.sm, nI_add, (h.rd N (b.clk m) (d.t + i) r2 (by omega) (by omega)).2, zcl_s, grt_m N (by omega) (by omega) (by omega) (by omega), zcl_s, zbn_s, nI_1]
    · by_cases c : j = i
      · rw [c]; omega
      · have := p3 j (by omega); omega
  · intro n v ⟨p, hv, p1, p2, p3⟩
    subst hv
    refine ⟨p, p1, p2, fun j hj => p3 j (by omega), ?_⟩
    show f_X12_latestDue_39 N s K (n + 1) (nI e) (nI k) (iI L) (nI m) (iI p) (nI (k + 1)) = K (nI e) (nI k) (iI (min L (p - b.late m))) (nI (m + 1))
    rw [f_X12_latestDue_39, if_pos (nI_lt (show k < k + 1 by omega) (by omega)), show (28 : Int32) + nI m = nI (28 + m) by rw [show (28 : Int32) = nI 28 from rfl, nI_add], zin_nI (show 28 + m < 334 by omega) (by omega), zck_t, cl_n (show 28 + m < 2147483648 by omega), r3, iI_sub, lss_m N (by omega) (by omega) (by omega) (by omega), zcl_s, zbn_s, nI_1]
theorem DY.ltD (h : DY b d B D s) (N e k : Nat) (hN : 300 ≤ N) (he : e < b.T) (hk : k ≤ 240) (hno : ∀ m, m < b.M → d.x.2.1 m e = none) : ∃ L : Int, f_X12_latestDue N (nI e) (nI k) s = some (iI L) ∧ L ≤ 1999 ∧ -2000000 ≤ L ∧ ∀ v : Nat, L < v → v ≤ 1999 → ¬ AC b d e k v := by
  have m6 := h.M6
  unfold f_X12_latestDue
  refine loopP (F := fun n i v => f_X12_latestDue_7 N s n (nI e) (nI k) v (nI i)) (M := b.M) (Post := fun z => ∃ L : Int, z = some (iI L) ∧ L ≤ 1999 ∧ -2000000 ≤ L ∧ ∀ v : Nat, L < v → v ≤ 1999 → ¬ AC b d e k v) (fun i v => ∃ L : Int, v = iI L ∧ L ≤ 1999 ∧ -2000000 ≤ L ∧ ∀ v : Nat, L < v → v ≤ 1999 → ¬ AC b d e k v) ?_ ?_ N 0 1999 (by omega) (by omega) ⟨1999, rfl, by omega, by omega, fun v v1 v2 => absurd v1 (by omega)⟩
  · intro n i v hi ⟨L, hv, l1, l2, l3⟩
    subst hv
    left
    have tc := (h.tc N i e hi he).2
    show ∃ x', f_X12_latestDue_7 N s (n + 1) (nI e) (nI k) (iI L) (nI i) = f_X12_latestDue_7 N s n (nI e) (nI k) x' (nI (i + 1)) ∧ _
    rw [f_X12_latestDue_7, h.sM, if_neg (nI_ge hi (by omega)), tc, zcl_s]
    cases hP : b.toC i e
    · rw [if_pos (show bI false = 0 from rfl), zbn_s, nI_1]
      exact ⟨iI L, rfl, L, rfl, l1, l2, l3⟩
    · obtain ⟨-, -, -, r4, r5, -, -⟩ := h.rk.2.2.1 i hi
      obtain ⟨p, p1, p2, p3, p4⟩ := h.ltI N e k i hN hk hi L l2 l1 (f_X12_latestDue_7 N s n)
      rw [if_neg (show ¬ bI true = 0 by decide), p4]
      refine ⟨_, rfl, min L (p - b.late i), rfl, by omega, by omega, fun v v1 v2 => ?_⟩
      by_cases c : L < v
      · exact l3 v c v2
      · exact h.acN he hno hi hP (fun j hj => by have := p3 j hj; omega)
  · intro n v ⟨L, hv, l1, l2, l3⟩
    subst hv
    refine ⟨L, ?_, l1, l2, l3⟩
    show f_X12_latestDue_7 N s (n + 1) (nI e) (nI k) (iI L) (nI b.M) = some (iI L)
    rw [f_X12_latestDue_7, h.sM, if_pos (nI_le (Nat.le_refl _) (by omega))]
end PLAN3
theorem p_plan (N : Nat) (hN : 5000 ≤ N) (x0 x1 : Int32) : Ok9 (F_plan N x0 x1) (G_plan N x0 x1) := by
  intro k r hR
  have hR0 := hR
  obtain ⟨b, d, ⟨hB, h, hS⟩, hH, hI, hT, hf, hl, hm, ht, hv⟩ := hR
  rcases h.isT N x0 with ⟨e, he, rfl, a1, a2⟩ | ⟨a1, a2⟩
  · have t6 := h.T6
    have m6 := h.M6
    have t2 := h.t2
    rcases rng9 N x1 0 240 241 (lo := 0) (hi := 240) (by omega) (by omega) rfl rfl rfl with ⟨j, -, hj, rfl, g1, g2, g3, -⟩ | ⟨g1, g2⟩
    · have e46 : (46 : Int32) + nI e = nI (46 + e) := by rw [show (46 : Int32) = nI 46 from rfl, nI_add]
      have e75 : (75 : Int32) + nI e = nI (75 + e) := by rw [show (75 : Int32) = nI 75 from rfl, nI_add]
      obtain ⟨-, -, -, -, g5, -⟩ := hB.2.2.2 e he
      have g6 := h.sTo N e (by omega) he
      obtain ⟨i1, -, i3, -⟩ := h.sIn N e (by omega) he
      rw [show nI 81 = (81 : Int32) from rfl] at i3
      by_cases z1 : bmk (fun m => b.toC m e) b.M = 0
      · exact ⟨-1, k, r.thr 0, by unfold F_plan f_X11_plan; rw [a1, zcl_s, if_neg one0, if_neg g2, if_pos g3, g6, zcl_s, if_pos z1]; rfl, by unfold G_plan f_X12_plan; rw [a2, zcl_s, if_neg one0, g1, zcl_s, if_neg one0, e46, zin_nI (show 46 + e < 334 by omega) (by omega), zck_t, cl_n (show 46 + e < 2147483648 by omega), g5, if_pos z1]; rfl, hR0.th 0⟩
      · by_cases z2 : bmk (fun m => (d.x.2.1 m e).isSome) b.M = 0
        · have hno : ∀ m, m < b.M → d.x.2.1 m e = none := by
            intro m hm
            have := bmk_z (by omega) z2 m hm
            cases hx : d.x.2.1 m e with
            | none => rfl
            | some u => rw [hx] at this; cases this
          have hex : ∃ m, m < b.M ∧ b.toC m e = true := bmk_nz z1
          obtain ⟨L, q1, q2, q3, q4⟩ := h.ltD N e j (by omega) he hj hno
          obtain ⟨S, w', cr', r1, r2⟩ := h.plR N e j (by omega) he hj hno hex N L r.s r.before r.comeRow (fun _ _ => rfl) q2 q3 (by omega) q4
          have em : k.day.minute + 1 = nI (d.t + 1) := by rw [h.mi, nI_1]
          have cl : ∃ (R : Int32) (E' : CY), f_X11_plan_85 N k.here.masters k.here.meets k.here.masterMeets k.day.minute k.day.out k.day.stopped k.day.left k.day.ahead k.day.since k.day.stood k.day.due k.day.came k.here.masterCorner k.here.masterClock k.here.masterLate k.here.clockGain N (nI e) (nI j) (-1) (k.day.minute + 1) 1999 0 k.trial.minute k.trial.out k.trial.stopped k.trial.ahead k.trial.since k.trial.stood k.trial.due k.trial.left k.trial.came = some (R, E'.minute, E'.out, E'.stopped, E'.ahead, E'.since, E'.stood, E'.due, E'.left, E'.came) ∧ Best b d e j R := by
            by_cases ct : d.t < 2000
            · rw [em]
              exact h.plC N e j (by omega) he hj hno hex N (d.t + 1) 1999 0 (-1) k.trial (by omega) (by omega) (by omega) (by omega) (by omega) (Or.inl ⟨rfl, rfl⟩) (fun v v1 v2 => absurd v1 (by omega))
            · have t0 : d.t = 2000 := by omega
              obtain ⟨n, rfl⟩ : ∃ n, N = n + 1 := ⟨N - 1, by omega⟩
              rw [em, t0, f_X11_plan_85, if_neg (show ¬ (2000 : Int32) ≤ 0 by decide), if_pos (show (1999 : Int32) < nI (2000 + 1) by decide)]
              exact ⟨-1, k.trial, rfl, Or.inl ⟨rfl, fun v v1 v2 => absurd v1 (by omega)⟩⟩
          obtain ⟨R, E', c1, c2⟩ := cl
          have eRS := c2.uniq r2
          subst eRS
          refine ⟨R, _, _, by unfold F_plan f_X11_plan; rw [a1, zcl_s, if_neg one0, if_neg g2, if_pos g3, g6, zcl_s, if_neg z1, i1, zcl_s, if_pos z2, zbn_s, c1, zcl_s], by unfold G_plan f_X12_plan; rw [a2, zcl_s, if_neg one0, g1, zcl_s, if_neg one0, e46, zin_nI (show 46 + e < 334 by omega) (by omega), zck_t, cl_n (show 46 + e < 2147483648 by omega), g5, if_neg z1, i3, zcl_s, if_pos z2, e75, zin_nI (show 75 + e < 334 by omega) (by omega), zck_t, zbn_s, cl_n (show 75 + e < 2147483648 by omega), q1, zcl_s, r1, zcl_s], ?_⟩
          exact ⟨b, d, ⟨hB, h, hS⟩, hH, hI, hT, hf, hl, hm, ht, hv⟩
        · exact ⟨-1, k, r.thr 0, by unfold F_plan f_X11_plan; rw [a1, zcl_s, if_neg one0, if_neg g2, if_pos g3, g6, zcl_s, if_neg z1, i1, zcl_s, if_neg z2]; rfl, by unfold G_plan f_X12_plan; rw [a2, zcl_s, if_neg one0, g1, zcl_s, if_neg one0, e46, zin_nI (show 46 + e < 334 by omega) (by omega), zck_t, cl_n (show 46 + e < 2147483648 by omega), g5, if_neg z1, i3, zcl_s, if_neg z2]; rfl, hR0.th 0⟩
    · refine ⟨-1, k, r.thr 0, ?_, by unfold G_plan f_X12_plan; rw [a2, zcl_s, if_neg one0, g1, zcl_s, if_pos rfl]; rfl, hR0.th 0⟩
      unfold F_plan f_X11_plan
      rw [a1, zcl_s, if_neg one0]
      rcases g2 with g2 | ⟨g2, g3, -⟩
      · rw [if_pos g2]; rfl
      · rw [if_neg g2, if_neg g3]; rfl
  · exact ⟨-1, k, r.thr 0, by unfold F_plan f_X11_plan; rw [a1, zcl_s, if_pos rfl]; rfl, by unfold G_plan f_X12_plan; rw [a2, zcl_s, if_pos rfl]; rfl, hR0.th 0⟩
