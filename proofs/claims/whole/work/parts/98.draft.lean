/-! ===== a burgh's draft ===== -/
def HB (b : MB) (B : CB) (h : Nat → Int32) (nm : Nat → Int64) : Prop := BR b B h (fun i => nm (18 + i)) ∧ (∀ k, b.C ≤ k → k < 6 → h (10 + k) = 0 ∧ h (16 + k) = 0) ∧ (∀ e, b.T ≤ e → e < 6 → h (46 + e) = 0)
section DRAFT
variable {b : MB} {B : CB} {h h' : Nat → Int32} {nm : Nat → Int64}
theorem HB.clk (H : HB b B h nm) (hC : b.C < 6) (w : Int64) (hw : wd9 w) (v : Nat) (a g : Int) (hv : v ≤ 30) (ha1 : -99 ≤ a) (ha2 : a ≤ 99) (hg1 : -9 ≤ g) (hg2 : g ≤ 9) (e0 : h' 0 = nI (b.C + 1)) (e4 : h' (4 + b.C) = nI v) (e10 : h' (10 + b.C) = iI a) (e16 : h' (16 + b.C) = iI g) (eo : ∀ i, i ≠ 0 → i ≠ 4 + b.C → i ≠ 10 + b.C → i ≠ 16 + b.C → h' i = h i) : HB (MB.mk (b.C + 1) b.M b.T b.pat b.clk b.cor (up9 b.ccor b.C v) b.late (up9 b.gn b.C g) (up9 b.ah0 b.C a) b.du0 b.toC) (CB.mk (nI (b.C + 1)) B.masters B.meets B.patience (vp_updL B.clockName b.C w) (upd B.clockCorner b.C (nI v)) (upd B.clockAhead b.C (iI a)) (upd B.clockGain b.C (iI g)) B.masterName B.masterCorner B.masterLate B.masterClock B.masterMeets B.meetName B.meetDue) h' (vp_updL nm (18 + b.C) w) := by
  obtain ⟨⟨⟨a1, a2, a3, a4, a5, a6, a7, a8, a9, a10, a11, a12⟩, h1, h2, h3⟩, z1, z2⟩ := H
  refine ⟨⟨⟨by show b.C + 1 ≤ 6; omega, a2, a3, rfl, e0, a6, by rw [eo 1 (by omega) (by omega) (by omega) (by omega)]; exact a7, a8, by rw [eo 2 (by omega) (by omega) (by omega) (by omega)]; exact a9, a10, by rw [eo 3 (by omega) (by omega) (by omega) (by omega)]; exact a11, a12⟩, fun c hc => ?_, fun m hm => ?_, fun e he => ?_⟩, fun k k1 k2 => ?_, fun e k1 k2 => ?_⟩
  · show upd B.clockCorner b.C (nI v) c = nI (up9 b.ccor b.C v c) ∧ h' (4 + c) = nI (up9 b.ccor b.C v c) ∧ up9 b.ccor b.C v c ≤ 30 ∧ upd B.clockAhead b.C (iI a) c = iI (up9 b.ah0 b.C a c) ∧ h' (10 + c) = iI (up9 b.ah0 b.C a c) ∧ -99 ≤ up9 b.ah0 b.C a c ∧ up9 b.ah0 b.C a c ≤ 99 ∧ upd B.clockGain b.C (iI g) c = iI (up9 b.gn b.C g c) ∧ h' (16 + c) = iI (up9 b.gn b.C g c) ∧ -9 ≤ up9 b.gn b.C g c ∧ up9 b.gn b.C g c ≤ 9 ∧ vp_updL B.clockName b.C w c = vp_updL nm (18 + b.C) w (18 + c) ∧ wd9 (vp_updL nm (18 + b.C) w (18 + c))
    by_cases e : c = b.C
    · subst e
      rw [pk_us, pk_us, pk_us, pk_uLs, pk_uLs, up9_s, up9_s, up9_s]
      exact ⟨rfl, e4, hv, rfl, e10, ha1, ha2, rfl, e16, hg1, hg2, rfl, hw⟩
    · have hc' : c < b.C := by have : c < b.C + 1 := hc; omega
      rw [pk_un e, pk_un e, pk_un e, pk_uLn e, pk_uLn (by omega), up9_n e, up9_n e, up9_n e, eo (4 + c) (by omega) (by omega) (by omega) (by omega), eo (10 + c) (by omega) (by omega) (by omega) (by omega), eo (16 + c) (by omega) (by omega) (by omega) (by omega)]
      exact h1 c hc'
  · have hm' : m < b.M := hm
    obtain ⟨q1, q2, q3, q4, q5, q6, q7, q8, q9, q10, q11, q12⟩ := h2 m hm'
    refine ⟨q1, ?_, q3, q4, ?_, q6, q7, q8, ?_, ?_, q11, ?_⟩
    · rw [eo (22 + m) (by omega) (by omega) (by omega) (by omega)]; exact q2
    · rw [eo (28 + m) (by omega) (by omega) (by omega) (by omega)]; exact q5
    · rw [eo (34 + m) (by omega) (by omega) (by omega) (by omega)]; exact q9
    · show b.clk m < b.C + 1; omega
    · show B.masterName m = vp_updL nm (18 + b.C) w (18 + (6 + m))
      rw [pk_uLn (by omega)]; exact q12
  · have he' : e < b.T := he
    obtain ⟨q1, q2, q3, q4, q5, q6⟩ := h3 e he'
    refine ⟨q1, ?_, q3, q4, ?_, ?_⟩
    · rw [eo (40 + e) (by omega) (by omega) (by omega) (by omega)]; exact q2
    · rw [eo (46 + e) (by omega) (by omega) (by omega) (by omega)]; exact q5
    · show B.meetName e = vp_updL nm (18 + b.C) w (18 + (12 + e))
      rw [pk_uLn (by omega)]; exact q6
  · have k1' : b.C + 1 ≤ k := k1
    rw [eo (10 + k) (by omega) (by omega) (by omega) (by omega), eo (16 + k) (by omega) (by omega) (by omega) (by omega)]
    exact z1 k (by omega) k2
  · rw [eo (46 + e) (by omega) (by omega) (by omega) (by omega)]
    exact z2 e k1 k2
theorem HB.mas (H : HB b B h nm) (hM : b.M < 6) (w : Int64) (v cl : Nat) (l : Int) (hv : v ≤ 30) (hl1 : 1 ≤ l) (hl2 : l ≤ 60) (hcl : cl < b.C) (e1 : h' 1 = nI (b.M + 1)) (e22 : h' (22 + b.M) = nI v) (e28 : h' (28 + b.M) = iI l) (e34 : h' (34 + b.M) = nI cl) (eo : ∀ i, i ≠ 1 → i ≠ 22 + b.M → i ≠ 28 + b.M → i ≠ 34 + b.M → h' i = h i) : HB (MB.mk b.C (b.M + 1) b.T b.pat (up9 b.clk b.M cl) (up9 b.cor b.M v) b.ccor (up9 b.late b.M l) b.gn b.ah0 b.du0 (fun m e => decide (m < b.M) && b.toC m e)) (CB.mk B.clocks (nI (b.M + 1)) B.meets B.patience B.clockName B.clockCorner B.clockAhead B.clockGain (vp_updL B.masterName b.M w) (upd B.masterCorner b.M (nI v)) (upd B.masterLate b.M (iI l)) (upd B.masterClock b.M (nI cl)) (upd B.masterMeets b.M 0) B.meetName B.meetDue) h' (vp_updL nm (24 + b.M) w) := by
  obtain ⟨⟨⟨a1, a2, a3, a4, a5, a6, a7, a8, a9, a10, a11, a12⟩, h1, h2, h3⟩, z1, z2⟩ := H
  refine ⟨⟨⟨a1, by show b.M + 1 ≤ 6; omega, a3, a4, by rw [eo 0 (by omega) (by omega) (by omega) (by omega)]; exact a5, rfl, e1, a8, by rw [eo 2 (by omega) (by omega) (by omega) (by omega)]; exact a9, a10, by rw [eo 3 (by omega) (by omega) (by omega) (by omega)]; exact a11, a12⟩, fun c hc => ?_, fun m hm => ?_, fun e he => ?_⟩, fun k k1 k2 => ?_, fun e k1 k2 => ?_⟩
  · have hc' : c < b.C := hc
    obtain ⟨q1, q2, q3, q4, q5, q6, q7, q8, q9, q10, q11, q12⟩ := h1 c hc'
    refine ⟨q1, ?_, q3, q4, ?_, q6, q7, q8, ?_, q10, q11, ?_⟩
    · rw [eo (4 + c) (by omega) (by omega) (by omega) (by omega)]; exact q2
    · rw [eo (10 + c) (by omega) (by omega) (by omega) (by omega)]; exact q5
    · rw [eo (16 + c) (by omega) (by omega) (by omega) (by omega)]; exact q9
    · show B.clockName c = vp_updL nm (24 + b.M) w (18 + c) ∧ wd9 (vp_updL nm (24 + b.M) w (18 + c))
      rw [pk_uLn (by omega)]; exact q12
  · show upd B.masterCorner b.M (nI v) m = nI (up9 b.cor b.M v m) ∧ h' (22 + m) = nI (up9 b.cor b.M v m) ∧ up9 b.cor b.M v m ≤ 30 ∧ upd B.masterLate b.M (iI l) m = iI (up9 b.late b.M l m) ∧ h' (28 + m) = iI (up9 b.late b.M l m) ∧ 1 ≤ up9 b.late b.M l m ∧ up9 b.late b.M l m ≤ 60 ∧ upd B.masterClock b.M (nI cl) m = nI (up9 b.clk b.M cl m) ∧ h' (34 + m) = nI (up9 b.clk b.M cl m) ∧ up9 b.clk b.M cl m < b.C ∧ upd B.masterMeets b.M 0 m = bmk (fun e => decide (m < b.M) && b.toC m e) b.T ∧ vp_updL B.masterName b.M w m = vp_updL nm (24 + b.M) w (18 + (6 + m))
    by_cases e : m = b.M
    · subst e
      rw [pk_us, pk_us, pk_us, pk_us, pk_uLs, show 18 + (6 + b.M) = 24 + b.M by omega, pk_uLs, up9_s, up9_s, up9_s]
      refine ⟨rfl, e22, hv, rfl, e28, hl1, hl2, rfl, e34, hcl, ?_, rfl⟩
      rw [decide_eq_false (show ¬ b.M < b.M by omega)]
      have : ∀ n, bmk (fun e => false && b.toC b.M e) n = 0 := by
        intro n
        induction n with
        | zero => rfl
        | succ n ih => rw [bmk_f (P := fun e => false && b.toC b.M e) (n := n) rfl]; exact ih
      rw [this]
    · have hm' : m < b.M := by have : m < b.M + 1 := hm; omega
      rw [pk_un e, pk_un e, pk_un e, pk_un e, pk_uLn e, pk_uLn (by omega), up9_n e, up9_n e, up9_n e, eo (22 + m) (by omega) (by omega) (by omega) (by omega), eo (28 + m) (by omega) (by omega) (by omega) (by omega), eo (34 + m) (by omega) (by omega) (by omega) (by omega), decide_eq_true hm']
      exact h2 m hm'
  · have he' : e < b.T := he
    obtain ⟨q1, q2, q3, q4, q5, q6⟩ := h3 e he'
    refine ⟨q1, ?_, q3, q4, ?_, ?_⟩
    · rw [eo (40 + e) (by omega) (by omega) (by omega) (by omega)]; exact q2
    · rw [eo (46 + e) (by omega) (by omega) (by omega) (by omega)]
      show h (46 + e) = bmk (fun m => decide (m < b.M) && b.toC m e) (b.M + 1)
      rw [bmk_f (P := fun m => decide (m < b.M) && b.toC m e) (n := b.M) (by rw [decide_eq_false (show ¬ b.M < b.M by omega)]; rfl), q5]
      exact bmk_congr (fun i hi => by rw [decide_eq_true hi]; rfl)
    · show B.meetName e = vp_updL nm (24 + b.M) w (18 + (12 + e))
      rw [pk_uLn (by omega)]; exact q6
  · rw [eo (10 + k) (by omega) (by omega) (by omega) (by omega), eo (16 + k) (by omega) (by omega) (by omega) (by omega)]
    exact z1 k k1 k2
  · rw [eo (46 + e) (by omega) (by omega) (by omega) (by omega)]
    exact z2 e k1 k2
theorem HB.met (H : HB b B h nm) (hT : b.T < 6) (w : Int64) (v : Nat) (hv : v ≤ 999) (e2 : h' 2 = nI (b.T + 1)) (e40 : h' (40 + b.T) = nI v) (eo : ∀ i, i ≠ 2 → i ≠ 40 + b.T → h' i = h i) : HB (MB.mk b.C b.M (b.T + 1) b.pat b.clk b.cor b.ccor b.late b.gn b.ah0 (up9 b.du0 b.T v) (fun m e => decide (e < b.T) && b.toC m e)) (CB.mk B.clocks B.masters (nI (b.T + 1)) B.patience B.clockName B.clockCorner B.clockAhead B.clockGain B.masterName B.masterCorner B.masterLate B.masterClock B.masterMeets (vp_updL B.meetName b.T w) (upd B.meetDue b.T (nI v))) h' (vp_updL nm (30 + b.T) w) := by
  obtain ⟨⟨⟨a1, a2, a3, a4, a5, a6, a7, a8, a9, a10, a11, a12⟩, h1, h2, h3⟩, z1, z2⟩ := H
  refine ⟨⟨⟨a1, a2, by show b.T + 1 ≤ 6; omega, a4, by rw [eo 0 (by omega) (by omega)]; exact a5, a6, by rw [eo 1 (by omega) (by omega)]; exact a7, rfl, e2, a10, by rw [eo 3 (by omega) (by omega)]; exact a11, a12⟩, fun c hc => ?_, fun m hm => ?_, fun e he => ?_⟩, fun k k1 k2 => ?_, fun e k1 k2 => ?_⟩
  · have hc' : c < b.C := hc
    obtain ⟨q1, q2, q3, q4, q5, q6, q7, q8, q9, q10, q11, q12⟩ := h1 c hc'
    refine ⟨q1, ?_, q3, q4, ?_, q6, q7, q8, ?_, q10, q11, ?_⟩
    · rw [eo (4 + c) (by omega) (by omega)]; exact q2
    · rw [eo (10 + c) (by omega) (by omega)]; exact q5
    · rw [eo (16 + c) (by omega) (by omega)]; exact q9
    · show B.clockName c = vp_updL nm (30 + b.T) w (18 + c) ∧ wd9 (vp_updL nm (30 + b.T) w (18 + c))
      rw [pk_uLn (by omega)]; exact q12
  · have hm' : m < b.M := hm
    obtain ⟨q1, q2, q3, q4, q5, q6, q7, q8, q9, q10, q11, q12⟩ := h2 m hm'
    refine ⟨q1, ?_, q3, q4, ?_, q6, q7, q8, ?_, q10, ?_, ?_⟩
    · rw [eo (22 + m) (by omega) (by omega)]; exact q2
    · rw [eo (28 + m) (by omega) (by omega)]; exact q5
    · rw [eo (34 + m) (by omega) (by omega)]; exact q9
    · show B.masterMeets m = bmk (fun e => decide (e < b.T) && b.toC m e) (b.T + 1)
      rw [bmk_f (P := fun e => decide (e < b.T) && b.toC m e) (n := b.T) (by rw [decide_eq_false (show ¬ b.T < b.T by omega)]; rfl), q11]
      exact bmk_congr (fun i hi => by rw [decide_eq_true hi]; rfl)
    · show B.masterName m = vp_updL nm (30 + b.T) w (18 + (6 + m))
      rw [pk_uLn (by omega)]; exact q12
  · show upd B.meetDue b.T (nI v) e = iI (up9 b.du0 b.T (v : Int) e) ∧ h' (40 + e) = iI (up9 b.du0 b.T (v : Int) e) ∧ 0 ≤ up9 b.du0 b.T (v : Int) e ∧ up9 b.du0 b.T (v : Int) e ≤ 999 ∧ h' (46 + e) = bmk (fun m => decide (e < b.T) && b.toC m e) b.M ∧ vp_updL B.meetName b.T w e = vp_updL nm (30 + b.T) w (18 + (12 + e))
    by_cases ee : e = b.T
    · subst ee
      rw [pk_us, pk_uLs, show 18 + (12 + b.T) = 30 + b.T by omega, pk_uLs, up9_s, e40, iI_nat]
      refine ⟨rfl, rfl, by omega, by omega, ?_, rfl⟩
      rw [eo (46 + b.T) (by omega) (by omega), z2 b.T (by omega) (by omega), decide_eq_false (show ¬ b.T < b.T by omega)]
      have : ∀ n, bmk (fun m => false && b.toC m b.T) n = 0 := by
        intro n
        induction n with
        | zero => rfl
        | succ n ih => rw [bmk_f (P := fun m => false && b.toC m b.T) (n := n) rfl]; exact ih
      rw [this]
    · have he' : e < b.T := by have : e < b.T + 1 := he; omega
      rw [pk_un ee, pk_uLn ee, pk_uLn (by omega), up9_n ee, eo (40 + e) (by omega) (by omega), eo (46 + e) (by omega) (by omega), decide_eq_true he']
      exact h3 e he'
  · rw [eo (10 + k) (by omega) (by omega), eo (16 + k) (by omega) (by omega)]
    exact z1 k k1 k2
  · have k1' : b.T + 1 ≤ e := k1
    rw [eo (46 + e) (by omega) (by omega)]
    exact z2 e (by omega) k2
theorem bmk_up {Q : Nat → Bool} {n i : Nat} (hn : n ≤ 32) (hi : i < n) : bmk Q n ||| ((1 : Int32) <<< (nI i &&& 31)) = bmk (up9 Q i true) n := by
  apply b_ext
  intro k hk
  rw [bt_set9 _ (by omega) k, bmk_bit hn k, bmk_bit hn k]
  by_cases e : k = i
  · rw [if_pos e, e, up9_s, decide_eq_true hi]; rfl
  · rw [if_neg e, up9_n e]
theorem HB.com (H : HB b B h nm) {m e : Nat} (hm : m < b.M) (he : e < b.T) (e46 : h' (46 + e) = h (46 + e) ||| ((1 : Int32) <<< (nI m &&& 31))) (eo : ∀ i, i ≠ 46 + e → h' i = h i) : HB (MB.mk b.C b.M b.T b.pat b.clk b.cor b.ccor b.late b.gn b.ah0 b.du0 (fun m' e' => b.toC m' e' || (decide (m' = m) && decide (e' = e)))) (CB.mk B.clocks B.masters B.meets B.patience B.clockName B.clockCorner B.clockAhead B.clockGain B.masterName B.masterCorner B.masterLate B.masterClock (upd B.masterMeets m (B.masterMeets m ||| ((1 : Int32) <<< (nI e &&& 31)))) B.meetName B.meetDue) h' nm := by
  obtain ⟨⟨⟨a1, a2, a3, a4, a5, a6, a7, a8, a9, a10, a11, a12⟩, h1, h2, h3⟩, z1, z2⟩ := H
  refine ⟨⟨⟨a1, a2, a3, a4, by rw [eo 0 (by omega)]; exact a5, a6, by rw [eo 1 (by omega)]; exact a7, a8, by rw [eo 2 (by omega)]; exact a9, a10, by rw [eo 3 (by omega)]; exact a11, a12⟩, fun c hc => ?_, fun m' hm' => ?_, fun e' he' => ?_⟩, fun k k1 k2 => ?_, fun e' k1 k2 => ?_⟩
  · have hc' : c < b.C := hc
    rw [eo (4 + c) (by omega), eo (10 + c) (by omega), eo (16 + c) (by omega)]
    exact h1 c hc'
  · have hm2 : m' < b.M := hm'
    obtain ⟨q1, q2, q3, q4, q5, q6, q7, q8, q9, q10, q11, q12⟩ := h2 m' hm2
    refine ⟨q1, ?_, q3, q4, ?_, q6, q7, q8, ?_, q10, ?_, q12⟩
    · rw [eo (22 + m') (by omega)]; exact q2
    · rw [eo (28 + m') (by omega)]; exact q5
    · rw [eo (34 + m') (by omega)]; exact q9
    · show upd B.masterMeets m (B.masterMeets m ||| ((1 : Int32) <<< (nI e &&& 31))) m' = bmk (fun e' => b.toC m' e' || (decide (m' = m) && decide (e' = e))) b.T
      by_cases em : m' = m
      · subst em
        rw [pk_us, q11, bmk_up (by omega) he]
        refine bmk_congr (fun i hi => ?_)
        by_cases ei : i = e
        · rw [ei, up9_s, decide_eq_true rfl, decide_eq_true rfl]; simp
        · rw [up9_n ei, decide_eq_false ei]; simp
      · rw [pk_un em, q11]
        refine bmk_congr (fun i hi => ?_)
        rw [decide_eq_false em]; simp
  · have he2 : e' < b.T := he'
    obtain ⟨q1, q2, q3, q4, q5, q6⟩ := h3 e' he2
    refine ⟨q1, ?_, q3, q4, ?_, q6⟩
    · rw [eo (40 + e') (by omega)]; exact q2
    · show h' (46 + e') = bmk (fun m' => b.toC m' e' || (decide (m' = m) && decide (e' = e))) b.M
      by_cases ee : e' = e
      · subst ee
        rw [e46, q5, bmk_up (by omega) hm]
        refine bmk_congr (fun i hi => ?_)
        by_cases ei : i = m
        · rw [ei, up9_s, decide_eq_true rfl, decide_eq_true rfl]; simp
        · rw [up9_n ei, decide_eq_false ei]; simp
      · rw [eo (46 + e') (by omega), q5]
        refine bmk_congr (fun i hi => ?_)
        rw [decide_eq_false ee]; simp
  · rw [eo (10 + k) (by omega), eo (16 + k) (by omega)]
    exact z1 k k1 k2
  · have k1' : b.T ≤ e' := k1
    rw [eo (46 + e') (by omega)]
    exact z2 e' k1 k2
theorem HB.wai (H : HB b B h nm) (v : Nat) (hv : v ≤ 99) : HB (MB.mk b.C b.M b.T v b.clk b.cor b.ccor b.late b.gn b.ah0 b.du0 b.toC) (CB.mk B.clocks B.masters B.meets (nI v) B.clockName B.clockCorner B.clockAhead B.clockGain B.masterName B.masterCorner B.masterLate B.masterClock B.masterMeets B.meetName B.meetDue) (upd h 3 (nI v)) nm := by
  obtain ⟨⟨⟨a1, a2, a3, a4, a5, a6, a7, a8, a9, a10, a11, a12⟩, h1, h2, h3⟩, z1, z2⟩ := H
  have eo : ∀ i, i ≠ 3 → upd h 3 (nI v) i = h i := fun i hi => pk_un hi
  refine ⟨⟨⟨a1, a2, a3, a4, by rw [eo 0 (by omega)]; exact a5, a6, by rw [eo 1 (by omega)]; exact a7, a8, by rw [eo 2 (by omega)]; exact a9, rfl, pk_us, hv⟩, fun c hc => ?_, fun m hm => ?_, fun e he => ?_⟩, fun k k1 k2 => ?_, fun e k1 k2 => ?_⟩
  · have hc' : c < b.C := hc
    rw [eo (4 + c) (by omega), eo (10 + c) (by omega), eo (16 + c) (by omega)]
    exact h1 c hc'
  · have hm' : m < b.M := hm
    rw [eo (22 + m) (by omega), eo (28 + m) (by omega), eo (34 + m) (by omega)]
    exact h2 m hm'
  · have he' : e < b.T := he
    rw [eo (40 + e) (by omega), eo (46 + e) (by omega)]
    exact h3 e he'
  · rw [eo (10 + k) (by omega), eo (16 + k) (by omega)]
    exact z1 k k1 k2
  · rw [eo (46 + e) (by omega)]
    exact z2 e k1 k2
end DRAFT
section OPN
variable {tp by9 : Nat → Int32} {L lim : Nat}
theorem opn_ok (N : Nat) (hN : 2010 ≤ N) (hL : L ≤ 940) (hlim : lim ≤ 900) (hby : ∀ i, i < L → by9 i = tp i) (kind place value : Int32) (word : Int64) (fault faultPlace size taken : Int32) (K P V : Nat → Int32) (W : Nat → Int64) : ∃ (sz : Nat) (K' P' V' : Nat → Int32) (W' : Nat → Int64) (kc : KU), f_X8_open N (nI lim) kind place value word fault faultPlace size taken (nI L) by9 K P V W = some (kc.1, kc.2.1, kc.2.2.1, kc.2.2.2.1, 0, 0, nI sz, kc.2.2.2.2, K', P', V', W') ∧ EV tp L lim sz K' P' V' W' ∧ CQ tp L lim sz 0 kc := by
  obtain ⟨sz, K', P', V', W', q1, q2⟩ := opn19 (tp := tp) (by9 := by9) (L := L) (lim := lim) N hN hL hlim hby kind place value word fault faultPlace taken N 0 0 K P V W (Nat.zero_le _) (Nat.le_refl _) (Nat.zero_le _) (by omega) (fun i hi => absurd hi (by omega)) rfl
  refine ⟨sz, K', P', V', W', (K' 0, P' 0, V' 0, W' 0, 1), ?_, ⟨hL, hlim, q2⟩, q2.2.2.1 0 (by have := q2.1; omega), by show (1 : Int32) = nI (min (0 + 1) sz); rw [show min (0 + 1) sz = 1 by have := q2.1; omega]; rfl⟩
  unfold f_X8_open
  have em : zmin (nI L) (nI lim) = nI (min L lim) := by
    rw [iI_nat, iI_nat, iI_nat, zmin_m (by omega) (by omega) (by omega) (by omega)]
    congr 1
    omega
  rw [zbn_s, em]
  exact q1
theorem nx0_ok (N : Nat) (hN : 2010 ≤ N) (hL : L ≤ 940) (hlim : lim ≤ 900) (token at_ span number : Int32) (word : Int64) : ∃ rc, f_X12_next N (nI L) 0 (nI lim) token at_ span number word tp = some rc ∧ RC tp L lim 0 rc := by
  obtain ⟨sp', nu', wd', n1, n2, n3⟩ := nxt_ok (tp := tp) (L := L) (lim := lim) N 0 hN hL (by omega) (Nat.zero_le _) token at_ span number word
  exact ⟨_, n1, rfl, rfl, rfl, n2, n3⟩
end OPN
