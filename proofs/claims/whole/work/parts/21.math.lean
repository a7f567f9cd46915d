/-! ===== numbers ===== -/
def iI (z : Int) : Int32 := Int32.ofInt z
theorem iI_nat (n : Nat) : nI n = iI (n : Int) := (Int32.ofInt_eq_ofNat).symm
theorem iI_add (a b : Int) : iI a + iI b = iI (a + b) := (Int32.ofInt_add a b).symm
theorem iI_sub (a b : Int) : iI a - iI b = iI (a - b) := (Int32.ofInt_sub a b).symm
theorem iI_mul (a b : Int) : iI a * iI b = iI (a * b) := (Int32.ofInt_mul a b).symm
theorem iI_neg (a : Int) : -iI a = iI (-a) := (Int32.ofInt_neg a).symm
def iR (z : Int) : Prop := -2147483648 ≤ z ∧ z < 2147483648
theorem iI_toInt {z : Int} (h : iR z) : (iI z).toInt = z := Int32.toInt_ofInt_of_le (by have := h.1; omega) (by have := h.2; omega)
theorem iI_lt {a b : Int} (ha : iR a) (hb : iR b) : iI a < iI b ↔ a < b := by rw [Int32.lt_iff_toInt_lt, iI_toInt ha, iI_toInt hb]
theorem iI_le {a b : Int} (ha : iR a) (hb : iR b) : iI a ≤ iI b ↔ a ≤ b := by rw [Int32.le_iff_toInt_le, iI_toInt ha, iI_toInt hb]
theorem iI_eq {a b : Int} (ha : iR a) (hb : iR b) : iI a = iI b ↔ a = b := by
  refine ⟨fun h => ?_, fun h => by rw [h]⟩
  have := congrArg Int32.toInt h
  rwa [iI_toInt ha, iI_toInt hb] at this
theorem iI_div {a b : Int} (ha : 0 ≤ a ∧ a < 2147483648) (hb : 0 < b ∧ b < 2147483648) : iI a / iI b = iI (a / b) := by
  apply Int32.toInt_inj.1
  have rb : iR b := ⟨by omega, hb.2⟩
  have ra : iR a := ⟨by omega, ha.2⟩
  have hb1 : iI b ≠ -1 := by
    intro h
    have h1 := congrArg Int32.toInt h
    rw [iI_toInt rb] at h1
    have h2 : (-1 : Int32).toInt = -1 := by decide
    omega
  have h3 : 0 ≤ a / b := Int.ediv_nonneg ha.1 (by omega)
  have h4 : a / b ≤ a := Int.ediv_le_self _ ha.1
  rw [Int32.toInt_div_of_ne_right _ _ hb1, iI_toInt ra, iI_toInt rb, iI_toInt ⟨by omega, by omega⟩, Int.tdiv_eq_ediv_of_nonneg ha.1]
theorem iI_rem {a b : Int} (ha : 0 ≤ a ∧ a < 2147483648) (hb : 0 < b ∧ b < 2147483648) : zrem (iI a) (iI b) = iI (a % b) := by
  unfold zrem
  rw [iI_div ha hb, iI_mul, iI_sub, Int.emod_def, Int.mul_comm b]
theorem zin_nI {j n : Nat} (h : j < n) (hn : n < 2147483648) : zin (nI j) n = true := by
  unfold zin
  rw [decide_eq_true_eq, nI_toInt (by omega)]
  omega
theorem nI_clamp' {j : Nat} (h : j < 2147483648) : (nI j).toNatClampNeg = j := nI_clamp h
theorem zck_t {β : Type} (k : Option β) : zck true k = k := rfl
theorem zcl_s {α β : Type} (a : α) (k : α → Option β) : zcl (some a) k = k a := rfl
theorem zbn_s {α β : Type} (e : α) (k : α → Option β) : zbn e k = k e := rfl
def bI (b : Bool) : Int32 := match b with
  | true => 1
  | false => 0
theorem bI_bo (b : Bool) : zbo (bI b) = true := by cases b <;> rfl
/-- the bit that Java asks for -/
theorem bit_eq (x : Int32) {k : Nat} (hk : k < 32) : ((x >>> (nI k &&& 31)) &&& 1) = if bt x k then 1 else 0 := by
  apply b_ext
  intro i hi
  rw [b_and]
  have h1 : ∀ i, i < 32 → bt 1 i = decide (i = 0) := by decide +kernel
  rw [h1 i hi]
  by_cases h0 : i = 0
  · subst h0
    rw [b_sshr k hk x (by omega), if_pos (by omega)]
    cases hb : bt x k
    · simp [hb, b_0]
    · have : bt 1 0 = true := by decide +kernel
      simp [hb, this]
  · cases hb : bt x k
    · simp [h0, b_0]
    · rw [if_pos rfl, h1 i hi]
      simp [h0]
theorem bit_ne (x : Int32) {k : Nat} (hk : k < 32) : (((x >>> (nI k &&& 31)) &&& 1) = 0) ↔ bt x k = false := by
  rw [bit_eq x hk]
  cases bt x k
  · simp
  · have : ¬ (1 : Int32) = 0 := by decide
    simp [this]
theorem bit_one (x : Int32) {k : Nat} (hk : k < 32) : (((x >>> (nI k &&& 31)) &&& 1) = 1) ↔ bt x k = true := by
  rw [bit_eq x hk]
  cases bt x k
  · have : ¬ (0 : Int32) = 1 := by decide
    simp [this]
  · simp
theorem bt_shl1 {k i : Nat} (hk : k < 32) (hi : i < 32) : bt ((1 : Int32) <<< (nI k &&& 31)) i = decide (i = k) := by
  have h : ∀ k, k < 32 → ∀ i, i < 32 → bt ((1 : Int32) <<< (nI k &&& 31)) i = decide (i = k) := by decide +kernel
  exact h k hk i hi
theorem bt_or1 (x : Int32) {k i : Nat} (hk : k < 32) : bt (x ||| ((1 : Int32) <<< (nI k &&& 31))) i = (bt x i || decide (i = k)) := by
  rw [b_or]
  by_cases hi : i < 32
  · rw [bt_shl1 hk hi]
  · rw [b_big (x := (1 : Int32) <<< (nI k &&& 31)) (by omega)]
    have : ¬ i = k := by omega
    simp [this]
/-! ===== who goes: out, set out, came ===== -/
abbrev GM : Type := (Nat → Bool) × (Nat → Nat → Option Nat) × (Nat → Nat → Option Nat)
def gset {α : Type} (f : Nat → Nat → α) (m e : Nat) (v : α) : Nat → Nat → α := fun a b => if a = m ∧ b = e then v else f a b
/-- when he has set out, behind minute t -/
def goL (rd : Nat → Nat → Int) (du late : Nat → Int) (t m e : Nat) (x : GM) : Option Nat := if x.1 m = false ∧ x.2.1 m e = none ∧ du e + late m ≤ rd m t then some t else x.2.1 m e
def goM (rd : Nat → Nat → Int) (du late : Nat → Int) (cor : Nat → Nat) (t m e : Nat) (x : GM) : GM :=
  if (goL rd du late t m e x).map (fun u => u + cor m) = some t then (fun i => x.1 i || (decide (i = m) && decide ((t : Int) ≤ du e)), gset x.2.1 m e (goL rd du late t m e x), gset x.2.2 m e (some t))
  else (x.1, gset x.2.1 m e (goL rd du late t m e x), x.2.2)
def rowM (toC : Nat → Nat → Bool) (rd : Nat → Nat → Int) (du late : Nat → Int) (cor : Nat → Nat) (t e : Nat) : Nat → Nat → GM → GM
  | 0, _, x => x
  | k + 1, m, x => rowM toC rd du late cor t e k (m + 1) (if toC m e then goM rd du late cor t m e x else x)
def colM (toC : Nat → Nat → Bool) (rd : Nat → Nat → Int) (du late : Nat → Int) (cor : Nat → Nat) (M t : Nat) : Nat → Nat → GM → GM
  | 0, _, x => x
  | k + 1, e, x => colM toC rd du late cor M t k (e + 1) (rowM toC rd du late cor t e M 0 x)
/-- a minute -/
def minM (toC : Nat → Nat → Bool) (rd : Nat → Nat → Int) (du late : Nat → Int) (cor : Nat → Nat) (M T t : Nat) (x : GM) : GM := colM toC rd du late cor M t T 0 x
/-- n minutes from t on -/
def pasM (toC : Nat → Nat → Bool) (rd : Nat → Nat → Int) (du late : Nat → Int) (cor : Nat → Nat) (M T : Nat) : Nat → Nat → GM → GM
  | 0, _, x => x
  | n + 1, t, x => pasM toC rd du late cor M T n (t + 1) (minM toC rd du late cor M T t x)
/-- what a clock reads -/
def rdM (stp : Nat → Bool) (so ah gn : Nat → Int) (si : Nat → Nat) (c u : Nat) : Int := if stp c then so c else (u : Int) + ah c + gn c * (((u : Int) - si c) / 60)
/-- none is -1 -/
def oI (o : Option Nat) : Int32 := match o with
  | none => -1
  | some u => nI u
def oJ (o : Option Nat) : Int32 := match o with
  | none => 0
  | some u => nI (u + 1)
/-- the class's clocks -/
def CC (C : Nat) (stp : Nat → Bool) (so ah gn : Nat → Int) (si : Nat → Nat) (stopped : Int32) (stood ahead gain since : Nat → Int32) : Prop :=
  C ≤ 6 ∧ (∀ c, c < C → bt stopped c = stp c) ∧ (∀ c, c < C → stp c = true → stood c = iI (so c)) ∧ (∀ c, c < C → ahead c = iI (ah c)) ∧ (∀ c, c < C → gain c = iI (gn c)) ∧ ∀ c, c < C → since c = nI (si c) ∧ si c ≤ 2000
theorem X3_isStopped_ok {C : Nat} {stp : Nat → Bool} {so ah gn : Nat → Int} {si : Nat → Nat} {stopped : Int32} {stood ahead gain since : Nat → Int32} (h : CC C stp so ah gn si stopped stood ahead gain since) (N c : Nat) (hc : c < C) : f_X3_isStopped N (nI c) stopped = some (bI (stp c)) := by
  unfold f_X3_isStopped
  have hc6 := h.1
  cases hs : stp c
  · rw [if_pos ((bit_ne stopped (by omega)).mpr (by rw [h.2.1 c hc, hs]))]
    rfl
  · rw [if_neg (fun z => by have := (bit_ne stopped (by omega)).mp z; rw [h.2.1 c hc, hs] at this; cases this)]
    rfl
theorem X3_reads_ok {C : Nat} {stp : Nat → Bool} {so ah gn : Nat → Int} {si : Nat → Nat} {stopped : Int32} {stood ahead gain since : Nat → Int32} (h : CC C stp so ah gn si stopped stood ahead gain since) (N c u : Nat) (hc : c < C) (hu : si c ≤ u) (hu2 : u < 100000) : f_X3_reads N (nI c) (nI u) stopped stood ahead gain since = some (iI (rdM stp so ah gn si c u)) := by
  unfold f_X3_reads
  have hc6 := h.1
  rw [X3_isStopped_ok h N c hc, zcl_s, zin_nI (show c < 6 by omega) (by omega), nI_clamp' (show c < 2147483648 by omega), zck_t, zck_t]
  cases hs : stp c
  · rw [if_pos (show bI false = 0 from rfl), h.2.2.2.1 c hc, h.2.2.2.2.1 c hc, (h.2.2.2.2.2 c hc).1]
    unfold rdM
    rw [hs, if_neg (show ¬ (false = true) by decide), iI_nat u, iI_nat (si c), iI_sub, show (60 : Int32) = iI 60 from rfl, iI_div ⟨by omega, by omega⟩ ⟨by omega, by omega⟩, iI_add, iI_mul, iI_add]
  · rw [if_neg (show ¬ bI true = 0 by decide), h.2.2.1 c hc hs]
    unfold rdM
    rw [hs, if_pos (show true = true from rfl)]
theorem X11_slot_ok (N m e : Nat) : f_X11_slot N (nI m) (nI e) = some (nI (m * 6 + e)) := by
  unfold f_X11_slot
  rw [show (6 : Int32) = nI 6 from rfl, pk_mul, nI_add]
def goM2 (du : Nat → Int) (cor : Nat → Nat) (t m e : Nat) (x : GM) : GM :=
  if (x.2.1 m e).map (fun u => u + cor m) = some t then (fun i => x.1 i || (decide (i = m) && decide ((t : Int) ≤ du e)), x.2.1, gset x.2.2 m e (some t)) else x
theorem gset_at {α : Type} (f : Nat → Nat → α) (m e : Nat) (v : α) : gset f m e v m e = v := by simp [gset]
theorem gset_self {α : Type} (f : Nat → Nat → α) (m e : Nat) : gset f m e (f m e) = f := by
  funext a b
  unfold gset
  split
  · rename_i h
    rw [h.1, h.2]
  · rfl
theorem goM_2 (rd : Nat → Nat → Int) (du late : Nat → Int) (cor : Nat → Nat) (t m e : Nat) (x : GM) : goM rd du late cor t m e x = goM2 du cor t m e (x.1, gset x.2.1 m e (goL rd du late t m e x), x.2.2) := by
  unfold goM goM2
  simp only [gset_at]
theorem goM2_yes {du : Nat → Int} {cor : Nat → Nat} {t m e u : Nat} {x : GM} (hl : x.2.1 m e = some u) (hc : u + cor m = t) : goM2 du cor t m e x = (fun i => x.1 i || (decide (i = m) && decide ((t : Int) ≤ du e)), x.2.1, gset x.2.2 m e (some t)) := by
  unfold goM2
  rw [hl]
  exact if_pos (by show some (u + cor m) = some t; rw [hc])
theorem goM2_no {du : Nat → Int} {cor : Nat → Nat} {t m e u : Nat} {x : GM} (hl : x.2.1 m e = some u) (hc : ¬ u + cor m = t) : goM2 du cor t m e x = x := by
  unfold goM2
  rw [hl]
  exact if_neg (fun z => hc (Option.some.inj z))
theorem goM2_none {du : Nat → Int} {cor : Nat → Nat} {t m e : Nat} {x : GM} (hl : x.2.1 m e = none) : goM2 du cor t m e x = x := by
  unfold goM2
  rw [hl]
  exact if_neg (fun z => by cases z)
def CM (C M : Nat) (clk cor : Nat → Nat) (late : Nat → Int) (masterClock masterLate masterCorner : Nat → Int32) : Prop := M ≤ 6 ∧ ∀ m, m < M → masterClock m = nI (clk m) ∧ clk m < C ∧ masterLate m = iI (late m) ∧ 1 ≤ late m ∧ late m ≤ 60 ∧ masterCorner m = nI (cor m) ∧ cor m ≤ 30
def CU (T : Nat) (du : Nat → Int) (due : Nat → Int32) : Prop := T ≤ 6 ∧ ∀ e, e < T → due e = iI (du e) ∧ 0 ≤ du e ∧ du e < 2000
def CG (M T : Nat) (x : GM) (out : Int32) (left came : Nat → Int32) : Prop := (∀ m, bt out m = (decide (m < M) && x.1 m)) ∧ ∀ m, m < M → ∀ e, e < T → left (m * 6 + e) = oI (x.2.1 m e) ∧ came (m * 6 + e) = oI (x.2.2 m e)
/-- all that was, was by then -/
def GB (t : Nat) (x : GM) : Prop := ∀ m e u, x.2.1 m e = some u → u < t
theorem oI_none {o : Option Nat} (h : ∀ u, o = some u → u < 100000) : oI o = -1 ↔ o = none := by
  cases o with
  | none => simp [oI]
  | some u =>
    have hu := h u rfl
    refine ⟨fun z => ?_, fun z => by cases z⟩
    have h1 : (nI u).toInt = (-1 : Int32).toInt := by rw [show nI u = -1 from z]
    rw [nI_toInt (by omega)] at h1
    have h2 : (-1 : Int32).toInt = -1 := by decide
    omega
theorem X3_isOut_ok {M T : Nat} {x : GM} {out : Int32} {left came : Nat → Int32} (h : CG M T x out left came) (N m : Nat) (hm : m < M) (hM : M ≤ 6) : f_X3_isOut N (nI m) out = some (bI (x.1 m)) := by
  unfold f_X3_isOut
  have hb : bt out m = x.1 m := by rw [h.1 m]; simp [hm]
  cases hs : x.1 m
  · rw [if_pos ((bit_ne out (by omega)).mpr (by rw [hb, hs]))]
    rfl
  · rw [if_neg (fun z => by have := (bit_ne out (by omega)).mp z; rw [hb, hs] at this; cases this)]
    rfl
theorem CG_left {M T : Nat} {x : GM} {out : Int32} {left came : Nat → Int32} (h : CG M T x out left came) (hT : T ≤ 6) {m e : Nat} (he : e < T) (t : Nat) : CG M T (x.1, gset x.2.1 m e (some t), x.2.2) out (upd left (m * 6 + e) (nI t)) came := by
  refine ⟨h.1, fun a ha b hb => ⟨?_, (h.2 a ha b hb).2⟩⟩
  show upd left (m * 6 + e) (nI t) (a * 6 + b) = oI (gset x.2.1 m e (some t) a b)
  by_cases hab : a = m ∧ b = e
  · obtain ⟨rfl, rfl⟩ := hab
    rw [pk_us, gset_at]
    rfl
  · rw [pk_un (by omega), (h.2 a ha b hb).1]
    simp [gset, hab]
theorem CG_came {M T : Nat} {x : GM} {out : Int32} {left came : Nat → Int32} (h : CG M T x out left came) (hT : T ≤ 6) {m e : Nat} (he : e < T) (t : Nat) : CG M T (x.1, x.2.1, gset x.2.2 m e (some t)) out left (upd came (m * 6 + e) (nI t)) := by
  refine ⟨h.1, fun a ha b hb => ⟨(h.2 a ha b hb).1, ?_⟩⟩
  show upd came (m * 6 + e) (nI t) (a * 6 + b) = oI (gset x.2.2 m e (some t) a b)
  by_cases hab : a = m ∧ b = e
  · obtain ⟨rfl, rfl⟩ := hab
    rw [pk_us, gset_at]
    rfl
  · rw [pk_un (by omega), (h.2 a ha b hb).2]
    simp [gset, hab]
theorem CG_out {M T : Nat} {x : GM} {out : Int32} {left came : Nat → Int32} (h : CG M T x out left came) (hM : M ≤ 6) {m : Nat} (hm : m < M) : CG M T (fun i => x.1 i || decide (i = m), x.2.1, x.2.2) (out ||| (1 <<< (nI m &&& 31))) left came := by
  refine ⟨fun i => ?_, h.2⟩
  show bt (out ||| (1 <<< (nI m &&& 31))) i = (decide (i < M) && (x.1 i || decide (i = m)))
  rw [bt_or1 out (by omega), h.1 i]
  by_cases hi : i = m
  · subst hi; simp [hm]
  · simp [hi]
/-- the second half of go -/
theorem X3_go67_ok {C M T : Nat} {clk cor : Nat → Nat} {late du : Nat → Int} {x : GM} {out : Int32} {left came due masterClock masterLate masterCorner : Nat → Int32} (hM : CM C M clk cor late masterClock masterLate masterCorner) (hU : CU T du due) (h : CG M T x out left came) (N m e t : Nat) (hm : m < M) (he : e < T) (ht : t < 2000) (hB : GB (t + 1) x) (stopped : Int32) (stood ahead gain since : Nat → Int32) :
    ∃ out' left' came', f_X3_go_67 N stopped masterClock stood ahead gain since due masterLate masterCorner (nI m) (nI e) (nI t) (nI (m * 6 + e)) out left came = some (out', left', came') ∧ CG M T (goM2 du cor t m e x) out' left' came' := by
  unfold f_X3_go_67
  obtain ⟨hM6, hMm⟩ := hM
  obtain ⟨hT6, hUe⟩ := hU
  obtain ⟨-, -, -, -, -, hco, hc30⟩ := hMm m hm
  obtain ⟨hdu, hd0, hd1⟩ := hUe e he
  obtain ⟨hle, hca⟩ := h.2 m hm e he
  rw [zin_nI (show m * 6 + e < 36 by omega) (by omega), zck_t, nI_clamp' (show m * 6 + e < 2147483648 by omega), hle]
  cases hl : x.2.1 m e with
  | none =>
    rw [goM2_none hl]
    exact ⟨out, left, came, if_pos (show oI none = -1 from rfl), h⟩
  | some u =>
    have hu := hB m e u hl
    rw [if_neg (show ¬ oI (some u) = -1 from fun z => by have := (oI_none (o := some u) (fun v hv => by cases hv; omega)).mp z; cases this), zin_nI (show m < 6 by omega) (by omega), zck_t, nI_clamp' (show m < 2147483648 by omega), hco, show oI (some u) = nI u from rfl, nI_add]
    by_cases hc : u + cor m = t
    · rw [goM2_yes hl hc, if_pos (show nI (u + cor m) = nI t by rw [hc]), zbn_s, zin_nI (show e < 6 by omega) (by omega), zck_t, nI_clamp' (show e < 2147483648 by omega), hdu]
      have h2 := CG_came h hT6 (m := m) he t
      by_cases hd : du e < t
      · rw [if_pos (show iI (du e) < nI t from by rw [iI_nat]; exact (iI_lt ⟨by omega, by omega⟩ ⟨by omega, by omega⟩).mpr hd)]
        refine ⟨out, left, _, rfl, ?_⟩
        have e1 : (fun i => x.1 i || (decide (i = m) && decide ((t : Int) ≤ du e))) = x.1 := by
          funext i
          have : ¬ (t : Int) ≤ du e := by omega
          simp [this]
        rw [e1]
        exact h2
      · rw [if_neg (show ¬ iI (du e) < nI t from fun z => hd (by rw [iI_nat] at z; exact (iI_lt ⟨by omega, by omega⟩ ⟨by omega, by omega⟩).mp z)), zbn_s]
        refine ⟨_, left, _, rfl, ?_⟩
        have e1 : (fun i => x.1 i || (decide (i = m) && decide ((t : Int) ≤ du e))) = (fun i => x.1 i || decide (i = m)) := by
          funext i
          have : (t : Int) ≤ du e := by omega
          simp [this]
        rw [e1]
        exact CG_out h2 hM6 hm
    · rw [goM2_no hl hc, if_neg (show ¬ nI (u + cor m) = nI t from fun z => hc ((nI_eq (by omega) (by omega)).mp z))]
      exact ⟨out, left, came, rfl, h⟩
/-! ===== a minute of the class ===== -/
def CT (M T : Nat) (toC : Nat → Nat → Bool) (masters meets : Int32) (masterMeets : Nat → Int32) : Prop := masters = nI M ∧ meets = nI T ∧ ∀ m, m < M → ∀ e, e < T → bt (masterMeets m) e = toC m e
theorem goL_keep {rd : Nat → Nat → Int} {du late : Nat → Int} {t m e : Nat} {x : GM} (h : ¬ (x.1 m = false ∧ x.2.1 m e = none ∧ du e + late m ≤ rd m t)) : (x.1, gset x.2.1 m e (goL rd du late t m e x), x.2.2) = x := by
  unfold goL
  rw [if_neg h, gset_self]
section CLSDAY
variable {C M T : Nat} {clk cor si : Nat → Nat} {late du so ah gn : Nat → Int} {stp : Nat → Bool} {toC : Nat → Nat → Bool} {masters meets stopped : Int32} {masterMeets masterClock masterLate masterCorner due stood ahead gain since : Nat → Int32}
theorem X1_isToCome_ok (hT : CT M T toC masters meets masterMeets) (N m e : Nat) (hm : m < M) (he : e < T) (hM6 : M ≤ 6) (hT6 : T ≤ 6) : f_X1_isToCome N (nI m) (nI e) masterMeets = some (bI (toC m e)) := by
  unfold f_X1_isToCome f_X11_hasBit
  rw [zin_nI (show m < 6 by omega) (by omega), zck_t, nI_clamp' (show m < 2147483648 by omega)]
  have hb := hT.2.2 m hm e he
  cases hs : toC m e
  · rw [if_pos ((bit_ne _ (by omega)).mpr (by rw [hb, hs]))]
    rfl
  · rw [if_neg (fun z => by have := (bit_ne _ (by omega)).mp z; rw [hb, hs] at this; cases this)]
    rfl
theorem X3_go_ok (hC : CC C stp so ah gn si stopped stood ahead gain since) (hM : CM C M clk cor late masterClock masterLate masterCorner) (hU : CU T du due) {x : GM} {out : Int32} {left came : Nat → Int32} (h : CG M T x out left came) (N m e t : Nat) (hm : m < M) (he : e < T) (ht : t < 2000) (hB : GB (t + 1) x) (hsi : ∀ c, c < C → si c ≤ t) (hrd : ∀ c, c < C → -1000000 < rdM stp so ah gn si c t ∧ rdM stp so ah gn si c t < 1000000) :
    ∃ out' left' came', f_X3_go N (nI m) (nI e) (nI t) out stopped left masterClock stood ahead gain since due masterLate masterCorner came = some (out', left', came') ∧ CG M T (goM (fun m u => rdM stp so ah gn si (clk m) u) du late cor t m e x) out' left' came' := by
  have hM' := hM
  have hU' := hU
  obtain ⟨hM6, hMm⟩ := hM'
  obtain ⟨hT6, hUe⟩ := hU'
  obtain ⟨hck, hckC, hlt, hl1, hl60, hco, hc30⟩ := hMm m hm
  obtain ⟨hdu, hd0, hd1⟩ := hUe e he
  obtain ⟨hle, hca⟩ := h.2 m hm e he
  unfold f_X3_go
  rw [X11_slot_ok, zcl_s, goM_2]
  cases ho : x.1 m with
  | true =>
    have hz : f_X3_isOut N (nI m) out = some 1 := by rw [X3_isOut_ok h N m hm hM6, ho]; rfl
    rw [hz, zcl_s, if_neg (show ¬ (1 : Int32) = 0 by decide), goL_keep (fun z => by rw [ho] at z; cases z.1)]
    exact X3_go67_ok hM hU h N m e t hm he ht hB stopped stood ahead gain since
  | false =>
    have hz : f_X3_isOut N (nI m) out = some 0 := by rw [X3_isOut_ok h N m hm hM6, ho]; rfl
    rw [hz, zcl_s, if_pos (show (0 : Int32) = 0 from rfl), zin_nI (show m * 6 + e < 36 by omega) (by omega), zck_t, nI_clamp' (show m * 6 + e < 2147483648 by omega), hle]
    cases hl : x.2.1 m e with
    | some u =>
      have hu := hB m e u hl
      rw [if_neg (show ¬ oI (some u) = -1 from fun z => by have := (oI_none (o := some u) (fun v hv => by cases hv; omega)).mp z; cases this), goL_keep (fun z => by rw [hl] at z; cases z.2.1)]
      exact X3_go67_ok hM hU h N m e t hm he ht hB stopped stood ahead gain since
    | none =>
      have hr := hrd (clk m) hckC
      rw [if_pos (show oI none = -1 from rfl), zin_nI (show m < 6 by omega) (by omega), zck_t, nI_clamp' (show m < 2147483648 by omega), hck, X3_reads_ok hC N (clk m) t hckC (hsi _ hckC) (by omega), zcl_s, zin_nI (show e < 6 by omega) (by omega), zck_t, nI_clamp' (show e < 2147483648 by omega), hdu, hlt, iI_add]
      by_cases hc : rdM stp so ah gn si (clk m) t < du e + late m
      · rw [if_pos ((iI_lt ⟨by omega, by omega⟩ ⟨by omega, by omega⟩).mpr hc), goL_keep (fun z => by have := (show du e + late m ≤ rdM stp so ah gn si (clk m) t from z.2.2); omega)]
        exact X3_go67_ok hM hU h N m e t hm he ht hB stopped stood ahead gain since
      · rw [if_neg (fun z => hc ((iI_lt ⟨by omega, by omega⟩ ⟨by omega, by omega⟩).mp z)), zbn_s]
        have hg : goL (fun m u => rdM stp so ah gn si (clk m) u) du late t m e x = some t := by
          unfold goL
          rw [if_pos ⟨ho, hl, show du e + late m ≤ rdM stp so ah gn si (clk m) t by omega⟩]
        rw [hg]
        refine X3_go67_ok hM hU (CG_left h hT6 he t) N m e t hm he ht ?_ stopped stood ahead gain since
        intro a b u hu
        show u < t + 1
        have hu : gset x.2.1 m e (some t) a b = some u := hu
        unfold gset at hu
        split at hu
        · cases hu; omega
        · exact hB a b u hu
theorem GB_goM {rd : Nat → Nat → Int} {t m e : Nat} {x : GM} (h : GB (t + 1) x) : GB (t + 1) (goM rd du late cor t m e x) := by
  have h1 : ∀ a b u, gset x.2.1 m e (goL rd du late t m e x) a b = some u → u < t + 1 := by
    intro a b u hu
    unfold gset at hu
    split at hu
    · unfold goL at hu
      split at hu
      · cases hu; omega
      · exact h m e u hu
    · exact h a b u hu
  unfold goM
  split
  · exact h1
  · exact h1
theorem X3_row_ok (hC : CC C stp so ah gn si stopped stood ahead gain since) (hM : CM C M clk cor late masterClock masterLate masterCorner) (hU : CU T du due) (hT : CT M T toC masters meets masterMeets) (N e t : Nat) (he : e < T) (ht : t < 2000) (hsi : ∀ c, c < C → si c ≤ t) (hrd : ∀ c, c < C → -1000000 < rdM stp so ah gn si c t ∧ rdM stp so ah gn si c t < 1000000) (k : Int32 → Int32 → Int32 → (Nat → Int32) → (Nat → Int32) → (Option (Int32 × (Nat → Int32) × (Nat → Int32)))) :
    ∀ (n m : Nat) (x : GM) (out : Int32) (left came : Nat → Int32), m ≤ M → M - m < n → CG M T x out left came → GB (t + 1) x →
    ∃ out' left' came', f_X3_goThrough_15 N stopped masters meets masterMeets masterClock stood ahead gain since due masterLate masterCorner k n (nI t) (nI e) (nI m) out left came = k (nI t) (nI (e + 1)) out' left' came' ∧ CG M T (rowM toC (fun m u => rdM stp so ah gn si (clk m) u) du late cor t e (M - m) m x) out' left' came' ∧ GB (t + 1) (rowM toC (fun m u => rdM stp so ah gn si (clk m) u) du late cor t e (M - m) m x) := by
  obtain ⟨hm1, hm2, hm3⟩ := hT
  subst hm1
  subst hm2
  have hT : CT M T toC (nI M) (nI T) masterMeets := ⟨rfl, rfl, hm3⟩
  have hM6 := hM.1
  have hT6 := hU.1
  intro n
  induction n with
  | zero => intro m x out left came h1 h2; omega
  | succ n ih =>
    intro m x out left came hm hn h hB
    rw [f_X3_goThrough_15]
    by_cases hmM : m = M
    · subst hmM
      refine ⟨out, left, came, ?_, ?_, ?_⟩
      · rw [if_pos (nI_le (Nat.le_refl _) (by omega)), zbn_s, nI_1]
      · rw [Nat.sub_self]; exact h
      · rw [Nat.sub_self]; exact hB
    · have hlt : m < M := by omega
      rw [if_neg (nI_ge hlt (by omega)), X1_isToCome_ok hT N m e hlt he hM6 hT6, zcl_s]
      have e1 : M - m = (M - (m + 1)) + 1 := by omega
      rw [e1, rowM]
      cases hs : toC m e with
      | false =>
        rw [if_neg (show ¬ (false = true) by decide), if_pos (show bI false = 0 from rfl), zbn_s, nI_1]
        exact ih (m + 1) x out left came hlt (by omega) h hB
      | true =>
        obtain ⟨o1, l1, c1, hg, hG⟩ := X3_go_ok hC hM hU h N m e t hlt he ht hB hsi hrd
        rw [if_pos (show true = true from rfl), if_neg (show ¬ bI true = 0 by decide), hg, zcl_s, zbn_s, nI_1]
        exact ih (m + 1) _ o1 l1 c1 hlt (by omega) hG (GB_goM hB)
theorem X3_col_ok (hC : CC C stp so ah gn si stopped stood ahead gain since) (hM : CM C M clk cor late masterClock masterLate masterCorner) (hU : CU T du due) (hT : CT M T toC masters meets masterMeets) (N t : Nat) (hN : 10 ≤ N) (ht : t < 2000) (hsi : ∀ c, c < C → si c ≤ t) (hrd : ∀ c, c < C → -1000000 < rdM stp so ah gn si c t ∧ rdM stp so ah gn si c t < 1000000) :
    ∀ (n e : Nat) (x : GM) (out : Int32) (left came : Nat → Int32), e ≤ T → T - e < n → CG M T x out left came → GB (t + 1) x →
    ∃ out' left' came', f_X3_goThrough_2 N stopped masters meets masterMeets masterClock stood ahead gain since due masterLate masterCorner n (nI t) (nI e) out left came = some (out', left', came') ∧ CG M T (colM toC (fun m u => rdM stp so ah gn si (clk m) u) du late cor M t (T - e) e x) out' left' came' ∧ GB (t + 1) (colM toC (fun m u => rdM stp so ah gn si (clk m) u) du late cor M t (T - e) e x) := by
  obtain ⟨hm1, hm2, hm3⟩ := hT
  subst hm1
  subst hm2
  have hT : CT M T toC (nI M) (nI T) masterMeets := ⟨rfl, rfl, hm3⟩
  have hM6 := hM.1
  have hT6 := hU.1
  intro n
  induction n with
  | zero => intro e x out left came h1 h2; omega
  | succ n ih =>
    intro e x out left came he hn h hB
    rw [f_X3_goThrough_2]
    by_cases heT : e = T
    · subst heT
      refine ⟨out, left, came, ?_, ?_, ?_⟩
      · rw [if_pos (nI_le (Nat.le_refl _) (by omega))]
      · rw [Nat.sub_self]; exact h
      · rw [Nat.sub_self]; exact hB
    · have hlt : e < T := by omega
      obtain ⟨o1, l1, c1, hg, hG, hB1⟩ := X3_row_ok hC hM hU hT N e t hlt ht hsi hrd (f_X3_goThrough_2 N stopped (nI M) (nI T) masterMeets masterClock stood ahead gain since due masterLate masterCorner n) N 0 x out left came (Nat.zero_le _) (by omega) h hB
      rw [if_neg (nI_ge hlt (by omega))]
      have e1 : T - e = (T - (e + 1)) + 1 := by omega
      rw [e1, colM]
      obtain ⟨o2, l2, c2, hg2, hG2, hB2⟩ := ih (e + 1) _ o1 l1 c1 hlt (by omega) hG hB1
      exact ⟨o2, l2, c2, hg.trans hg2, hG2, hB2⟩
theorem X3_goThrough_ok (hC : CC C stp so ah gn si stopped stood ahead gain since) (hM : CM C M clk cor late masterClock masterLate masterCorner) (hU : CU T du due) (hT : CT M T toC masters meets masterMeets) {x : GM} {out : Int32} {left came : Nat → Int32} (h : CG M T x out left came) (N t : Nat) (hN : 10 ≤ N) (ht : t < 2000) (hB : GB (t + 1) x) (hsi : ∀ c, c < C → si c ≤ t) (hrd : ∀ c, c < C → -1000000 < rdM stp so ah gn si c t ∧ rdM stp so ah gn si c t < 1000000) :
    ∃ out' left' came', f_X3_goThrough N (nI t) out stopped masters meets masterMeets left masterClock stood ahead gain since due masterLate masterCorner came = some (out', left', came') ∧ CG M T (minM toC (fun m u => rdM stp so ah gn si (clk m) u) du late cor M T t x) out' left' came' ∧ GB (t + 1) (minM toC (fun m u => rdM stp so ah gn si (clk m) u) du late cor M T t x) := by
  have hT6 := hU.1
  exact X3_col_ok hC hM hU hT N t hN ht hsi hrd N 0 x out left came (Nat.zero_le _) (by omega) h hB
end CLSDAY
