/-! ===== a line of a burgh: a clock, all of it ===== -/
theorem kw_n (j : Nat) (w : Int64) (h : kwL[j]? = some w) (i : Nat) (x : Int64) (hi : kwL[i]? = some x) (hne : ¬ i = j) : ¬ x = w := by
  intro z
  have hj26 : j < 26 := (List.getElem?_eq_some_iff.mp h).1
  have hi26 : i < 26 := (List.getElem?_eq_some_iff.mp hi).1
  exact hne (kwL_inj i hi26 j hj26 (by rw [hi, h, z]))
section CLK2
variable {tp : Nat → Int32} {L lim sz c : Nat} {K P V : Nat → Int32} {W : Nat → Int64} {kc : KU} {rc : RU} {res : Nat → Int64} {b : MB} {B : CB} {hh : Nat → Int32} {nm : Nat → Int64}
theorem turn1 (hE : EV tp L lim sz K P V W) (h : CQ tp L lim sz c kc) (hr : RC tp L lim c rc) (N k : Nat) (hN : 2010 ≤ N) (hk : k < 6) (h0 : hh (10 + k) = 0) (fp fa got : Int32) : (∃ (a : Int) (kc' : KU) (rc' : RU) (c' : Nat) (got' : Int32) (h' : Nat → Int32), -99 ≤ a ∧ a ≤ 99 ∧ f_X2_readTurn N 5 6 99 kc.1 kc.2.1 kc.2.2.1 kc.2.2.2.1 0 fp (nI sz) kc.2.2.2.2 K P V W = some (iI a, kc'.1, kc'.2.1, kc'.2.2.1, kc'.2.2.2.1, 0, fp, kc'.2.2.2.2) ∧ (zcl (f_X12_isWord N 1936486263 rc.2.1 rc.2.2.2.2.2) fun z53 => if z53 = 0 then (zcl (f_X12_isWord N 1717662580 rc.2.1 rc.2.2.2.2.2) fun z65 => if z65 = 0 then (f_X12_readClock_112 N (nI L) (nI lim) tp res (nI k) rc.1 rc.2.1 rc.2.2.1 rc.2.2.2.1 rc.2.2.2.2.1 0 fa rc.2.2.2.2.2 got hh nm) else (f_X12_readClock_71 N (nI L) (nI lim) tp res (f_X12_readClock_112 N (nI L) (nI lim) tp res) (nI k) z53 rc.1 rc.2.1 rc.2.2.1 rc.2.2.2.1 rc.2.2.2.2.1 0 fa rc.2.2.2.2.2 got hh nm)) else (f_X12_readClock_71 N (nI L) (nI lim) tp res (f_X12_readClock_112 N (nI L) (nI lim) tp res) (nI k) z53 rc.1 rc.2.1 rc.2.2.1 rc.2.2.2.1 rc.2.2.2.2.1 0 fa rc.2.2.2.2.2 got hh nm)) = f_X12_readClock_112 N (nI L) (nI lim) tp res (nI k) rc'.1 rc'.2.1 rc'.2.2.1 rc'.2.2.2.1 rc'.2.2.2.2.1 0 fa rc'.2.2.2.2.2 got' h' nm ∧ h' (10 + k) = iI a ∧ (∀ i, i ≠ 10 + k → h' i = hh i) ∧ CQ tp L lim sz c' kc' ∧ RC tp L lim c' rc' ∧ ps9 tp L lim c ≤ ps9 tp L lim c') ∨ (∃ (q x pl : Int32) (kc' : KU) (w : Int32 × Int32 × Int32 × Int32 × Int32 × Int32 × Int32 × Int32 × Int64 × Int32 × (Nat → Int32) × (Nat → Int64)), ¬ q = 0 ∧ f_X2_readTurn N 5 6 99 kc.1 kc.2.1 kc.2.2.1 kc.2.2.2.1 0 fp (nI sz) kc.2.2.2.2 K P V W = some (x, kc'.1, kc'.2.1, kc'.2.2.1, kc'.2.2.2.1, q, pl, kc'.2.2.2.2) ∧ (zcl (f_X12_isWord N 1936486263 rc.2.1 rc.2.2.2.2.2) fun z53 => if z53 = 0 then (zcl (f_X12_isWord N 1717662580 rc.2.1 rc.2.2.2.2.2) fun z65 => if z65 = 0 then (f_X12_readClock_112 N (nI L) (nI lim) tp res (nI k) rc.1 rc.2.1 rc.2.2.1 rc.2.2.2.1 rc.2.2.2.2.1 0 fa rc.2.2.2.2.2 got hh nm) else (f_X12_readClock_71 N (nI L) (nI lim) tp res (f_X12_readClock_112 N (nI L) (nI lim) tp res) (nI k) z53 rc.1 rc.2.1 rc.2.2.1 rc.2.2.2.1 rc.2.2.2.2.1 0 fa rc.2.2.2.2.2 got hh nm)) else (f_X12_readClock_71 N (nI L) (nI lim) tp res (f_X12_readClock_112 N (nI L) (nI lim) tp res) (nI k) z53 rc.1 rc.2.1 rc.2.2.1 rc.2.2.2.1 rc.2.2.2.2.1 0 fa rc.2.2.2.2.2 got hh nm)) = some w ∧ w.1 = 0 ∧ w.2.2.2.2.2.2.1 = q ∧ w.2.2.2.2.2.2.2.1 = pl ∧ w.2.2.2.2.2.2.2.2.2.2.2 = nm) := by
  obtain ⟨-, k1⟩ := kwd_ok h hr N 5 1717662580 rfl
  obtain ⟨-, k2⟩ := kwd_ok h hr N 6 1936486263 rfl
  have eo : (10 : Int32) + nI k = nI (10 + k) := by rw [show (10 : Int32) = nI 10 from rfl, nI_add]
  have tr := trn_ok hE h hr N 5 6 99 1717662580 1936486263 hN rfl rfl (kw_n 6 1936486263 rfl 5 1717662580 rfl (by decide)) (by omega) (by omega) fp fa got
  rw [show nI 5 = (5 : Int32) from rfl, show nI 6 = (6 : Int32) from rfl, show nI 99 = (99 : Int32) from rfl] at tr
  unfold f_X12_readClock_71 f_X12_readClock_111
  rw [k2, zcl_s, k1, zcl_s]
  rcases tr with ⟨s1, s2, t1⟩ | ⟨sg, s1, s2, r1, n1, t⟩
  · left
    rw [s1, s2, if_pos (show bI false = 0 from rfl), if_pos (show bI false = 0 from rfl)]
    exact ⟨0, kc, rc, c, got, hh, by omega, by omega, t1, rfl, by rw [h0]; rfl, fun i _ => rfl, h, hr, Nat.le_refl _⟩
  · rcases t with ⟨v, kc', rc', v1, v2, t1, t2, t3, t4, t5⟩ | ⟨q, x, kc', t1, t2, t3⟩
    · left
      refine ⟨if sg then (v : Int) else -(v : Int), kc', rc', c + 2, nI v, upd hh (10 + k) (iI (if sg then (v : Int) else -(v : Int))), by split <;> omega, by split <;> omega, t1, ?_, pk_us, fun i hi => pk_un hi, t3, t4, by omega⟩
      rw [n1, zcl_s, t2, zcl_s]
      dsimp only
      rw [if_neg one0, s1, s2, eo, zin_nI (show 10 + k < 52 by omega) (by omega), zck_t, zbn_s, zck_t, zbn_s, cl_n (show 10 + k < 2147483648 by omega)]
      cases sg
      · show _ = f_X12_readClock_112 N (nI L) (nI lim) tp res (nI k) rc'.1 rc'.2.1 rc'.2.2.1 rc'.2.2.2.1 rc'.2.2.2.2.1 0 fa rc'.2.2.2.2.2 (nI v) (upd hh (10 + k) (iI (-(v : Int)))) nm
        rw [← iI_neg, ← iI_nat]
        rfl
      · show _ = f_X12_readClock_112 N (nI L) (nI lim) tp res (nI k) rc'.1 rc'.2.1 rc'.2.2.1 rc'.2.2.2.1 rc'.2.2.2.2.1 0 fa rc'.2.2.2.2.2 (nI v) (upd hh (10 + k) (iI (v : Int))) nm
        rw [← iI_nat]
        rfl
    · right
      refine ⟨q, x, r1.2.2.1, kc', (0, r1.1, r1.2.1, r1.2.2.1, r1.2.2.2.1, r1.2.2.2.2.1, q, r1.2.2.1, r1.2.2.2.2.2, got, hh, nm), t1, t2, ?_, rfl, rfl, rfl, rfl⟩
      rw [n1, zcl_s, t3, zcl_s]
      dsimp only
      rw [if_pos rfl, s1, s2]
      cases sg
      · rfl
      · rfl
theorem turn2 (hE : EV tp L lim sz K P V W) (h : CQ tp L lim sz c kc) (hr : RC tp L lim c rc) (N k : Nat) (hN : 2010 ≤ N) (hk : k < 6) (h0 : hh (16 + k) = 0) (fp fa got : Int32) : (∃ (a : Int) (kc' : KU) (rc' : RU) (c' : Nat) (got' : Int32) (h' : Nat → Int32), -9 ≤ a ∧ a ≤ 9 ∧ f_X2_readTurn N 7 8 9 kc.1 kc.2.1 kc.2.2.1 kc.2.2.2.1 0 fp (nI sz) kc.2.2.2.2 K P V W = some (iI a, kc'.1, kc'.2.1, kc'.2.2.1, kc'.2.2.2.1, 0, fp, kc'.2.2.2.2) ∧ f_X12_readClock_112 N (nI L) (nI lim) tp res (nI k) rc.1 rc.2.1 rc.2.2.1 rc.2.2.2.1 rc.2.2.2.2.1 0 fa rc.2.2.2.2.2 got hh nm = f_X12_readClock_175 N (nI L) (nI lim) tp res rc'.1 rc'.2.1 rc'.2.2.1 rc'.2.2.2.1 rc'.2.2.2.2.1 0 fa rc'.2.2.2.2.2 got' h' nm ∧ h' (16 + k) = iI a ∧ (∀ i, i ≠ 16 + k → h' i = hh i) ∧ CQ tp L lim sz c' kc' ∧ RC tp L lim c' rc' ∧ ps9 tp L lim c ≤ ps9 tp L lim c') ∨ (∃ (q x pl : Int32) (kc' : KU) (w : Int32 × Int32 × Int32 × Int32 × Int32 × Int32 × Int32 × Int32 × Int64 × Int32 × (Nat → Int32) × (Nat → Int64)), ¬ q = 0 ∧ f_X2_readTurn N 7 8 9 kc.1 kc.2.1 kc.2.2.1 kc.2.2.2.1 0 fp (nI sz) kc.2.2.2.2 K P V W = some (x, kc'.1, kc'.2.1, kc'.2.2.1, kc'.2.2.2.1, q, pl, kc'.2.2.2.2) ∧ f_X12_readClock_112 N (nI L) (nI lim) tp res (nI k) rc.1 rc.2.1 rc.2.2.1 rc.2.2.2.1 rc.2.2.2.2.1 0 fa rc.2.2.2.2.2 got hh nm = some w ∧ w.1 = 0 ∧ w.2.2.2.2.2.2.1 = q ∧ w.2.2.2.2.2.2.2.1 = pl ∧ w.2.2.2.2.2.2.2.2.2.2.2 = nm) := by
  obtain ⟨-, k1⟩ := kwd_ok h hr N 7 444015930995 rfl
  obtain ⟨-, k2⟩ := kwd_ok h hr N 8 465726301555 rfl
  have eo : (16 : Int32) + nI k = nI (16 + k) := by rw [show (16 : Int32) = nI 16 from rfl, nI_add]
  have tr := trn_ok hE h hr N 7 8 9 444015930995 465726301555 hN rfl rfl (kw_n 8 465726301555 rfl 7 444015930995 rfl (by decide)) (by omega) (by omega) fp fa got
  rw [show nI 7 = (7 : Int32) from rfl, show nI 8 = (8 : Int32) from rfl, show nI 9 = (9 : Int32) from rfl] at tr
  unfold f_X12_readClock_112 f_X12_readClock_134 f_X12_readClock_174
  rw [k2, zcl_s, k1, zcl_s]
  rcases tr with ⟨s1, s2, t1⟩ | ⟨sg, s1, s2, r1, n1, t⟩
  · left
    rw [s1, s2, if_pos (show bI false = 0 from rfl), if_pos (show bI false = 0 from rfl)]
    exact ⟨0, kc, rc, c, got, hh, by omega, by omega, t1, rfl, by rw [h0]; rfl, fun i _ => rfl, h, hr, Nat.le_refl _⟩
  · rcases t with ⟨v, kc', rc', v1, v2, t1, t2, t3, t4, t5⟩ | ⟨q, x, kc', t1, t2, t3⟩
    · left
      refine ⟨if sg then (v : Int) else -(v : Int), kc', rc', c + 2, nI v, upd hh (16 + k) (iI (if sg then (v : Int) else -(v : Int))), by split <;> omega, by split <;> omega, t1, ?_, pk_us, fun i hi => pk_un hi, t3, t4, by omega⟩
      rw [n1, zcl_s, t2, zcl_s]
      dsimp only
      rw [if_neg one0, s1, s2, eo, zin_nI (show 16 + k < 52 by omega) (by omega), zck_t, zbn_s, zck_t, zbn_s, cl_n (show 16 + k < 2147483648 by omega)]
      cases sg
      · show _ = f_X12_readClock_175 N (nI L) (nI lim) tp res rc'.1 rc'.2.1 rc'.2.2.1 rc'.2.2.2.1 rc'.2.2.2.2.1 0 fa rc'.2.2.2.2.2 (nI v) (upd hh (16 + k) (iI (-(v : Int)))) nm
        rw [← iI_neg, ← iI_nat]
        rfl
      · show _ = f_X12_readClock_175 N (nI L) (nI lim) tp res rc'.1 rc'.2.1 rc'.2.2.1 rc'.2.2.2.1 rc'.2.2.2.2.1 0 fa rc'.2.2.2.2.2 (nI v) (upd hh (16 + k) (iI (v : Int))) nm
        rw [← iI_nat]
        rfl
    · right
      refine ⟨q, x, r1.2.2.1, kc', (0, r1.1, r1.2.1, r1.2.2.1, r1.2.2.2.1, r1.2.2.2.2.1, q, r1.2.2.1, r1.2.2.2.2.2, got, hh, nm), t1, t2, ?_, rfl, rfl, rfl, rfl⟩
      rw [n1, zcl_s, t3, zcl_s]
      dsimp only
      rw [if_pos rfl, s1, s2]
      cases sg
      · rfl
      · rfl
end CLK2
