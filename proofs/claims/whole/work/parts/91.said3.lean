/-! ===== public: said ===== -/
theorem hasBit_ok (N : Nat) (P : Nat → Bool) {M i : Nat} (hM : M ≤ 6) (hi : i < M) : f_X11_hasBit N (bmk P M) (nI i) = some (bI (P i)) := by
  unfold f_X11_hasBit
  have := bmk_bit (P := P) (n := M) (by omega) i
  rw [decide_eq_true hi, Bool.true_and] at this
  cases hP : P i
  · rw [if_pos ((bit_ne _ (by omega)).mpr (by rw [this, hP]))]; rfl
  · rw [if_neg (fun z => by have := (bit_ne _ (by omega)).mp z; rw [‹bt (bmk P M) i = P i›, hP] at this; cases this)]; rfl
theorem p_said (N : Nat) (hN : 5000 ≤ N) (x0 : Int32) : Ok9 (F_said N x0) (G_said N x0) := by
  intro k r hR
  have hR0 := hR
  obtain ⟨b, d, ⟨hB, h, hS⟩, hH, hI, hT, hf, hl, hm, ht, hv⟩ := hR
  have hS0 := hS
  obtain ⟨q, q1, q2, q3, q4, q5, q6⟩ := hS
  have m6 := h.M6
  by_cases hq : q = []
  · subst hq
    exact ⟨-1, k, r.thr 0, by unfold F_said f_X11_said; rw [if_pos (show k.here_sentence_length = 0 by rw [q2]; rfl)]; rfl, by unfold G_said f_X12_said; rw [q3, if_pos (show nI ([] : List (Nat × Nat × Nat)).length = 0 from rfl)]; rfl, hR0.th 0⟩
  · have hp : pf9 q 0 = some 1 := by
      rcases q5 with q5 | q5
      · exact absurd q5 hq
      · exact q5
    have hlen : 0 < q.length := List.length_pos_iff.mpr hq
    have nl : ¬ nI q.length = 0 := fun z => by have := (nI_eq (b := 0) (by omega) (by omega)).mp z; omega
    obtain ⟨S', s1⟩ := h.sdC N (by omega) q k.here_sentence_code (fun i x hx => ⟨(q4 i x hx).1, (q4 i x hx).2.2.2.2⟩) q1 q 0 0 N k.here_sentence_stack (fun _ _ => false) (by omega) (fun j => by rw [Nat.zero_add]) hp (by omega) (by omega) (fun j hj => absurd hj (by omega))
    have s2 : ∀ i, i < b.M → ∀ tr, ∃ tr', f_X12_isSaid N (nI i) r.s tr = some (bI (ex9 (lv9 b d i) q 0 (fun _ => false) 0), tr') := fun i hi tr => h.sdR N i (by omega) hi q (fun i x hx => ⟨(q4 i x hx).2.1, (q4 i x hx).2.2.1, (q4 i x hx).2.2.2.1, (q4 i x hx).2.2.2.2⟩) q1 q3 q 0 0 N tr (fun _ => false) (by omega) (fun j => by rw [Nat.zero_add]) hp (by omega) (by omega) (fun j hj => absurd hj (by omega))
    have s3 : f_X5_mastersSaid N (nI q.length) k.here_sentence_code k.here_sentence_stack k.day.minute k.day.out k.day.stopped k.here.masters k.here.meets k.day.came k.here.masterCorner k.here.masterLate k.here.masterMeets k.here.masterClock k.day.stood k.day.ahead k.here.clockGain k.day.since k.day.left = some (bmk (fun m => ex9 (lv9 b d m) q 0 (fun _ => false) 0) b.M, S') := s1
    have nl' : ¬ k.here_sentence_length = 0 := by rw [q2]; exact nl
    rw [← q2] at s3
    generalize hSD : (fun m => ex9 (lv9 b d m) q 0 (fun _ => false) 0) = SD at s3
    have s2' : ∀ i, i < b.M → ∀ tr, ∃ tr', f_X12_isSaid N (nI i) r.s tr = some (bI (SD i), tr') := by
      intro i hi tr
      rw [← hSD]
      exact s2 i hi tr
    by_cases e1 : x0 = -1
    · subst e1
      have key : ∃ tr', f_X12_said_27 N r.s N (-1) 0 0 0 r.truths = some (nI (cn9 SD b.M), 0, tr') := by
        refine loopP (F := fun n i tr => f_X12_said_27 N r.s n (-1) (nI (cn9 SD i)) (nI i) 0 tr) (M := b.M) (Post := fun z => ∃ tr', z = some (nI (cn9 SD b.M), 0, tr')) (fun _ _ => True) ?_ ?_ N 0 r.truths (by omega) (by omega) trivial
        · intro n i tr hi _
          left
          obtain ⟨tr', e⟩ := s2' i hi tr
          show ∃ x', f_X12_said_27 N r.s (n + 1) (-1) (nI (cn9 SD i)) (nI i) 0 tr = f_X12_said_27 N r.s n (-1) (nI (cn9 SD (i + 1))) (nI (i + 1)) 0 x' ∧ True
          have cl := cn9_le SD i
          rw [f_X12_said_27, h.sM, if_neg (nI_ge hi (by omega)), e, zcl_s]
          dsimp only
          cases hP : SD i
          · rw [if_pos (show bI false = 0 from rfl), zbn_s, nI_1, cn9_f hP]
            exact ⟨tr', rfl, trivial⟩
          · rw [if_neg (show ¬ bI true = 0 by decide), if_neg (show ¬ nI (cn9 SD i) = -1 from fun z => by have := oI_sn (u := cn9 SD i) (by omega); exact this z), zbn_s, zbn_s, nI_1, nI_1, cn9_t hP]
            exact ⟨tr', rfl, trivial⟩
        · intro n tr _
          show ∃ tr', f_X12_said_27 N r.s (n + 1) (-1) (nI (cn9 SD b.M)) (nI b.M) 0 tr = some (nI (cn9 SD b.M), 0, tr')
          rw [f_X12_said_27, h.sM, if_pos (nI_le (Nat.le_refl _) (by omega)), if_pos rfl]
          exact ⟨tr, rfl⟩
      obtain ⟨tr', key⟩ := key
      refine ⟨nI (cn9 SD b.M), _, _, by unfold F_said f_X11_said; rw [if_neg nl', s3, zcl_s, if_pos rfl, bc_ok N SD m6, zcl_s, zcl_s], by unfold G_said f_X12_said; rw [q3, if_neg nl, if_pos (show (-1 : Int32) ≤ -1 by decide), key, zcl_s], ?_⟩
      exact ⟨b, d, ⟨hB, h, hS0⟩, hH, hI, hT, hf, hl, hm, ht, hv⟩
    · by_cases c1 : (-1 : Int32) ≤ x0
      · have key := loop2 (F := fun n i (_ : Unit) => f_X11_said_48 N k.here_sentence_length k.here_sentence_code k.day.minute k.day.out k.day.stopped k.here.masters k.here.meets k.day.came k.here.masterCorner k.here.masterLate k.here.masterMeets k.here.masterClock k.day.stood k.day.ahead k.here.clockGain k.day.since k.day.left n x0 (bmk SD b.M) (nI (cn9 SD i)) (nI i) S') (G := fun n i tr => f_X12_said_27 N r.s n x0 (nI (cn9 SD i)) (nI i) 0 tr) (M := b.M) (Post := fun p q => ∃ (v : Int32) (tr' : Nat → Int32), p = some (v, S') ∧ q = some (v, 0, tr')) (fun _ _ _ => True) ?_ ?_ N N 0 () r.truths (by omega) (by omega) (by omega) trivial
        · obtain ⟨v, tr', k1, k2⟩ := key
          have k1' : f_X11_said_48 N k.here_sentence_length k.here_sentence_code k.day.minute k.day.out k.day.stopped k.here.masters k.here.meets k.day.came k.here.masterCorner k.here.masterLate k.here.masterMeets k.here.masterClock k.day.stood k.day.ahead k.here.clockGain k.day.since k.day.left N x0 (bmk SD b.M) 0 0 S' = some (v, S') := k1
          have k2' : f_X12_said_27 N r.s N x0 0 0 0 r.truths = some (v, 0, tr') := k2
          refine ⟨v, _, _, by unfold F_said f_X11_said; rw [if_neg nl', s3, zcl_s, if_neg e1]; dsimp only; rw [k1', zcl_s], by unfold G_said f_X12_said; rw [q3, if_neg nl, if_pos c1, k2', zcl_s], ?_⟩
          exact ⟨b, d, ⟨hB, h, hS0⟩, hH, hI, hT, hf, hl, hm, ht, hv⟩
        · intro n n' i _ tr hi _
          obtain ⟨tr', e⟩ := s2' i hi tr
          show (∃ (x' : Unit) (y' : Nat → Int32), f_X11_said_48 N k.here_sentence_length k.here_sentence_code k.day.minute k.day.out k.day.stopped k.here.masters k.here.meets k.day.came k.here.masterCorner k.here.masterLate k.here.masterMeets k.here.masterClock k.day.stood k.day.ahead k.here.clockGain k.day.since k.day.left (n + 1) x0 (bmk SD b.M) (nI (cn9 SD i)) (nI i) S' = f_X11_said_48 N k.here_sentence_length k.here_sentence_code k.day.minute k.day.out k.day.stopped k.here.masters k.here.meets k.day.came k.here.masterCorner k.here.masterLate k.here.masterMeets k.here.masterClock k.day.stood k.day.ahead k.here.clockGain k.day.since k.day.left n x0 (bmk SD b.M) (nI (cn9 SD (i + 1))) (nI (i + 1)) S' ∧ f_X12_said_27 N r.s (n' + 1) x0 (nI (cn9 SD i)) (nI i) 0 tr = f_X12_said_27 N r.s n' x0 (nI (cn9 SD (i + 1))) (nI (i + 1)) 0 y' ∧ True) ∨ ∃ (v : Int32) (tr' : Nat → Int32), f_X11_said_48 N k.here_sentence_length k.here_sentence_code k.day.minute k.day.out k.day.stopped k.here.masters k.here.meets k.day.came k.here.masterCorner k.here.masterLate k.here.masterMeets k.here.masterClock k.day.stood k.day.ahead k.here.clockGain k.day.since k.day.left (n + 1) x0 (bmk SD b.M) (nI (cn9 SD i)) (nI i) S' = some (v, S') ∧ f_X12_said_27 N r.s (n' + 1) x0 (nI (cn9 SD i)) (nI i) 0 tr = some (v, 0, tr')
          rw [f_X11_said_48, h.nM, if_neg (nI_ge hi (by omega)), hasBit_ok N SD m6 hi, zcl_s, f_X12_said_27, h.sM, if_neg (nI_ge hi (by omega)), e, zcl_s]
          dsimp only
          cases hP : SD i
          · rw [if_pos (show bI false = 0 from rfl), if_pos (show bI false = 0 from rfl), zbn_s, zbn_s, nI_1, cn9_f hP]
            exact Or.inl ⟨(), tr', rfl, rfl, trivial⟩
          · rw [if_neg (show ¬ bI true = 0 by decide), if_neg (show ¬ bI true = 0 by decide)]
            by_cases c2 : nI (cn9 SD i) = x0
            · rw [if_pos c2, if_pos c2]
              exact Or.inr ⟨_, _, rfl, rfl⟩
            · rw [if_neg c2, if_neg c2, zbn_s, zbn_s, zbn_s, zbn_s, nI_1, nI_1, cn9_t hP]
              exact Or.inl ⟨(), tr', rfl, rfl, trivial⟩
        · intro n n' _ tr _
          show ∃ (v : Int32) (tr' : Nat → Int32), f_X11_said_48 N k.here_sentence_length k.here_sentence_code k.day.minute k.day.out k.day.stopped k.here.masters k.here.meets k.day.came k.here.masterCorner k.here.masterLate k.here.masterMeets k.here.masterClock k.day.stood k.day.ahead k.here.clockGain k.day.since k.day.left (n + 1) x0 (bmk SD b.M) (nI (cn9 SD b.M)) (nI b.M) S' = some (v, S') ∧ f_X12_said_27 N r.s (n' + 1) x0 (nI (cn9 SD b.M)) (nI b.M) 0 tr = some (v, 0, tr')
          rw [f_X11_said_48, h.nM, if_pos (nI_le (Nat.le_refl _) (by omega)), f_X12_said_27, h.sM, if_pos (nI_le (Nat.le_refl _) (by omega)), if_neg e1]
          exact ⟨_, _, rfl, rfl⟩
      · have key : f_X11_said_48 N k.here_sentence_length k.here_sentence_code k.day.minute k.day.out k.day.stopped k.here.masters k.here.meets k.day.came k.here.masterCorner k.here.masterLate k.here.masterMeets k.here.masterClock k.day.stood k.day.ahead k.here.clockGain k.day.since k.day.left N x0 (bmk SD b.M) 0 0 S' = some (-1, S') := by
          refine loopP (F := fun n i (_ : Unit) => f_X11_said_48 N k.here_sentence_length k.here_sentence_code k.day.minute k.day.out k.day.stopped k.here.masters k.here.meets k.day.came k.here.masterCorner k.here.masterLate k.here.masterMeets k.here.masterClock k.day.stood k.day.ahead k.here.clockGain k.day.since k.day.left n x0 (bmk SD b.M) (nI (cn9 SD i)) (nI i) S') (M := b.M) (Post := fun z => z = some (-1, S')) (fun _ _ => True) ?_ ?_ N 0 () (by omega) (by omega) trivial
          · intro n i _ hi _
            left
            have cl := cn9_le SD i
            have c2 : ¬ nI (cn9 SD i) = x0 := fun z => c1 (by
              rw [← z, m1_iI, iI_nat, iI_le ⟨by omega, by omega⟩ ⟨by omega, by omega⟩]
              omega)
            show ∃ x' : Unit, f_X11_said_48 N k.here_sentence_length k.here_sentence_code k.day.minute k.day.out k.day.stopped k.here.masters k.here.meets k.day.came k.here.masterCorner k.here.masterLate k.here.masterMeets k.here.masterClock k.day.stood k.day.ahead k.here.clockGain k.day.since k.day.left (n + 1) x0 (bmk SD b.M) (nI (cn9 SD i)) (nI i) S' = f_X11_said_48 N k.here_sentence_length k.here_sentence_code k.day.minute k.day.out k.day.stopped k.here.masters k.here.meets k.day.came k.here.masterCorner k.here.masterLate k.here.masterMeets k.here.masterClock k.day.stood k.day.ahead k.here.clockGain k.day.since k.day.left n x0 (bmk SD b.M) (nI (cn9 SD (i + 1))) (nI (i + 1)) S' ∧ True
            rw [f_X11_said_48, h.nM, if_neg (nI_ge hi (by omega)), hasBit_ok N SD m6 hi, zcl_s]
            cases hP : SD i
            · rw [if_pos (show bI false = 0 from rfl), zbn_s, nI_1, cn9_f hP]
              exact ⟨(), rfl, trivial⟩
            · rw [if_neg (show ¬ bI true = 0 by decide), if_neg c2, zbn_s, zbn_s, nI_1, nI_1, cn9_t hP]
              exact ⟨(), rfl, trivial⟩
          · intro n _ _
            show f_X11_said_48 N k.here_sentence_length k.here_sentence_code k.day.minute k.day.out k.day.stopped k.here.masters k.here.meets k.day.came k.here.masterCorner k.here.masterLate k.here.masterMeets k.here.masterClock k.day.stood k.day.ahead k.here.clockGain k.day.since k.day.left (n + 1) x0 (bmk SD b.M) (nI (cn9 SD b.M)) (nI b.M) S' = some (-1, S')
            rw [f_X11_said_48, h.nM, if_pos (nI_le (Nat.le_refl _) (by omega))]
        refine ⟨-1, _, r.thr 0, by unfold F_said f_X11_said; rw [if_neg nl', s3, zcl_s, if_neg e1]; dsimp only; rw [key, zcl_s], by unfold G_said f_X12_said; rw [q3, if_neg nl, if_neg c1]; rfl, ?_⟩
        exact ⟨b, d, ⟨hB, h, hS0⟩, hH, hI, hT, hf, hl, hm, ht, hv⟩
