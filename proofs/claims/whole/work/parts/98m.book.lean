/-! ===== the end of a book ===== -/
theorem b110_ok (N : Nat) {t_tape_bytes : Nat → Int32} {t_here_burgh_clocks : Int32} {t_here_burgh_masters : Int32} {t_here_burgh_meets : Int32} {t_here_burgh_masterName : Nat → Int64} {t_here_burgh_meetName : Nat → Int64} {t_here_burgh_clockName : Nat → Int64} {t_here_burgh_masterLate : Nat → Int32} {t_here_burgh_masterMeets : Nat → Int32} {t_here_burgh_masterCorner : Nat → Int32} {t_here_burgh_masterClock : Nat → Int32} {t_here_burgh_clockGain : Nat → Int32} {c_t_lastFault : Int32} {c_t_ledger_lines : Int32} {c_t_ledger_judged : Int32} {c_t_ledger_why : Int32} {c_t_ledger_good : Int32} {c_t_ledger_minuteThen : Int32} {c_t_ledger_outThen : Int32} {c_t_tokens_kind : Int32} {c_t_tokens_place : Int32} {c_t_tokens_value : Int32} {c_t_tokens_word : Int64} {c_t_tokens_fault : Int32} {c_t_tokens_faultPlace : Int32} {c_t_tokens_size : Int32} {c_t_tokens_taken : Int32} {c_t_tape_length : Int32} {c_t_tokens_kinds : Nat → Int32} {c_t_tokens_places : Nat → Int32} {c_t_tokens_values : Nat → Int32} {c_t_tokens_words : Nat → Int64} {c_t_ledger_verb : Nat → Int32} {c_t_ledger_who : Nat → Int32} {c_t_ledger_what : Nat → Int32} {c_t_here_day_minute : Int32} {c_t_here_day_out : Int32} {c_t_here_day_stopped : Int32} {c_t_trial_minute : Int32} {c_t_trial_out : Int32} {c_t_trial_stopped : Int32} {c_t_here_day_ahead : Nat → Int32} {c_t_trial_ahead : Nat → Int32} {c_t_here_day_since : Nat → Int32} {c_t_trial_since : Nat → Int32} {c_t_here_day_stood : Nat → Int32} {c_t_trial_stood : Nat → Int32} {c_t_here_day_due : Nat → Int32} {c_t_trial_due : Nat → Int32} {c_t_here_day_left : Nat → Int32} {c_t_trial_left : Nat → Int32} {c_t_here_day_came : Nat → Int32} {c_t_trial_came : Nat → Int32} {c_t_history_next : Int32} {c_t_history_size : Int32} {c_t_history_days_minute : Nat → Int32} {c_t_history_days_out : Nat → Int32} {c_t_history_days_stopped : Nat → Int32} {c_t_history_days_ahead : Nat → Nat → Int32} {c_t_history_days_since : Nat → Nat → Int32} {c_t_history_days_stood : Nat → Nat → Int32} {c_t_history_days_due : Nat → Nat → Int32} {c_t_history_days_left : Nat → Nat → Int32} {c_t_history_days_came : Nat → Nat → Int32} {v : Int32} (hw : (c_t_ledger_why = 0 ∧ v = -1) ∨ (¬ c_t_ledger_why = 0 ∧ v = c_t_ledger_good)) : f_X11_book_110 N t_tape_bytes t_here_burgh_clocks t_here_burgh_masters t_here_burgh_meets t_here_burgh_masterName t_here_burgh_meetName t_here_burgh_clockName t_here_burgh_masterLate t_here_burgh_masterMeets t_here_burgh_masterCorner t_here_burgh_masterClock t_here_burgh_clockGain c_t_lastFault c_t_ledger_lines c_t_ledger_judged c_t_ledger_why c_t_ledger_good c_t_ledger_minuteThen c_t_ledger_outThen c_t_tokens_kind c_t_tokens_place c_t_tokens_value c_t_tokens_word c_t_tokens_fault c_t_tokens_faultPlace c_t_tokens_size c_t_tokens_taken c_t_tape_length c_t_tokens_kinds c_t_tokens_places c_t_tokens_values c_t_tokens_words c_t_ledger_verb c_t_ledger_who c_t_ledger_what c_t_here_day_minute c_t_here_day_out c_t_here_day_stopped c_t_trial_minute c_t_trial_out c_t_trial_stopped c_t_here_day_ahead c_t_trial_ahead c_t_here_day_since c_t_trial_since c_t_here_day_stood c_t_trial_stood c_t_here_day_due c_t_trial_due c_t_here_day_left c_t_trial_left c_t_here_day_came c_t_trial_came c_t_history_next c_t_history_size c_t_history_days_minute c_t_history_days_out c_t_history_days_stopped c_t_history_days_ahead c_t_history_days_since c_t_history_days_stood c_t_history_days_due c_t_history_days_left c_t_history_days_came = some (v, c_t_lastFault, c_t_ledger_lines, c_t_ledger_judged, c_t_ledger_why, c_t_ledger_good, c_t_ledger_minuteThen, c_t_ledger_outThen, c_t_tokens_kind, c_t_tokens_place, c_t_tokens_value, c_t_tokens_word, c_t_tokens_fault, c_t_tokens_faultPlace, c_t_tokens_size, c_t_tokens_taken, c_t_tape_length, c_t_tokens_kinds, c_t_tokens_places, c_t_tokens_values, c_t_tokens_words, c_t_ledger_verb, c_t_ledger_who, c_t_ledger_what, c_t_here_day_minute, c_t_here_day_out, c_t_here_day_stopped, c_t_trial_minute, c_t_trial_out, c_t_trial_stopped, c_t_here_day_ahead, c_t_trial_ahead, c_t_here_day_since, c_t_trial_since, c_t_here_day_stood, c_t_trial_stood, c_t_here_day_due, c_t_trial_due, c_t_here_day_left, c_t_trial_left, c_t_here_day_came, c_t_trial_came, c_t_history_next, c_t_history_size, c_t_history_days_minute, c_t_history_days_out, c_t_history_days_stopped, c_t_history_days_ahead, c_t_history_days_since, c_t_history_days_stood, c_t_history_days_due, c_t_history_days_left, c_t_history_days_came) := by
  unfold f_X11_book_110
  rcases hw with ⟨h1, h2⟩ | ⟨h1, h2⟩
  · rw [if_pos h1, h2]
  · rw [if_neg h1, h2]
theorem p_book (N : Nat) (hN : 5000 ≤ N) (x0 : Int32) : Ok9 (F_book N x0) (G_book N x0) := by
  intro k r hR
  have hR0 := hR
  obtain ⟨b, d, ⟨hB, h, hS⟩, hH, hI, ⟨L, hL, t1, t3, t4⟩, hf, hl, hm, ht, hv⟩ := hR
  rcases rng9 N x0 0 1 2 (lo := 0) (hi := 1) (by omega) (by omega) rfl rfl rfl with ⟨j, -, hj, rfl, g1, g2, g3, -⟩ | ⟨g1, g2⟩
  · obtain ⟨sz, K, P, V, W, kc, o1, o2, o3⟩ := opn_ok (tp := r.tape) (by9 := k.tape_bytes) (L := L) (lim := 400) N (by omega) hL (by omega) t4 k.tk.kind k.tk.place k.tk.value k.tk.word k.tk.fault k.tk.faultPlace k.tk.size k.tk.taken k.tk.kinds k.tk.places k.tk.values k.tk.words
    obtain ⟨rc, n1, n2⟩ := nx0_ok (tp := r.tape) (L := L) (lim := 400) N (by omega) hL (by omega) r.token r.tokAt r.span r.number r.word
    have rd := bkR_ok (by9 := k.tape_bytes) (res := r.reserved) (nm := r.names) o2 hv hB N (by omega) 0 r.faultAt r.undoMany r.hasTold (nI j) r.before r.toldAt r.undone N N 0 0 kc rc k.ledger_verb k.ledger_who k.ledger_what r.read r.got o3 n2 (by omega) (fun i hi => absurd hi (by omega)) (by omega) (by omega)
    rw [show nI 400 = (400 : Int32) from rfl] at o1 n1 rd
    rw [show nI 0 = (0 : Int32) from rfl] at rd
    rw [← t1] at o1
    rw [← t3] at n1
    rcases rd with ⟨lines', kc', rc', got', vb', wh', wt', rd', l4, x1, x2, x3⟩ | ⟨l', q1, q2, q3, q4, fl, pl, q5, vb', wh', wt', p', tok', at', sp', nu', wd', got', tm', rd', x1, x3, x2⟩
    · rw [← t1] at x1
      rw [← t3] at x2
      obtain ⟨g, w, x2', D', d', s', ta', j1, j2, hD', hs, h0, g4, u0, u1, tw⟩ := jdg_ok (B := k.here) (nm := r.names) (mt := k.ledger_minuteThen) (ot := k.ledger_outThen) (tp := r.tape) (res := r.reserved) (bf := (va_cpy r.s r.before 52 0 101)) (ud := r.undone) (x1 := nI j) (th := 0) (len := 0) (size := r.length) (p := rc'.1) (lim := 400) (tok := rc'.2.1) (at_ := rc'.2.2.1) (span := rc'.2.2.2.1) (num := rc'.2.2.2.2.1) (flt := 0) (fa := r.faultAt) (word := rc'.2.2.2.2.2) (got := got') (um := r.undoMany) (ht := r.hasTold) hB N (by omega) l4 x3 N N 0 (CY.cpy k.day k.trial) d r.s (upd (upd (upd (upd r.toldAt 0 0) 1 0) 2 0) 3 0) (by omega) (by omega) (by omega) (h.cpy k.trial) (fun _ _ => rfl) (fun _ => rfl) rfl rfl
      rw [show nI 0 = (0 : Int32) from rfl] at j1 j2
      have hTL : TL 1 w (nI g) D'.minute D'.out 1 (upd (upd ta' 2 (s' 52)) 3 (s' 53)) := Or.inr ⟨rfl, rfl, by rw [pk_un (by omega), pk_un (by omega), u0], by rw [pk_un (by omega), pk_un (by omega), u1], by rw [pk_un (by omega), pk_us, hD'.mi, hD'.sm], by rw [pk_us, hD'.ou]⟩
      have f41 : (upd (upd ta' 2 (s' 52)) 3 (s' 53)) 1 = nI g := by rw [pk_un (by omega), pk_un (by omega), u1]
      have R : f_X12_book N (nI j) r.thrown r.length r.size r.p r.limit r.token r.tokAt r.span r.number r.fault r.faultAt r.word r.got r.undoMany r.toldMany r.hasTold r.tape r.s r.reserved r.names r.read r.before r.toldAt r.undone = f_X12_book_191 N r.tape r.reserved r.names (nI j) x2' 0 0 r.length rc'.1 400 rc'.2.1 rc'.2.2.1 rc'.2.2.2.1 rc'.2.2.2.2.1 0 r.faultAt rc'.2.2.2.2.2 got' r.undoMany (nI lines') r.hasTold s' rd' (va_cpy r.s r.before 52 0 101) ta' r.undone := by
        unfold f_X12_book f_X12_taken
        rw [g1, zcl_s, if_neg one0, zcl_s]
        dsimp only
        rw [n1, zcl_s, x2, b89_ok N (by omega), j2]
      unfold f_X12_book_191 at R
      rw [zbn_s, zbn_s, zbn_s, zbn_s] at R
      have jj : j = 0 ∨ j = 1 := by omega
      rcases jj with rfl | rfl
      · have i2 : f_X12_book N (nI 0) r.thrown r.length r.size r.p r.limit r.token r.tokAt r.span r.number r.fault r.faultAt r.word r.got r.undoMany r.toldMany r.hasTold r.tape r.s r.reserved r.names r.read r.before r.toldAt r.undone = some (x2', 0, 0, r.length, rc'.1, 400, rc'.2.1, rc'.2.2.1, rc'.2.2.2.1, rc'.2.2.2.2.1, 0, r.faultAt, rc'.2.2.2.2.2, got', r.undoMany, nI lines', 1, r.s, rd', (va_cpy r.s r.before 52 0 101), (upd (upd ta' 2 (s' 52)) 3 (s' 53)), r.undone) := by
          rw [R, if_neg (show ¬ nI 0 = 1 by decide)]
          unfold f_X12_book_276
          rw [if_pos (show nI 0 = 0 from rfl), X12_back_ok N s' (va_cpy r.s r.before 52 0 101) (by omega), back9 r.s r.before s' hs, zcl_s]
        refine ⟨x2', _, _, by unfold F_book f_X11_book f_X0_read f_X0_judge f_X11_closeText; rw [if_neg g2, if_pos g3, o1, zcl_s]; dsimp only; rw [x1, zcl_s, zcl_s]; dsimp only; rw [if_pos rfl, X3_copyFrom_ok N k.day k.trial, zcl_s]; dsimp only; rw [j1, zcl_s]; dsimp only; rw [if_neg (show ¬ nI 0 = 1 by decide), b110_ok N tw, zcl_s], by unfold G_book; rw [i2, zcl_s], ?_⟩
        exact ⟨b, d, ⟨hB, h, hS⟩, hH, hI, ⟨0, Nat.zero_le _, rfl, rfl, fun i hi => absurd hi (by omega)⟩, rfl, hl, hm, hTL, hv⟩
      · by_cases gz : g = 0
        · subst gz
          have es : s' = r.s := h0 rfl
          subst es
          have i2 : f_X12_book N (nI 1) r.thrown r.length r.size r.p r.limit r.token r.tokAt r.span r.number r.fault r.faultAt r.word r.got r.undoMany r.toldMany r.hasTold r.tape r.s r.reserved r.names r.read r.before r.toldAt r.undone = some (x2', 0, 0, r.length, rc'.1, 400, rc'.2.1, rc'.2.2.1, rc'.2.2.2.1, rc'.2.2.2.2.1, 0, r.faultAt, rc'.2.2.2.2.2, got', r.undoMany, nI lines', 1, r.s, rd', (va_cpy r.s r.before 52 0 101), (upd (upd ta' 2 (r.s 52)) 3 (r.s 53)), r.undone) := by
            rw [R, if_pos (show nI 1 = 1 from rfl), if_pos (by rw [f41]; decide)]
            unfold f_X12_book_276
            rw [if_neg (show ¬ nI 1 = 0 by decide)]
          refine ⟨x2', _, _, by unfold F_book f_X11_book f_X0_read f_X0_judge f_X11_closeText; rw [if_neg g2, if_pos g3, o1, zcl_s]; dsimp only; rw [x1, zcl_s, zcl_s]; dsimp only; rw [if_pos rfl, X3_copyFrom_ok N k.day k.trial, zcl_s]; dsimp only; rw [j1, zcl_s]; dsimp only; rw [if_pos (show nI 1 = 1 from rfl), if_pos (show nI 0 ≤ 0 by decide), b110_ok N tw, zcl_s], by unfold G_book; rw [i2, zcl_s], ?_⟩
          exact ⟨b, d, ⟨hB, h, hS⟩, hH, hI, ⟨0, Nat.zero_le _, rfl, rfl, fun i hi => absurd hi (by omega)⟩, rfl, hl, hm, hTL, hv⟩
        · obtain ⟨p, n', z', m', u', k1, k2, hH'⟩ := hH.keep h N (by omega)
          obtain ⟨-, n8, -, hn8, -, -, em8, -⟩ := hH
          rw [em8] at k2
          obtain ⟨m, u2, m8, em, kk, eu⟩ := kpb_ok N n8 (by omega) hn8 r.s s' r.before r.undone k2
          rw [← em8] at kk
          have i2 : f_X12_book N (nI 1) r.thrown r.length r.size r.p r.limit r.token r.tokAt r.span r.number r.fault r.faultAt r.word r.got r.undoMany r.toldMany r.hasTold r.tape r.s r.reserved r.names r.read r.before r.toldAt r.undone = some (x2', 0, 0, r.length, rc'.1, 400, rc'.2.1, rc'.2.2.1, rc'.2.2.2.1, rc'.2.2.2.2.1, 0, r.faultAt, rc'.2.2.2.2.2, got', m', nI lines', 1, s', rd', (va_cpy r.s r.before 52 0 101), (upd (upd ta' 2 (s' 52)) 3 (s' 53)), u') := by
            rw [R, if_pos (show nI 1 = 1 from rfl), if_neg (by rw [f41]; exact nI_ge (a := 0) (show 0 < g by omega) (by omega)), kk, zcl_s]
            dsimp only
            rw [em, b242_ok N m (by omega) m8, eu]
            unfold f_X12_book_276
            rw [if_neg (show ¬ nI 1 = 0 by decide)]
          refine ⟨x2', _, _, by unfold F_book f_X11_book f_X0_read f_X0_judge f_X11_closeText; rw [if_neg g2, if_pos g3, o1, zcl_s]; dsimp only; rw [x1, zcl_s, zcl_s]; dsimp only; rw [if_pos rfl, X3_copyFrom_ok N k.day k.trial, zcl_s]; dsimp only; rw [j1, zcl_s]; dsimp only; rw [if_pos (show nI 1 = 1 from rfl), if_neg (show ¬ nI g ≤ 0 from nI_ge (a := 0) (show 0 < g by omega) (by omega)), k1, zcl_s]; dsimp only; rw [X3_copyFrom_ok N D' k.day, zcl_s, b110_ok N tw, zcl_s], by unfold G_book; rw [i2, zcl_s], ?_⟩
          exact ⟨b, d', ⟨hB.congS (fun i hi => hs i (Or.inl hi)), hD'.cpy k.day, hS.congS (fun i hi _ => hs i (Or.inr hi))⟩, hH'.congS (fun i hi => hs i (Or.inl hi)), hI, ⟨0, Nat.zero_le _, rfl, rfl, fun i hi => absurd hi (by omega)⟩, rfl, hl, hm, hTL, hv⟩
    · rw [← t1] at x1
      rw [← t3] at x2
      have i2 : f_X12_book N (nI j) r.thrown r.length r.size r.p r.limit r.token r.tokAt r.span r.number r.fault r.faultAt r.word r.got r.undoMany r.toldMany r.hasTold r.tape r.s r.reserved r.names r.read r.before r.toldAt r.undone = some (-2 - pl, 0, 0, r.length, p', 400, tok', at', sp', nu', fl, pl, wd', got', r.undoMany, tm', r.hasTold, r.s, rd', r.before, r.toldAt, r.undone) := by
        unfold f_X12_book f_X12_taken
        rw [g1, zcl_s, if_neg one0, zcl_s]
        dsimp only
        rw [n1, zcl_s]
        exact x2
      refine ⟨-2 - pl, _, _, by unfold F_book f_X11_book f_X0_read f_X0_judge f_X11_closeText; rw [if_neg g2, if_pos g3, o1, zcl_s]; dsimp only; rw [x1, zcl_s, zcl_s]; dsimp only; rw [if_neg x3, zcl_s], by unfold G_book; rw [i2, zcl_s], ?_⟩
      exact ⟨b, d, ⟨hB, h, hS⟩, hH, hI, ⟨0, Nat.zero_le _, rfl, rfl, fun i hi => absurd hi (by omega)⟩, rfl, hl, hm, ht, hv⟩
  · refine ⟨-1000, k, r.thr 0, ?_, by unfold G_book f_X12_book; rw [g1, zcl_s, if_pos rfl]; rfl, hR0.th 0⟩
    unfold F_book f_X11_book
    rcases g2 with g2 | ⟨g2, g3, -⟩
    · rw [if_pos g2]; rfl
    · rw [if_neg g2, if_neg g3]; rfl
