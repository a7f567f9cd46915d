/-! ===== wrong, master, mean and the law's own three, over the words of the throw as it is ===== -/
def wsX11_wrongB : List Cond := .code yX11_wrong cX11_wrong 2 (some .int) :: ((wsX11_wrong_r1 ++ wsX11_wrong_r2) ++ wsX110 ++ wsX100 ++ wsX10 ++ wsX30 ++ zyG)
def wsX11_masterB : List Cond := .code yX11_master cX11_master 3 (some .int) :: ((wsX11_master_r1 ++ wsX11_master_r2) ++ wsX110 ++ wsX100 ++ wsX10 ++ wsX30 ++ zyG)
def wsX11_meanB : List Cond := .code yX11_mean cX11_mean 5 (some .int) :: ((wsX11_mean_r1 ++ wsX11_mean_r2) ++ wsX110 ++ wsX100 ++ wsX30 ++ wsX10 ++ zyG)
def wsL_wrongB : List Cond := .codeWith yL_wrong cL_wrong 4 (some .int) [(0, 9, 12, 13)] :: ((wsL_wrong_r1 ++ wsL_wrong_r2) ++ wsX110 ++ wsX100 ++ wsX10 ++ wsX30 ++ zyG)
def wsL_masterB : List Cond := .codeWith yL_master cL_master 5 (some .int) [(0, 10, 13, 13)] :: ((wsL_master_r1 ++ wsL_master_r2) ++ wsX110 ++ wsX100 ++ wsX10 ++ wsX30 ++ zyG)
def wsL_meanB : List Cond := .codeWith yL_mean cL_mean 4 (some .int) [(0, 9, 12, 13)] :: ((wsL_mean_r1 ++ wsL_mean_r2) ++ wsX110 ++ wsX100 ++ wsX30 ++ wsX10 ++ zyG)
set_option maxRecDepth 20000 in
theorem ggX11_wrongB_X11_isClock : GoodIn wsX11_wrongB wsX11_isClock := goodIn_r _ [9, 3, 10, 11, 32, 33, 34, 35, 36, 37, 38, 39, 40, 41, 42, 43, 44, 45, 46, 47, 48, 49, 50, 51, 52, 53, 54, 55, 56, 57, 58, 59, 60, 61, 62, 63] (by decide +kernel) (by decide +kernel)
set_option maxRecDepth 20000 in
theorem gX11_wrongB_X11_isClock : GoodIn wsX11_wrongB (wsV RX11 145 RX11 yX11_isClock wsX11_isClock) := goodIn_app (goodIn_of _ (by decide +kernel)) ggX11_wrongB_X11_isClock
set_option maxRecDepth 20000 in
theorem ggX11_wrongB_X3_wrongBy : GoodIn wsX11_wrongB wsX3_wrongBy := goodIn_r _ [16, 17, 18, 19, 20, 15, 21, 22, 23, 24, 25, 26, 27, 28, 29, 30, 31, 64, 65, 66, 67, 68, 69, 70, 71, 72, 73, 49, 50, 51, 52, 53, 54, 55, 56, 57, 58, 59, 60, 61, 62, 63] (by decide +kernel) (by decide +kernel)
set_option maxRecDepth 20000 in
theorem gX11_wrongB_X3_wrongBy : GoodIn wsX11_wrongB (wsV RX11 177 RX3 yX3_wrongBy wsX3_wrongBy) := goodIn_app (goodIn_of _ (by decide +kernel)) ggX11_wrongB_X3_wrongBy
set_option maxRecDepth 20000 in
theorem ggX11_masterB_X11_isMaster : GoodIn wsX11_masterB wsX11_isMaster := goodIn_r _ [16, 3, 4, 17, 32, 33, 34, 35, 36, 37, 38, 39, 40, 41, 42, 43, 44, 45, 46, 47, 48, 49, 50, 51, 52, 53, 54, 55, 56, 57, 58, 59, 60, 61, 62, 63] (by decide +kernel) (by decide +kernel)
set_option maxRecDepth 20000 in
theorem gX11_masterB_X11_isMaster : GoodIn wsX11_masterB (wsV RX11 180 RX11 yX11_isMaster wsX11_isMaster) := goodIn_app (goodIn_of _ (by decide +kernel)) ggX11_masterB_X11_isMaster
set_option maxRecDepth 20000 in
theorem ggX11_masterB_X3_isOut : GoodIn wsX11_masterB wsX3_isOut := goodIn_r _ [22, 23, 64, 65, 66, 67, 68, 69, 70, 71, 72, 73] (by decide +kernel) (by decide +kernel)
set_option maxRecDepth 20000 in
theorem gX11_masterB_X3_isOut : GoodIn wsX11_masterB (wsV RX11 194 RX3 yX3_isOut wsX3_isOut) := goodIn_app (goodIn_of _ (by decide +kernel)) ggX11_masterB_X3_isOut
set_option maxRecDepth 20000 in
theorem ggX11_masterB_X3_meetsIn : GoodIn wsX11_masterB wsX3_meetsIn := goodIn_r _ [27, 28, 29, 30, 15, 31, 64, 65, 66, 67, 68, 69, 70, 71, 72, 73, 49, 50, 51, 52, 53, 54, 55, 56, 57, 58, 59, 60, 61, 62, 63] (by decide +kernel) (by decide +kernel)
set_option maxRecDepth 20000 in
theorem gX11_masterB_X3_meetsIn : GoodIn wsX11_masterB (wsV RX11 203 RX3 yX3_meetsIn wsX3_meetsIn) := goodIn_app (goodIn_of _ (by decide +kernel)) ggX11_masterB_X3_meetsIn
set_option maxRecDepth 20000 in
theorem ggX11_meanB_X3_howOftenCame : GoodIn wsX11_meanB wsX3_howOftenCame := goodIn_r _ [9, 10, 11, 12, 13, 14, 15, 8, 16, 17, 18, 19, 20, 21, 22, 23, 24, 25, 26, 27, 61, 62, 63, 64, 65, 66, 67, 68, 69, 70, 71, 72, 73, 74, 75, 76, 77, 78, 79, 80, 81, 82, 83, 84, 85] (by decide +kernel) (by decide +kernel)
set_option maxRecDepth 20000 in
theorem gX11_meanB_X3_howOftenCame : GoodIn wsX11_meanB (wsV RX11 231 RX3 yX3_howOftenCame wsX3_howOftenCame) := goodIn_app (goodIn_of _ (by decide +kernel)) ggX11_meanB_X3_howOftenCame
set_option maxRecDepth 20000 in
theorem ggX11_meanB_X3_minutesBehind : GoodIn wsX11_meanB wsX3_minutesBehind := goodIn_r _ [31, 10, 17, 11, 32, 33, 34, 8, 35, 12, 36, 37, 38, 39, 40, 18, 19, 20, 61, 62, 63, 64, 65, 66, 67, 68, 69, 70, 71, 72, 73, 74, 75, 76, 77, 78, 79, 80, 81, 82, 83, 84, 85] (by decide +kernel) (by decide +kernel)
set_option maxRecDepth 20000 in
theorem gX11_meanB_X3_minutesBehind : GoodIn wsX11_meanB (wsV RX11 234 RX3 yX3_minutesBehind wsX3_minutesBehind) := goodIn_app (goodIn_of _ (by decide +kernel)) ggX11_meanB_X3_minutesBehind
set_option maxRecDepth 20000 in
theorem ggX11_meanB_X11_greatestCommon : GoodIn wsX11_meanB wsX11_greatestCommon := goodIn_r _ [43] (by decide +kernel) (by decide +kernel)
set_option maxRecDepth 20000 in
theorem gX11_meanB_X11_greatestCommon : GoodIn wsX11_meanB (va_wsS RX11 327 yX11_greatestCommon wsX11_greatestCommon) := goodIn_app (goodIn_of _ (by decide +kernel)) ggX11_meanB_X11_greatestCommon
set_option maxRecDepth 20000 in
theorem ggL_wrongB_X11_wrongB : GoodIn wsL_wrongB wsX11_wrongB := goodIn_ca (goodIn_r _ [6, 7, 8, 9, 10, 11, 12, 13, 5, 14, 15, 16, 17, 18, 19, 20, 21, 22, 23, 24, 25, 26, 27, 28, 29, 30, 31, 32, 33, 34, 35, 36, 37, 38, 39, 40, 41, 42, 43, 44, 45, 46, 47, 48, 49, 50, 51, 52, 53, 54, 55, 56, 57, 58, 59, 60, 61, 62, 63, 64, 65, 66, 67, 68, 69, 70, 71, 72, 73, 74, 75, 76, 77, 78] (by decide +kernel) (by decide +kernel)) (goodIn_sub (fun _ h => List.mem_cons_of_mem _ (List.mem_append_right _ h)) (by decide +kernel))
set_option maxRecDepth 20000 in
theorem gL_wrongB_X11_wrongB : GoodIn wsL_wrongB (wsV RL 7 RX11 yX11_wrong wsX11_wrongB) := goodIn_app (goodIn_of _ (by decide +kernel)) ggL_wrongB_X11_wrongB
set_option maxRecDepth 20000 in
theorem ggL_masterB_X11_masterB : GoodIn wsL_masterB wsX11_masterB := goodIn_ca (goodIn_r _ [6, 7, 8, 9, 10, 11, 12, 13, 14, 15, 16, 17, 18, 19, 20, 5, 21, 22, 23, 24, 25, 26, 27, 28, 29, 30, 31, 32, 33, 34, 35, 36, 37, 38, 39, 40, 41, 42, 43, 44, 45, 46, 47, 48, 49, 50, 51, 52, 53, 54, 55, 56, 57, 58, 59, 60, 61, 62, 63, 64, 65, 66, 67, 68, 69, 70, 71, 72, 73, 74, 75, 76, 77, 78] (by decide +kernel) (by decide +kernel)) (goodIn_sub (fun _ h => List.mem_cons_of_mem _ (List.mem_append_right _ h)) (by decide +kernel))
set_option maxRecDepth 20000 in
theorem gL_masterB_X11_masterB : GoodIn wsL_masterB (wsV RL 15 RX11 yX11_master wsX11_masterB) := goodIn_app (goodIn_of _ (by decide +kernel)) ggL_masterB_X11_masterB
set_option maxRecDepth 20000 in
theorem ggL_meanB_X11_meanB : GoodIn wsL_meanB wsX11_meanB := goodIn_ca (goodIn_r _ [6, 7, 8, 9, 10, 11, 12, 13, 14, 15, 16, 17, 18, 19, 20, 21, 22, 23, 24, 5, 25, 26, 27, 28, 29, 30, 31, 32, 33, 34, 35, 36, 37, 38, 39, 40, 41, 42, 43, 44, 45, 46, 47, 48, 49, 50, 51, 52, 53, 54, 55, 56, 57, 58, 59, 60, 61, 62, 63, 64, 65, 66, 67, 68, 69, 70, 71, 72, 73, 74, 75, 76, 77, 78, 79, 80, 81, 82, 83, 84, 85, 86, 87, 88, 89, 90] (by decide +kernel) (by decide +kernel)) (goodIn_sub (fun _ h => List.mem_cons_of_mem _ (List.mem_append_right _ h)) (by decide +kernel))
set_option maxRecDepth 20000 in
theorem gL_meanB_X11_meanB : GoodIn wsL_meanB (wsV RL 19 RX11 yX11_mean wsX11_meanB) := goodIn_app (goodIn_of _ (by decide +kernel)) ggL_meanB_X11_meanB
theorem iX11_wrongB_X10 : ∀ w ∈ wsX100, w ∈ wsX11_wrongB := fun _ h => List.mem_cons_of_mem _ (List.mem_append_left _ (List.mem_append_left _ (List.mem_append_left _ (List.mem_append_right _ h))))
theorem iX11_wrongB_X11 : ∀ w ∈ wsX110, w ∈ wsX11_wrongB := fun _ h => List.mem_cons_of_mem _ (List.mem_append_left _ (List.mem_append_left _ (List.mem_append_left _ (List.mem_append_left _ (List.mem_append_right _ h)))))
set_option maxHeartbeats 4000000 in
set_option maxRecDepth 100000 in
theorem cB_X11_wrong (l : Launch) (G : va_G) (cy : Nat → ClassId) (E : Nat → Nat) (N : Nat) (q_t q_t_tape q_t_tokens q_t_here q_t_images q_t_history q_t_trial q_t_burghReader q_t_sentenceReader q_t_ledger q_t_watch q_t_dial q_t_here_burgh q_t_here_day q_t_here_sentence q_t_here_burgh_clockName q_t_here_burgh_clockCorner q_t_here_burgh_clockAhead q_t_here_burgh_clockGain q_t_here_burgh_masterName q_t_here_burgh_masterCorner q_t_here_burgh_masterLate q_t_here_burgh_masterClock q_t_here_burgh_masterMeets q_t_here_burgh_meetName q_t_here_burgh_meetDue q_t_here_day_ahead q_t_here_day_since q_t_here_day_stood q_t_here_day_due q_t_here_day_left q_t_here_day_came : Nat) (t_lastFault : Int32) (t_lastLateness : Int32) (t_here_kept : Int32) (t_here_burgh_clocks : Int32) (t_here_burgh_masters : Int32) (t_here_burgh_meets : Int32) (t_here_burgh_patience : Int32) (t_here_day_minute : Int32) (t_here_day_out : Int32) (t_here_day_stopped : Int32) (t_here_day_stood : Nat → Int32) (t_here_day_ahead : Nat → Int32) (t_here_burgh_clockGain : Nat → Int32) (t_here_day_since : Nat → Int32) (x0 : Int32) (r : Int32) (h : f_X11_wrong N x0 t_here_burgh_clocks t_here_day_minute t_here_day_stopped t_here_day_stood t_here_day_ahead t_here_burgh_clockGain t_here_day_since = some r) : zM l G cy E yX11_wrong wsX11_wrongB rm_X11_wrong [.ref q_t, .int x0] (wd_X11_wrong cy q_t q_t_tape q_t_tokens q_t_here q_t_images q_t_history q_t_trial q_t_burghReader q_t_sentenceReader q_t_ledger q_t_watch q_t_dial q_t_here_burgh q_t_here_day q_t_here_sentence q_t_here_burgh_clockName q_t_here_burgh_clockCorner q_t_here_burgh_clockAhead q_t_here_burgh_clockGain q_t_here_burgh_masterName q_t_here_burgh_masterCorner q_t_here_burgh_masterLate q_t_here_burgh_masterClock q_t_here_burgh_masterMeets q_t_here_burgh_meetName q_t_here_burgh_meetDue q_t_here_day_ahead q_t_here_day_since q_t_here_day_stood q_t_here_day_due q_t_here_day_left q_t_here_day_came t_lastFault t_lastLateness t_here_kept t_here_burgh_clocks t_here_burgh_masters t_here_burgh_meets t_here_burgh_patience t_here_day_minute t_here_day_out t_here_day_stopped t_here_day_stood t_here_day_ahead t_here_burgh_clockGain t_here_day_since) (wd_X11_wrong cy q_t q_t_tape q_t_tokens q_t_here q_t_images q_t_history q_t_trial q_t_burghReader q_t_sentenceReader q_t_ledger q_t_watch q_t_dial q_t_here_burgh q_t_here_day q_t_here_sentence q_t_here_burgh_clockName q_t_here_burgh_clockCorner q_t_here_burgh_clockAhead q_t_here_burgh_clockGain q_t_here_burgh_masterName q_t_here_burgh_masterCorner q_t_here_burgh_masterLate q_t_here_burgh_masterClock q_t_here_burgh_masterMeets q_t_here_burgh_meetName q_t_here_burgh_meetDue q_t_here_day_ahead q_t_here_day_since q_t_here_day_stood q_t_here_day_due q_t_here_day_left q_t_here_day_came t_lastFault t_lastLateness t_here_kept t_here_burgh_clocks t_here_burgh_masters t_here_burgh_meets t_here_burgh_patience t_here_day_minute t_here_day_out t_here_day_stopped t_here_day_stood t_here_day_ahead t_here_burgh_clockGain t_here_day_since) (some (.int r)) 0 0 := by
  refine z_body (cc := cX11_wrong) (maxL := 2) (ret := some .int) (by decide) rfl (Nat.le_of_ble_eq_true rfl) ?_
  intro p e s m below meth c ls S hr hlocks hnm hF hH hl
  have S : CallFix p m c cX11_wrong 2 s ([.ref q_t, .int x0] : List Value).toArray wsX11_wrongB RX11 := S
  obtain ⟨hx, hb, hml, hown, hts⟩ := id S
  have hl : lv_has ls 2 [(0, .ref q_t), (1, .int x0)] := hl
  rw [f_X11_wrong] at h
  refine lv_aload_n hx hb dX11_wrong_0 rfl (lv_at hl 0 rfl) ?_
  refine lv_iload_n hx hb dX11_wrong_1 rfl (lv_at hl 1 rfl) ?_
  obtain ⟨z2, hz2, h⟩ := zcl_e h
  refine z_callV (As := [.int x0]) (rest := []) (st1 := [.int z2]) (ws' := (wd_X11_wrong cy q_t q_t_tape q_t_tokens q_t_here q_t_images q_t_history q_t_trial q_t_burghReader q_t_sentenceReader q_t_ledger q_t_watch q_t_dial q_t_here_burgh q_t_here_day q_t_here_sentence q_t_here_burgh_clockName q_t_here_burgh_clockCorner q_t_here_burgh_clockAhead q_t_here_burgh_clockGain q_t_here_burgh_masterName q_t_here_burgh_masterCorner q_t_here_burgh_masterLate q_t_here_burgh_masterClock q_t_here_burgh_masterMeets q_t_here_burgh_meetName q_t_here_burgh_meetDue q_t_here_day_ahead q_t_here_day_since q_t_here_day_stood q_t_here_day_due q_t_here_day_left q_t_here_day_came t_lastFault t_lastLateness t_here_kept t_here_burgh_clocks t_here_burgh_masters t_here_burgh_meets t_here_burgh_patience t_here_day_minute t_here_day_out t_here_day_stopped t_here_day_stood t_here_day_ahead t_here_burgh_clockGain t_here_day_since)) S hF hH (c_X11_isClock l G cy E N q_t q_t_tape q_t_tokens q_t_here q_t_images q_t_history q_t_trial q_t_burghReader q_t_sentenceReader q_t_ledger q_t_watch q_t_dial q_t_here_burgh q_t_here_day q_t_here_sentence q_t_here_burgh_clockName q_t_here_burgh_clockCorner q_t_here_burgh_clockAhead q_t_here_burgh_clockGain q_t_here_burgh_masterName q_t_here_burgh_masterCorner q_t_here_burgh_masterLate q_t_here_burgh_masterClock q_t_here_burgh_masterMeets q_t_here_burgh_meetName q_t_here_burgh_meetDue t_lastFault t_lastLateness t_here_kept t_here_burgh_clocks t_here_burgh_masters t_here_burgh_meets t_here_burgh_patience x0 z2 hz2) (cwV 1 hts gX11_wrongB_X11_isClock rfl rfl rfl (by decide +kernel) ⟨Nat.le_of_ble_eq_true rfl, Nat.le_of_ble_eq_true rfl⟩) 12 0 rfl rfl [0, 1, 2] rfl (by decide) rfl rfl rfl rfl rfl hl.1 (Nat.le_of_ble_eq_true rfl) dX11_wrong_2 ⟨Nat.le_of_ble_eq_true rfl, Nat.le_of_ble_eq_true rfl⟩ (fun H locs hH => ?_)
  refine lv_if_ne (tgt := 18) hx hb dX11_wrong_5 (by decide) (fun b5 => ?_) (fun b5 => ?_)
  · replace h := zif_f b5 h
    refine lv_aload_n hx hb dX11_wrong_18 rfl (lv_at hl 0 rfl) ?_
    refine z_get S hF hH iX11_wrongB_X11 0 rfl rfl 2 (by decide) (List.mem_of_getElem? (i := 3) rfl) rfl dX11_wrong_19 ?_
    refine z_get S hF hH iX11_wrongB_X10 1 rfl rfl 1 (by decide) (List.mem_of_getElem? (i := 4) rfl) rfl dX11_wrong_22 ?_
    refine lv_iload_n hx hb dX11_wrong_25 rfl (lv_at hl 1 rfl) ?_
    obtain ⟨z26, hz26, h⟩ := zcl_e h
    refine z_callV (As := [.int x0]) (rest := []) (st1 := [.int z26]) (ws' := (wd_X11_wrong cy q_t q_t_tape q_t_tokens q_t_here q_t_images q_t_history q_t_trial q_t_burghReader q_t_sentenceReader q_t_ledger q_t_watch q_t_dial q_t_here_burgh q_t_here_day q_t_here_sentence q_t_here_burgh_clockName q_t_here_burgh_clockCorner q_t_here_burgh_clockAhead q_t_here_burgh_clockGain q_t_here_burgh_masterName q_t_here_burgh_masterCorner q_t_here_burgh_masterLate q_t_here_burgh_masterClock q_t_here_burgh_masterMeets q_t_here_burgh_meetName q_t_here_burgh_meetDue q_t_here_day_ahead q_t_here_day_since q_t_here_day_stood q_t_here_day_due q_t_here_day_left q_t_here_day_came t_lastFault t_lastLateness t_here_kept t_here_burgh_clocks t_here_burgh_masters t_here_burgh_meets t_here_burgh_patience t_here_day_minute t_here_day_out t_here_day_stopped t_here_day_stood t_here_day_ahead t_here_burgh_clockGain t_here_day_since)) S hF hH (c_X3_wrongBy l G cy E N q_t_here_day q_t_here_burgh q_t_here_day_ahead q_t_here_day_since q_t_here_day_stood q_t_here_day_due q_t_here_day_left q_t_here_day_came q_t_here_burgh_clockName q_t_here_burgh_clockCorner q_t_here_burgh_clockAhead q_t_here_burgh_clockGain q_t_here_burgh_masterName q_t_here_burgh_masterCorner q_t_here_burgh_masterLate q_t_here_burgh_masterClock q_t_here_burgh_masterMeets q_t_here_burgh_meetName q_t_here_burgh_meetDue t_here_day_minute t_here_day_out t_here_day_stopped t_here_day_stood t_here_day_ahead t_here_burgh_clocks t_here_burgh_masters t_here_burgh_meets t_here_burgh_patience t_here_burgh_clockGain t_here_day_since x0 z26 hz26) (cwV 1 hts gX11_wrongB_X3_wrongBy rfl rfl rfl (by decide +kernel) ⟨Nat.le_of_ble_eq_true rfl, Nat.le_of_ble_eq_true rfl⟩) 4 0 rfl rfl [3, 4, 5, 2, 6, 7] rfl (by decide) rfl rfl rfl rfl rfl hl.1 (Nat.le_of_ble_eq_true rfl) dX11_wrong_26 ⟨Nat.le_of_ble_eq_true rfl, Nat.le_of_ble_eq_true rfl⟩ (fun H locs hH => ?_)
    cases h
    exact z_iret S hr hlocks hH dX11_wrong_29
  · replace h := zif_t b5 h
    cases h
theorem iX11_masterB_X1 : ∀ w ∈ wsX10, w ∈ wsX11_masterB := fun _ h => List.mem_cons_of_mem _ (List.mem_append_left _ (List.mem_append_left _ (List.mem_append_right _ h)))
theorem iX11_masterB_X10 : ∀ w ∈ wsX100, w ∈ wsX11_masterB := fun _ h => List.mem_cons_of_mem _ (List.mem_append_left _ (List.mem_append_left _ (List.mem_append_left _ (List.mem_append_right _ h))))
theorem iX11_masterB_X11 : ∀ w ∈ wsX110, w ∈ wsX11_masterB := fun _ h => List.mem_cons_of_mem _ (List.mem_append_left _ (List.mem_append_left _ (List.mem_append_left _ (List.mem_append_left _ (List.mem_append_right _ h)))))
theorem iX11_masterB_X3 : ∀ w ∈ wsX30, w ∈ wsX11_masterB := fun _ h => List.mem_cons_of_mem _ (List.mem_append_left _ (List.mem_append_right _ h))
set_option maxHeartbeats 4000000 in
set_option maxRecDepth 100000 in
theorem wB_X11_master_18 {p : Program} {l : Launch} {e : Env} {s : State} {m : MethodId} {args : Array Value} {below : List Frame} {meth : Method} {c : Code} {G : va_G} {cy : Nat → ClassId} {E : Nat → Nat} {w0 : va_W} {N : Nat} {q_t q_t_tape q_t_tokens q_t_here q_t_images q_t_history q_t_trial q_t_burghReader q_t_sentenceReader q_t_ledger q_t_watch q_t_dial q_t_here_burgh q_t_here_day q_t_here_sentence q_t_here_burgh_clockName q_t_here_burgh_clockCorner q_t_here_burgh_clockAhead q_t_here_burgh_clockGain q_t_here_burgh_masterName q_t_here_burgh_masterCorner q_t_here_burgh_masterLate q_t_here_burgh_masterClock q_t_here_burgh_masterMeets q_t_here_burgh_meetName q_t_here_burgh_meetDue q_t_here_day_ahead q_t_here_day_since q_t_here_day_stood q_t_here_day_due q_t_here_day_left q_t_here_day_came : Nat} {t_lastFault : Int32} {t_lastLateness : Int32} {t_here_kept : Int32} {t_here_burgh_clocks : Int32} {t_here_burgh_masters : Int32} {t_here_burgh_meets : Int32} {t_here_burgh_patience : Int32} {t_here_burgh_masterCorner : Nat → Int32} {t_here_day_minute : Int32} {t_here_day_out : Int32} {t_here_day_stopped : Int32} {t_here_day_came : Nat → Int32} {t_here_day_left : Nat → Int32} {t_here_burgh_masterMeets : Nat → Int32} {t_here_burgh_masterClock : Nat → Int32} {t_here_burgh_masterLate : Nat → Int32} {r : Int32} (S : CallFix p m c cX11_master 3 s args wsX11_masterB RX11) (hr : meth.sig.returnType = some .int) (hlocks : meth.locks = false) (hF : zF G cy E (va_A w0 s.heap.size) s) :
    ∀ (H : Heap) (locs : List Loc) (ls : Array Slot), zH G (va_A w0 s.heap.size) s H locs (wd_X11_master cy q_t q_t_tape q_t_tokens q_t_here q_t_images q_t_history q_t_trial q_t_burghReader q_t_sentenceReader q_t_ledger q_t_watch q_t_dial q_t_here_burgh q_t_here_day q_t_here_sentence q_t_here_burgh_clockName q_t_here_burgh_clockCorner q_t_here_burgh_clockAhead q_t_here_burgh_clockGain q_t_here_burgh_masterName q_t_here_burgh_masterCorner q_t_here_burgh_masterLate q_t_here_burgh_masterClock q_t_here_burgh_masterMeets q_t_here_burgh_meetName q_t_here_burgh_meetDue q_t_here_day_ahead q_t_here_day_since q_t_here_day_stood q_t_here_day_due q_t_here_day_left q_t_here_day_came t_lastFault t_lastLateness t_here_kept t_here_burgh_clocks t_here_burgh_masters t_here_burgh_meets t_here_burgh_patience t_here_burgh_masterCorner t_here_day_minute t_here_day_out t_here_day_stopped t_here_day_came t_here_day_left t_here_burgh_masterMeets t_here_burgh_masterClock t_here_burgh_masterLate) → lv_has ls 3 [] → f_X11_master_18 N t_here_burgh_masters t_here_burgh_meets t_here_burgh_masterCorner t_here_day_out t_here_day_came t_here_day_left t_here_burgh_masterMeets t_here_burgh_masterClock t_here_burgh_masterLate = some r → W p l e rm_X11_master s m args below meth c H locs 0 0 (MQ below (zQ G w0 (wd_X11_master cy q_t q_t_tape q_t_tokens q_t_here q_t_images q_t_history q_t_trial q_t_burghReader q_t_sentenceReader q_t_ledger q_t_watch q_t_dial q_t_here_burgh q_t_here_day q_t_here_sentence q_t_here_burgh_clockName q_t_here_burgh_clockCorner q_t_here_burgh_clockAhead q_t_here_burgh_clockGain q_t_here_burgh_masterName q_t_here_burgh_masterCorner q_t_here_burgh_masterLate q_t_here_burgh_masterClock q_t_here_burgh_masterMeets q_t_here_burgh_meetName q_t_here_burgh_meetDue q_t_here_day_ahead q_t_here_day_since q_t_here_day_stood q_t_here_day_due q_t_here_day_left q_t_here_day_came t_lastFault t_lastLateness t_here_kept t_here_burgh_clocks t_here_burgh_masters t_here_burgh_meets t_here_burgh_patience t_here_burgh_masterCorner t_here_day_minute t_here_day_out t_here_day_stopped t_here_day_came t_here_day_left t_here_burgh_masterMeets t_here_burgh_masterClock t_here_burgh_masterLate) s.heap.size (some (.int r))) args s 0 0 (va_A w0 s.heap.size)) (F0 m 18 ls []) := by
  obtain ⟨hx, hb, hml, hown, hts⟩ := id S
  intro  H locs ls hH hl h
  rw [f_X11_master_18] at h
  cases h
set_option maxHeartbeats 4000000 in
set_option maxRecDepth 100000 in
theorem cB_X11_master (l : Launch) (G : va_G) (cy : Nat → ClassId) (E : Nat → Nat) (N : Nat) (q_t q_t_tape q_t_tokens q_t_here q_t_images q_t_history q_t_trial q_t_burghReader q_t_sentenceReader q_t_ledger q_t_watch q_t_dial q_t_here_burgh q_t_here_day q_t_here_sentence q_t_here_burgh_clockName q_t_here_burgh_clockCorner q_t_here_burgh_clockAhead q_t_here_burgh_clockGain q_t_here_burgh_masterName q_t_here_burgh_masterCorner q_t_here_burgh_masterLate q_t_here_burgh_masterClock q_t_here_burgh_masterMeets q_t_here_burgh_meetName q_t_here_burgh_meetDue q_t_here_day_ahead q_t_here_day_since q_t_here_day_stood q_t_here_day_due q_t_here_day_left q_t_here_day_came : Nat) (t_lastFault : Int32) (t_lastLateness : Int32) (t_here_kept : Int32) (t_here_burgh_clocks : Int32) (t_here_burgh_masters : Int32) (t_here_burgh_meets : Int32) (t_here_burgh_patience : Int32) (t_here_burgh_masterCorner : Nat → Int32) (t_here_day_minute : Int32) (t_here_day_out : Int32) (t_here_day_stopped : Int32) (t_here_day_came : Nat → Int32) (t_here_day_left : Nat → Int32) (t_here_burgh_masterMeets : Nat → Int32) (t_here_burgh_masterClock : Nat → Int32) (t_here_burgh_masterLate : Nat → Int32) (x0 : Int32) (x1 : Int32) (r : Int32) (h : f_X11_master N x0 x1 t_here_burgh_masters t_here_burgh_meets t_here_burgh_masterCorner t_here_day_out t_here_day_came t_here_day_left t_here_burgh_masterMeets t_here_burgh_masterClock t_here_burgh_masterLate = some r) : zM l G cy E yX11_master wsX11_masterB rm_X11_master [.ref q_t, .int x0, .int x1] (wd_X11_master cy q_t q_t_tape q_t_tokens q_t_here q_t_images q_t_history q_t_trial q_t_burghReader q_t_sentenceReader q_t_ledger q_t_watch q_t_dial q_t_here_burgh q_t_here_day q_t_here_sentence q_t_here_burgh_clockName q_t_here_burgh_clockCorner q_t_here_burgh_clockAhead q_t_here_burgh_clockGain q_t_here_burgh_masterName q_t_here_burgh_masterCorner q_t_here_burgh_masterLate q_t_here_burgh_masterClock q_t_here_burgh_masterMeets q_t_here_burgh_meetName q_t_here_burgh_meetDue q_t_here_day_ahead q_t_here_day_since q_t_here_day_stood q_t_here_day_due q_t_here_day_left q_t_here_day_came t_lastFault t_lastLateness t_here_kept t_here_burgh_clocks t_here_burgh_masters t_here_burgh_meets t_here_burgh_patience t_here_burgh_masterCorner t_here_day_minute t_here_day_out t_here_day_stopped t_here_day_came t_here_day_left t_here_burgh_masterMeets t_here_burgh_masterClock t_here_burgh_masterLate) (wd_X11_master cy q_t q_t_tape q_t_tokens q_t_here q_t_images q_t_history q_t_trial q_t_burghReader q_t_sentenceReader q_t_ledger q_t_watch q_t_dial q_t_here_burgh q_t_here_day q_t_here_sentence q_t_here_burgh_clockName q_t_here_burgh_clockCorner q_t_here_burgh_clockAhead q_t_here_burgh_clockGain q_t_here_burgh_masterName q_t_here_burgh_masterCorner q_t_here_burgh_masterLate q_t_here_burgh_masterClock q_t_here_burgh_masterMeets q_t_here_burgh_meetName q_t_here_burgh_meetDue q_t_here_day_ahead q_t_here_day_since q_t_here_day_stood q_t_here_day_due q_t_here_day_left q_t_here_day_came t_lastFault t_lastLateness t_here_kept t_here_burgh_clocks t_here_burgh_masters t_here_burgh_meets t_here_burgh_patience t_here_burgh_masterCorner t_here_day_minute t_here_day_out t_here_day_stopped t_here_day_came t_here_day_left t_here_burgh_masterMeets t_here_burgh_masterClock t_here_burgh_masterLate) (some (.int r)) 0 0 := by
  refine z_body (cc := cX11_master) (maxL := 3) (ret := some .int) (by decide) rfl (Nat.le_of_ble_eq_true rfl) ?_
  intro p e s m below meth c ls S hr hlocks hnm hF hH hl
  have S : CallFix p m c cX11_master 3 s ([.ref q_t, .int x0, .int x1] : List Value).toArray wsX11_masterB RX11 := S
  obtain ⟨hx, hb, hml, hown, hts⟩ := id S
  have hl : lv_has ls 3 [(0, .ref q_t), (1, .int x0), (2, .int x1)] := hl
  rw [f_X11_master] at h
  refine lv_aload_n hx hb dX11_master_0 rfl (lv_at hl 0 rfl) ?_
  refine lv_iload_n hx hb dX11_master_1 rfl (lv_at hl 1 rfl) ?_
  obtain ⟨z2, hz2, h⟩ := zcl_e h
  refine z_callV (As := [.int x0]) (rest := []) (st1 := [.int z2]) (ws' := (wd_X11_master cy q_t q_t_tape q_t_tokens q_t_here q_t_images q_t_history q_t_trial q_t_burghReader q_t_sentenceReader q_t_ledger q_t_watch q_t_dial q_t_here_burgh q_t_here_day q_t_here_sentence q_t_here_burgh_clockName q_t_here_burgh_clockCorner q_t_here_burgh_clockAhead q_t_here_burgh_clockGain q_t_here_burgh_masterName q_t_here_burgh_masterCorner q_t_here_burgh_masterLate q_t_here_burgh_masterClock q_t_here_burgh_masterMeets q_t_here_burgh_meetName q_t_here_burgh_meetDue q_t_here_day_ahead q_t_here_day_since q_t_here_day_stood q_t_here_day_due q_t_here_day_left q_t_here_day_came t_lastFault t_lastLateness t_here_kept t_here_burgh_clocks t_here_burgh_masters t_here_burgh_meets t_here_burgh_patience t_here_burgh_masterCorner t_here_day_minute t_here_day_out t_here_day_stopped t_here_day_came t_here_day_left t_here_burgh_masterMeets t_here_burgh_masterClock t_here_burgh_masterLate)) S hF hH (c_X11_isMaster l G cy E N q_t q_t_tape q_t_tokens q_t_here q_t_images q_t_history q_t_trial q_t_burghReader q_t_sentenceReader q_t_ledger q_t_watch q_t_dial q_t_here_burgh q_t_here_day q_t_here_sentence q_t_here_burgh_clockName q_t_here_burgh_clockCorner q_t_here_burgh_clockAhead q_t_here_burgh_clockGain q_t_here_burgh_masterName q_t_here_burgh_masterCorner q_t_here_burgh_masterLate q_t_here_burgh_masterClock q_t_here_burgh_masterMeets q_t_here_burgh_meetName q_t_here_burgh_meetDue t_lastFault t_lastLateness t_here_kept t_here_burgh_clocks t_here_burgh_masters t_here_burgh_meets t_here_burgh_patience x0 z2 hz2) (cwV 1 hts gX11_masterB_X11_isMaster rfl rfl rfl (by decide +kernel) ⟨Nat.le_of_ble_eq_true rfl, Nat.le_of_ble_eq_true rfl⟩) 12 0 rfl rfl [0, 1, 2] rfl (by decide +kernel) rfl (zput_pick 10 [.inr 0, .inr 1, .inr 2, .inl 3, .inl 4, .inl 5, .inl 6, .inl 7, .inl 8, .inl 9] (by decide +kernel) rfl rfl (by decide +kernel) rfl (by decide +kernel) rfl) rfl rfl rfl hl.1 (Nat.le_of_ble_eq_true rfl) dX11_master_2 ⟨Nat.le_of_ble_eq_true rfl, Nat.le_of_ble_eq_true rfl⟩ (fun H locs hH => ?_)
  refine lv_if_eq (tgt := 18) hx hb dX11_master_5 (by decide) (fun b5 => ?_) (fun b5 => ?_)
  · replace h := zif_t b5 h
    exact wB_X11_master_18 S hr hlocks hF _ _ _ hH (lv_sub hl [] rfl) h
  · replace h := zif_f b5 h
    refine lv_iload_n hx hb dX11_master_8 rfl (lv_at hl 2 rfl) ?_
    refine lv_if_lt (tgt := 18) hx hb dX11_master_9 (by decide) (fun b9 => ?_) (fun b9 => ?_)
    · replace h := zif_t b9 h
      exact wB_X11_master_18 S hr hlocks hF _ _ _ hH (lv_sub hl [] rfl) h
    · replace h := zif_f b9 h
      refine lv_iload_n hx hb dX11_master_12 rfl (lv_at hl 2 rfl) ?_
      refine lv_bipush (v := 6) hx hb dX11_master_13 (by decide) ?_
      refine lv_icmp_le (tgt := 28) hx hb dX11_master_15 (by decide) (fun b15 => ?_) (fun b15 => ?_)
      · replace h := zif_t b15 h
        refine lv_iload_n hx hb dX11_master_28 rfl (lv_at hl 2 rfl) ?_
        by_cases b29_0 : x1 = 0
        · replace h := zif_t b29_0 h
          refine lv_tableIn (tgt := 68) hx hb dX11_master_29 (by rw [b29_0]; decide) (by rw [b29_0]; decide) (by rw [b29_0]; rfl) (by decide) ?_
          refine lv_aload_n hx hb dX11_master_68 rfl (lv_at hl 0 rfl) ?_
          refine z_get S hF hH iX11_masterB_X11 0 rfl rfl 2 (by decide) (List.mem_of_getElem? (i := 3) rfl) rfl dX11_master_69 ?_
          refine z_get S hF hH iX11_masterB_X10 1 rfl rfl 0 (by decide) (List.mem_of_getElem? (i := 4) rfl) rfl dX11_master_72 ?_
          refine z_get S hF hH iX11_masterB_X1 2 rfl rfl 9 (by decide) (List.mem_of_getElem? (i := 5) rfl) rfl dX11_master_75 ?_
          refine lv_iload_n hx hb dX11_master_78 rfl (lv_at hl 1 rfl) ?_
          obtain ⟨h79, h⟩ := zck_e h
          refine z_iald S hF hH 3 rfl h79 rfl dX11_master_79 ?_
          cases h
          exact z_iret S hr hlocks hH dX11_master_80
        · replace h := zif_f b29_0 h
          by_cases b29_1 : x1 = 1
          · replace h := zif_t b29_1 h
            refine lv_tableIn (tgt := 81) hx hb dX11_master_29 (by rw [b29_1]; decide) (by rw [b29_1]; decide) (by rw [b29_1]; rfl) (by decide) ?_
            refine lv_aload_n hx hb dX11_master_81 rfl (lv_at hl 0 rfl) ?_
            refine z_get S hF hH iX11_masterB_X11 0 rfl rfl 2 (by decide) (List.mem_of_getElem? (i := 3) rfl) rfl dX11_master_82 ?_
            refine z_get S hF hH iX11_masterB_X10 1 rfl rfl 0 (by decide) (List.mem_of_getElem? (i := 4) rfl) rfl dX11_master_85 ?_
            refine z_get S hF hH iX11_masterB_X1 2 rfl rfl 10 (by decide) (List.mem_of_getElem? (i := 6) rfl) rfl dX11_master_88 ?_
            refine lv_iload_n hx hb dX11_master_91 rfl (lv_at hl 1 rfl) ?_
            obtain ⟨h92, h⟩ := zck_e h
            refine z_iald S hF hH 9 rfl h92 rfl dX11_master_92 ?_
            cases h
            exact z_iret S hr hlocks hH dX11_master_93
          · replace h := zif_f b29_1 h
            by_cases b29_2 : x1 = 2
            · replace h := zif_t b29_2 h
              refine lv_tableIn (tgt := 94) hx hb dX11_master_29 (by rw [b29_2]; decide) (by rw [b29_2]; decide) (by rw [b29_2]; rfl) (by decide) ?_
              refine lv_aload_n hx hb dX11_master_94 rfl (lv_at hl 0 rfl) ?_
              refine z_get S hF hH iX11_masterB_X11 0 rfl rfl 2 (by decide) (List.mem_of_getElem? (i := 3) rfl) rfl dX11_master_95 ?_
              refine z_get S hF hH iX11_masterB_X10 1 rfl rfl 0 (by decide) (List.mem_of_getElem? (i := 4) rfl) rfl dX11_master_98 ?_
              refine z_get S hF hH iX11_masterB_X1 2 rfl rfl 11 (by decide) (List.mem_of_getElem? (i := 7) rfl) rfl dX11_master_101 ?_
              refine lv_iload_n hx hb dX11_master_104 rfl (lv_at hl 1 rfl) ?_
              obtain ⟨h105, h⟩ := zck_e h
              refine z_iald S hF hH 8 rfl h105 rfl dX11_master_105 ?_
              cases h
              exact z_iret S hr hlocks hH dX11_master_106
            · replace h := zif_f b29_2 h
              by_cases b29_3 : x1 = 3
              · replace h := zif_t b29_3 h
                refine lv_tableIn (tgt := 107) hx hb dX11_master_29 (by rw [b29_3]; decide) (by rw [b29_3]; decide) (by rw [b29_3]; rfl) (by decide) ?_
                refine lv_aload_n hx hb dX11_master_107 rfl (lv_at hl 0 rfl) ?_
                refine z_get S hF hH iX11_masterB_X11 0 rfl rfl 2 (by decide) (List.mem_of_getElem? (i := 3) rfl) rfl dX11_master_108 ?_
                refine z_get S hF hH iX11_masterB_X10 1 rfl rfl 1 (by decide) (List.mem_of_getElem? (i := 8) rfl) rfl dX11_master_111 ?_
                refine lv_iload_n hx hb dX11_master_114 rfl (lv_at hl 1 rfl) ?_
                obtain ⟨z115, hz115, h⟩ := zcl_e h
                refine z_callV (As := [.int x0]) (rest := []) (st1 := [.int z115]) (ws' := (wd_X11_master cy q_t q_t_tape q_t_tokens q_t_here q_t_images q_t_history q_t_trial q_t_burghReader q_t_sentenceReader q_t_ledger q_t_watch q_t_dial q_t_here_burgh q_t_here_day q_t_here_sentence q_t_here_burgh_clockName q_t_here_burgh_clockCorner q_t_here_burgh_clockAhead q_t_here_burgh_clockGain q_t_here_burgh_masterName q_t_here_burgh_masterCorner q_t_here_burgh_masterLate q_t_here_burgh_masterClock q_t_here_burgh_masterMeets q_t_here_burgh_meetName q_t_here_burgh_meetDue q_t_here_day_ahead q_t_here_day_since q_t_here_day_stood q_t_here_day_due q_t_here_day_left q_t_here_day_came t_lastFault t_lastLateness t_here_kept t_here_burgh_clocks t_here_burgh_masters t_here_burgh_meets t_here_burgh_patience t_here_burgh_masterCorner t_here_day_minute t_here_day_out t_here_day_stopped t_here_day_came t_here_day_left t_here_burgh_masterMeets t_here_burgh_masterClock t_here_burgh_masterLate)) S hF hH (c_X3_isOut l G cy E N q_t_here_day q_t_here_burgh q_t_here_day_ahead q_t_here_day_since q_t_here_day_stood q_t_here_day_due q_t_here_day_left q_t_here_day_came t_here_day_minute t_here_day_out t_here_day_stopped x0 z115 hz115) (cwV 1 hts gX11_masterB_X3_isOut rfl rfl rfl (by decide +kernel) ⟨Nat.le_of_ble_eq_true rfl, Nat.le_of_ble_eq_true rfl⟩) 4 0 rfl rfl [4] rfl (by decide +kernel) rfl (zput_pick 10 [.inl 0, .inl 1, .inl 2, .inl 3, .inr 0, .inl 5, .inl 6, .inl 7, .inl 8, .inl 9] (by decide +kernel) rfl rfl (by decide +kernel) rfl (by decide +kernel) rfl) rfl rfl rfl hl.1 (Nat.le_of_ble_eq_true rfl) dX11_master_115 ⟨Nat.le_of_ble_eq_true rfl, Nat.le_of_ble_eq_true rfl⟩ (fun H locs hH => ?_)
                refine lv_if_eq (tgt := 125) hx hb dX11_master_118 (by decide) (fun b118 => ?_) (fun b118 => ?_)
                · replace h := zif_t b118 h
                  refine lv_iconst (v := 0) hx hb dX11_master_125 (by decide) ?_
                  cases h
                  exact z_iret S hr hlocks hH dX11_master_126
                · replace h := zif_f b118 h
                  refine lv_iconst (v := 1) hx hb dX11_master_121 (by decide) ?_
                  refine lv_goto (tgt := 126) hx hb dX11_master_122 (by decide) ?_
                  cases h
                  exact z_iret S hr hlocks hH dX11_master_126
              · replace h := zif_f b29_3 h
                by_cases b29_4 : x1 = 4
                · replace h := zif_t b29_4 h
                  refine lv_tableIn (tgt := 127) hx hb dX11_master_29 (by rw [b29_4]; decide) (by rw [b29_4]; decide) (by rw [b29_4]; rfl) (by decide) ?_
                  refine lv_aload_n hx hb dX11_master_127 rfl (lv_at hl 0 rfl) ?_
                  refine z_get S hF hH iX11_masterB_X11 0 rfl rfl 2 (by decide) (List.mem_of_getElem? (i := 3) rfl) rfl dX11_master_128 ?_
                  refine z_get S hF hH iX11_masterB_X10 1 rfl rfl 0 (by decide) (List.mem_of_getElem? (i := 4) rfl) rfl dX11_master_131 ?_
                  refine z_get S hF hH iX11_masterB_X1 2 rfl rfl 12 (by decide) (List.mem_of_getElem? (i := 9) rfl) rfl dX11_master_134 ?_
                  refine lv_iload_n hx hb dX11_master_137 rfl (lv_at hl 1 rfl) ?_
                  obtain ⟨h138, h⟩ := zck_e h
                  refine z_iald S hF hH 7 rfl h138 rfl dX11_master_138 ?_
                  cases h
                  exact z_iret S hr hlocks hH dX11_master_139
                · replace h := zif_f b29_4 h
                  by_cases b29_5 : x1 = 5
                  · replace h := zif_t b29_5 h
                    refine lv_tableIn (tgt := 140) hx hb dX11_master_29 (by rw [b29_5]; decide) (by rw [b29_5]; decide) (by rw [b29_5]; rfl) (by decide) ?_
                    refine lv_aload_n hx hb dX11_master_140 rfl (lv_at hl 0 rfl) ?_
                    refine z_get S hF hH iX11_masterB_X11 0 rfl rfl 2 (by decide) (List.mem_of_getElem? (i := 3) rfl) rfl dX11_master_141 ?_
                    refine z_get S hF hH iX11_masterB_X10 1 rfl rfl 1 (by decide) (List.mem_of_getElem? (i := 8) rfl) rfl dX11_master_144 ?_
                    refine lv_aload_n hx hb dX11_master_147 rfl (lv_at hl 0 rfl) ?_
                    refine z_get S hF hH iX11_masterB_X11 0 rfl rfl 2 (by decide) (List.mem_of_getElem? (i := 3) rfl) rfl dX11_master_148 ?_
                    refine z_get S hF hH iX11_masterB_X10 1 rfl rfl 1 (by decide) (List.mem_of_getElem? (i := 8) rfl) rfl dX11_master_151 ?_
                    refine z_get S hF hH iX11_masterB_X3 4 rfl rfl 8 (by decide) (List.mem_of_getElem? (i := 10) rfl) rfl dX11_master_154 ?_
                    refine lv_iload_n hx hb dX11_master_157 rfl (lv_at hl 1 rfl) ?_
                    obtain ⟨z158, hz158, h⟩ := zcl_e h
                    refine z_callV (As := [.ref q_t_here_day_left, .int x0]) (rest := []) (st1 := [.int z158]) (ws' := (wd_X11_master cy q_t q_t_tape q_t_tokens q_t_here q_t_images q_t_history q_t_trial q_t_burghReader q_t_sentenceReader q_t_ledger q_t_watch q_t_dial q_t_here_burgh q_t_here_day q_t_here_sentence q_t_here_burgh_clockName q_t_here_burgh_clockCorner q_t_here_burgh_clockAhead q_t_here_burgh_clockGain q_t_here_burgh_masterName q_t_here_burgh_masterCorner q_t_here_burgh_masterLate q_t_here_burgh_masterClock q_t_here_burgh_masterMeets q_t_here_burgh_meetName q_t_here_burgh_meetDue q_t_here_day_ahead q_t_here_day_since q_t_here_day_stood q_t_here_day_due q_t_here_day_left q_t_here_day_came t_lastFault t_lastLateness t_here_kept t_here_burgh_clocks t_here_burgh_masters t_here_burgh_meets t_here_burgh_patience t_here_burgh_masterCorner t_here_day_minute t_here_day_out t_here_day_stopped t_here_day_came t_here_day_left t_here_burgh_masterMeets t_here_burgh_masterClock t_here_burgh_masterLate)) S hF hH (c_X3_meetsIn l G cy E N q_t_here_day q_t_here_day_left q_t_here_burgh q_t_here_day_ahead q_t_here_day_since q_t_here_day_stood q_t_here_day_due q_t_here_day_left q_t_here_day_came q_t_here_burgh_clockName q_t_here_burgh_clockCorner q_t_here_burgh_clockAhead q_t_here_burgh_clockGain q_t_here_burgh_masterName q_t_here_burgh_masterCorner q_t_here_burgh_masterLate q_t_here_burgh_masterClock q_t_here_burgh_masterMeets q_t_here_burgh_meetName q_t_here_burgh_meetDue t_here_day_minute t_here_day_out t_here_day_stopped t_here_burgh_clocks t_here_burgh_masters t_here_burgh_meets t_here_burgh_patience t_here_day_left x0 z158 hz158) (cwV 2 hts gX11_masterB_X3_meetsIn rfl rfl rfl (by decide +kernel) ⟨Nat.le_of_ble_eq_true rfl, Nat.le_of_ble_eq_true rfl⟩) 4 0 rfl rfl [4, 2, 6] rfl (by decide +kernel) rfl (zput_pick 10 [.inl 0, .inl 1, .inr 1, .inl 3, .inr 0, .inl 5, .inr 2, .inl 7, .inl 8, .inl 9] (by decide +kernel) rfl rfl (by decide +kernel) rfl (by decide +kernel) rfl) rfl rfl rfl hl.1 (Nat.le_of_ble_eq_true rfl) dX11_master_158 ⟨Nat.le_of_ble_eq_true rfl, Nat.le_of_ble_eq_true rfl⟩ (fun H locs hH => ?_)
                    cases h
                    exact z_iret S hr hlocks hH dX11_master_161
                  · replace h := zif_f b29_5 h
                    refine lv_tableOut (tgt := 162) hx hb dX11_master_29 (z_sw (fun k h1 h2 => by rcases (show k = 0 ∨ k = 1 ∨ k = 2 ∨ k = 3 ∨ k = 4 ∨ k = 5 by omega) with rfl | rfl | rfl | rfl | rfl | rfl <;> assumption)) (by decide) ?_
                    refine lv_aload_n hx hb dX11_master_162 rfl (lv_at hl 0 rfl) ?_
                    refine z_get S hF hH iX11_masterB_X11 0 rfl rfl 2 (by decide) (List.mem_of_getElem? (i := 3) rfl) rfl dX11_master_163 ?_
                    refine z_get S hF hH iX11_masterB_X10 1 rfl rfl 1 (by decide) (List.mem_of_getElem? (i := 8) rfl) rfl dX11_master_166 ?_
                    refine lv_aload_n hx hb dX11_master_169 rfl (lv_at hl 0 rfl) ?_
                    refine z_get S hF hH iX11_masterB_X11 0 rfl rfl 2 (by decide) (List.mem_of_getElem? (i := 3) rfl) rfl dX11_master_170 ?_
                    refine z_get S hF hH iX11_masterB_X10 1 rfl rfl 1 (by decide) (List.mem_of_getElem? (i := 8) rfl) rfl dX11_master_173 ?_
                    refine z_get S hF hH iX11_masterB_X3 4 rfl rfl 9 (by decide) (List.mem_of_getElem? (i := 11) rfl) rfl dX11_master_176 ?_
                    refine lv_iload_n hx hb dX11_master_179 rfl (lv_at hl 1 rfl) ?_
                    obtain ⟨z180, hz180, h⟩ := zcl_e h
                    refine z_callV (As := [.ref q_t_here_day_came, .int x0]) (rest := []) (st1 := [.int z180]) (ws' := (wd_X11_master cy q_t q_t_tape q_t_tokens q_t_here q_t_images q_t_history q_t_trial q_t_burghReader q_t_sentenceReader q_t_ledger q_t_watch q_t_dial q_t_here_burgh q_t_here_day q_t_here_sentence q_t_here_burgh_clockName q_t_here_burgh_clockCorner q_t_here_burgh_clockAhead q_t_here_burgh_clockGain q_t_here_burgh_masterName q_t_here_burgh_masterCorner q_t_here_burgh_masterLate q_t_here_burgh_masterClock q_t_here_burgh_masterMeets q_t_here_burgh_meetName q_t_here_burgh_meetDue q_t_here_day_ahead q_t_here_day_since q_t_here_day_stood q_t_here_day_due q_t_here_day_left q_t_here_day_came t_lastFault t_lastLateness t_here_kept t_here_burgh_clocks t_here_burgh_masters t_here_burgh_meets t_here_burgh_patience t_here_burgh_masterCorner t_here_day_minute t_here_day_out t_here_day_stopped t_here_day_came t_here_day_left t_here_burgh_masterMeets t_here_burgh_masterClock t_here_burgh_masterLate)) S hF hH (c_X3_meetsIn l G cy E N q_t_here_day q_t_here_day_came q_t_here_burgh q_t_here_day_ahead q_t_here_day_since q_t_here_day_stood q_t_here_day_due q_t_here_day_left q_t_here_day_came q_t_here_burgh_clockName q_t_here_burgh_clockCorner q_t_here_burgh_clockAhead q_t_here_burgh_clockGain q_t_here_burgh_masterName q_t_here_burgh_masterCorner q_t_here_burgh_masterLate q_t_here_burgh_masterClock q_t_here_burgh_masterMeets q_t_here_burgh_meetName q_t_here_burgh_meetDue t_here_day_minute t_here_day_out t_here_day_stopped t_here_burgh_clocks t_here_burgh_masters t_here_burgh_meets t_here_burgh_patience t_here_day_came x0 z180 hz180) (cwV 2 hts gX11_masterB_X3_meetsIn rfl rfl rfl (by decide +kernel) ⟨Nat.le_of_ble_eq_true rfl, Nat.le_of_ble_eq_true rfl⟩) 4 0 rfl rfl [4, 2, 5] rfl (by decide +kernel) rfl (zput_pick 10 [.inl 0, .inl 1, .inr 1, .inl 3, .inr 0, .inr 2, .inl 6, .inl 7, .inl 8, .inl 9] (by decide +kernel) rfl rfl (by decide +kernel) rfl (by decide +kernel) rfl) rfl rfl rfl hl.1 (Nat.le_of_ble_eq_true rfl) dX11_master_180 ⟨Nat.le_of_ble_eq_true rfl, Nat.le_of_ble_eq_true rfl⟩ (fun H locs hH => ?_)
                    cases h
                    exact z_iret S hr hlocks hH dX11_master_183
      · replace h := zif_f b15 h
        exact wB_X11_master_18 S hr hlocks hF _ _ _ hH (lv_sub hl [] rfl) h
theorem iX11_meanB_X10 : ∀ w ∈ wsX100, w ∈ wsX11_meanB := fun _ h => List.mem_cons_of_mem _ (List.mem_append_left _ (List.mem_append_left _ (List.mem_append_left _ (List.mem_append_right _ h))))
theorem iX11_meanB_X11 : ∀ w ∈ wsX110, w ∈ wsX11_meanB := fun _ h => List.mem_cons_of_mem _ (List.mem_append_left _ (List.mem_append_left _ (List.mem_append_left _ (List.mem_append_left _ (List.mem_append_right _ h)))))
set_option maxHeartbeats 4000000 in
set_option maxRecDepth 100000 in
theorem wB_X11_mean_24 {p : Program} {l : Launch} {e : Env} {s : State} {m : MethodId} {args : Array Value} {below : List Frame} {meth : Method} {c : Code} {G : va_G} {cy : Nat → ClassId} {E : Nat → Nat} {w0 : va_W} {N : Nat} {q_t q_t_tape q_t_tokens q_t_here q_t_images q_t_history q_t_trial q_t_burghReader q_t_sentenceReader q_t_ledger q_t_watch q_t_dial q_t_here_burgh q_t_here_day q_t_here_sentence q_t_here_day_ahead q_t_here_day_since q_t_here_day_stood q_t_here_day_due q_t_here_day_left q_t_here_day_came q_t_here_burgh_clockName q_t_here_burgh_clockCorner q_t_here_burgh_clockAhead q_t_here_burgh_clockGain q_t_here_burgh_masterName q_t_here_burgh_masterCorner q_t_here_burgh_masterLate q_t_here_burgh_masterClock q_t_here_burgh_masterMeets q_t_here_burgh_meetName q_t_here_burgh_meetDue : Nat} {t_lastFault : Int32} {t_lastLateness : Int32} {t_here_kept : Int32} {t_here_day_minute : Int32} {t_here_day_out : Int32} {t_here_day_stopped : Int32} {t_here_burgh_clocks : Int32} {t_here_burgh_masters : Int32} {t_here_burgh_meets : Int32} {t_here_burgh_patience : Int32} {t_here_day_came : Nat → Int32} {t_here_day_due : Nat → Int32} {r : Int32} (S : CallFix p m c cX11_mean 5 s args wsX11_meanB RX11) (hr : meth.sig.returnType = some .int) (hlocks : meth.locks = false) (hF : zF G cy E (va_A w0 s.heap.size) s) :
    ∀ (H : Heap) (locs : List Loc) (ls : Array Slot), zH G (va_A w0 s.heap.size) s H locs (wd_X11_mean cy q_t q_t_tape q_t_tokens q_t_here q_t_images q_t_history q_t_trial q_t_burghReader q_t_sentenceReader q_t_ledger q_t_watch q_t_dial q_t_here_burgh q_t_here_day q_t_here_sentence q_t_here_day_ahead q_t_here_day_since q_t_here_day_stood q_t_here_day_due q_t_here_day_left q_t_here_day_came q_t_here_burgh_clockName q_t_here_burgh_clockCorner q_t_here_burgh_clockAhead q_t_here_burgh_clockGain q_t_here_burgh_masterName q_t_here_burgh_masterCorner q_t_here_burgh_masterLate q_t_here_burgh_masterClock q_t_here_burgh_masterMeets q_t_here_burgh_meetName q_t_here_burgh_meetDue t_lastFault t_lastLateness t_here_kept t_here_day_minute t_here_day_out t_here_day_stopped t_here_burgh_clocks t_here_burgh_masters t_here_burgh_meets t_here_burgh_patience t_here_day_came t_here_day_due) → lv_has ls 5 [] → f_X11_mean_24 N t_here_burgh_masters t_here_burgh_meets t_here_day_came t_here_day_due = some r → W p l e rm_X11_mean s m args below meth c H locs 0 0 (MQ below (zQ G w0 (wd_X11_mean cy q_t q_t_tape q_t_tokens q_t_here q_t_images q_t_history q_t_trial q_t_burghReader q_t_sentenceReader q_t_ledger q_t_watch q_t_dial q_t_here_burgh q_t_here_day q_t_here_sentence q_t_here_day_ahead q_t_here_day_since q_t_here_day_stood q_t_here_day_due q_t_here_day_left q_t_here_day_came q_t_here_burgh_clockName q_t_here_burgh_clockCorner q_t_here_burgh_clockAhead q_t_here_burgh_clockGain q_t_here_burgh_masterName q_t_here_burgh_masterCorner q_t_here_burgh_masterLate q_t_here_burgh_masterClock q_t_here_burgh_masterMeets q_t_here_burgh_meetName q_t_here_burgh_meetDue t_lastFault t_lastLateness t_here_kept t_here_day_minute t_here_day_out t_here_day_stopped t_here_burgh_clocks t_here_burgh_masters t_here_burgh_meets t_here_burgh_patience t_here_day_came t_here_day_due) s.heap.size (some (.int r))) args s 0 0 (va_A w0 s.heap.size)) (F0 m 24 ls []) := by
  obtain ⟨hx, hb, hml, hown, hts⟩ := id S
  intro  H locs ls hH hl h
  rw [f_X11_mean_24] at h
  cases h
set_option maxHeartbeats 4000000 in
set_option maxRecDepth 100000 in
theorem cB_X11_mean (l : Launch) (G : va_G) (cy : Nat → ClassId) (E : Nat → Nat) (N : Nat) (q_t q_t_tape q_t_tokens q_t_here q_t_images q_t_history q_t_trial q_t_burghReader q_t_sentenceReader q_t_ledger q_t_watch q_t_dial q_t_here_burgh q_t_here_day q_t_here_sentence q_t_here_day_ahead q_t_here_day_since q_t_here_day_stood q_t_here_day_due q_t_here_day_left q_t_here_day_came q_t_here_burgh_clockName q_t_here_burgh_clockCorner q_t_here_burgh_clockAhead q_t_here_burgh_clockGain q_t_here_burgh_masterName q_t_here_burgh_masterCorner q_t_here_burgh_masterLate q_t_here_burgh_masterClock q_t_here_burgh_masterMeets q_t_here_burgh_meetName q_t_here_burgh_meetDue : Nat) (t_lastFault : Int32) (t_lastLateness : Int32) (t_here_kept : Int32) (t_here_day_minute : Int32) (t_here_day_out : Int32) (t_here_day_stopped : Int32) (t_here_burgh_clocks : Int32) (t_here_burgh_masters : Int32) (t_here_burgh_meets : Int32) (t_here_burgh_patience : Int32) (t_here_day_came : Nat → Int32) (t_here_day_due : Nat → Int32) (x0 : Int32) (r : Int32) (h : f_X11_mean N x0 t_here_burgh_masters t_here_burgh_meets t_here_day_came t_here_day_due = some r) : zM l G cy E yX11_mean wsX11_meanB rm_X11_mean [.ref q_t, .int x0] (wd_X11_mean cy q_t q_t_tape q_t_tokens q_t_here q_t_images q_t_history q_t_trial q_t_burghReader q_t_sentenceReader q_t_ledger q_t_watch q_t_dial q_t_here_burgh q_t_here_day q_t_here_sentence q_t_here_day_ahead q_t_here_day_since q_t_here_day_stood q_t_here_day_due q_t_here_day_left q_t_here_day_came q_t_here_burgh_clockName q_t_here_burgh_clockCorner q_t_here_burgh_clockAhead q_t_here_burgh_clockGain q_t_here_burgh_masterName q_t_here_burgh_masterCorner q_t_here_burgh_masterLate q_t_here_burgh_masterClock q_t_here_burgh_masterMeets q_t_here_burgh_meetName q_t_here_burgh_meetDue t_lastFault t_lastLateness t_here_kept t_here_day_minute t_here_day_out t_here_day_stopped t_here_burgh_clocks t_here_burgh_masters t_here_burgh_meets t_here_burgh_patience t_here_day_came t_here_day_due) (wd_X11_mean cy q_t q_t_tape q_t_tokens q_t_here q_t_images q_t_history q_t_trial q_t_burghReader q_t_sentenceReader q_t_ledger q_t_watch q_t_dial q_t_here_burgh q_t_here_day q_t_here_sentence q_t_here_day_ahead q_t_here_day_since q_t_here_day_stood q_t_here_day_due q_t_here_day_left q_t_here_day_came q_t_here_burgh_clockName q_t_here_burgh_clockCorner q_t_here_burgh_clockAhead q_t_here_burgh_clockGain q_t_here_burgh_masterName q_t_here_burgh_masterCorner q_t_here_burgh_masterLate q_t_here_burgh_masterClock q_t_here_burgh_masterMeets q_t_here_burgh_meetName q_t_here_burgh_meetDue t_lastFault t_lastLateness t_here_kept t_here_day_minute t_here_day_out t_here_day_stopped t_here_burgh_clocks t_here_burgh_masters t_here_burgh_meets t_here_burgh_patience t_here_day_came t_here_day_due) (some (.int r)) 0 0 := by
  refine z_body (cc := cX11_mean) (maxL := 5) (ret := some .int) (by decide) rfl (Nat.le_of_ble_eq_true rfl) ?_
  intro p e s m below meth c ls S hr hlocks hnm hF hH hl
  have S : CallFix p m c cX11_mean 5 s ([.ref q_t, .int x0] : List Value).toArray wsX11_meanB RX11 := S
  obtain ⟨hx, hb, hml, hown, hts⟩ := id S
  have hl : lv_has ls 5 [(0, .ref q_t), (1, .int x0)] := hl
  rw [f_X11_mean] at h
  refine lv_aload_n hx hb dX11_mean_0 rfl (lv_at hl 0 rfl) ?_
  refine z_get S hF hH iX11_meanB_X11 0 rfl rfl 2 (by decide) (List.mem_of_getElem? (i := 3) rfl) rfl dX11_mean_1 ?_
  refine z_get S hF hH iX11_meanB_X10 1 rfl rfl 1 (by decide) (List.mem_of_getElem? (i := 4) rfl) rfl dX11_mean_4 ?_
  obtain ⟨z7, hz7, h⟩ := zcl_e h
  refine z_callV (As := []) (rest := []) (st1 := [.int z7]) (ws' := (wd_X11_mean cy q_t q_t_tape q_t_tokens q_t_here q_t_images q_t_history q_t_trial q_t_burghReader q_t_sentenceReader q_t_ledger q_t_watch q_t_dial q_t_here_burgh q_t_here_day q_t_here_sentence q_t_here_day_ahead q_t_here_day_since q_t_here_day_stood q_t_here_day_due q_t_here_day_left q_t_here_day_came q_t_here_burgh_clockName q_t_here_burgh_clockCorner q_t_here_burgh_clockAhead q_t_here_burgh_clockGain q_t_here_burgh_masterName q_t_here_burgh_masterCorner q_t_here_burgh_masterLate q_t_here_burgh_masterClock q_t_here_burgh_masterMeets q_t_here_burgh_meetName q_t_here_burgh_meetDue t_lastFault t_lastLateness t_here_kept t_here_day_minute t_here_day_out t_here_day_stopped t_here_burgh_clocks t_here_burgh_masters t_here_burgh_meets t_here_burgh_patience t_here_day_came t_here_day_due)) S hF hH (c_X3_howOftenCame l G cy E N q_t_here_day q_t_here_burgh q_t_here_day_ahead q_t_here_day_since q_t_here_day_stood q_t_here_day_due q_t_here_day_left q_t_here_day_came q_t_here_burgh_clockName q_t_here_burgh_clockCorner q_t_here_burgh_clockAhead q_t_here_burgh_clockGain q_t_here_burgh_masterName q_t_here_burgh_masterCorner q_t_here_burgh_masterLate q_t_here_burgh_masterClock q_t_here_burgh_masterMeets q_t_here_burgh_meetName q_t_here_burgh_meetDue t_here_day_minute t_here_day_out t_here_day_stopped t_here_burgh_clocks t_here_burgh_masters t_here_burgh_meets t_here_burgh_patience t_here_day_came z7 hz7) (cwV 0 hts gX11_meanB_X3_howOftenCame rfl rfl rfl (by decide +kernel) ⟨Nat.le_of_ble_eq_true rfl, Nat.le_of_ble_eq_true rfl⟩) 4 0 rfl rfl [2, 3, 4] rfl (by decide) rfl rfl rfl rfl rfl hl.1 (Nat.le_of_ble_eq_true rfl) dX11_mean_7 ⟨Nat.le_of_ble_eq_true rfl, Nat.le_of_ble_eq_true rfl⟩ (fun H locs hH => ?_)
  refine lv_istore_n (lv' := [(2, .int z7), (0, .ref q_t), (1, .int x0)]) hx hb dX11_mean_10 rfl hl (by decide) rfl (fun ls hl => ?_)
  refine lv_iload_n hx hb dX11_mean_11 rfl (lv_at hl 0 rfl) ?_
  refine lv_if_eq (tgt := 24) hx hb dX11_mean_12 (by decide) (fun b12 => ?_) (fun b12 => ?_)
  · replace h := zif_t b12 h
    exact wB_X11_mean_24 S hr hlocks hF _ _ _ hH (lv_sub hl [] rfl) h
  · replace h := zif_f b12 h
    refine lv_iload_n hx hb dX11_mean_15 rfl (lv_at hl 2 rfl) ?_
    refine lv_if_lt (tgt := 24) hx hb dX11_mean_16 (by decide) (fun b16 => ?_) (fun b16 => ?_)
    · replace h := zif_t b16 h
      exact wB_X11_mean_24 S hr hlocks hF _ _ _ hH (lv_sub hl [] rfl) h
    · replace h := zif_f b16 h
      refine lv_iload_n hx hb dX11_mean_19 rfl (lv_at hl 2 rfl) ?_
      refine lv_iconst (v := 1) hx hb dX11_mean_20 (by decide) ?_
      refine lv_icmp_le (tgt := 35) hx hb dX11_mean_21 (by decide) (fun b21 => ?_) (fun b21 => ?_)
      · replace h := zif_t b21 h
        refine lv_aload_n hx hb dX11_mean_35 rfl (lv_at hl 1 rfl) ?_
        refine z_get S hF hH iX11_meanB_X11 0 rfl rfl 2 (by decide) (List.mem_of_getElem? (i := 3) rfl) rfl dX11_mean_36 ?_
        refine z_get S hF hH iX11_meanB_X10 1 rfl rfl 1 (by decide) (List.mem_of_getElem? (i := 4) rfl) rfl dX11_mean_39 ?_
        obtain ⟨z42, hz42, h⟩ := zcl_e h
        refine z_callV (As := []) (rest := []) (st1 := [.int z42]) (ws' := (wd_X11_mean cy q_t q_t_tape q_t_tokens q_t_here q_t_images q_t_history q_t_trial q_t_burghReader q_t_sentenceReader q_t_ledger q_t_watch q_t_dial q_t_here_burgh q_t_here_day q_t_here_sentence q_t_here_day_ahead q_t_here_day_since q_t_here_day_stood q_t_here_day_due q_t_here_day_left q_t_here_day_came q_t_here_burgh_clockName q_t_here_burgh_clockCorner q_t_here_burgh_clockAhead q_t_here_burgh_clockGain q_t_here_burgh_masterName q_t_here_burgh_masterCorner q_t_here_burgh_masterLate q_t_here_burgh_masterClock q_t_here_burgh_masterMeets q_t_here_burgh_meetName q_t_here_burgh_meetDue t_lastFault t_lastLateness t_here_kept t_here_day_minute t_here_day_out t_here_day_stopped t_here_burgh_clocks t_here_burgh_masters t_here_burgh_meets t_here_burgh_patience t_here_day_came t_here_day_due)) S hF hH (c_X3_minutesBehind l G cy E N q_t_here_day q_t_here_burgh q_t_here_day_ahead q_t_here_day_since q_t_here_day_stood q_t_here_day_due q_t_here_day_left q_t_here_day_came q_t_here_burgh_clockName q_t_here_burgh_clockCorner q_t_here_burgh_clockAhead q_t_here_burgh_clockGain q_t_here_burgh_masterName q_t_here_burgh_masterCorner q_t_here_burgh_masterLate q_t_here_burgh_masterClock q_t_here_burgh_masterMeets q_t_here_burgh_meetName q_t_here_burgh_meetDue t_here_day_minute t_here_day_out t_here_day_stopped t_here_burgh_clocks t_here_burgh_masters t_here_burgh_meets t_here_burgh_patience t_here_day_came t_here_day_due z42 hz42) (cwV 0 hts gX11_meanB_X3_minutesBehind rfl rfl rfl (by decide +kernel) ⟨Nat.le_of_ble_eq_true rfl, Nat.le_of_ble_eq_true rfl⟩) 4 0 rfl rfl [2, 3, 4, 5] rfl (by decide) rfl rfl rfl rfl rfl hl.1 (Nat.le_of_ble_eq_true rfl) dX11_mean_42 ⟨Nat.le_of_ble_eq_true rfl, Nat.le_of_ble_eq_true rfl⟩ (fun H locs hH => ?_)
        refine lv_istore_n (lv' := [(3, .int z42), (2, .int z7), (0, .ref q_t), (1, .int x0)]) hx hb dX11_mean_45 rfl hl (by decide) rfl (fun ls hl => ?_)
        refine lv_iload_n hx hb dX11_mean_46 rfl (lv_at hl 1 rfl) ?_
        refine lv_iload_n hx hb dX11_mean_47 rfl (lv_at hl 0 rfl) ?_
        obtain ⟨z48, hz48, h⟩ := zcl_e h
        refine z_callS (As := [.int z7, .int z42]) (rest := []) (st1 := [.int z48]) (ws' := (wd_X11_mean cy q_t q_t_tape q_t_tokens q_t_here q_t_images q_t_history q_t_trial q_t_burghReader q_t_sentenceReader q_t_ledger q_t_watch q_t_dial q_t_here_burgh q_t_here_day q_t_here_sentence q_t_here_day_ahead q_t_here_day_since q_t_here_day_stood q_t_here_day_due q_t_here_day_left q_t_here_day_came q_t_here_burgh_clockName q_t_here_burgh_clockCorner q_t_here_burgh_clockAhead q_t_here_burgh_clockGain q_t_here_burgh_masterName q_t_here_burgh_masterCorner q_t_here_burgh_masterLate q_t_here_burgh_masterClock q_t_here_burgh_masterMeets q_t_here_burgh_meetName q_t_here_burgh_meetDue t_lastFault t_lastLateness t_here_kept t_here_day_minute t_here_day_out t_here_day_stopped t_here_burgh_clocks t_here_burgh_masters t_here_burgh_meets t_here_burgh_patience t_here_day_came t_here_day_due)) S hF hH (c_X11_greatestCommon l G cy E N z7 z42 z48 hz48) (cwS 2 hts gX11_meanB_X11_greatestCommon rfl rfl rfl (by decide +kernel) ⟨Nat.le_of_ble_eq_true rfl, Nat.le_of_ble_eq_true rfl⟩) [] rfl (by decide) rfl rfl rfl rfl rfl hl.1 (Nat.le_of_ble_eq_true rfl) dX11_mean_48 ⟨Nat.le_of_ble_eq_true rfl, Nat.le_of_ble_eq_true rfl⟩ (fun H locs hH => ?_)
        refine lv_istore (lv' := [(4, .int z48), (3, .int z42), (2, .int z7), (0, .ref q_t), (1, .int x0)]) hx hb dX11_mean_51 hl (by decide) rfl (fun ls hl => ?_)
        refine lv_iload hx hb dX11_mean_53 (lv_at hl 0 rfl) ?_
        refine lv_if_ne (tgt := 60) hx hb dX11_mean_55 (by decide) (fun b55 => ?_) (fun b55 => ?_)
        · replace h := zif_f b55 h
          refine lv_iload_n hx hb dX11_mean_60 rfl (lv_at hl 4 rfl) ?_
          refine lv_if_ne (tgt := 68) hx hb dX11_mean_61 (by decide) (fun b61 => ?_) (fun b61 => ?_)
          · replace h := zif_f b61 h
            refine lv_iload_n hx hb dX11_mean_68 rfl (lv_at hl 2 rfl) ?_
            refine lv_iload hx hb dX11_mean_69 (lv_at hl 0 rfl) ?_
            obtain ⟨h71, h⟩ := zck_e h
            refine lv_idiv hx hb dX11_mean_71 (zne0_e h71) ?_
            cases h
            exact z_iret S hr hlocks hH dX11_mean_72
          · replace h := zif_t b61 h
            refine lv_iload_n hx hb dX11_mean_64 rfl (lv_at hl 1 rfl) ?_
            refine lv_goto (tgt := 69) hx hb dX11_mean_65 (by decide) ?_
            refine lv_iload hx hb dX11_mean_69 (lv_at hl 0 rfl) ?_
            obtain ⟨h71, h⟩ := zck_e h
            refine lv_idiv hx hb dX11_mean_71 (zne0_e h71) ?_
            cases h
            exact z_iret S hr hlocks hH dX11_mean_72
        · replace h := zif_t b55 h
          refine lv_iconst (v := 0) hx hb dX11_mean_58 (by decide) ?_
          cases h
          exact z_iret S hr hlocks hH dX11_mean_59
      · replace h := zif_f b21 h
        exact wB_X11_mean_24 S hr hlocks hF _ _ _ hH (lv_sub hl [] rfl) h

set_option maxHeartbeats 4000000 in
set_option maxRecDepth 100000 in
theorem xB_X11_wrong (l : Launch) (hlt : l.stackTraces = false) (G : va_G) (cy : Nat → ClassId) (E : Nat → Nat) (N : Nat) (q_t q_t_tape q_t_tokens q_t_here q_t_images q_t_history q_t_trial q_t_burghReader q_t_sentenceReader q_t_ledger q_t_watch q_t_dial q_t_here_burgh q_t_here_day q_t_here_sentence q_t_here_burgh_clockName q_t_here_burgh_clockCorner q_t_here_burgh_clockAhead q_t_here_burgh_clockGain q_t_here_burgh_masterName q_t_here_burgh_masterCorner q_t_here_burgh_masterLate q_t_here_burgh_masterClock q_t_here_burgh_masterMeets q_t_here_burgh_meetName q_t_here_burgh_meetDue q_t_here_day_ahead q_t_here_day_since q_t_here_day_stood q_t_here_day_due q_t_here_day_left q_t_here_day_came : Nat) (t_lastFault : Int32) (t_lastLateness : Int32) (t_here_kept : Int32) (t_here_burgh_clocks : Int32) (t_here_burgh_masters : Int32) (t_here_burgh_meets : Int32) (t_here_burgh_patience : Int32) (t_here_day_minute : Int32) (t_here_day_out : Int32) (t_here_day_stopped : Int32) (t_here_day_stood : Nat → Int32) (t_here_day_ahead : Nat → Int32) (t_here_burgh_clockGain : Nat → Int32) (t_here_day_since : Nat → Int32) (x0 : Int32) (h : f_X11_wrongT N x0 t_here_burgh_clocks t_here_day_minute t_here_day_stopped t_here_day_stood t_here_day_ahead t_here_burgh_clockGain t_here_day_since = some ()) : zMX l G cy E yX11_wrong wsX11_wrongB rm_X11_wrongT [.ref q_t, .int x0] (wd_X11_wrong cy q_t q_t_tape q_t_tokens q_t_here q_t_images q_t_history q_t_trial q_t_burghReader q_t_sentenceReader q_t_ledger q_t_watch q_t_dial q_t_here_burgh q_t_here_day q_t_here_sentence q_t_here_burgh_clockName q_t_here_burgh_clockCorner q_t_here_burgh_clockAhead q_t_here_burgh_clockGain q_t_here_burgh_masterName q_t_here_burgh_masterCorner q_t_here_burgh_masterLate q_t_here_burgh_masterClock q_t_here_burgh_masterMeets q_t_here_burgh_meetName q_t_here_burgh_meetDue q_t_here_day_ahead q_t_here_day_since q_t_here_day_stood q_t_here_day_due q_t_here_day_left q_t_here_day_came t_lastFault t_lastLateness t_here_kept t_here_burgh_clocks t_here_burgh_masters t_here_burgh_meets t_here_burgh_patience t_here_day_minute t_here_day_out t_here_day_stopped t_here_day_stood t_here_day_ahead t_here_burgh_clockGain t_here_day_since) := by
  refine z_bodyX (cc := cX11_wrong) (maxL := 2) (ret := some .int) (by decide) rfl (Nat.le_of_ble_eq_true rfl) ?_
  intro p e s m below meth c ls S hr hlocks hnm hF hcx hH hl
  have S : CallFix p m c cX11_wrong 2 s ([.ref q_t, .int x0] : List Value).toArray wsX11_wrongB RX11 := S
  obtain ⟨hx, hb, hml, hown, hts⟩ := id S
  have hl : lv_has ls 2 [(0, .ref q_t), (1, .int x0)] := hl
  rw [f_X11_wrongT] at h
  refine lv_aload_n hx hb dX11_wrong_0 rfl (lv_at hl 0 rfl) ?_
  refine lv_iload_n hx hb dX11_wrong_1 rfl (lv_at hl 1 rfl) ?_
  obtain ⟨z2, hz2, h⟩ := zcl_e h
  refine z_callV (As := [.int x0]) (rest := []) (st1 := [.int z2]) (ws' := (wd_X11_wrong cy q_t q_t_tape q_t_tokens q_t_here q_t_images q_t_history q_t_trial q_t_burghReader q_t_sentenceReader q_t_ledger q_t_watch q_t_dial q_t_here_burgh q_t_here_day q_t_here_sentence q_t_here_burgh_clockName q_t_here_burgh_clockCorner q_t_here_burgh_clockAhead q_t_here_burgh_clockGain q_t_here_burgh_masterName q_t_here_burgh_masterCorner q_t_here_burgh_masterLate q_t_here_burgh_masterClock q_t_here_burgh_masterMeets q_t_here_burgh_meetName q_t_here_burgh_meetDue q_t_here_day_ahead q_t_here_day_since q_t_here_day_stood q_t_here_day_due q_t_here_day_left q_t_here_day_came t_lastFault t_lastLateness t_here_kept t_here_burgh_clocks t_here_burgh_masters t_here_burgh_meets t_here_burgh_patience t_here_day_minute t_here_day_out t_here_day_stopped t_here_day_stood t_here_day_ahead t_here_burgh_clockGain t_here_day_since)) S hF hH (c_X11_isClock l G cy E N q_t q_t_tape q_t_tokens q_t_here q_t_images q_t_history q_t_trial q_t_burghReader q_t_sentenceReader q_t_ledger q_t_watch q_t_dial q_t_here_burgh q_t_here_day q_t_here_sentence q_t_here_burgh_clockName q_t_here_burgh_clockCorner q_t_here_burgh_clockAhead q_t_here_burgh_clockGain q_t_here_burgh_masterName q_t_here_burgh_masterCorner q_t_here_burgh_masterLate q_t_here_burgh_masterClock q_t_here_burgh_masterMeets q_t_here_burgh_meetName q_t_here_burgh_meetDue t_lastFault t_lastLateness t_here_kept t_here_burgh_clocks t_here_burgh_masters t_here_burgh_meets t_here_burgh_patience x0 z2 hz2) (cwV 1 hts gX11_wrongB_X11_isClock rfl rfl rfl (by decide +kernel) ⟨Nat.le_of_ble_eq_true rfl, Nat.le_of_ble_eq_true rfl⟩) 12 0 rfl rfl [0, 1, 2] rfl (by decide) rfl rfl rfl rfl rfl hl.1 (Nat.le_of_ble_eq_true rfl) dX11_wrong_2 ⟨Nat.le_of_ble_eq_true rfl, Nat.le_of_ble_eq_true rfl⟩ (fun H locs hH => ?_)
  refine lv_if_ne (tgt := 18) hx hb dX11_wrong_5 (by decide) (fun b5 => ?_) (fun b5 => ?_)
  · replace h := zif_f b5 h
    refine lv_aload_n hx hb dX11_wrong_18 rfl (lv_at hl 0 rfl) ?_
    refine z_get S hF hH iX11_wrongB_X11 0 rfl rfl 2 (by decide) (List.mem_of_getElem? (i := 3) rfl) rfl dX11_wrong_19 ?_
    refine z_get S hF hH iX11_wrongB_X10 1 rfl rfl 1 (by decide) (List.mem_of_getElem? (i := 4) rfl) rfl dX11_wrong_22 ?_
    refine lv_iload_n hx hb dX11_wrong_25 rfl (lv_at hl 1 rfl) ?_
    obtain ⟨z26, hz26, h⟩ := zcl_e h
    refine z_callV (As := [.int x0]) (rest := []) (st1 := [.int z26]) (ws' := (wd_X11_wrong cy q_t q_t_tape q_t_tokens q_t_here q_t_images q_t_history q_t_trial q_t_burghReader q_t_sentenceReader q_t_ledger q_t_watch q_t_dial q_t_here_burgh q_t_here_day q_t_here_sentence q_t_here_burgh_clockName q_t_here_burgh_clockCorner q_t_here_burgh_clockAhead q_t_here_burgh_clockGain q_t_here_burgh_masterName q_t_here_burgh_masterCorner q_t_here_burgh_masterLate q_t_here_burgh_masterClock q_t_here_burgh_masterMeets q_t_here_burgh_meetName q_t_here_burgh_meetDue q_t_here_day_ahead q_t_here_day_since q_t_here_day_stood q_t_here_day_due q_t_here_day_left q_t_here_day_came t_lastFault t_lastLateness t_here_kept t_here_burgh_clocks t_here_burgh_masters t_here_burgh_meets t_here_burgh_patience t_here_day_minute t_here_day_out t_here_day_stopped t_here_day_stood t_here_day_ahead t_here_burgh_clockGain t_here_day_since)) S hF hH (c_X3_wrongBy l G cy E N q_t_here_day q_t_here_burgh q_t_here_day_ahead q_t_here_day_since q_t_here_day_stood q_t_here_day_due q_t_here_day_left q_t_here_day_came q_t_here_burgh_clockName q_t_here_burgh_clockCorner q_t_here_burgh_clockAhead q_t_here_burgh_clockGain q_t_here_burgh_masterName q_t_here_burgh_masterCorner q_t_here_burgh_masterLate q_t_here_burgh_masterClock q_t_here_burgh_masterMeets q_t_here_burgh_meetName q_t_here_burgh_meetDue t_here_day_minute t_here_day_out t_here_day_stopped t_here_day_stood t_here_day_ahead t_here_burgh_clocks t_here_burgh_masters t_here_burgh_meets t_here_burgh_patience t_here_burgh_clockGain t_here_day_since x0 z26 hz26) (cwV 1 hts gX11_wrongB_X3_wrongBy rfl rfl rfl (by decide +kernel) ⟨Nat.le_of_ble_eq_true rfl, Nat.le_of_ble_eq_true rfl⟩) 4 0 rfl rfl [3, 4, 5, 2, 6, 7] rfl (by decide) rfl rfl rfl rfl rfl hl.1 (Nat.le_of_ble_eq_true rfl) dX11_wrong_26 ⟨Nat.le_of_ble_eq_true rfl, Nat.le_of_ble_eq_true rfl⟩ (fun H locs hH => ?_)
    cases h
  · replace h := zif_t b5 h
    clear h
    exact zy_zthrowS S hlt hF hH hcx.1 hcx.2 hlocks hl.1 (List.mem_of_getElem? (i := 1) rfl) (List.mem_of_getElem? (i := 2) rfl) (fun _ h9 => List.mem_cons_of_mem _ (List.mem_append_right _ h9)) (hF.2.1.2.2.2.2.2.1 3 _ rfl) dX11_wrong_8 dX11_wrong_11 dX11_wrong_12 dX11_wrong_14 dX11_wrong_17 (Nat.le_of_ble_eq_true rfl) (Nat.le_of_ble_eq_true rfl) (Nat.le_of_ble_eq_true rfl) (Nat.le_of_ble_eq_true rfl)
set_option maxHeartbeats 4000000 in
set_option maxRecDepth 100000 in
theorem wB_X11_masterT_18 {p : Program} {l : Launch} {e : Env} {s : State} {m : MethodId} {args : Array Value} {below : List Frame} {meth : Method} {c : Code} {G : va_G} {cy : Nat → ClassId} {E : Nat → Nat} {w0 : va_W} {N : Nat} {q_t q_t_tape q_t_tokens q_t_here q_t_images q_t_history q_t_trial q_t_burghReader q_t_sentenceReader q_t_ledger q_t_watch q_t_dial q_t_here_burgh q_t_here_day q_t_here_sentence q_t_here_burgh_clockName q_t_here_burgh_clockCorner q_t_here_burgh_clockAhead q_t_here_burgh_clockGain q_t_here_burgh_masterName q_t_here_burgh_masterCorner q_t_here_burgh_masterLate q_t_here_burgh_masterClock q_t_here_burgh_masterMeets q_t_here_burgh_meetName q_t_here_burgh_meetDue q_t_here_day_ahead q_t_here_day_since q_t_here_day_stood q_t_here_day_due q_t_here_day_left q_t_here_day_came : Nat} {t_lastFault : Int32} {t_lastLateness : Int32} {t_here_kept : Int32} {t_here_burgh_clocks : Int32} {t_here_burgh_masters : Int32} {t_here_burgh_meets : Int32} {t_here_burgh_patience : Int32} {t_here_burgh_masterCorner : Nat → Int32} {t_here_day_minute : Int32} {t_here_day_out : Int32} {t_here_day_stopped : Int32} {t_here_day_came : Nat → Int32} {t_here_day_left : Nat → Int32} {t_here_burgh_masterMeets : Nat → Int32} {t_here_burgh_masterClock : Nat → Int32} {t_here_burgh_masterLate : Nat → Int32} (S : CallFix p m c cX11_master 3 s args wsX11_masterB RX11) (hr : meth.sig.returnType = some .int) (hlocks : meth.locks = false) (hF : zF G cy E (va_A w0 s.heap.size) s) (hlt : l.stackTraces = false) (hcx : zxB s ∧ ∀ x ∈ c.exceptionTable.toList, False) :
    ∀ (H : Heap) (locs : List Loc) (ls : Array Slot), zH G (va_A w0 s.heap.size) s H locs (wd_X11_master cy q_t q_t_tape q_t_tokens q_t_here q_t_images q_t_history q_t_trial q_t_burghReader q_t_sentenceReader q_t_ledger q_t_watch q_t_dial q_t_here_burgh q_t_here_day q_t_here_sentence q_t_here_burgh_clockName q_t_here_burgh_clockCorner q_t_here_burgh_clockAhead q_t_here_burgh_clockGain q_t_here_burgh_masterName q_t_here_burgh_masterCorner q_t_here_burgh_masterLate q_t_here_burgh_masterClock q_t_here_burgh_masterMeets q_t_here_burgh_meetName q_t_here_burgh_meetDue q_t_here_day_ahead q_t_here_day_since q_t_here_day_stood q_t_here_day_due q_t_here_day_left q_t_here_day_came t_lastFault t_lastLateness t_here_kept t_here_burgh_clocks t_here_burgh_masters t_here_burgh_meets t_here_burgh_patience t_here_burgh_masterCorner t_here_day_minute t_here_day_out t_here_day_stopped t_here_day_came t_here_day_left t_here_burgh_masterMeets t_here_burgh_masterClock t_here_burgh_masterLate) → lv_has ls 3 [] → f_X11_masterT_18 N t_here_burgh_masters t_here_burgh_meets t_here_burgh_masterCorner t_here_day_out t_here_day_came t_here_day_left t_here_burgh_masterMeets t_here_burgh_masterClock t_here_burgh_masterLate = some () → W p l e rm_X11_masterT s m args below meth c H locs 0 0 (vx_MQ below (fun _ _ _ _ => False) (zXC G w0 (wd_X11_master cy q_t q_t_tape q_t_tokens q_t_here q_t_images q_t_history q_t_trial q_t_burghReader q_t_sentenceReader q_t_ledger q_t_watch q_t_dial q_t_here_burgh q_t_here_day q_t_here_sentence q_t_here_burgh_clockName q_t_here_burgh_clockCorner q_t_here_burgh_clockAhead q_t_here_burgh_clockGain q_t_here_burgh_masterName q_t_here_burgh_masterCorner q_t_here_burgh_masterLate q_t_here_burgh_masterClock q_t_here_burgh_masterMeets q_t_here_burgh_meetName q_t_here_burgh_meetDue q_t_here_day_ahead q_t_here_day_since q_t_here_day_stood q_t_here_day_due q_t_here_day_left q_t_here_day_came t_lastFault t_lastLateness t_here_kept t_here_burgh_clocks t_here_burgh_masters t_here_burgh_meets t_here_burgh_patience t_here_burgh_masterCorner t_here_day_minute t_here_day_out t_here_day_stopped t_here_day_came t_here_day_left t_here_burgh_masterMeets t_here_burgh_masterClock t_here_burgh_masterLate) s.heap.size) args s 1 6 (va_A w0 s.heap.size)) (F0 m 18 ls []) := by
  obtain ⟨hx, hb, hml, hown, hts⟩ := id S
  intro  H locs ls hH hl h
  rw [f_X11_masterT_18] at h
  clear h
  exact zy_zthrowS S hlt hF hH hcx.1 hcx.2 hlocks hl.1 (List.mem_of_getElem? (i := 1) rfl) (List.mem_of_getElem? (i := 2) rfl) (fun _ h9 => List.mem_cons_of_mem _ (List.mem_append_right _ h9)) (hF.2.1.2.2.2.2.2.1 4 _ rfl) dX11_master_18 dX11_master_21 dX11_master_22 dX11_master_24 dX11_master_27 (Nat.le_of_ble_eq_true rfl) (Nat.le_of_ble_eq_true rfl) (Nat.le_of_ble_eq_true rfl) (Nat.le_of_ble_eq_true rfl)
set_option maxHeartbeats 4000000 in
set_option maxRecDepth 100000 in
theorem xB_X11_master (l : Launch) (hlt : l.stackTraces = false) (G : va_G) (cy : Nat → ClassId) (E : Nat → Nat) (N : Nat) (q_t q_t_tape q_t_tokens q_t_here q_t_images q_t_history q_t_trial q_t_burghReader q_t_sentenceReader q_t_ledger q_t_watch q_t_dial q_t_here_burgh q_t_here_day q_t_here_sentence q_t_here_burgh_clockName q_t_here_burgh_clockCorner q_t_here_burgh_clockAhead q_t_here_burgh_clockGain q_t_here_burgh_masterName q_t_here_burgh_masterCorner q_t_here_burgh_masterLate q_t_here_burgh_masterClock q_t_here_burgh_masterMeets q_t_here_burgh_meetName q_t_here_burgh_meetDue q_t_here_day_ahead q_t_here_day_since q_t_here_day_stood q_t_here_day_due q_t_here_day_left q_t_here_day_came : Nat) (t_lastFault : Int32) (t_lastLateness : Int32) (t_here_kept : Int32) (t_here_burgh_clocks : Int32) (t_here_burgh_masters : Int32) (t_here_burgh_meets : Int32) (t_here_burgh_patience : Int32) (t_here_burgh_masterCorner : Nat → Int32) (t_here_day_minute : Int32) (t_here_day_out : Int32) (t_here_day_stopped : Int32) (t_here_day_came : Nat → Int32) (t_here_day_left : Nat → Int32) (t_here_burgh_masterMeets : Nat → Int32) (t_here_burgh_masterClock : Nat → Int32) (t_here_burgh_masterLate : Nat → Int32) (x0 : Int32) (x1 : Int32) (h : f_X11_masterT N x0 x1 t_here_burgh_masters t_here_burgh_meets t_here_burgh_masterCorner t_here_day_out t_here_day_came t_here_day_left t_here_burgh_masterMeets t_here_burgh_masterClock t_here_burgh_masterLate = some ()) : zMX l G cy E yX11_master wsX11_masterB rm_X11_masterT [.ref q_t, .int x0, .int x1] (wd_X11_master cy q_t q_t_tape q_t_tokens q_t_here q_t_images q_t_history q_t_trial q_t_burghReader q_t_sentenceReader q_t_ledger q_t_watch q_t_dial q_t_here_burgh q_t_here_day q_t_here_sentence q_t_here_burgh_clockName q_t_here_burgh_clockCorner q_t_here_burgh_clockAhead q_t_here_burgh_clockGain q_t_here_burgh_masterName q_t_here_burgh_masterCorner q_t_here_burgh_masterLate q_t_here_burgh_masterClock q_t_here_burgh_masterMeets q_t_here_burgh_meetName q_t_here_burgh_meetDue q_t_here_day_ahead q_t_here_day_since q_t_here_day_stood q_t_here_day_due q_t_here_day_left q_t_here_day_came t_lastFault t_lastLateness t_here_kept t_here_burgh_clocks t_here_burgh_masters t_here_burgh_meets t_here_burgh_patience t_here_burgh_masterCorner t_here_day_minute t_here_day_out t_here_day_stopped t_here_day_came t_here_day_left t_here_burgh_masterMeets t_here_burgh_masterClock t_here_burgh_masterLate) := by
  refine z_bodyX (cc := cX11_master) (maxL := 3) (ret := some .int) (by decide) rfl (Nat.le_of_ble_eq_true rfl) ?_
  intro p e s m below meth c ls S hr hlocks hnm hF hcx hH hl
  have S : CallFix p m c cX11_master 3 s ([.ref q_t, .int x0, .int x1] : List Value).toArray wsX11_masterB RX11 := S
  obtain ⟨hx, hb, hml, hown, hts⟩ := id S
  have hl : lv_has ls 3 [(0, .ref q_t), (1, .int x0), (2, .int x1)] := hl
  rw [f_X11_masterT] at h
  refine lv_aload_n hx hb dX11_master_0 rfl (lv_at hl 0 rfl) ?_
  refine lv_iload_n hx hb dX11_master_1 rfl (lv_at hl 1 rfl) ?_
  obtain ⟨z2, hz2, h⟩ := zcl_e h
  refine z_callV (As := [.int x0]) (rest := []) (st1 := [.int z2]) (ws' := (wd_X11_master cy q_t q_t_tape q_t_tokens q_t_here q_t_images q_t_history q_t_trial q_t_burghReader q_t_sentenceReader q_t_ledger q_t_watch q_t_dial q_t_here_burgh q_t_here_day q_t_here_sentence q_t_here_burgh_clockName q_t_here_burgh_clockCorner q_t_here_burgh_clockAhead q_t_here_burgh_clockGain q_t_here_burgh_masterName q_t_here_burgh_masterCorner q_t_here_burgh_masterLate q_t_here_burgh_masterClock q_t_here_burgh_masterMeets q_t_here_burgh_meetName q_t_here_burgh_meetDue q_t_here_day_ahead q_t_here_day_since q_t_here_day_stood q_t_here_day_due q_t_here_day_left q_t_here_day_came t_lastFault t_lastLateness t_here_kept t_here_burgh_clocks t_here_burgh_masters t_here_burgh_meets t_here_burgh_patience t_here_burgh_masterCorner t_here_day_minute t_here_day_out t_here_day_stopped t_here_day_came t_here_day_left t_here_burgh_masterMeets t_here_burgh_masterClock t_here_burgh_masterLate)) S hF hH (c_X11_isMaster l G cy E N q_t q_t_tape q_t_tokens q_t_here q_t_images q_t_history q_t_trial q_t_burghReader q_t_sentenceReader q_t_ledger q_t_watch q_t_dial q_t_here_burgh q_t_here_day q_t_here_sentence q_t_here_burgh_clockName q_t_here_burgh_clockCorner q_t_here_burgh_clockAhead q_t_here_burgh_clockGain q_t_here_burgh_masterName q_t_here_burgh_masterCorner q_t_here_burgh_masterLate q_t_here_burgh_masterClock q_t_here_burgh_masterMeets q_t_here_burgh_meetName q_t_here_burgh_meetDue t_lastFault t_lastLateness t_here_kept t_here_burgh_clocks t_here_burgh_masters t_here_burgh_meets t_here_burgh_patience x0 z2 hz2) (cwV 1 hts gX11_masterB_X11_isMaster rfl rfl rfl (by decide +kernel) ⟨Nat.le_of_ble_eq_true rfl, Nat.le_of_ble_eq_true rfl⟩) 12 0 rfl rfl [0, 1, 2] rfl (by decide +kernel) rfl (zput_pick 10 [.inr 0, .inr 1, .inr 2, .inl 3, .inl 4, .inl 5, .inl 6, .inl 7, .inl 8, .inl 9] (by decide +kernel) rfl rfl (by decide +kernel) rfl (by decide +kernel) rfl) rfl rfl rfl hl.1 (Nat.le_of_ble_eq_true rfl) dX11_master_2 ⟨Nat.le_of_ble_eq_true rfl, Nat.le_of_ble_eq_true rfl⟩ (fun H locs hH => ?_)
  refine lv_if_eq (tgt := 18) hx hb dX11_master_5 (by decide) (fun b5 => ?_) (fun b5 => ?_)
  · replace h := zif_t b5 h
    exact wB_X11_masterT_18 S hr hlocks hF hlt hcx _ _ _ hH (lv_sub hl [] rfl) h
  · replace h := zif_f b5 h
    refine lv_iload_n hx hb dX11_master_8 rfl (lv_at hl 2 rfl) ?_
    refine lv_if_lt (tgt := 18) hx hb dX11_master_9 (by decide) (fun b9 => ?_) (fun b9 => ?_)
    · replace h := zif_t b9 h
      exact wB_X11_masterT_18 S hr hlocks hF hlt hcx _ _ _ hH (lv_sub hl [] rfl) h
    · replace h := zif_f b9 h
      refine lv_iload_n hx hb dX11_master_12 rfl (lv_at hl 2 rfl) ?_
      refine lv_bipush (v := 6) hx hb dX11_master_13 (by decide) ?_
      refine lv_icmp_le (tgt := 28) hx hb dX11_master_15 (by decide) (fun b15 => ?_) (fun b15 => ?_)
      · replace h := zif_t b15 h
        refine lv_iload_n hx hb dX11_master_28 rfl (lv_at hl 2 rfl) ?_
        by_cases b29_0 : x1 = 0
        · replace h := zif_t b29_0 h
          refine lv_tableIn (tgt := 68) hx hb dX11_master_29 (by rw [b29_0]; decide) (by rw [b29_0]; decide) (by rw [b29_0]; rfl) (by decide) ?_
          refine lv_aload_n hx hb dX11_master_68 rfl (lv_at hl 0 rfl) ?_
          refine z_get S hF hH iX11_masterB_X11 0 rfl rfl 2 (by decide) (List.mem_of_getElem? (i := 3) rfl) rfl dX11_master_69 ?_
          refine z_get S hF hH iX11_masterB_X10 1 rfl rfl 0 (by decide) (List.mem_of_getElem? (i := 4) rfl) rfl dX11_master_72 ?_
          refine z_get S hF hH iX11_masterB_X1 2 rfl rfl 9 (by decide) (List.mem_of_getElem? (i := 5) rfl) rfl dX11_master_75 ?_
          refine lv_iload_n hx hb dX11_master_78 rfl (lv_at hl 1 rfl) ?_
          obtain ⟨h79, h⟩ := zck_e h
          refine z_iald S hF hH 3 rfl h79 rfl dX11_master_79 ?_
          cases h
        · replace h := zif_f b29_0 h
          by_cases b29_1 : x1 = 1
          · replace h := zif_t b29_1 h
            refine lv_tableIn (tgt := 81) hx hb dX11_master_29 (by rw [b29_1]; decide) (by rw [b29_1]; decide) (by rw [b29_1]; rfl) (by decide) ?_
            refine lv_aload_n hx hb dX11_master_81 rfl (lv_at hl 0 rfl) ?_
            refine z_get S hF hH iX11_masterB_X11 0 rfl rfl 2 (by decide) (List.mem_of_getElem? (i := 3) rfl) rfl dX11_master_82 ?_
            refine z_get S hF hH iX11_masterB_X10 1 rfl rfl 0 (by decide) (List.mem_of_getElem? (i := 4) rfl) rfl dX11_master_85 ?_
            refine z_get S hF hH iX11_masterB_X1 2 rfl rfl 10 (by decide) (List.mem_of_getElem? (i := 6) rfl) rfl dX11_master_88 ?_
            refine lv_iload_n hx hb dX11_master_91 rfl (lv_at hl 1 rfl) ?_
            obtain ⟨h92, h⟩ := zck_e h
            refine z_iald S hF hH 9 rfl h92 rfl dX11_master_92 ?_
            cases h
          · replace h := zif_f b29_1 h
            by_cases b29_2 : x1 = 2
            · replace h := zif_t b29_2 h
              refine lv_tableIn (tgt := 94) hx hb dX11_master_29 (by rw [b29_2]; decide) (by rw [b29_2]; decide) (by rw [b29_2]; rfl) (by decide) ?_
              refine lv_aload_n hx hb dX11_master_94 rfl (lv_at hl 0 rfl) ?_
              refine z_get S hF hH iX11_masterB_X11 0 rfl rfl 2 (by decide) (List.mem_of_getElem? (i := 3) rfl) rfl dX11_master_95 ?_
              refine z_get S hF hH iX11_masterB_X10 1 rfl rfl 0 (by decide) (List.mem_of_getElem? (i := 4) rfl) rfl dX11_master_98 ?_
              refine z_get S hF hH iX11_masterB_X1 2 rfl rfl 11 (by decide) (List.mem_of_getElem? (i := 7) rfl) rfl dX11_master_101 ?_
              refine lv_iload_n hx hb dX11_master_104 rfl (lv_at hl 1 rfl) ?_
              obtain ⟨h105, h⟩ := zck_e h
              refine z_iald S hF hH 8 rfl h105 rfl dX11_master_105 ?_
              cases h
            · replace h := zif_f b29_2 h
              by_cases b29_3 : x1 = 3
              · replace h := zif_t b29_3 h
                refine lv_tableIn (tgt := 107) hx hb dX11_master_29 (by rw [b29_3]; decide) (by rw [b29_3]; decide) (by rw [b29_3]; rfl) (by decide) ?_
                refine lv_aload_n hx hb dX11_master_107 rfl (lv_at hl 0 rfl) ?_
                refine z_get S hF hH iX11_masterB_X11 0 rfl rfl 2 (by decide) (List.mem_of_getElem? (i := 3) rfl) rfl dX11_master_108 ?_
                refine z_get S hF hH iX11_masterB_X10 1 rfl rfl 1 (by decide) (List.mem_of_getElem? (i := 8) rfl) rfl dX11_master_111 ?_
                refine lv_iload_n hx hb dX11_master_114 rfl (lv_at hl 1 rfl) ?_
                obtain ⟨z115, hz115, h⟩ := zcl_e h
                refine z_callV (As := [.int x0]) (rest := []) (st1 := [.int z115]) (ws' := (wd_X11_master cy q_t q_t_tape q_t_tokens q_t_here q_t_images q_t_history q_t_trial q_t_burghReader q_t_sentenceReader q_t_ledger q_t_watch q_t_dial q_t_here_burgh q_t_here_day q_t_here_sentence q_t_here_burgh_clockName q_t_here_burgh_clockCorner q_t_here_burgh_clockAhead q_t_here_burgh_clockGain q_t_here_burgh_masterName q_t_here_burgh_masterCorner q_t_here_burgh_masterLate q_t_here_burgh_masterClock q_t_here_burgh_masterMeets q_t_here_burgh_meetName q_t_here_burgh_meetDue q_t_here_day_ahead q_t_here_day_since q_t_here_day_stood q_t_here_day_due q_t_here_day_left q_t_here_day_came t_lastFault t_lastLateness t_here_kept t_here_burgh_clocks t_here_burgh_masters t_here_burgh_meets t_here_burgh_patience t_here_burgh_masterCorner t_here_day_minute t_here_day_out t_here_day_stopped t_here_day_came t_here_day_left t_here_burgh_masterMeets t_here_burgh_masterClock t_here_burgh_masterLate)) S hF hH (c_X3_isOut l G cy E N q_t_here_day q_t_here_burgh q_t_here_day_ahead q_t_here_day_since q_t_here_day_stood q_t_here_day_due q_t_here_day_left q_t_here_day_came t_here_day_minute t_here_day_out t_here_day_stopped x0 z115 hz115) (cwV 1 hts gX11_masterB_X3_isOut rfl rfl rfl (by decide +kernel) ⟨Nat.le_of_ble_eq_true rfl, Nat.le_of_ble_eq_true rfl⟩) 4 0 rfl rfl [4] rfl (by decide +kernel) rfl (zput_pick 10 [.inl 0, .inl 1, .inl 2, .inl 3, .inr 0, .inl 5, .inl 6, .inl 7, .inl 8, .inl 9] (by decide +kernel) rfl rfl (by decide +kernel) rfl (by decide +kernel) rfl) rfl rfl rfl hl.1 (Nat.le_of_ble_eq_true rfl) dX11_master_115 ⟨Nat.le_of_ble_eq_true rfl, Nat.le_of_ble_eq_true rfl⟩ (fun H locs hH => ?_)
                refine lv_if_eq (tgt := 125) hx hb dX11_master_118 (by decide) (fun b118 => ?_) (fun b118 => ?_)
                · replace h := zif_t b118 h
                  refine lv_iconst (v := 0) hx hb dX11_master_125 (by decide) ?_
                  cases h
                · replace h := zif_f b118 h
                  refine lv_iconst (v := 1) hx hb dX11_master_121 (by decide) ?_
                  refine lv_goto (tgt := 126) hx hb dX11_master_122 (by decide) ?_
                  cases h
              · replace h := zif_f b29_3 h
                by_cases b29_4 : x1 = 4
                · replace h := zif_t b29_4 h
                  refine lv_tableIn (tgt := 127) hx hb dX11_master_29 (by rw [b29_4]; decide) (by rw [b29_4]; decide) (by rw [b29_4]; rfl) (by decide) ?_
                  refine lv_aload_n hx hb dX11_master_127 rfl (lv_at hl 0 rfl) ?_
                  refine z_get S hF hH iX11_masterB_X11 0 rfl rfl 2 (by decide) (List.mem_of_getElem? (i := 3) rfl) rfl dX11_master_128 ?_
                  refine z_get S hF hH iX11_masterB_X10 1 rfl rfl 0 (by decide) (List.mem_of_getElem? (i := 4) rfl) rfl dX11_master_131 ?_
                  refine z_get S hF hH iX11_masterB_X1 2 rfl rfl 12 (by decide) (List.mem_of_getElem? (i := 9) rfl) rfl dX11_master_134 ?_
                  refine lv_iload_n hx hb dX11_master_137 rfl (lv_at hl 1 rfl) ?_
                  obtain ⟨h138, h⟩ := zck_e h
                  refine z_iald S hF hH 7 rfl h138 rfl dX11_master_138 ?_
                  cases h
                · replace h := zif_f b29_4 h
                  by_cases b29_5 : x1 = 5
                  · replace h := zif_t b29_5 h
                    refine lv_tableIn (tgt := 140) hx hb dX11_master_29 (by rw [b29_5]; decide) (by rw [b29_5]; decide) (by rw [b29_5]; rfl) (by decide) ?_
                    refine lv_aload_n hx hb dX11_master_140 rfl (lv_at hl 0 rfl) ?_
                    refine z_get S hF hH iX11_masterB_X11 0 rfl rfl 2 (by decide) (List.mem_of_getElem? (i := 3) rfl) rfl dX11_master_141 ?_
                    refine z_get S hF hH iX11_masterB_X10 1 rfl rfl 1 (by decide) (List.mem_of_getElem? (i := 8) rfl) rfl dX11_master_144 ?_
                    refine lv_aload_n hx hb dX11_master_147 rfl (lv_at hl 0 rfl) ?_
                    refine z_get S hF hH iX11_masterB_X11 0 rfl rfl 2 (by decide) (List.mem_of_getElem? (i := 3) rfl) rfl dX11_master_148 ?_
                    refine z_get S hF hH iX11_masterB_X10 1 rfl rfl 1 (by decide) (List.mem_of_getElem? (i := 8) rfl) rfl dX11_master_151 ?_
                    refine z_get S hF hH iX11_masterB_X3 4 rfl rfl 8 (by decide) (List.mem_of_getElem? (i := 10) rfl) rfl dX11_master_154 ?_
                    refine lv_iload_n hx hb dX11_master_157 rfl (lv_at hl 1 rfl) ?_
                    obtain ⟨z158, hz158, h⟩ := zcl_e h
                    refine z_callV (As := [.ref q_t_here_day_left, .int x0]) (rest := []) (st1 := [.int z158]) (ws' := (wd_X11_master cy q_t q_t_tape q_t_tokens q_t_here q_t_images q_t_history q_t_trial q_t_burghReader q_t_sentenceReader q_t_ledger q_t_watch q_t_dial q_t_here_burgh q_t_here_day q_t_here_sentence q_t_here_burgh_clockName q_t_here_burgh_clockCorner q_t_here_burgh_clockAhead q_t_here_burgh_clockGain q_t_here_burgh_masterName q_t_here_burgh_masterCorner q_t_here_burgh_masterLate q_t_here_burgh_masterClock q_t_here_burgh_masterMeets q_t_here_burgh_meetName q_t_here_burgh_meetDue q_t_here_day_ahead q_t_here_day_since q_t_here_day_stood q_t_here_day_due q_t_here_day_left q_t_here_day_came t_lastFault t_lastLateness t_here_kept t_here_burgh_clocks t_here_burgh_masters t_here_burgh_meets t_here_burgh_patience t_here_burgh_masterCorner t_here_day_minute t_here_day_out t_here_day_stopped t_here_day_came t_here_day_left t_here_burgh_masterMeets t_here_burgh_masterClock t_here_burgh_masterLate)) S hF hH (c_X3_meetsIn l G cy E N q_t_here_day q_t_here_day_left q_t_here_burgh q_t_here_day_ahead q_t_here_day_since q_t_here_day_stood q_t_here_day_due q_t_here_day_left q_t_here_day_came q_t_here_burgh_clockName q_t_here_burgh_clockCorner q_t_here_burgh_clockAhead q_t_here_burgh_clockGain q_t_here_burgh_masterName q_t_here_burgh_masterCorner q_t_here_burgh_masterLate q_t_here_burgh_masterClock q_t_here_burgh_masterMeets q_t_here_burgh_meetName q_t_here_burgh_meetDue t_here_day_minute t_here_day_out t_here_day_stopped t_here_burgh_clocks t_here_burgh_masters t_here_burgh_meets t_here_burgh_patience t_here_day_left x0 z158 hz158) (cwV 2 hts gX11_masterB_X3_meetsIn rfl rfl rfl (by decide +kernel) ⟨Nat.le_of_ble_eq_true rfl, Nat.le_of_ble_eq_true rfl⟩) 4 0 rfl rfl [4, 2, 6] rfl (by decide +kernel) rfl (zput_pick 10 [.inl 0, .inl 1, .inr 1, .inl 3, .inr 0, .inl 5, .inr 2, .inl 7, .inl 8, .inl 9] (by decide +kernel) rfl rfl (by decide +kernel) rfl (by decide +kernel) rfl) rfl rfl rfl hl.1 (Nat.le_of_ble_eq_true rfl) dX11_master_158 ⟨Nat.le_of_ble_eq_true rfl, Nat.le_of_ble_eq_true rfl⟩ (fun H locs hH => ?_)
                    cases h
                  · replace h := zif_f b29_5 h
                    refine lv_tableOut (tgt := 162) hx hb dX11_master_29 (z_sw (fun k h1 h2 => by rcases (show k = 0 ∨ k = 1 ∨ k = 2 ∨ k = 3 ∨ k = 4 ∨ k = 5 by omega) with rfl | rfl | rfl | rfl | rfl | rfl <;> assumption)) (by decide) ?_
                    refine lv_aload_n hx hb dX11_master_162 rfl (lv_at hl 0 rfl) ?_
                    refine z_get S hF hH iX11_masterB_X11 0 rfl rfl 2 (by decide) (List.mem_of_getElem? (i := 3) rfl) rfl dX11_master_163 ?_
                    refine z_get S hF hH iX11_masterB_X10 1 rfl rfl 1 (by decide) (List.mem_of_getElem? (i := 8) rfl) rfl dX11_master_166 ?_
                    refine lv_aload_n hx hb dX11_master_169 rfl (lv_at hl 0 rfl) ?_
                    refine z_get S hF hH iX11_masterB_X11 0 rfl rfl 2 (by decide) (List.mem_of_getElem? (i := 3) rfl) rfl dX11_master_170 ?_
                    refine z_get S hF hH iX11_masterB_X10 1 rfl rfl 1 (by decide) (List.mem_of_getElem? (i := 8) rfl) rfl dX11_master_173 ?_
                    refine z_get S hF hH iX11_masterB_X3 4 rfl rfl 9 (by decide) (List.mem_of_getElem? (i := 11) rfl) rfl dX11_master_176 ?_
                    refine lv_iload_n hx hb dX11_master_179 rfl (lv_at hl 1 rfl) ?_
                    obtain ⟨z180, hz180, h⟩ := zcl_e h
                    refine z_callV (As := [.ref q_t_here_day_came, .int x0]) (rest := []) (st1 := [.int z180]) (ws' := (wd_X11_master cy q_t q_t_tape q_t_tokens q_t_here q_t_images q_t_history q_t_trial q_t_burghReader q_t_sentenceReader q_t_ledger q_t_watch q_t_dial q_t_here_burgh q_t_here_day q_t_here_sentence q_t_here_burgh_clockName q_t_here_burgh_clockCorner q_t_here_burgh_clockAhead q_t_here_burgh_clockGain q_t_here_burgh_masterName q_t_here_burgh_masterCorner q_t_here_burgh_masterLate q_t_here_burgh_masterClock q_t_here_burgh_masterMeets q_t_here_burgh_meetName q_t_here_burgh_meetDue q_t_here_day_ahead q_t_here_day_since q_t_here_day_stood q_t_here_day_due q_t_here_day_left q_t_here_day_came t_lastFault t_lastLateness t_here_kept t_here_burgh_clocks t_here_burgh_masters t_here_burgh_meets t_here_burgh_patience t_here_burgh_masterCorner t_here_day_minute t_here_day_out t_here_day_stopped t_here_day_came t_here_day_left t_here_burgh_masterMeets t_here_burgh_masterClock t_here_burgh_masterLate)) S hF hH (c_X3_meetsIn l G cy E N q_t_here_day q_t_here_day_came q_t_here_burgh q_t_here_day_ahead q_t_here_day_since q_t_here_day_stood q_t_here_day_due q_t_here_day_left q_t_here_day_came q_t_here_burgh_clockName q_t_here_burgh_clockCorner q_t_here_burgh_clockAhead q_t_here_burgh_clockGain q_t_here_burgh_masterName q_t_here_burgh_masterCorner q_t_here_burgh_masterLate q_t_here_burgh_masterClock q_t_here_burgh_masterMeets q_t_here_burgh_meetName q_t_here_burgh_meetDue t_here_day_minute t_here_day_out t_here_day_stopped t_here_burgh_clocks t_here_burgh_masters t_here_burgh_meets t_here_burgh_patience t_here_day_came x0 z180 hz180) (cwV 2 hts gX11_masterB_X3_meetsIn rfl rfl rfl (by decide +kernel) ⟨Nat.le_of_ble_eq_true rfl, Nat.le_of_ble_eq_true rfl⟩) 4 0 rfl rfl [4, 2, 5] rfl (by decide +kernel) rfl (zput_pick 10 [.inl 0, .inl 1, .inr 1, .inl 3, .inr 0, .inr 2, .inl 6, .inl 7, .inl 8, .inl 9] (by decide +kernel) rfl rfl (by decide +kernel) rfl (by decide +kernel) rfl) rfl rfl rfl hl.1 (Nat.le_of_ble_eq_true rfl) dX11_master_180 ⟨Nat.le_of_ble_eq_true rfl, Nat.le_of_ble_eq_true rfl⟩ (fun H locs hH => ?_)
                    cases h
      · replace h := zif_f b15 h
        exact wB_X11_masterT_18 S hr hlocks hF hlt hcx _ _ _ hH (lv_sub hl [] rfl) h
set_option maxHeartbeats 4000000 in
set_option maxRecDepth 100000 in
theorem wB_X11_meanT_24 {p : Program} {l : Launch} {e : Env} {s : State} {m : MethodId} {args : Array Value} {below : List Frame} {meth : Method} {c : Code} {G : va_G} {cy : Nat → ClassId} {E : Nat → Nat} {w0 : va_W} {N : Nat} {q_t q_t_tape q_t_tokens q_t_here q_t_images q_t_history q_t_trial q_t_burghReader q_t_sentenceReader q_t_ledger q_t_watch q_t_dial q_t_here_burgh q_t_here_day q_t_here_sentence q_t_here_day_ahead q_t_here_day_since q_t_here_day_stood q_t_here_day_due q_t_here_day_left q_t_here_day_came q_t_here_burgh_clockName q_t_here_burgh_clockCorner q_t_here_burgh_clockAhead q_t_here_burgh_clockGain q_t_here_burgh_masterName q_t_here_burgh_masterCorner q_t_here_burgh_masterLate q_t_here_burgh_masterClock q_t_here_burgh_masterMeets q_t_here_burgh_meetName q_t_here_burgh_meetDue : Nat} {t_lastFault : Int32} {t_lastLateness : Int32} {t_here_kept : Int32} {t_here_day_minute : Int32} {t_here_day_out : Int32} {t_here_day_stopped : Int32} {t_here_burgh_clocks : Int32} {t_here_burgh_masters : Int32} {t_here_burgh_meets : Int32} {t_here_burgh_patience : Int32} {t_here_day_came : Nat → Int32} {t_here_day_due : Nat → Int32} (S : CallFix p m c cX11_mean 5 s args wsX11_meanB RX11) (hr : meth.sig.returnType = some .int) (hlocks : meth.locks = false) (hF : zF G cy E (va_A w0 s.heap.size) s) (hlt : l.stackTraces = false) (hcx : zxB s ∧ ∀ x ∈ c.exceptionTable.toList, False) :
    ∀ (H : Heap) (locs : List Loc) (ls : Array Slot), zH G (va_A w0 s.heap.size) s H locs (wd_X11_mean cy q_t q_t_tape q_t_tokens q_t_here q_t_images q_t_history q_t_trial q_t_burghReader q_t_sentenceReader q_t_ledger q_t_watch q_t_dial q_t_here_burgh q_t_here_day q_t_here_sentence q_t_here_day_ahead q_t_here_day_since q_t_here_day_stood q_t_here_day_due q_t_here_day_left q_t_here_day_came q_t_here_burgh_clockName q_t_here_burgh_clockCorner q_t_here_burgh_clockAhead q_t_here_burgh_clockGain q_t_here_burgh_masterName q_t_here_burgh_masterCorner q_t_here_burgh_masterLate q_t_here_burgh_masterClock q_t_here_burgh_masterMeets q_t_here_burgh_meetName q_t_here_burgh_meetDue t_lastFault t_lastLateness t_here_kept t_here_day_minute t_here_day_out t_here_day_stopped t_here_burgh_clocks t_here_burgh_masters t_here_burgh_meets t_here_burgh_patience t_here_day_came t_here_day_due) → lv_has ls 5 [] → f_X11_meanT_24 N t_here_burgh_masters t_here_burgh_meets t_here_day_came t_here_day_due = some () → W p l e rm_X11_meanT s m args below meth c H locs 0 0 (vx_MQ below (fun _ _ _ _ => False) (zXC G w0 (wd_X11_mean cy q_t q_t_tape q_t_tokens q_t_here q_t_images q_t_history q_t_trial q_t_burghReader q_t_sentenceReader q_t_ledger q_t_watch q_t_dial q_t_here_burgh q_t_here_day q_t_here_sentence q_t_here_day_ahead q_t_here_day_since q_t_here_day_stood q_t_here_day_due q_t_here_day_left q_t_here_day_came q_t_here_burgh_clockName q_t_here_burgh_clockCorner q_t_here_burgh_clockAhead q_t_here_burgh_clockGain q_t_here_burgh_masterName q_t_here_burgh_masterCorner q_t_here_burgh_masterLate q_t_here_burgh_masterClock q_t_here_burgh_masterMeets q_t_here_burgh_meetName q_t_here_burgh_meetDue t_lastFault t_lastLateness t_here_kept t_here_day_minute t_here_day_out t_here_day_stopped t_here_burgh_clocks t_here_burgh_masters t_here_burgh_meets t_here_burgh_patience t_here_day_came t_here_day_due) s.heap.size) args s 1 6 (va_A w0 s.heap.size)) (F0 m 24 ls []) := by
  obtain ⟨hx, hb, hml, hown, hts⟩ := id S
  intro  H locs ls hH hl h
  rw [f_X11_meanT_24] at h
  clear h
  exact zy_zthrowSW S hlt hF hH hcx.1 hcx.2 hlocks hl.1 (List.mem_of_getElem? (i := 1) rfl) (List.mem_of_getElem? (i := 2) rfl) (fun _ h9 => List.mem_cons_of_mem _ (List.mem_append_right _ h9)) (hF.2.1.2.2.2.2.2.1 5 _ rfl) dX11_mean_24 dX11_mean_27 dX11_mean_28 dX11_mean_31 dX11_mean_34 (Nat.le_of_ble_eq_true rfl) (Nat.le_of_ble_eq_true rfl) (Nat.le_of_ble_eq_true rfl) (Nat.le_of_ble_eq_true rfl)
set_option maxHeartbeats 4000000 in
set_option maxRecDepth 100000 in
theorem xB_X11_mean (l : Launch) (hlt : l.stackTraces = false) (G : va_G) (cy : Nat → ClassId) (E : Nat → Nat) (N : Nat) (q_t q_t_tape q_t_tokens q_t_here q_t_images q_t_history q_t_trial q_t_burghReader q_t_sentenceReader q_t_ledger q_t_watch q_t_dial q_t_here_burgh q_t_here_day q_t_here_sentence q_t_here_day_ahead q_t_here_day_since q_t_here_day_stood q_t_here_day_due q_t_here_day_left q_t_here_day_came q_t_here_burgh_clockName q_t_here_burgh_clockCorner q_t_here_burgh_clockAhead q_t_here_burgh_clockGain q_t_here_burgh_masterName q_t_here_burgh_masterCorner q_t_here_burgh_masterLate q_t_here_burgh_masterClock q_t_here_burgh_masterMeets q_t_here_burgh_meetName q_t_here_burgh_meetDue : Nat) (t_lastFault : Int32) (t_lastLateness : Int32) (t_here_kept : Int32) (t_here_day_minute : Int32) (t_here_day_out : Int32) (t_here_day_stopped : Int32) (t_here_burgh_clocks : Int32) (t_here_burgh_masters : Int32) (t_here_burgh_meets : Int32) (t_here_burgh_patience : Int32) (t_here_day_came : Nat → Int32) (t_here_day_due : Nat → Int32) (x0 : Int32) (h : f_X11_meanT N x0 t_here_burgh_masters t_here_burgh_meets t_here_day_came t_here_day_due = some ()) : zMX l G cy E yX11_mean wsX11_meanB rm_X11_meanT [.ref q_t, .int x0] (wd_X11_mean cy q_t q_t_tape q_t_tokens q_t_here q_t_images q_t_history q_t_trial q_t_burghReader q_t_sentenceReader q_t_ledger q_t_watch q_t_dial q_t_here_burgh q_t_here_day q_t_here_sentence q_t_here_day_ahead q_t_here_day_since q_t_here_day_stood q_t_here_day_due q_t_here_day_left q_t_here_day_came q_t_here_burgh_clockName q_t_here_burgh_clockCorner q_t_here_burgh_clockAhead q_t_here_burgh_clockGain q_t_here_burgh_masterName q_t_here_burgh_masterCorner q_t_here_burgh_masterLate q_t_here_burgh_masterClock q_t_here_burgh_masterMeets q_t_here_burgh_meetName q_t_here_burgh_meetDue t_lastFault t_lastLateness t_here_kept t_here_day_minute t_here_day_out t_here_day_stopped t_here_burgh_clocks t_here_burgh_masters t_here_burgh_meets t_here_burgh_patience t_here_day_came t_here_day_due) := by
  refine z_bodyX (cc := cX11_mean) (maxL := 5) (ret := some .int) (by decide) rfl (Nat.le_of_ble_eq_true rfl) ?_
  intro p e s m below meth c ls S hr hlocks hnm hF hcx hH hl
  have S : CallFix p m c cX11_mean 5 s ([.ref q_t, .int x0] : List Value).toArray wsX11_meanB RX11 := S
  obtain ⟨hx, hb, hml, hown, hts⟩ := id S
  have hl : lv_has ls 5 [(0, .ref q_t), (1, .int x0)] := hl
  rw [f_X11_meanT] at h
  refine lv_aload_n hx hb dX11_mean_0 rfl (lv_at hl 0 rfl) ?_
  refine z_get S hF hH iX11_meanB_X11 0 rfl rfl 2 (by decide) (List.mem_of_getElem? (i := 3) rfl) rfl dX11_mean_1 ?_
  refine z_get S hF hH iX11_meanB_X10 1 rfl rfl 1 (by decide) (List.mem_of_getElem? (i := 4) rfl) rfl dX11_mean_4 ?_
  obtain ⟨z7, hz7, h⟩ := zcl_e h
  refine z_callV (As := []) (rest := []) (st1 := [.int z7]) (ws' := (wd_X11_mean cy q_t q_t_tape q_t_tokens q_t_here q_t_images q_t_history q_t_trial q_t_burghReader q_t_sentenceReader q_t_ledger q_t_watch q_t_dial q_t_here_burgh q_t_here_day q_t_here_sentence q_t_here_day_ahead q_t_here_day_since q_t_here_day_stood q_t_here_day_due q_t_here_day_left q_t_here_day_came q_t_here_burgh_clockName q_t_here_burgh_clockCorner q_t_here_burgh_clockAhead q_t_here_burgh_clockGain q_t_here_burgh_masterName q_t_here_burgh_masterCorner q_t_here_burgh_masterLate q_t_here_burgh_masterClock q_t_here_burgh_masterMeets q_t_here_burgh_meetName q_t_here_burgh_meetDue t_lastFault t_lastLateness t_here_kept t_here_day_minute t_here_day_out t_here_day_stopped t_here_burgh_clocks t_here_burgh_masters t_here_burgh_meets t_here_burgh_patience t_here_day_came t_here_day_due)) S hF hH (c_X3_howOftenCame l G cy E N q_t_here_day q_t_here_burgh q_t_here_day_ahead q_t_here_day_since q_t_here_day_stood q_t_here_day_due q_t_here_day_left q_t_here_day_came q_t_here_burgh_clockName q_t_here_burgh_clockCorner q_t_here_burgh_clockAhead q_t_here_burgh_clockGain q_t_here_burgh_masterName q_t_here_burgh_masterCorner q_t_here_burgh_masterLate q_t_here_burgh_masterClock q_t_here_burgh_masterMeets q_t_here_burgh_meetName q_t_here_burgh_meetDue t_here_day_minute t_here_day_out t_here_day_stopped t_here_burgh_clocks t_here_burgh_masters t_here_burgh_meets t_here_burgh_patience t_here_day_came z7 hz7) (cwV 0 hts gX11_meanB_X3_howOftenCame rfl rfl rfl (by decide +kernel) ⟨Nat.le_of_ble_eq_true rfl, Nat.le_of_ble_eq_true rfl⟩) 4 0 rfl rfl [2, 3, 4] rfl (by decide) rfl rfl rfl rfl rfl hl.1 (Nat.le_of_ble_eq_true rfl) dX11_mean_7 ⟨Nat.le_of_ble_eq_true rfl, Nat.le_of_ble_eq_true rfl⟩ (fun H locs hH => ?_)
  refine lv_istore_n (lv' := [(2, .int z7), (0, .ref q_t), (1, .int x0)]) hx hb dX11_mean_10 rfl hl (by decide) rfl (fun ls hl => ?_)
  refine lv_iload_n hx hb dX11_mean_11 rfl (lv_at hl 0 rfl) ?_
  refine lv_if_eq (tgt := 24) hx hb dX11_mean_12 (by decide) (fun b12 => ?_) (fun b12 => ?_)
  · replace h := zif_t b12 h
    exact wB_X11_meanT_24 S hr hlocks hF hlt hcx _ _ _ hH (lv_sub hl [] rfl) h
  · replace h := zif_f b12 h
    refine lv_iload_n hx hb dX11_mean_15 rfl (lv_at hl 2 rfl) ?_
    refine lv_if_lt (tgt := 24) hx hb dX11_mean_16 (by decide) (fun b16 => ?_) (fun b16 => ?_)
    · replace h := zif_t b16 h
      exact wB_X11_meanT_24 S hr hlocks hF hlt hcx _ _ _ hH (lv_sub hl [] rfl) h
    · replace h := zif_f b16 h
      refine lv_iload_n hx hb dX11_mean_19 rfl (lv_at hl 2 rfl) ?_
      refine lv_iconst (v := 1) hx hb dX11_mean_20 (by decide) ?_
      refine lv_icmp_le (tgt := 35) hx hb dX11_mean_21 (by decide) (fun b21 => ?_) (fun b21 => ?_)
      · replace h := zif_t b21 h
        refine lv_aload_n hx hb dX11_mean_35 rfl (lv_at hl 1 rfl) ?_
        refine z_get S hF hH iX11_meanB_X11 0 rfl rfl 2 (by decide) (List.mem_of_getElem? (i := 3) rfl) rfl dX11_mean_36 ?_
        refine z_get S hF hH iX11_meanB_X10 1 rfl rfl 1 (by decide) (List.mem_of_getElem? (i := 4) rfl) rfl dX11_mean_39 ?_
        obtain ⟨z42, hz42, h⟩ := zcl_e h
        refine z_callV (As := []) (rest := []) (st1 := [.int z42]) (ws' := (wd_X11_mean cy q_t q_t_tape q_t_tokens q_t_here q_t_images q_t_history q_t_trial q_t_burghReader q_t_sentenceReader q_t_ledger q_t_watch q_t_dial q_t_here_burgh q_t_here_day q_t_here_sentence q_t_here_day_ahead q_t_here_day_since q_t_here_day_stood q_t_here_day_due q_t_here_day_left q_t_here_day_came q_t_here_burgh_clockName q_t_here_burgh_clockCorner q_t_here_burgh_clockAhead q_t_here_burgh_clockGain q_t_here_burgh_masterName q_t_here_burgh_masterCorner q_t_here_burgh_masterLate q_t_here_burgh_masterClock q_t_here_burgh_masterMeets q_t_here_burgh_meetName q_t_here_burgh_meetDue t_lastFault t_lastLateness t_here_kept t_here_day_minute t_here_day_out t_here_day_stopped t_here_burgh_clocks t_here_burgh_masters t_here_burgh_meets t_here_burgh_patience t_here_day_came t_here_day_due)) S hF hH (c_X3_minutesBehind l G cy E N q_t_here_day q_t_here_burgh q_t_here_day_ahead q_t_here_day_since q_t_here_day_stood q_t_here_day_due q_t_here_day_left q_t_here_day_came q_t_here_burgh_clockName q_t_here_burgh_clockCorner q_t_here_burgh_clockAhead q_t_here_burgh_clockGain q_t_here_burgh_masterName q_t_here_burgh_masterCorner q_t_here_burgh_masterLate q_t_here_burgh_masterClock q_t_here_burgh_masterMeets q_t_here_burgh_meetName q_t_here_burgh_meetDue t_here_day_minute t_here_day_out t_here_day_stopped t_here_burgh_clocks t_here_burgh_masters t_here_burgh_meets t_here_burgh_patience t_here_day_came t_here_day_due z42 hz42) (cwV 0 hts gX11_meanB_X3_minutesBehind rfl rfl rfl (by decide +kernel) ⟨Nat.le_of_ble_eq_true rfl, Nat.le_of_ble_eq_true rfl⟩) 4 0 rfl rfl [2, 3, 4, 5] rfl (by decide) rfl rfl rfl rfl rfl hl.1 (Nat.le_of_ble_eq_true rfl) dX11_mean_42 ⟨Nat.le_of_ble_eq_true rfl, Nat.le_of_ble_eq_true rfl⟩ (fun H locs hH => ?_)
        refine lv_istore_n (lv' := [(3, .int z42), (2, .int z7), (0, .ref q_t), (1, .int x0)]) hx hb dX11_mean_45 rfl hl (by decide) rfl (fun ls hl => ?_)
        refine lv_iload_n hx hb dX11_mean_46 rfl (lv_at hl 1 rfl) ?_
        refine lv_iload_n hx hb dX11_mean_47 rfl (lv_at hl 0 rfl) ?_
        obtain ⟨z48, hz48, h⟩ := zcl_e h
        refine z_callS (As := [.int z7, .int z42]) (rest := []) (st1 := [.int z48]) (ws' := (wd_X11_mean cy q_t q_t_tape q_t_tokens q_t_here q_t_images q_t_history q_t_trial q_t_burghReader q_t_sentenceReader q_t_ledger q_t_watch q_t_dial q_t_here_burgh q_t_here_day q_t_here_sentence q_t_here_day_ahead q_t_here_day_since q_t_here_day_stood q_t_here_day_due q_t_here_day_left q_t_here_day_came q_t_here_burgh_clockName q_t_here_burgh_clockCorner q_t_here_burgh_clockAhead q_t_here_burgh_clockGain q_t_here_burgh_masterName q_t_here_burgh_masterCorner q_t_here_burgh_masterLate q_t_here_burgh_masterClock q_t_here_burgh_masterMeets q_t_here_burgh_meetName q_t_here_burgh_meetDue t_lastFault t_lastLateness t_here_kept t_here_day_minute t_here_day_out t_here_day_stopped t_here_burgh_clocks t_here_burgh_masters t_here_burgh_meets t_here_burgh_patience t_here_day_came t_here_day_due)) S hF hH (c_X11_greatestCommon l G cy E N z7 z42 z48 hz48) (cwS 2 hts gX11_meanB_X11_greatestCommon rfl rfl rfl (by decide +kernel) ⟨Nat.le_of_ble_eq_true rfl, Nat.le_of_ble_eq_true rfl⟩) [] rfl (by decide) rfl rfl rfl rfl rfl hl.1 (Nat.le_of_ble_eq_true rfl) dX11_mean_48 ⟨Nat.le_of_ble_eq_true rfl, Nat.le_of_ble_eq_true rfl⟩ (fun H locs hH => ?_)
        refine lv_istore (lv' := [(4, .int z48), (3, .int z42), (2, .int z7), (0, .ref q_t), (1, .int x0)]) hx hb dX11_mean_51 hl (by decide) rfl (fun ls hl => ?_)
        refine lv_iload hx hb dX11_mean_53 (lv_at hl 0 rfl) ?_
        refine lv_if_ne (tgt := 60) hx hb dX11_mean_55 (by decide) (fun b55 => ?_) (fun b55 => ?_)
        · replace h := zif_f b55 h
          refine lv_iload_n hx hb dX11_mean_60 rfl (lv_at hl 4 rfl) ?_
          refine lv_if_ne (tgt := 68) hx hb dX11_mean_61 (by decide) (fun b61 => ?_) (fun b61 => ?_)
          · replace h := zif_f b61 h
            refine lv_iload_n hx hb dX11_mean_68 rfl (lv_at hl 2 rfl) ?_
            refine lv_iload hx hb dX11_mean_69 (lv_at hl 0 rfl) ?_
            obtain ⟨h71, h⟩ := zck_e h
            refine lv_idiv hx hb dX11_mean_71 (zne0_e h71) ?_
            cases h
          · replace h := zif_t b61 h
            refine lv_iload_n hx hb dX11_mean_64 rfl (lv_at hl 1 rfl) ?_
            refine lv_goto (tgt := 69) hx hb dX11_mean_65 (by decide) ?_
            refine lv_iload hx hb dX11_mean_69 (lv_at hl 0 rfl) ?_
            obtain ⟨h71, h⟩ := zck_e h
            refine lv_idiv hx hb dX11_mean_71 (zne0_e h71) ?_
            cases h
        · replace h := zif_t b55 h
          refine lv_iconst (v := 0) hx hb dX11_mean_58 (by decide) ?_
          cases h
      · replace h := zif_f b21 h
        exact wB_X11_meanT_24 S hr hlocks hF hlt hcx _ _ _ hH (lv_sub hl [] rfl) h

set_option maxHeartbeats 4000000 in
set_option maxRecDepth 100000 in
theorem cB_L_wrong (l : Launch) (G : va_G) (cy : Nat → ClassId) (E : Nat → Nat) (wc : va_W) (q_t q_o : Nat) (fs : List Value) (x r : Int32) (f : Nat → Int64) (hrec : wc[0]? = some (q_t, .inr (12, fs))) (hM : zM l G cy E yX11_wrong wsX11_wrongB rm_X11_wrong (.ref q_t :: [.int x]) wc wc (some (.int r)) 0 0) : zMc l G cy E yL_wrong wsL_wrongB rm_L [.ref q_t, .int x, .ref q_o] ((q_o, .inl (cy 2, 1, .inr (.inl f))) :: wc) ((q_o, .inl (cy 2, 1, .inr (.inl (vp_updL f 0 r.toInt64)))) :: wc) (some (.int 0)) 1 6 := by
  refine z_bodyH (cc := cL_wrong) (maxL := 4) (ret := some .int) (hh := [(0, 9, 12, 13)]) (by decide) rfl (Nat.le_of_ble_eq_true rfl) ?_
  intro p e s m below meth c ls S hr hlocks hc1 htab hF hH hl
  have S : CallFix p m c cL_wrong 4 s ([.ref q_t, .int x, .ref q_o] : List Value).toArray wsL_wrongB RL := S
  obtain ⟨hx, hb, hml, hown, hts⟩ := id S
  have hl : lv_has ls 4 [(0, .ref q_t), (1, .int x), (2, .ref q_o)] := hl
  refine lv_aload_n hx hb dL_wrong_0 rfl (lv_at hl 2 rfl) ?_
  refine lv_iconst (v := 0) hx hb dL_wrong_1 (by decide) ?_
  refine lv_aload_n hx hb dL_wrong_2 rfl (lv_at hl 0 rfl) ?_
  refine lv_iload_n hx hb dL_wrong_3 rfl (lv_at hl 1 rfl) ?_
  refine z_calleV [(q_o, .inl (cy 2, 1, .inr (.inl f)))] (As := [.int x]) (rest := [.int 0, .ref q_o]) (st1 := [.int r, .int 0, .ref q_o]) S hF hH hM (cwV 1 hts gL_wrongB_X11_wrongB rfl rfl rfl (by decide +kernel) ⟨Nat.le_of_ble_eq_true rfl, Nat.le_of_ble_eq_true rfl⟩) 12 0 rfl hrec rfl rfl rfl hl.1 (Nat.le_of_ble_eq_true rfl) dL_wrong_4 ⟨Nat.le_of_ble_eq_true rfl, Nat.le_of_ble_eq_true rfl⟩ (fun H locs hH => ?_)
  have hH : zH G (va_A ((q_o, .inl (cy 2, 1, .inr (.inl f))) :: wc) s.heap.size) s H locs ((q_o, .inl (cy 2, 1, .inr (.inl f))) :: wc) := hH
  refine lv_i2l (v := r.toInt64) hx hb dL_wrong_7 rfl ?_
  refine z_last (ws' := ((q_o, .inl (cy 2, 1, .inr (.inl (vp_updL f 0 r.toInt64)))) :: wc)) (j := 0) S hF hH 0 rfl (by decide) rfl rfl dL_wrong_8 (fun H locs hH => ?_)
  refine lv_goto (tgt := 15) hx hb dL_wrong_9 (by decide) ?_
  refine lv_iconst (v := 0) hx hb dL_wrong_15 (by decide) ?_
  refine W.widen (k := 1) (n := 6) (Nat.le_of_ble_eq_true rfl) (Nat.le_of_ble_eq_true rfl) ?_
  exact z_iret S hr hlocks hH dL_wrong_16
set_option maxHeartbeats 4000000 in
set_option maxRecDepth 100000 in
theorem xB_L_wrong (l : Launch) (G : va_G) (cy : Nat → ClassId) (E : Nat → Nat) (wc : va_W) (q_t q_o : Nat) (fs : List Value) (x r : Int32) (f : Nat → Int64) (hrec : wc[0]? = some (q_t, .inr (12, fs))) (hM : zMX l G cy E yX11_wrong wsX11_wrongB rm_X11_wrongT (.ref q_t :: [.int x]) wc) : zMc l G cy E yL_wrong wsL_wrongB rm_L [.ref q_t, .int x, .ref q_o] ((q_o, .inl (cy 2, 1, .inr (.inl f))) :: wc) ((q_o, .inl (cy 2, 1, .inr (.inl f))) :: wc) (some (.int 1)) 1 6 := by
  refine z_bodyH (cc := cL_wrong) (maxL := 4) (ret := some .int) (hh := [(0, 9, 12, 13)]) (by decide) rfl (Nat.le_of_ble_eq_true rfl) ?_
  intro p e s m below meth c ls S hr hlocks hc1 htab hF hH hl
  have S : CallFix p m c cL_wrong 4 s ([.ref q_t, .int x, .ref q_o] : List Value).toArray wsL_wrongB RL := S
  obtain ⟨hx, hb, hml, hown, hts⟩ := id S
  have hl : lv_has ls 4 [(0, .ref q_t), (1, .int x), (2, .ref q_o)] := hl
  refine lv_aload_n hx hb dL_wrong_0 rfl (lv_at hl 2 rfl) ?_
  refine lv_iconst (v := 0) hx hb dL_wrong_1 (by decide) ?_
  refine lv_aload_n hx hb dL_wrong_2 rfl (lv_at hl 0 rfl) ?_
  refine lv_iload_n hx hb dL_wrong_3 rfl (lv_at hl 1 rfl) ?_
  refine z_calleVX [(q_o, .inl (cy 2, 1, .inr (.inl f)))] (As := [.int x]) (rest := [.int 0, .ref q_o]) S hF hc1 hH hM (cwV 1 hts gL_wrongB_X11_wrongB rfl rfl rfl (by decide +kernel) ⟨Nat.le_of_ble_eq_true rfl, Nat.le_of_ble_eq_true rfl⟩) 12 0 rfl hrec rfl rfl hl.1 (Nat.le_of_ble_eq_true rfl) dL_wrong_4 ⟨Nat.le_of_ble_eq_true rfl, Nat.le_of_ble_eq_true rfl⟩ (fun q ce H locs hH g1 g2 g3 => ?_)
  have hH : zH G (va_A ((q_o, .inl (cy 2, 1, .inr (.inl f))) :: wc) s.heap.size) s H locs ((q_o, .inl (cy 2, 1, .inr (.inl f))) :: wc) := hH
  refine vx_catch (own := RL) (name := zxN) (E := zxN) hown [] ⟨0, 9, 12, 13⟩ [] htab (fun z hz => nomatch hz) (by decide) (by decide) (hts _ (List.mem_of_getElem? (i := 1) rfl)) (va_Nw.use rfl hc1.1) g1 g2 g3 ?_
  refine lv_astore_n (lv' := [(3, .ref q), (0, .ref q_t), (1, .int x), (2, .ref q_o)]) hx hb dL_wrong_12 rfl hl (by decide) rfl (fun ls hl => ?_)
  refine lv_iconst (v := 1) hx hb dL_wrong_13 (by decide) ?_
  exact z_iret S hr hlocks hH dL_wrong_14
set_option maxHeartbeats 4000000 in
set_option maxRecDepth 100000 in
theorem cB_L_master (l : Launch) (G : va_G) (cy : Nat → ClassId) (E : Nat → Nat) (wc : va_W) (q_t q_o : Nat) (fs : List Value) (x y r : Int32) (f : Nat → Int64) (hrec : wc[0]? = some (q_t, .inr (12, fs))) (hM : zM l G cy E yX11_master wsX11_masterB rm_X11_master (.ref q_t :: [.int x, .int y]) wc wc (some (.int r)) 0 0) : zMc l G cy E yL_master wsL_masterB rm_L [.ref q_t, .int x, .int y, .ref q_o] ((q_o, .inl (cy 2, 1, .inr (.inl f))) :: wc) ((q_o, .inl (cy 2, 1, .inr (.inl (vp_updL f 0 r.toInt64)))) :: wc) (some (.int 0)) 1 6 := by
  refine z_bodyH (cc := cL_master) (maxL := 5) (ret := some .int) (hh := [(0, 10, 13, 13)]) (by decide) rfl (Nat.le_of_ble_eq_true rfl) ?_
  intro p e s m below meth c ls S hr hlocks hc1 htab hF hH hl
  have S : CallFix p m c cL_master 5 s ([.ref q_t, .int x, .int y, .ref q_o] : List Value).toArray wsL_masterB RL := S
  obtain ⟨hx, hb, hml, hown, hts⟩ := id S
  have hl : lv_has ls 5 [(0, .ref q_t), (1, .int x), (2, .int y), (3, .ref q_o)] := hl
  refine lv_aload_n hx hb dL_master_0 rfl (lv_at hl 3 rfl) ?_
  refine lv_iconst (v := 0) hx hb dL_master_1 (by decide) ?_
  refine lv_aload_n hx hb dL_master_2 rfl (lv_at hl 0 rfl) ?_
  refine lv_iload_n hx hb dL_master_3 rfl (lv_at hl 1 rfl) ?_
  refine lv_iload_n hx hb dL_master_4 rfl (lv_at hl 2 rfl) ?_
  refine z_calleV [(q_o, .inl (cy 2, 1, .inr (.inl f)))] (As := [.int x, .int y]) (rest := [.int 0, .ref q_o]) (st1 := [.int r, .int 0, .ref q_o]) S hF hH hM (cwV 2 hts gL_masterB_X11_masterB rfl rfl rfl (by decide +kernel) ⟨Nat.le_of_ble_eq_true rfl, Nat.le_of_ble_eq_true rfl⟩) 12 0 rfl hrec rfl rfl rfl hl.1 (Nat.le_of_ble_eq_true rfl) dL_master_5 ⟨Nat.le_of_ble_eq_true rfl, Nat.le_of_ble_eq_true rfl⟩ (fun H locs hH => ?_)
  have hH : zH G (va_A ((q_o, .inl (cy 2, 1, .inr (.inl f))) :: wc) s.heap.size) s H locs ((q_o, .inl (cy 2, 1, .inr (.inl f))) :: wc) := hH
  refine lv_i2l (v := r.toInt64) hx hb dL_master_8 rfl ?_
  refine z_last (ws' := ((q_o, .inl (cy 2, 1, .inr (.inl (vp_updL f 0 r.toInt64)))) :: wc)) (j := 0) S hF hH 0 rfl (by decide) rfl rfl dL_master_9 (fun H locs hH => ?_)
  refine lv_goto (tgt := 17) hx hb dL_master_10 (by decide) ?_
  refine lv_iconst (v := 0) hx hb dL_master_17 (by decide) ?_
  refine W.widen (k := 1) (n := 6) (Nat.le_of_ble_eq_true rfl) (Nat.le_of_ble_eq_true rfl) ?_
  exact z_iret S hr hlocks hH dL_master_18
set_option maxHeartbeats 4000000 in
set_option maxRecDepth 100000 in
theorem xB_L_master (l : Launch) (G : va_G) (cy : Nat → ClassId) (E : Nat → Nat) (wc : va_W) (q_t q_o : Nat) (fs : List Value) (x y r : Int32) (f : Nat → Int64) (hrec : wc[0]? = some (q_t, .inr (12, fs))) (hM : zMX l G cy E yX11_master wsX11_masterB rm_X11_masterT (.ref q_t :: [.int x, .int y]) wc) : zMc l G cy E yL_master wsL_masterB rm_L [.ref q_t, .int x, .int y, .ref q_o] ((q_o, .inl (cy 2, 1, .inr (.inl f))) :: wc) ((q_o, .inl (cy 2, 1, .inr (.inl f))) :: wc) (some (.int 1)) 1 6 := by
  refine z_bodyH (cc := cL_master) (maxL := 5) (ret := some .int) (hh := [(0, 10, 13, 13)]) (by decide) rfl (Nat.le_of_ble_eq_true rfl) ?_
  intro p e s m below meth c ls S hr hlocks hc1 htab hF hH hl
  have S : CallFix p m c cL_master 5 s ([.ref q_t, .int x, .int y, .ref q_o] : List Value).toArray wsL_masterB RL := S
  obtain ⟨hx, hb, hml, hown, hts⟩ := id S
  have hl : lv_has ls 5 [(0, .ref q_t), (1, .int x), (2, .int y), (3, .ref q_o)] := hl
  refine lv_aload_n hx hb dL_master_0 rfl (lv_at hl 3 rfl) ?_
  refine lv_iconst (v := 0) hx hb dL_master_1 (by decide) ?_
  refine lv_aload_n hx hb dL_master_2 rfl (lv_at hl 0 rfl) ?_
  refine lv_iload_n hx hb dL_master_3 rfl (lv_at hl 1 rfl) ?_
  refine lv_iload_n hx hb dL_master_4 rfl (lv_at hl 2 rfl) ?_
  refine z_calleVX [(q_o, .inl (cy 2, 1, .inr (.inl f)))] (As := [.int x, .int y]) (rest := [.int 0, .ref q_o]) S hF hc1 hH hM (cwV 2 hts gL_masterB_X11_masterB rfl rfl rfl (by decide +kernel) ⟨Nat.le_of_ble_eq_true rfl, Nat.le_of_ble_eq_true rfl⟩) 12 0 rfl hrec rfl rfl hl.1 (Nat.le_of_ble_eq_true rfl) dL_master_5 ⟨Nat.le_of_ble_eq_true rfl, Nat.le_of_ble_eq_true rfl⟩ (fun q ce H locs hH g1 g2 g3 => ?_)
  have hH : zH G (va_A ((q_o, .inl (cy 2, 1, .inr (.inl f))) :: wc) s.heap.size) s H locs ((q_o, .inl (cy 2, 1, .inr (.inl f))) :: wc) := hH
  refine vx_catch (own := RL) (name := zxN) (E := zxN) hown [] ⟨0, 10, 13, 13⟩ [] htab (fun z hz => nomatch hz) (by decide) (by decide) (hts _ (List.mem_of_getElem? (i := 1) rfl)) (va_Nw.use rfl hc1.1) g1 g2 g3 ?_
  refine lv_astore (lv' := [(4, .ref q), (0, .ref q_t), (1, .int x), (2, .int y), (3, .ref q_o)]) hx hb dL_master_13 hl (by decide) rfl (fun ls hl => ?_)
  refine lv_iconst (v := 1) hx hb dL_master_15 (by decide) ?_
  exact z_iret S hr hlocks hH dL_master_16
set_option maxHeartbeats 4000000 in
set_option maxRecDepth 100000 in
theorem cB_L_mean (l : Launch) (G : va_G) (cy : Nat → ClassId) (E : Nat → Nat) (wc : va_W) (q_t q_o : Nat) (fs : List Value) (x r : Int32) (f : Nat → Int64) (hrec : wc[0]? = some (q_t, .inr (12, fs))) (hM : zM l G cy E yX11_mean wsX11_meanB rm_X11_mean (.ref q_t :: [.int x]) wc wc (some (.int r)) 0 0) : zMc l G cy E yL_mean wsL_meanB rm_L [.ref q_t, .int x, .ref q_o] ((q_o, .inl (cy 2, 1, .inr (.inl f))) :: wc) ((q_o, .inl (cy 2, 1, .inr (.inl (vp_updL f 0 r.toInt64)))) :: wc) (some (.int 0)) 1 6 := by
  refine z_bodyH (cc := cL_mean) (maxL := 4) (ret := some .int) (hh := [(0, 9, 12, 13)]) (by decide) rfl (Nat.le_of_ble_eq_true rfl) ?_
  intro p e s m below meth c ls S hr hlocks hc1 htab hF hH hl
  have S : CallFix p m c cL_mean 4 s ([.ref q_t, .int x, .ref q_o] : List Value).toArray wsL_meanB RL := S
  obtain ⟨hx, hb, hml, hown, hts⟩ := id S
  have hl : lv_has ls 4 [(0, .ref q_t), (1, .int x), (2, .ref q_o)] := hl
  refine lv_aload_n hx hb dL_mean_0 rfl (lv_at hl 2 rfl) ?_
  refine lv_iconst (v := 0) hx hb dL_mean_1 (by decide) ?_
  refine lv_aload_n hx hb dL_mean_2 rfl (lv_at hl 0 rfl) ?_
  refine lv_iload_n hx hb dL_mean_3 rfl (lv_at hl 1 rfl) ?_
  refine z_calleV [(q_o, .inl (cy 2, 1, .inr (.inl f)))] (As := [.int x]) (rest := [.int 0, .ref q_o]) (st1 := [.int r, .int 0, .ref q_o]) S hF hH hM (cwV 1 hts gL_meanB_X11_meanB rfl rfl rfl (by decide +kernel) ⟨Nat.le_of_ble_eq_true rfl, Nat.le_of_ble_eq_true rfl⟩) 12 0 rfl hrec rfl rfl rfl hl.1 (Nat.le_of_ble_eq_true rfl) dL_mean_4 ⟨Nat.le_of_ble_eq_true rfl, Nat.le_of_ble_eq_true rfl⟩ (fun H locs hH => ?_)
  have hH : zH G (va_A ((q_o, .inl (cy 2, 1, .inr (.inl f))) :: wc) s.heap.size) s H locs ((q_o, .inl (cy 2, 1, .inr (.inl f))) :: wc) := hH
  refine lv_i2l (v := r.toInt64) hx hb dL_mean_7 rfl ?_
  refine z_last (ws' := ((q_o, .inl (cy 2, 1, .inr (.inl (vp_updL f 0 r.toInt64)))) :: wc)) (j := 0) S hF hH 0 rfl (by decide) rfl rfl dL_mean_8 (fun H locs hH => ?_)
  refine lv_goto (tgt := 15) hx hb dL_mean_9 (by decide) ?_
  refine lv_iconst (v := 0) hx hb dL_mean_15 (by decide) ?_
  refine W.widen (k := 1) (n := 6) (Nat.le_of_ble_eq_true rfl) (Nat.le_of_ble_eq_true rfl) ?_
  exact z_iret S hr hlocks hH dL_mean_16
set_option maxHeartbeats 4000000 in
set_option maxRecDepth 100000 in
theorem xB_L_mean (l : Launch) (G : va_G) (cy : Nat → ClassId) (E : Nat → Nat) (wc : va_W) (q_t q_o : Nat) (fs : List Value) (x r : Int32) (f : Nat → Int64) (hrec : wc[0]? = some (q_t, .inr (12, fs))) (hM : zMX l G cy E yX11_mean wsX11_meanB rm_X11_meanT (.ref q_t :: [.int x]) wc) : zMc l G cy E yL_mean wsL_meanB rm_L [.ref q_t, .int x, .ref q_o] ((q_o, .inl (cy 2, 1, .inr (.inl f))) :: wc) ((q_o, .inl (cy 2, 1, .inr (.inl f))) :: wc) (some (.int 1)) 1 6 := by
  refine z_bodyH (cc := cL_mean) (maxL := 4) (ret := some .int) (hh := [(0, 9, 12, 13)]) (by decide) rfl (Nat.le_of_ble_eq_true rfl) ?_
  intro p e s m below meth c ls S hr hlocks hc1 htab hF hH hl
  have S : CallFix p m c cL_mean 4 s ([.ref q_t, .int x, .ref q_o] : List Value).toArray wsL_meanB RL := S
  obtain ⟨hx, hb, hml, hown, hts⟩ := id S
  have hl : lv_has ls 4 [(0, .ref q_t), (1, .int x), (2, .ref q_o)] := hl
  refine lv_aload_n hx hb dL_mean_0 rfl (lv_at hl 2 rfl) ?_
  refine lv_iconst (v := 0) hx hb dL_mean_1 (by decide) ?_
  refine lv_aload_n hx hb dL_mean_2 rfl (lv_at hl 0 rfl) ?_
  refine lv_iload_n hx hb dL_mean_3 rfl (lv_at hl 1 rfl) ?_
  refine z_calleVX [(q_o, .inl (cy 2, 1, .inr (.inl f)))] (As := [.int x]) (rest := [.int 0, .ref q_o]) S hF hc1 hH hM (cwV 1 hts gL_meanB_X11_meanB rfl rfl rfl (by decide +kernel) ⟨Nat.le_of_ble_eq_true rfl, Nat.le_of_ble_eq_true rfl⟩) 12 0 rfl hrec rfl rfl hl.1 (Nat.le_of_ble_eq_true rfl) dL_mean_4 ⟨Nat.le_of_ble_eq_true rfl, Nat.le_of_ble_eq_true rfl⟩ (fun q ce H locs hH g1 g2 g3 => ?_)
  have hH : zH G (va_A ((q_o, .inl (cy 2, 1, .inr (.inl f))) :: wc) s.heap.size) s H locs ((q_o, .inl (cy 2, 1, .inr (.inl f))) :: wc) := hH
  refine vx_catch (own := RL) (name := zxN) (E := zxN) hown [] ⟨0, 9, 12, 13⟩ [] htab (fun z hz => nomatch hz) (by decide) (by decide) (hts _ (List.mem_of_getElem? (i := 1) rfl)) (va_Nw.use rfl hc1.1) g1 g2 g3 ?_
  refine lv_astore_n (lv' := [(3, .ref q), (0, .ref q_t), (1, .int x), (2, .ref q_o)]) hx hb dL_mean_12 rfl hl (by decide) rfl (fun ls hl => ?_)
  refine lv_iconst (v := 1) hx hb dL_mean_13 (by decide) ?_
  exact z_iret S hr hlocks hH dL_mean_14

