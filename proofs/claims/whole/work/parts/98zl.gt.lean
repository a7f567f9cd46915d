/-! ===== the reference's text is face's alone ===== -/
theorem gt_feed (N : Nat) (x0 : Int32) (x1 : Int32) (x2 : Int32) (x3 : Int32) (x4 : Int32) (k k' : RS) (v : Int32) (h : G_feed N x0 x1 x2 x3 x4 k = some (v, k')) : k'.textMany = k.textMany ∧ k'.text = k.text := by
  unfold G_feed at h
  obtain ⟨z, hz, h⟩ := zcl_e h
  cases h
  exact ⟨rfl, rfl⟩
theorem gt_end (N : Nat) (x0 : Int32) (k k' : RS) (v : Int32) (h : G_end N x0 k = some (v, k')) : k'.textMany = k.textMany ∧ k'.text = k.text := by
  unfold G_end at h
  obtain ⟨z, hz, h⟩ := zcl_e h
  cases h
  exact ⟨rfl, rfl⟩
theorem gt_burgh (N : Nat) (k k' : RS) (v : Int32) (h : G_burgh N k = some (v, k')) : k'.textMany = k.textMany ∧ k'.text = k.text := by
  unfold G_burgh at h
  obtain ⟨z, hz, h⟩ := zcl_e h
  cases h
  exact ⟨rfl, rfl⟩
theorem gt_fault (N : Nat) (k k' : RS) (v : Int32) (h : G_fault N k = some (v, k')) : k'.textMany = k.textMany ∧ k'.text = k.text := by
  unfold G_fault at h
  obtain ⟨z, hz, h⟩ := zcl_e h
  cases h
  exact ⟨rfl, rfl⟩
theorem gt_clock (N : Nat) (x0 : Int32) (x1 : Int32) (k k' : RS) (v : Int32) (h : G_clock N x0 x1 k = some (v, k')) : k'.textMany = k.textMany ∧ k'.text = k.text := by
  unfold G_clock at h
  obtain ⟨z, hz, h⟩ := zcl_e h
  cases h
  exact ⟨rfl, rfl⟩
theorem gt_meet (N : Nat) (x0 : Int32) (x1 : Int32) (k k' : RS) (v : Int32) (h : G_meet N x0 x1 k = some (v, k')) : k'.textMany = k.textMany ∧ k'.text = k.text := by
  unfold G_meet at h
  obtain ⟨z, hz, h⟩ := zcl_e h
  cases h
  exact ⟨rfl, rfl⟩
theorem gt_now (N : Nat) (x0 : Int32) (k k' : RS) (v : Int32) (h : G_now N x0 k = some (v, k')) : k'.textMany = k.textMany ∧ k'.text = k.text := by
  unfold G_now at h
  obtain ⟨z, hz, h⟩ := zcl_e h
  cases h
  exact ⟨rfl, rfl⟩
theorem gt_set (N : Nat) (x0 : Int32) (x1 : Int32) (k k' : RS) (v : Int32) (h : G_set N x0 x1 k = some (v, k')) : k'.textMany = k.textMany ∧ k'.text = k.text := by
  unfold G_set at h
  obtain ⟨z, hz, h⟩ := zcl_e h
  cases h
  exact ⟨rfl, rfl⟩
theorem gt_stop (N : Nat) (x0 : Int32) (k k' : RS) (v : Int32) (h : G_stop N x0 k = some (v, k')) : k'.textMany = k.textMany ∧ k'.text = k.text := by
  unfold G_stop at h
  obtain ⟨z, hz, h⟩ := zcl_e h
  cases h
  exact ⟨rfl, rfl⟩
theorem gt_start (N : Nat) (x0 : Int32) (k k' : RS) (v : Int32) (h : G_start N x0 k = some (v, k')) : k'.textMany = k.textMany ∧ k'.text = k.text := by
  unfold G_start at h
  obtain ⟨z, hz, h⟩ := zcl_e h
  cases h
  exact ⟨rfl, rfl⟩
theorem gt_move (N : Nat) (x0 : Int32) (x1 : Int32) (k k' : RS) (v : Int32) (h : G_move N x0 x1 k = some (v, k')) : k'.textMany = k.textMany ∧ k'.text = k.text := by
  unfold G_move at h
  obtain ⟨z, hz, h⟩ := zcl_e h
  cases h
  exact ⟨rfl, rfl⟩
theorem gt_minutes (N : Nat) (x0 : Int32) (k k' : RS) (v : Int32) (h : G_minutes N x0 k = some (v, k')) : k'.textMany = k.textMany ∧ k'.text = k.text := by
  unfold G_minutes at h
  obtain ⟨z, hz, h⟩ := zcl_e h
  cases h
  exact ⟨rfl, rfl⟩
theorem gt_undo (N : Nat) (k k' : RS) (v : Int32) (h : G_undo N k = some (v, k')) : k'.textMany = k.textMany ∧ k'.text = k.text := by
  unfold G_undo at h
  obtain ⟨z, hz, h⟩ := zcl_e h
  cases h
  exact ⟨rfl, rfl⟩
theorem gt_comes (N : Nat) (x0 : Int32) (x1 : Int32) (k k' : RS) (v : Int32) (h : G_comes N x0 x1 k = some (v, k')) : k'.textMany = k.textMany ∧ k'.text = k.text := by
  unfold G_comes at h
  obtain ⟨z, hz, h⟩ := zcl_e h
  cases h
  exact ⟨rfl, rfl⟩
theorem gt_all (N : Nat) (x0 : Int32) (k k' : RS) (v : Int32) (h : G_all N x0 k = some (v, k')) : k'.textMany = k.textMany ∧ k'.text = k.text := by
  unfold G_all at h
  obtain ⟨z, hz, h⟩ := zcl_e h
  cases h
  exact ⟨rfl, rfl⟩
theorem gt_missed (N : Nat) (x0 : Int32) (k k' : RS) (v : Int32) (h : G_missed N x0 k = some (v, k')) : k'.textMany = k.textMany ∧ k'.text = k.text := by
  unfold G_missed at h
  obtain ⟨z, hz, h⟩ := zcl_e h
  cases h
  exact ⟨rfl, rfl⟩
theorem gt_caught (N : Nat) (x0 : Int32) (k k' : RS) (v : Int32) (h : G_caught N x0 k = some (v, k')) : k'.textMany = k.textMany ∧ k'.text = k.text := by
  unfold G_caught at h
  obtain ⟨z, hz, h⟩ := zcl_e h
  cases h
  exact ⟨rfl, rfl⟩
theorem gt_plan (N : Nat) (x0 : Int32) (x1 : Int32) (k k' : RS) (v : Int32) (h : G_plan N x0 x1 k = some (v, k')) : k'.textMany = k.textMany ∧ k'.text = k.text := by
  unfold G_plan at h
  obtain ⟨z, hz, h⟩ := zcl_e h
  cases h
  exact ⟨rfl, rfl⟩
theorem gt_time (N : Nat) (k k' : RS) (v : Int32) (h : G_time N k = some (v, k')) : k'.textMany = k.textMany ∧ k'.text = k.text := by
  unfold G_time at h
  obtain ⟨z, hz, h⟩ := zcl_e h
  cases h
  exact ⟨rfl, rfl⟩
theorem gt_timeFirst (N : Nat) (k k' : RS) (v : Int32) (h : G_timeFirst N k = some (v, k')) : k'.textMany = k.textMany ∧ k'.text = k.text := by
  unfold G_timeFirst at h
  obtain ⟨z, hz, h⟩ := zcl_e h
  cases h
  exact ⟨rfl, rfl⟩
theorem gt_look (N : Nat) (k k' : RS) (v : Int32) (h : G_look N k = some (v, k')) : k'.textMany = k.textMany ∧ k'.text = k.text := by
  unfold G_look at h
  obtain ⟨z, hz, h⟩ := zcl_e h
  cases h
  exact ⟨rfl, rfl⟩
theorem gt_alike (N : Nat) (k k' : RS) (v : Int32) (h : G_alike N k = some (v, k')) : k'.textMany = k.textMany ∧ k'.text = k.text := by
  unfold G_alike at h
  obtain ⟨z, hz, h⟩ := zcl_e h
  cases h
  exact ⟨rfl, rfl⟩
theorem gt_tend (N : Nat) (x0 : Int32) (x1 : Int32) (k k' : RS) (v : Int32) (h : G_tend N x0 x1 k = some (v, k')) : k'.textMany = k.textMany ∧ k'.text = k.text := by
  unfold G_tend at h
  obtain ⟨z, hz, h⟩ := zcl_e h
  cases h
  exact ⟨rfl, rfl⟩
theorem gt_worst (N : Nat) (k k' : RS) (v : Int32) (h : G_worst N k = some (v, k')) : k'.textMany = k.textMany ∧ k'.text = k.text := by
  unfold G_worst at h
  obtain ⟨z, hz, h⟩ := zcl_e h
  cases h
  exact ⟨rfl, rfl⟩
theorem gt_latest (N : Nat) (k k' : RS) (v : Int32) (h : G_latest N k = some (v, k')) : k'.textMany = k.textMany ∧ k'.text = k.text := by
  unfold G_latest at h
  obtain ⟨z, hz, h⟩ := zcl_e h
  cases h
  exact ⟨rfl, rfl⟩
theorem gt_latestBy (N : Nat) (k k' : RS) (v : Int32) (h : G_latestBy N k = some (v, k')) : k'.textMany = k.textMany ∧ k'.text = k.text := by
  unfold G_latestBy at h
  obtain ⟨z, hz, h⟩ := zcl_e h
  cases h
  exact ⟨rfl, rfl⟩
theorem gt_drawn (N : Nat) (x0 : Int32) (x1 : Int32) (k k' : RS) (v : Int32) (h : G_drawn N x0 x1 k = some (v, k')) : k'.textMany = k.textMany ∧ k'.text = k.text := by
  unfold G_drawn at h
  obtain ⟨z, hz, h⟩ := zcl_e h
  cases h
  exact ⟨rfl, rfl⟩
theorem gt_odds (N : Nat) (x0 : Int32) (x1 : Int32) (x2 : Int32) (k k' : RS) (v : Int32) (h : G_odds N x0 x1 x2 k = some (v, k')) : k'.textMany = k.textMany ∧ k'.text = k.text := by
  unfold G_odds at h
  obtain ⟨z, hz, h⟩ := zcl_e h
  cases h
  exact ⟨rfl, rfl⟩
theorem gt_book (N : Nat) (x0 : Int32) (k k' : RS) (v : Int32) (h : G_book N x0 k = some (v, k')) : k'.textMany = k.textMany ∧ k'.text = k.text := by
  unfold G_book at h
  obtain ⟨z, hz, h⟩ := zcl_e h
  cases h
  exact ⟨rfl, rfl⟩
theorem gt_told (N : Nat) (x0 : Int32) (k k' : RS) (v : Int32) (h : G_told N x0 k = some (v, k')) : k'.textMany = k.textMany ∧ k'.text = k.text := by
  unfold G_told at h
  obtain ⟨z, hz, h⟩ := zcl_e h
  cases h
  exact ⟨rfl, rfl⟩
theorem gt_sentence (N : Nat) (k k' : RS) (v : Int32) (h : G_sentence N k = some (v, k')) : k'.textMany = k.textMany ∧ k'.text = k.text := by
  unfold G_sentence at h
  obtain ⟨z, hz, h⟩ := zcl_e h
  cases h
  exact ⟨rfl, rfl⟩
theorem gt_said (N : Nat) (x0 : Int32) (k k' : RS) (v : Int32) (h : G_said N x0 k = some (v, k')) : k'.textMany = k.textMany ∧ k'.text = k.text := by
  unfold G_said at h
  obtain ⟨z, hz, h⟩ := zcl_e h
  cases h
  exact ⟨rfl, rfl⟩
theorem gt_image (N : Nat) (x0 : Int32) (k k' : RS) (v : Int32) (h : G_image N x0 k = some (v, k')) : k'.textMany = k.textMany ∧ k'.text = k.text := by
  unfold G_image at h
  obtain ⟨z, hz, h⟩ := zcl_e h
  cases h
  exact ⟨rfl, rfl⟩
theorem gt_restore (N : Nat) (x0 : Int32) (k k' : RS) (v : Int32) (h : G_restore N x0 k = some (v, k')) : k'.textMany = k.textMany ∧ k'.text = k.text := by
  unfold G_restore at h
  obtain ⟨z, hz, h⟩ := zcl_e h
  cases h
  exact ⟨rfl, rfl⟩
theorem gt_count (N : Nat) (x0 : Int32) (k k' : RS) (v : Int32) (h : G_count N x0 k = some (v, k')) : k'.textMany = k.textMany ∧ k'.text = k.text := by
  unfold G_count at h
  obtain ⟨z, hz, h⟩ := zcl_e h
  cases h
  exact ⟨rfl, rfl⟩
theorem gt_wrong (N : Nat) (x0 : Int32) (k k' : RS) (v : Int32) (h : G_wrong N x0 k = some (v, k')) : k'.textMany = k.textMany ∧ k'.text = k.text := by
  unfold G_wrong at h
  obtain ⟨z, hz, h⟩ := zcl_e h
  cases h
  exact ⟨rfl, rfl⟩
theorem gt_master (N : Nat) (x0 : Int32) (x1 : Int32) (k k' : RS) (v : Int32) (h : G_master N x0 x1 k = some (v, k')) : k'.textMany = k.textMany ∧ k'.text = k.text := by
  unfold G_master at h
  obtain ⟨z, hz, h⟩ := zcl_e h
  cases h
  exact ⟨rfl, rfl⟩
theorem gt_mean (N : Nat) (x0 : Int32) (k k' : RS) (v : Int32) (h : G_mean N x0 k = some (v, k')) : k'.textMany = k.textMany ∧ k'.text = k.text := by
  unfold G_mean at h
  obtain ⟨z, hz, h⟩ := zcl_e h
  cases h
  exact ⟨rfl, rfl⟩
theorem gt_byteAt (N : Nat) (x0 : Int32) (k k' : RS) (v : Int32) (h : G_byteAt N x0 k = some (v, k')) : k'.textMany = k.textMany ∧ k'.text = k.text := by
  unfold G_byteAt at h
  obtain ⟨z, hz, h⟩ := zcl_e h
  cases h
  exact ⟨rfl, rfl⟩
theorem gt_thrown (N : Nat) (k k' : RS) (v : Int32) (h : G_thrown N k = some (v, k')) : k'.textMany = k.textMany ∧ k'.text = k.text := by
  unfold G_thrown at h
  obtain ⟨z, hz, h⟩ := zcl_e h
  cases h
  exact ⟨rfl, rfl⟩
