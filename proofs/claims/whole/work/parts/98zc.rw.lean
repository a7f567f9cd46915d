/-! ===== the reference's cells, as one list; what its methods do to it ===== -/
def RW (cy : Nat → ClassId) (q : Nat → Nat) (k : RS) : va_W := [((q 0), .inr (13, [.int k.thrown, .ref (q 1), .int k.length, .int k.size, .int k.p, .int k.limit, .ref (q 2), .ref (q 3), .ref (q 4), .ref (q 5), .ref (q 6), .int k.token, .int k.tokAt, .int k.span, .int k.number, .int k.fault, .int k.faultAt, .long k.word, .int k.got, .int k.lines, .int k.hasWait, .ref (q 7), .ref (q 8), .int k.undoMany, .ref (q 9), .int k.firstMinute, .int k.lookClock, .int k.hasTime, .ref (q 10), .int k.latestMost, .ref (q 11), .int k.textMany, .int k.seed, .int k.toldMany, .ref (q 12), .int k.hasTold, .ref (q 13), .int k.codes, .int k.ones, .int k.top, .int k.deep, .int k.isWhole, .ref (q 14), .ref (q 15), .ref (q 16), .ref (q 17)])), ((q 1), .inl (cy 0, 940, .inl k.tape)), ((q 2), .inl (cy 1, 334, .inl k.s)), ((q 3), .inl (cy 1, 52, .inl k.h)), ((q 4), .inl (cy 1, 135, .inl k.read)), ((q 5), .inl (cy 2, 36, .inr (.inl k.names))), ((q 6), .inl (cy 2, 26, .inr (.inl k.reserved))), ((q 7), .inl (cy 1, 808, .inl k.undone)), ((q 8), .inl (cy 1, 101, .inl k.before)), ((q 9), .inl (cy 1, 6, .inl k.comeRow)), ((q 10), .inl (cy 1, 720, .inl k.shown)), ((q 11), .inl (cy 0, 40, .inl k.text)), ((q 12), .inl (cy 1, 4, .inl k.toldAt)), ((q 13), .inl (cy 1, 45, .inl k.stack)), ((q 14), .inl (cy 3, 45, .inl k.truths)), ((q 15), .inl (cy 1, 668, .inl k.imaged)), ((q 16), .inl (cy 2, 36, .inr (.inl k.namesKept))), ((q 17), .inl (cy 3, 2, .inl k.areKept))]
set_option maxHeartbeats 4000000 in
set_option maxRecDepth 100000 in
theorem rM_thrown (l : Launch) (G : va_G) (cy : Nat → ClassId) (E : Nat → Nat) (N : Nat) (q : Nat → Nat) (k k' : RS) (v : Int32) (h : G_thrown N k = some (v, k')) : KM l G cy E yX12_thrown wsX12_thrown rm_X12_thrown [] v (RW cy q k) (RW cy q k') (q 0) 13 := by
  unfold G_thrown at h
  obtain ⟨z, hz, h⟩ := zcl_e h
  cases h
  exact ⟨_, _, [0], _, c_X12_thrown l G cy E N (q 0) (q 1) (q 2) (q 3) (q 4) (q 5) (q 6) (q 7) (q 8) (q 9) (q 10) (q 11) (q 12) (q 13) (q 14) (q 15) (q 16) (q 17) k.thrown k.length k.size k.p k.limit k.token k.tokAt k.span k.number k.fault k.faultAt k.word k.got k.lines k.hasWait k.undoMany k.firstMinute k.lookClock k.hasTime k.latestMost k.textMany k.seed k.toldMany k.hasTold k.codes k.ones k.top k.deep k.isWhole v hz, by decide +kernel, rfl, rfl, [true, false, false, false, false, false, false, false, false, false, false, false, false, false, false, false, false, false], by decide +kernel, (zf_t (zf_f (zf_f (zf_f (zf_f (zf_f (zf_f (zf_f (zf_f (zf_f (zf_f (zf_f (zf_f (zf_f (zf_f (zf_f (zf_f (zf_f zf_n)))))))))))))))))), rfl, rfl⟩
set_option maxHeartbeats 4000000 in
set_option maxRecDepth 100000 in
theorem rM_feed (l : Launch) (G : va_G) (cy : Nat → ClassId) (E : Nat → Nat) (N : Nat) (q : Nat → Nat) (x0 : Int32) (x1 : Int32) (x2 : Int32) (x3 : Int32) (x4 : Int32) (k k' : RS) (v : Int32) (h : G_feed N x0 x1 x2 x3 x4 k = some (v, k')) : KM l G cy E yX12_feed wsX12_feed rm_X12_feed [.int x0, .int x1, .int x2, .int x3, .int x4] v (RW cy q k) (RW cy q k') (q 0) 13 := by
  unfold G_feed at h
  obtain ⟨z, hz, h⟩ := zcl_e h
  cases h
  exact ⟨_, _, [0, 1], _, c_X12_feed l G cy E N (q 0) (q 1) (q 2) (q 3) (q 4) (q 5) (q 6) (q 7) (q 8) (q 9) (q 10) (q 11) (q 12) (q 13) (q 14) (q 15) (q 16) (q 17) k.thrown k.length k.size k.p k.limit k.token k.tokAt k.span k.number k.fault k.faultAt k.word k.got k.lines k.hasWait k.undoMany k.firstMinute k.lookClock k.hasTime k.latestMost k.textMany k.seed k.toldMany k.hasTold k.codes k.ones k.top k.deep k.isWhole k.tape x0 x1 x2 x3 x4 z.1 z.2.1 z.2.2.1 z.2.2.2 hz, by decide +kernel, rfl, rfl, [true, true, false, false, false, false, false, false, false, false, false, false, false, false, false, false, false, false], by decide +kernel, (zf_t (zf_t (zf_f (zf_f (zf_f (zf_f (zf_f (zf_f (zf_f (zf_f (zf_f (zf_f (zf_f (zf_f (zf_f (zf_f (zf_f (zf_f zf_n)))))))))))))))))), rfl, rfl⟩
set_option maxHeartbeats 4000000 in
set_option maxRecDepth 100000 in
theorem rM_end (l : Launch) (G : va_G) (cy : Nat → ClassId) (E : Nat → Nat) (N : Nat) (q : Nat → Nat) (x0 : Int32) (k k' : RS) (v : Int32) (h : G_end N x0 k = some (v, k')) : KM l G cy E yX12_end wsX12_end rm_X12_end [.int x0] v (RW cy q k) (RW cy q k') (q 0) 13 := by
  unfold G_end at h
  obtain ⟨z, hz, h⟩ := zcl_e h
  cases h
  exact ⟨_, _, [0], _, c_X12_end l G cy E N (q 0) (q 1) (q 2) (q 3) (q 4) (q 5) (q 6) (q 7) (q 8) (q 9) (q 10) (q 11) (q 12) (q 13) (q 14) (q 15) (q 16) (q 17) k.thrown k.length k.size k.p k.limit k.token k.tokAt k.span k.number k.fault k.faultAt k.word k.got k.lines k.hasWait k.undoMany k.firstMinute k.lookClock k.hasTime k.latestMost k.textMany k.seed k.toldMany k.hasTold k.codes k.ones k.top k.deep k.isWhole x0 z.1 z.2.1 z.2.2 hz, by decide +kernel, rfl, rfl, [true, false, false, false, false, false, false, false, false, false, false, false, false, false, false, false, false, false], by decide +kernel, (zf_t (zf_f (zf_f (zf_f (zf_f (zf_f (zf_f (zf_f (zf_f (zf_f (zf_f (zf_f (zf_f (zf_f (zf_f (zf_f (zf_f (zf_f zf_n)))))))))))))))))), rfl, rfl⟩
set_option maxHeartbeats 4000000 in
set_option maxRecDepth 100000 in
theorem rM_burgh (l : Launch) (G : va_G) (cy : Nat → ClassId) (E : Nat → Nat) (N : Nat) (q : Nat → Nat) (k k' : RS) (v : Int32) (h : G_burgh N k = some (v, k')) : KM l G cy E yX12_burgh wsX12_burgh rm_X12_burgh [] v (RW cy q k) (RW cy q k') (q 0) 13 := by
  unfold G_burgh at h
  obtain ⟨z, hz, h⟩ := zcl_e h
  cases h
  exact ⟨_, _, [0, 3, 1, 6, 5, 2], _, c_X12_burgh l G cy E N (q 0) (q 1) (q 2) (q 3) (q 4) (q 5) (q 6) (q 7) (q 8) (q 9) (q 10) (q 11) (q 12) (q 13) (q 14) (q 15) (q 16) (q 17) k.thrown k.length k.size k.p k.limit k.token k.tokAt k.span k.number k.fault k.faultAt k.word k.got k.lines k.hasWait k.undoMany k.firstMinute k.lookClock k.hasTime k.latestMost k.textMany k.seed k.toldMany k.hasTold k.codes k.ones k.top k.deep k.isWhole k.h k.tape k.reserved k.names k.s z.1 z.2.1 z.2.2.1 z.2.2.2.1 z.2.2.2.2.1 z.2.2.2.2.2.1 z.2.2.2.2.2.2.1 z.2.2.2.2.2.2.2.1 z.2.2.2.2.2.2.2.2.1 z.2.2.2.2.2.2.2.2.2.1 z.2.2.2.2.2.2.2.2.2.2.1 z.2.2.2.2.2.2.2.2.2.2.2.1 z.2.2.2.2.2.2.2.2.2.2.2.2.1 z.2.2.2.2.2.2.2.2.2.2.2.2.2.1 z.2.2.2.2.2.2.2.2.2.2.2.2.2.2.1 z.2.2.2.2.2.2.2.2.2.2.2.2.2.2.2.1 z.2.2.2.2.2.2.2.2.2.2.2.2.2.2.2.2.1 z.2.2.2.2.2.2.2.2.2.2.2.2.2.2.2.2.2.1 z.2.2.2.2.2.2.2.2.2.2.2.2.2.2.2.2.2.2.1 z.2.2.2.2.2.2.2.2.2.2.2.2.2.2.2.2.2.2.2 hz, by decide +kernel, rfl, rfl, [true, true, true, true, false, true, true, false, false, false, false, false, false, false, false, false, false, false], by decide +kernel, (zf_t (zf_t (zf_t (zf_t (zf_f (zf_t (zf_t (zf_f (zf_f (zf_f (zf_f (zf_f (zf_f (zf_f (zf_f (zf_f (zf_f (zf_f zf_n)))))))))))))))))), rfl, rfl⟩
set_option maxHeartbeats 4000000 in
set_option maxRecDepth 100000 in
theorem rM_fault (l : Launch) (G : va_G) (cy : Nat → ClassId) (E : Nat → Nat) (N : Nat) (q : Nat → Nat) (k k' : RS) (v : Int32) (h : G_fault N k = some (v, k')) : KM l G cy E yX12_fault wsX12_fault rm_X12_fault [] v (RW cy q k) (RW cy q k') (q 0) 13 := by
  unfold G_fault at h
  obtain ⟨z, hz, h⟩ := zcl_e h
  cases h
  exact ⟨_, _, [0], _, c_X12_fault l G cy E N (q 0) (q 1) (q 2) (q 3) (q 4) (q 5) (q 6) (q 7) (q 8) (q 9) (q 10) (q 11) (q 12) (q 13) (q 14) (q 15) (q 16) (q 17) k.thrown k.length k.size k.p k.limit k.token k.tokAt k.span k.number k.fault k.faultAt k.word k.got k.lines k.hasWait k.undoMany k.firstMinute k.lookClock k.hasTime k.latestMost k.textMany k.seed k.toldMany k.hasTold k.codes k.ones k.top k.deep k.isWhole z.1 z.2 hz, by decide +kernel, rfl, rfl, [true, false, false, false, false, false, false, false, false, false, false, false, false, false, false, false, false, false], by decide +kernel, (zf_t (zf_f (zf_f (zf_f (zf_f (zf_f (zf_f (zf_f (zf_f (zf_f (zf_f (zf_f (zf_f (zf_f (zf_f (zf_f (zf_f (zf_f zf_n)))))))))))))))))), rfl, rfl⟩
set_option maxHeartbeats 4000000 in
set_option maxRecDepth 100000 in
theorem rM_clock (l : Launch) (G : va_G) (cy : Nat → ClassId) (E : Nat → Nat) (N : Nat) (q : Nat → Nat) (x0 : Int32) (x1 : Int32) (k k' : RS) (v : Int32) (h : G_clock N x0 x1 k = some (v, k')) : KM l G cy E yX12_clock wsX12_clock rm_X12_clock [.int x0, .int x1] v (RW cy q k) (RW cy q k') (q 0) 13 := by
  unfold G_clock at h
  obtain ⟨z, hz, h⟩ := zcl_e h
  cases h
  exact ⟨_, _, [0, 2], _, c_X12_clock l G cy E N (q 0) (q 1) (q 2) (q 3) (q 4) (q 5) (q 6) (q 7) (q 8) (q 9) (q 10) (q 11) (q 12) (q 13) (q 14) (q 15) (q 16) (q 17) k.thrown k.length k.size k.p k.limit k.token k.tokAt k.span k.number k.fault k.faultAt k.word k.got k.lines k.hasWait k.undoMany k.firstMinute k.lookClock k.hasTime k.latestMost k.textMany k.seed k.toldMany k.hasTold k.codes k.ones k.top k.deep k.isWhole k.s x0 x1 z.1 z.2 hz, by decide +kernel, rfl, rfl, [true, false, true, false, false, false, false, false, false, false, false, false, false, false, false, false, false, false], by decide +kernel, (zf_t (zf_f (zf_t (zf_f (zf_f (zf_f (zf_f (zf_f (zf_f (zf_f (zf_f (zf_f (zf_f (zf_f (zf_f (zf_f (zf_f (zf_f zf_n)))))))))))))))))), rfl, rfl⟩
set_option maxHeartbeats 4000000 in
set_option maxRecDepth 100000 in
theorem rM_wrong (l : Launch) (G : va_G) (cy : Nat → ClassId) (E : Nat → Nat) (N : Nat) (q : Nat → Nat) (x0 : Int32) (k k' : RS) (v : Int32) (h : G_wrong N x0 k = some (v, k')) : KM l G cy E yX12_wrong wsX12_wrong rm_X12_wrong [.int x0] v (RW cy q k) (RW cy q k') (q 0) 13 := by
  unfold G_wrong at h
  obtain ⟨z, hz, h⟩ := zcl_e h
  cases h
  exact ⟨_, _, [0, 2], _, c_X12_wrong l G cy E N (q 0) (q 1) (q 2) (q 3) (q 4) (q 5) (q 6) (q 7) (q 8) (q 9) (q 10) (q 11) (q 12) (q 13) (q 14) (q 15) (q 16) (q 17) k.thrown k.length k.size k.p k.limit k.token k.tokAt k.span k.number k.fault k.faultAt k.word k.got k.lines k.hasWait k.undoMany k.firstMinute k.lookClock k.hasTime k.latestMost k.textMany k.seed k.toldMany k.hasTold k.codes k.ones k.top k.deep k.isWhole k.s x0 z.1 z.2 hz, by decide +kernel, rfl, rfl, [true, false, true, false, false, false, false, false, false, false, false, false, false, false, false, false, false, false], by decide +kernel, (zf_t (zf_f (zf_t (zf_f (zf_f (zf_f (zf_f (zf_f (zf_f (zf_f (zf_f (zf_f (zf_f (zf_f (zf_f (zf_f (zf_f (zf_f zf_n)))))))))))))))))), rfl, rfl⟩
set_option maxHeartbeats 4000000 in
set_option maxRecDepth 100000 in
theorem rM_master (l : Launch) (G : va_G) (cy : Nat → ClassId) (E : Nat → Nat) (N : Nat) (q : Nat → Nat) (x0 : Int32) (x1 : Int32) (k k' : RS) (v : Int32) (h : G_master N x0 x1 k = some (v, k')) : KM l G cy E yX12_master wsX12_master rm_X12_master [.int x0, .int x1] v (RW cy q k) (RW cy q k') (q 0) 13 := by
  unfold G_master at h
  obtain ⟨z, hz, h⟩ := zcl_e h
  cases h
  exact ⟨_, _, [0, 2], _, c_X12_master l G cy E N (q 0) (q 1) (q 2) (q 3) (q 4) (q 5) (q 6) (q 7) (q 8) (q 9) (q 10) (q 11) (q 12) (q 13) (q 14) (q 15) (q 16) (q 17) k.thrown k.length k.size k.p k.limit k.token k.tokAt k.span k.number k.fault k.faultAt k.word k.got k.lines k.hasWait k.undoMany k.firstMinute k.lookClock k.hasTime k.latestMost k.textMany k.seed k.toldMany k.hasTold k.codes k.ones k.top k.deep k.isWhole k.s x0 x1 z.1 z.2 hz, by decide +kernel, rfl, rfl, [true, false, true, false, false, false, false, false, false, false, false, false, false, false, false, false, false, false], by decide +kernel, (zf_t (zf_f (zf_t (zf_f (zf_f (zf_f (zf_f (zf_f (zf_f (zf_f (zf_f (zf_f (zf_f (zf_f (zf_f (zf_f (zf_f (zf_f zf_n)))))))))))))))))), rfl, rfl⟩
set_option maxHeartbeats 4000000 in
set_option maxRecDepth 100000 in
theorem rM_meet (l : Launch) (G : va_G) (cy : Nat → ClassId) (E : Nat → Nat) (N : Nat) (q : Nat → Nat) (x0 : Int32) (x1 : Int32) (k k' : RS) (v : Int32) (h : G_meet N x0 x1 k = some (v, k')) : KM l G cy E yX12_meet wsX12_meet rm_X12_meet [.int x0, .int x1] v (RW cy q k) (RW cy q k') (q 0) 13 := by
  unfold G_meet at h
  obtain ⟨z, hz, h⟩ := zcl_e h
  cases h
  exact ⟨_, _, [0, 2], _, c_X12_meet l G cy E N (q 0) (q 1) (q 2) (q 3) (q 4) (q 5) (q 6) (q 7) (q 8) (q 9) (q 10) (q 11) (q 12) (q 13) (q 14) (q 15) (q 16) (q 17) k.thrown k.length k.size k.p k.limit k.token k.tokAt k.span k.number k.fault k.faultAt k.word k.got k.lines k.hasWait k.undoMany k.firstMinute k.lookClock k.hasTime k.latestMost k.textMany k.seed k.toldMany k.hasTold k.codes k.ones k.top k.deep k.isWhole k.s x0 x1 z.1 z.2 hz, by decide +kernel, rfl, rfl, [true, false, true, false, false, false, false, false, false, false, false, false, false, false, false, false, false, false], by decide +kernel, (zf_t (zf_f (zf_t (zf_f (zf_f (zf_f (zf_f (zf_f (zf_f (zf_f (zf_f (zf_f (zf_f (zf_f (zf_f (zf_f (zf_f (zf_f zf_n)))))))))))))))))), rfl, rfl⟩
set_option maxHeartbeats 4000000 in
set_option maxRecDepth 100000 in
theorem rM_now (l : Launch) (G : va_G) (cy : Nat → ClassId) (E : Nat → Nat) (N : Nat) (q : Nat → Nat) (x0 : Int32) (k k' : RS) (v : Int32) (h : G_now N x0 k = some (v, k')) : KM l G cy E yX12_now wsX12_now rm_X12_now [.int x0] v (RW cy q k) (RW cy q k') (q 0) 13 := by
  unfold G_now at h
  obtain ⟨z, hz, h⟩ := zcl_e h
  cases h
  exact ⟨_, _, [0, 2], _, c_X12_now l G cy E N (q 0) (q 1) (q 2) (q 3) (q 4) (q 5) (q 6) (q 7) (q 8) (q 9) (q 10) (q 11) (q 12) (q 13) (q 14) (q 15) (q 16) (q 17) k.thrown k.length k.size k.p k.limit k.token k.tokAt k.span k.number k.fault k.faultAt k.word k.got k.lines k.hasWait k.undoMany k.firstMinute k.lookClock k.hasTime k.latestMost k.textMany k.seed k.toldMany k.hasTold k.codes k.ones k.top k.deep k.isWhole k.s x0 z.1 z.2 hz, by decide +kernel, rfl, rfl, [true, false, true, false, false, false, false, false, false, false, false, false, false, false, false, false, false, false], by decide +kernel, (zf_t (zf_f (zf_t (zf_f (zf_f (zf_f (zf_f (zf_f (zf_f (zf_f (zf_f (zf_f (zf_f (zf_f (zf_f (zf_f (zf_f (zf_f zf_n)))))))))))))))))), rfl, rfl⟩
set_option maxHeartbeats 4000000 in
set_option maxRecDepth 100000 in
theorem rM_set (l : Launch) (G : va_G) (cy : Nat → ClassId) (E : Nat → Nat) (N : Nat) (q : Nat → Nat) (x0 : Int32) (x1 : Int32) (k k' : RS) (v : Int32) (h : G_set N x0 x1 k = some (v, k')) : KM l G cy E yX12_set wsX12_set rm_X12_set [.int x0, .int x1] v (RW cy q k) (RW cy q k') (q 0) 13 := by
  unfold G_set at h
  obtain ⟨z, hz, h⟩ := zcl_e h
  cases h
  exact ⟨_, _, [0, 2, 7], _, c_X12_set l G cy E N (q 0) (q 1) (q 2) (q 3) (q 4) (q 5) (q 6) (q 7) (q 8) (q 9) (q 10) (q 11) (q 12) (q 13) (q 14) (q 15) (q 16) (q 17) k.thrown k.length k.size k.p k.limit k.token k.tokAt k.span k.number k.fault k.faultAt k.word k.got k.lines k.hasWait k.undoMany k.firstMinute k.lookClock k.hasTime k.latestMost k.textMany k.seed k.toldMany k.hasTold k.codes k.ones k.top k.deep k.isWhole k.s k.undone x0 x1 z.1 z.2.1 z.2.2.1 z.2.2.2.1 z.2.2.2.2 hz, by decide +kernel, rfl, rfl, [true, false, true, false, false, false, false, true, false, false, false, false, false, false, false, false, false, false], by decide +kernel, (zf_t (zf_f (zf_t (zf_f (zf_f (zf_f (zf_f (zf_t (zf_f (zf_f (zf_f (zf_f (zf_f (zf_f (zf_f (zf_f (zf_f (zf_f zf_n)))))))))))))))))), rfl, rfl⟩
set_option maxHeartbeats 4000000 in
set_option maxRecDepth 100000 in
theorem rM_stop (l : Launch) (G : va_G) (cy : Nat → ClassId) (E : Nat → Nat) (N : Nat) (q : Nat → Nat) (x0 : Int32) (k k' : RS) (v : Int32) (h : G_stop N x0 k = some (v, k')) : KM l G cy E yX12_stop wsX12_stop rm_X12_stop [.int x0] v (RW cy q k) (RW cy q k') (q 0) 13 := by
  unfold G_stop at h
  obtain ⟨z, hz, h⟩ := zcl_e h
  cases h
  exact ⟨_, _, [0, 2, 7], _, c_X12_stop l G cy E N (q 0) (q 1) (q 2) (q 3) (q 4) (q 5) (q 6) (q 7) (q 8) (q 9) (q 10) (q 11) (q 12) (q 13) (q 14) (q 15) (q 16) (q 17) k.thrown k.length k.size k.p k.limit k.token k.tokAt k.span k.number k.fault k.faultAt k.word k.got k.lines k.hasWait k.undoMany k.firstMinute k.lookClock k.hasTime k.latestMost k.textMany k.seed k.toldMany k.hasTold k.codes k.ones k.top k.deep k.isWhole k.s k.undone x0 z.1 z.2.1 z.2.2.1 z.2.2.2.1 z.2.2.2.2 hz, by decide +kernel, rfl, rfl, [true, false, true, false, false, false, false, true, false, false, false, false, false, false, false, false, false, false], by decide +kernel, (zf_t (zf_f (zf_t (zf_f (zf_f (zf_f (zf_f (zf_t (zf_f (zf_f (zf_f (zf_f (zf_f (zf_f (zf_f (zf_f (zf_f (zf_f zf_n)))))))))))))))))), rfl, rfl⟩
set_option maxHeartbeats 4000000 in
set_option maxRecDepth 100000 in
theorem rM_start (l : Launch) (G : va_G) (cy : Nat → ClassId) (E : Nat → Nat) (N : Nat) (q : Nat → Nat) (x0 : Int32) (k k' : RS) (v : Int32) (h : G_start N x0 k = some (v, k')) : KM l G cy E yX12_start wsX12_start rm_X12_start [.int x0] v (RW cy q k) (RW cy q k') (q 0) 13 := by
  unfold G_start at h
  obtain ⟨z, hz, h⟩ := zcl_e h
  cases h
  exact ⟨_, _, [0, 2, 7], _, c_X12_start l G cy E N (q 0) (q 1) (q 2) (q 3) (q 4) (q 5) (q 6) (q 7) (q 8) (q 9) (q 10) (q 11) (q 12) (q 13) (q 14) (q 15) (q 16) (q 17) k.thrown k.length k.size k.p k.limit k.token k.tokAt k.span k.number k.fault k.faultAt k.word k.got k.lines k.hasWait k.undoMany k.firstMinute k.lookClock k.hasTime k.latestMost k.textMany k.seed k.toldMany k.hasTold k.codes k.ones k.top k.deep k.isWhole k.s k.undone x0 z.1 z.2.1 z.2.2.1 z.2.2.2.1 z.2.2.2.2 hz, by decide +kernel, rfl, rfl, [true, false, true, false, false, false, false, true, false, false, false, false, false, false, false, false, false, false], by decide +kernel, (zf_t (zf_f (zf_t (zf_f (zf_f (zf_f (zf_f (zf_t (zf_f (zf_f (zf_f (zf_f (zf_f (zf_f (zf_f (zf_f (zf_f (zf_f zf_n)))))))))))))))))), rfl, rfl⟩
set_option maxHeartbeats 4000000 in
set_option maxRecDepth 100000 in
theorem rM_move (l : Launch) (G : va_G) (cy : Nat → ClassId) (E : Nat → Nat) (N : Nat) (q : Nat → Nat) (x0 : Int32) (x1 : Int32) (k k' : RS) (v : Int32) (h : G_move N x0 x1 k = some (v, k')) : KM l G cy E yX12_move wsX12_move rm_X12_move [.int x0, .int x1] v (RW cy q k) (RW cy q k') (q 0) 13 := by
  unfold G_move at h
  obtain ⟨z, hz, h⟩ := zcl_e h
  cases h
  exact ⟨_, _, [0, 2, 7], _, c_X12_move l G cy E N (q 0) (q 1) (q 2) (q 3) (q 4) (q 5) (q 6) (q 7) (q 8) (q 9) (q 10) (q 11) (q 12) (q 13) (q 14) (q 15) (q 16) (q 17) k.thrown k.length k.size k.p k.limit k.token k.tokAt k.span k.number k.fault k.faultAt k.word k.got k.lines k.hasWait k.undoMany k.firstMinute k.lookClock k.hasTime k.latestMost k.textMany k.seed k.toldMany k.hasTold k.codes k.ones k.top k.deep k.isWhole k.s k.undone x0 x1 z.1 z.2.1 z.2.2.1 z.2.2.2.1 z.2.2.2.2 hz, by decide +kernel, rfl, rfl, [true, false, true, false, false, false, false, true, false, false, false, false, false, false, false, false, false, false], by decide +kernel, (zf_t (zf_f (zf_t (zf_f (zf_f (zf_f (zf_f (zf_t (zf_f (zf_f (zf_f (zf_f (zf_f (zf_f (zf_f (zf_f (zf_f (zf_f zf_n)))))))))))))))))), rfl, rfl⟩
set_option maxHeartbeats 4000000 in
set_option maxRecDepth 100000 in
theorem rM_minutes (l : Launch) (G : va_G) (cy : Nat → ClassId) (E : Nat → Nat) (N : Nat) (q : Nat → Nat) (x0 : Int32) (k k' : RS) (v : Int32) (h : G_minutes N x0 k = some (v, k')) : KM l G cy E yX12_minutes wsX12_minutes rm_X12_minutes [.int x0] v (RW cy q k) (RW cy q k') (q 0) 13 := by
  unfold G_minutes at h
  obtain ⟨z, hz, h⟩ := zcl_e h
  cases h
  exact ⟨_, _, [0, 2, 7], _, c_X12_minutes l G cy E N (q 0) (q 1) (q 2) (q 3) (q 4) (q 5) (q 6) (q 7) (q 8) (q 9) (q 10) (q 11) (q 12) (q 13) (q 14) (q 15) (q 16) (q 17) k.thrown k.length k.size k.p k.limit k.token k.tokAt k.span k.number k.fault k.faultAt k.word k.got k.lines k.hasWait k.undoMany k.firstMinute k.lookClock k.hasTime k.latestMost k.textMany k.seed k.toldMany k.hasTold k.codes k.ones k.top k.deep k.isWhole k.s k.undone x0 z.1 z.2.1 z.2.2.1 z.2.2.2.1 z.2.2.2.2 hz, by decide +kernel, rfl, rfl, [true, false, true, false, false, false, false, true, false, false, false, false, false, false, false, false, false, false], by decide +kernel, (zf_t (zf_f (zf_t (zf_f (zf_f (zf_f (zf_f (zf_t (zf_f (zf_f (zf_f (zf_f (zf_f (zf_f (zf_f (zf_f (zf_f (zf_f zf_n)))))))))))))))))), rfl, rfl⟩
set_option maxHeartbeats 4000000 in
set_option maxRecDepth 100000 in
theorem rM_undo (l : Launch) (G : va_G) (cy : Nat → ClassId) (E : Nat → Nat) (N : Nat) (q : Nat → Nat) (k k' : RS) (v : Int32) (h : G_undo N k = some (v, k')) : KM l G cy E yX12_undo wsX12_undo rm_X12_undo [] v (RW cy q k) (RW cy q k') (q 0) 13 := by
  unfold G_undo at h
  obtain ⟨z, hz, h⟩ := zcl_e h
  cases h
  exact ⟨_, _, [0, 7, 2], _, c_X12_undo l G cy E N (q 0) (q 1) (q 2) (q 3) (q 4) (q 5) (q 6) (q 7) (q 8) (q 9) (q 10) (q 11) (q 12) (q 13) (q 14) (q 15) (q 16) (q 17) k.thrown k.length k.size k.p k.limit k.token k.tokAt k.span k.number k.fault k.faultAt k.word k.got k.lines k.hasWait k.undoMany k.firstMinute k.lookClock k.hasTime k.latestMost k.textMany k.seed k.toldMany k.hasTold k.codes k.ones k.top k.deep k.isWhole k.undone k.s z.1 z.2.1 z.2.2.1 z.2.2.2 hz, by decide +kernel, rfl, rfl, [true, false, true, false, false, false, false, true, false, false, false, false, false, false, false, false, false, false], by decide +kernel, (zf_t (zf_f (zf_t (zf_f (zf_f (zf_f (zf_f (zf_t (zf_f (zf_f (zf_f (zf_f (zf_f (zf_f (zf_f (zf_f (zf_f (zf_f zf_n)))))))))))))))))), rfl, rfl⟩
set_option maxHeartbeats 4000000 in
set_option maxRecDepth 100000 in
theorem rM_comes (l : Launch) (G : va_G) (cy : Nat → ClassId) (E : Nat → Nat) (N : Nat) (q : Nat → Nat) (x0 : Int32) (x1 : Int32) (k k' : RS) (v : Int32) (h : G_comes N x0 x1 k = some (v, k')) : KM l G cy E yX12_comes wsX12_comes rm_X12_comes [.int x0, .int x1] v (RW cy q k) (RW cy q k') (q 0) 13 := by
  unfold G_comes at h
  obtain ⟨z, hz, h⟩ := zcl_e h
  cases h
  exact ⟨_, _, [0, 2, 8, 9], _, c_X12_comes l G cy E N (q 0) (q 1) (q 2) (q 3) (q 4) (q 5) (q 6) (q 7) (q 8) (q 9) (q 10) (q 11) (q 12) (q 13) (q 14) (q 15) (q 16) (q 17) k.thrown k.length k.size k.p k.limit k.token k.tokAt k.span k.number k.fault k.faultAt k.word k.got k.lines k.hasWait k.undoMany k.firstMinute k.lookClock k.hasTime k.latestMost k.textMany k.seed k.toldMany k.hasTold k.codes k.ones k.top k.deep k.isWhole k.s k.before k.comeRow x0 x1 z.1 z.2.1 z.2.2.1 z.2.2.2.1 z.2.2.2.2 hz, by decide +kernel, rfl, rfl, [true, false, true, false, false, false, false, false, true, true, false, false, false, false, false, false, false, false], by decide +kernel, (zf_t (zf_f (zf_t (zf_f (zf_f (zf_f (zf_f (zf_f (zf_t (zf_t (zf_f (zf_f (zf_f (zf_f (zf_f (zf_f (zf_f (zf_f zf_n)))))))))))))))))), rfl, rfl⟩
set_option maxHeartbeats 4000000 in
set_option maxRecDepth 100000 in
theorem rM_all (l : Launch) (G : va_G) (cy : Nat → ClassId) (E : Nat → Nat) (N : Nat) (q : Nat → Nat) (x0 : Int32) (k k' : RS) (v : Int32) (h : G_all N x0 k = some (v, k')) : KM l G cy E yX12_all wsX12_all rm_X12_all [.int x0] v (RW cy q k) (RW cy q k') (q 0) 13 := by
  unfold G_all at h
  obtain ⟨z, hz, h⟩ := zcl_e h
  cases h
  exact ⟨_, _, [0, 2, 8, 9], _, c_X12_all l G cy E N (q 0) (q 1) (q 2) (q 3) (q 4) (q 5) (q 6) (q 7) (q 8) (q 9) (q 10) (q 11) (q 12) (q 13) (q 14) (q 15) (q 16) (q 17) k.thrown k.length k.size k.p k.limit k.token k.tokAt k.span k.number k.fault k.faultAt k.word k.got k.lines k.hasWait k.undoMany k.firstMinute k.lookClock k.hasTime k.latestMost k.textMany k.seed k.toldMany k.hasTold k.codes k.ones k.top k.deep k.isWhole k.s k.before k.comeRow x0 z.1 z.2.1 z.2.2.1 z.2.2.2.1 z.2.2.2.2 hz, by decide +kernel, rfl, rfl, [true, false, true, false, false, false, false, false, true, true, false, false, false, false, false, false, false, false], by decide +kernel, (zf_t (zf_f (zf_t (zf_f (zf_f (zf_f (zf_f (zf_f (zf_t (zf_t (zf_f (zf_f (zf_f (zf_f (zf_f (zf_f (zf_f (zf_f zf_n)))))))))))))))))), rfl, rfl⟩
set_option maxHeartbeats 4000000 in
set_option maxRecDepth 100000 in
theorem rM_missed (l : Launch) (G : va_G) (cy : Nat → ClassId) (E : Nat → Nat) (N : Nat) (q : Nat → Nat) (x0 : Int32) (k k' : RS) (v : Int32) (h : G_missed N x0 k = some (v, k')) : KM l G cy E yX12_missed wsX12_missed rm_X12_missed [.int x0] v (RW cy q k) (RW cy q k') (q 0) 13 := by
  unfold G_missed at h
  obtain ⟨z, hz, h⟩ := zcl_e h
  cases h
  exact ⟨_, _, [0, 2, 8, 9], _, c_X12_missed l G cy E N (q 0) (q 1) (q 2) (q 3) (q 4) (q 5) (q 6) (q 7) (q 8) (q 9) (q 10) (q 11) (q 12) (q 13) (q 14) (q 15) (q 16) (q 17) k.thrown k.length k.size k.p k.limit k.token k.tokAt k.span k.number k.fault k.faultAt k.word k.got k.lines k.hasWait k.undoMany k.firstMinute k.lookClock k.hasTime k.latestMost k.textMany k.seed k.toldMany k.hasTold k.codes k.ones k.top k.deep k.isWhole k.s k.before k.comeRow x0 z.1 z.2.1 z.2.2.1 z.2.2.2.1 z.2.2.2.2 hz, by decide +kernel, rfl, rfl, [true, false, true, false, false, false, false, false, true, true, false, false, false, false, false, false, false, false], by decide +kernel, (zf_t (zf_f (zf_t (zf_f (zf_f (zf_f (zf_f (zf_f (zf_t (zf_t (zf_f (zf_f (zf_f (zf_f (zf_f (zf_f (zf_f (zf_f zf_n)))))))))))))))))), rfl, rfl⟩
set_option maxHeartbeats 4000000 in
set_option maxRecDepth 100000 in
theorem rM_caught (l : Launch) (G : va_G) (cy : Nat → ClassId) (E : Nat → Nat) (N : Nat) (q : Nat → Nat) (x0 : Int32) (k k' : RS) (v : Int32) (h : G_caught N x0 k = some (v, k')) : KM l G cy E yX12_caught wsX12_caught rm_X12_caught [.int x0] v (RW cy q k) (RW cy q k') (q 0) 13 := by
  unfold G_caught at h
  obtain ⟨z, hz, h⟩ := zcl_e h
  cases h
  exact ⟨_, _, [0, 2, 8, 9], _, c_X12_caught l G cy E N (q 0) (q 1) (q 2) (q 3) (q 4) (q 5) (q 6) (q 7) (q 8) (q 9) (q 10) (q 11) (q 12) (q 13) (q 14) (q 15) (q 16) (q 17) k.thrown k.length k.size k.p k.limit k.token k.tokAt k.span k.number k.fault k.faultAt k.word k.got k.lines k.hasWait k.undoMany k.firstMinute k.lookClock k.hasTime k.latestMost k.textMany k.seed k.toldMany k.hasTold k.codes k.ones k.top k.deep k.isWhole k.s k.before k.comeRow x0 z.1 z.2.1 z.2.2.1 z.2.2.2.1 z.2.2.2.2 hz, by decide +kernel, rfl, rfl, [true, false, true, false, false, false, false, false, true, true, false, false, false, false, false, false, false, false], by decide +kernel, (zf_t (zf_f (zf_t (zf_f (zf_f (zf_f (zf_f (zf_f (zf_t (zf_t (zf_f (zf_f (zf_f (zf_f (zf_f (zf_f (zf_f (zf_f zf_n)))))))))))))))))), rfl, rfl⟩
set_option maxHeartbeats 4000000 in
set_option maxRecDepth 100000 in
theorem rM_plan (l : Launch) (G : va_G) (cy : Nat → ClassId) (E : Nat → Nat) (N : Nat) (q : Nat → Nat) (x0 : Int32) (x1 : Int32) (k k' : RS) (v : Int32) (h : G_plan N x0 x1 k = some (v, k')) : KM l G cy E yX12_plan wsX12_plan rm_X12_plan [.int x0, .int x1] v (RW cy q k) (RW cy q k') (q 0) 13 := by
  unfold G_plan at h
  obtain ⟨z, hz, h⟩ := zcl_e h
  cases h
  exact ⟨_, _, [0, 2, 8, 9], _, c_X12_plan l G cy E N (q 0) (q 1) (q 2) (q 3) (q 4) (q 5) (q 6) (q 7) (q 8) (q 9) (q 10) (q 11) (q 12) (q 13) (q 14) (q 15) (q 16) (q 17) k.thrown k.length k.size k.p k.limit k.token k.tokAt k.span k.number k.fault k.faultAt k.word k.got k.lines k.hasWait k.undoMany k.firstMinute k.lookClock k.hasTime k.latestMost k.textMany k.seed k.toldMany k.hasTold k.codes k.ones k.top k.deep k.isWhole k.s k.before k.comeRow x0 x1 z.1 z.2.1 z.2.2.1 z.2.2.2.1 z.2.2.2.2 hz, by decide +kernel, rfl, rfl, [true, false, true, false, false, false, false, false, true, true, false, false, false, false, false, false, false, false], by decide +kernel, (zf_t (zf_f (zf_t (zf_f (zf_f (zf_f (zf_f (zf_f (zf_t (zf_t (zf_f (zf_f (zf_f (zf_f (zf_f (zf_f (zf_f (zf_f zf_n)))))))))))))))))), rfl, rfl⟩
set_option maxHeartbeats 4000000 in
set_option maxRecDepth 100000 in
theorem rM_time (l : Launch) (G : va_G) (cy : Nat → ClassId) (E : Nat → Nat) (N : Nat) (q : Nat → Nat) (k k' : RS) (v : Int32) (h : G_time N k = some (v, k')) : KM l G cy E yX12_time wsX12_time rm_X12_time [] v (RW cy q k) (RW cy q k') (q 0) 13 := by
  unfold G_time at h
  obtain ⟨z, hz, h⟩ := zcl_e h
  cases h
  exact ⟨_, _, [0, 1, 2, 10], _, c_X12_time l G cy E N (q 0) (q 1) (q 2) (q 3) (q 4) (q 5) (q 6) (q 7) (q 8) (q 9) (q 10) (q 11) (q 12) (q 13) (q 14) (q 15) (q 16) (q 17) k.thrown k.length k.size k.p k.limit k.token k.tokAt k.span k.number k.fault k.faultAt k.word k.got k.lines k.hasWait k.undoMany k.firstMinute k.lookClock k.hasTime k.latestMost k.textMany k.seed k.toldMany k.hasTold k.codes k.ones k.top k.deep k.isWhole k.tape k.s k.shown z.1 z.2.1 z.2.2.1 z.2.2.2.1 z.2.2.2.2.1 z.2.2.2.2.2.1 z.2.2.2.2.2.2.1 z.2.2.2.2.2.2.2.1 z.2.2.2.2.2.2.2.2.1 z.2.2.2.2.2.2.2.2.2 hz, by decide +kernel, rfl, rfl, [true, true, true, false, false, false, false, false, false, false, true, false, false, false, false, false, false, false], by decide +kernel, (zf_t (zf_t (zf_t (zf_f (zf_f (zf_f (zf_f (zf_f (zf_f (zf_f (zf_t (zf_f (zf_f (zf_f (zf_f (zf_f (zf_f (zf_f zf_n)))))))))))))))))), rfl, rfl⟩
set_option maxHeartbeats 4000000 in
set_option maxRecDepth 100000 in
theorem rM_timeFirst (l : Launch) (G : va_G) (cy : Nat → ClassId) (E : Nat → Nat) (N : Nat) (q : Nat → Nat) (k k' : RS) (v : Int32) (h : G_timeFirst N k = some (v, k')) : KM l G cy E yX12_timeFirst wsX12_timeFirst rm_X12_timeFirst [] v (RW cy q k) (RW cy q k') (q 0) 13 := by
  unfold G_timeFirst at h
  obtain ⟨z, hz, h⟩ := zcl_e h
  cases h
  exact ⟨_, _, [0], _, c_X12_timeFirst l G cy E N (q 0) (q 1) (q 2) (q 3) (q 4) (q 5) (q 6) (q 7) (q 8) (q 9) (q 10) (q 11) (q 12) (q 13) (q 14) (q 15) (q 16) (q 17) k.thrown k.length k.size k.p k.limit k.token k.tokAt k.span k.number k.fault k.faultAt k.word k.got k.lines k.hasWait k.undoMany k.firstMinute k.lookClock k.hasTime k.latestMost k.textMany k.seed k.toldMany k.hasTold k.codes k.ones k.top k.deep k.isWhole z.1 z.2 hz, by decide +kernel, rfl, rfl, [true, false, false, false, false, false, false, false, false, false, false, false, false, false, false, false, false, false], by decide +kernel, (zf_t (zf_f (zf_f (zf_f (zf_f (zf_f (zf_f (zf_f (zf_f (zf_f (zf_f (zf_f (zf_f (zf_f (zf_f (zf_f (zf_f (zf_f zf_n)))))))))))))))))), rfl, rfl⟩
set_option maxHeartbeats 4000000 in
set_option maxRecDepth 100000 in
theorem rM_look (l : Launch) (G : va_G) (cy : Nat → ClassId) (E : Nat → Nat) (N : Nat) (q : Nat → Nat) (k k' : RS) (v : Int32) (h : G_look N k = some (v, k')) : KM l G cy E yX12_look wsX12_look rm_X12_look [] v (RW cy q k) (RW cy q k') (q 0) 13 := by
  unfold G_look at h
  obtain ⟨z, hz, h⟩ := zcl_e h
  cases h
  exact ⟨_, _, [0], _, c_X12_look l G cy E N (q 0) (q 1) (q 2) (q 3) (q 4) (q 5) (q 6) (q 7) (q 8) (q 9) (q 10) (q 11) (q 12) (q 13) (q 14) (q 15) (q 16) (q 17) k.thrown k.length k.size k.p k.limit k.token k.tokAt k.span k.number k.fault k.faultAt k.word k.got k.lines k.hasWait k.undoMany k.firstMinute k.lookClock k.hasTime k.latestMost k.textMany k.seed k.toldMany k.hasTold k.codes k.ones k.top k.deep k.isWhole z.1 z.2 hz, by decide +kernel, rfl, rfl, [true, false, false, false, false, false, false, false, false, false, false, false, false, false, false, false, false, false], by decide +kernel, (zf_t (zf_f (zf_f (zf_f (zf_f (zf_f (zf_f (zf_f (zf_f (zf_f (zf_f (zf_f (zf_f (zf_f (zf_f (zf_f (zf_f (zf_f zf_n)))))))))))))))))), rfl, rfl⟩
set_option maxHeartbeats 4000000 in
set_option maxRecDepth 100000 in
theorem rM_alike (l : Launch) (G : va_G) (cy : Nat → ClassId) (E : Nat → Nat) (N : Nat) (q : Nat → Nat) (k k' : RS) (v : Int32) (h : G_alike N k = some (v, k')) : KM l G cy E yX12_alike wsX12_alike rm_X12_alike [] v (RW cy q k) (RW cy q k') (q 0) 13 := by
  unfold G_alike at h
  obtain ⟨z, hz, h⟩ := zcl_e h
  cases h
  exact ⟨_, _, [0, 2], _, c_X12_alike l G cy E N (q 0) (q 1) (q 2) (q 3) (q 4) (q 5) (q 6) (q 7) (q 8) (q 9) (q 10) (q 11) (q 12) (q 13) (q 14) (q 15) (q 16) (q 17) k.thrown k.length k.size k.p k.limit k.token k.tokAt k.span k.number k.fault k.faultAt k.word k.got k.lines k.hasWait k.undoMany k.firstMinute k.lookClock k.hasTime k.latestMost k.textMany k.seed k.toldMany k.hasTold k.codes k.ones k.top k.deep k.isWhole k.s z.1 z.2 hz, by decide +kernel, rfl, rfl, [true, false, true, false, false, false, false, false, false, false, false, false, false, false, false, false, false, false], by decide +kernel, (zf_t (zf_f (zf_t (zf_f (zf_f (zf_f (zf_f (zf_f (zf_f (zf_f (zf_f (zf_f (zf_f (zf_f (zf_f (zf_f (zf_f (zf_f zf_n)))))))))))))))))), rfl, rfl⟩
set_option maxHeartbeats 4000000 in
set_option maxRecDepth 100000 in
theorem rM_tend (l : Launch) (G : va_G) (cy : Nat → ClassId) (E : Nat → Nat) (N : Nat) (q : Nat → Nat) (x0 : Int32) (x1 : Int32) (k k' : RS) (v : Int32) (h : G_tend N x0 x1 k = some (v, k')) : KM l G cy E yX12_tend wsX12_tend rm_X12_tend [.int x0, .int x1] v (RW cy q k) (RW cy q k') (q 0) 13 := by
  unfold G_tend at h
  obtain ⟨z, hz, h⟩ := zcl_e h
  cases h
  exact ⟨_, _, [0, 2], _, c_X12_tend l G cy E N (q 0) (q 1) (q 2) (q 3) (q 4) (q 5) (q 6) (q 7) (q 8) (q 9) (q 10) (q 11) (q 12) (q 13) (q 14) (q 15) (q 16) (q 17) k.thrown k.length k.size k.p k.limit k.token k.tokAt k.span k.number k.fault k.faultAt k.word k.got k.lines k.hasWait k.undoMany k.firstMinute k.lookClock k.hasTime k.latestMost k.textMany k.seed k.toldMany k.hasTold k.codes k.ones k.top k.deep k.isWhole k.s x0 x1 z.1 z.2 hz, by decide +kernel, rfl, rfl, [true, false, true, false, false, false, false, false, false, false, false, false, false, false, false, false, false, false], by decide +kernel, (zf_t (zf_f (zf_t (zf_f (zf_f (zf_f (zf_f (zf_f (zf_f (zf_f (zf_f (zf_f (zf_f (zf_f (zf_f (zf_f (zf_f (zf_f zf_n)))))))))))))))))), rfl, rfl⟩
set_option maxHeartbeats 4000000 in
set_option maxRecDepth 100000 in
theorem rM_worst (l : Launch) (G : va_G) (cy : Nat → ClassId) (E : Nat → Nat) (N : Nat) (q : Nat → Nat) (k k' : RS) (v : Int32) (h : G_worst N k = some (v, k')) : KM l G cy E yX12_worst wsX12_worst rm_X12_worst [] v (RW cy q k) (RW cy q k') (q 0) 13 := by
  unfold G_worst at h
  obtain ⟨z, hz, h⟩ := zcl_e h
  cases h
  exact ⟨_, _, [0, 2], _, c_X12_worst l G cy E N (q 0) (q 1) (q 2) (q 3) (q 4) (q 5) (q 6) (q 7) (q 8) (q 9) (q 10) (q 11) (q 12) (q 13) (q 14) (q 15) (q 16) (q 17) k.thrown k.length k.size k.p k.limit k.token k.tokAt k.span k.number k.fault k.faultAt k.word k.got k.lines k.hasWait k.undoMany k.firstMinute k.lookClock k.hasTime k.latestMost k.textMany k.seed k.toldMany k.hasTold k.codes k.ones k.top k.deep k.isWhole k.s z.1 z.2 hz, by decide +kernel, rfl, rfl, [true, false, true, false, false, false, false, false, false, false, false, false, false, false, false, false, false, false], by decide +kernel, (zf_t (zf_f (zf_t (zf_f (zf_f (zf_f (zf_f (zf_f (zf_f (zf_f (zf_f (zf_f (zf_f (zf_f (zf_f (zf_f (zf_f (zf_f zf_n)))))))))))))))))), rfl, rfl⟩
set_option maxHeartbeats 4000000 in
set_option maxRecDepth 100000 in
theorem rM_latest (l : Launch) (G : va_G) (cy : Nat → ClassId) (E : Nat → Nat) (N : Nat) (q : Nat → Nat) (k k' : RS) (v : Int32) (h : G_latest N k = some (v, k')) : KM l G cy E yX12_latest wsX12_latest rm_X12_latest [] v (RW cy q k) (RW cy q k') (q 0) 13 := by
  unfold G_latest at h
  obtain ⟨z, hz, h⟩ := zcl_e h
  cases h
  exact ⟨_, _, [0, 2], _, c_X12_latest l G cy E N (q 0) (q 1) (q 2) (q 3) (q 4) (q 5) (q 6) (q 7) (q 8) (q 9) (q 10) (q 11) (q 12) (q 13) (q 14) (q 15) (q 16) (q 17) k.thrown k.length k.size k.p k.limit k.token k.tokAt k.span k.number k.fault k.faultAt k.word k.got k.lines k.hasWait k.undoMany k.firstMinute k.lookClock k.hasTime k.latestMost k.textMany k.seed k.toldMany k.hasTold k.codes k.ones k.top k.deep k.isWhole k.s z.1 z.2.1 z.2.2 hz, by decide +kernel, rfl, rfl, [true, false, true, false, false, false, false, false, false, false, false, false, false, false, false, false, false, false], by decide +kernel, (zf_t (zf_f (zf_t (zf_f (zf_f (zf_f (zf_f (zf_f (zf_f (zf_f (zf_f (zf_f (zf_f (zf_f (zf_f (zf_f (zf_f (zf_f zf_n)))))))))))))))))), rfl, rfl⟩
set_option maxHeartbeats 4000000 in
set_option maxRecDepth 100000 in
theorem rM_latestBy (l : Launch) (G : va_G) (cy : Nat → ClassId) (E : Nat → Nat) (N : Nat) (q : Nat → Nat) (k k' : RS) (v : Int32) (h : G_latestBy N k = some (v, k')) : KM l G cy E yX12_latestBy wsX12_latestBy rm_X12_latestBy [] v (RW cy q k) (RW cy q k') (q 0) 13 := by
  unfold G_latestBy at h
  obtain ⟨z, hz, h⟩ := zcl_e h
  cases h
  exact ⟨_, _, [0], _, c_X12_latestBy l G cy E N (q 0) (q 1) (q 2) (q 3) (q 4) (q 5) (q 6) (q 7) (q 8) (q 9) (q 10) (q 11) (q 12) (q 13) (q 14) (q 15) (q 16) (q 17) k.thrown k.length k.size k.p k.limit k.token k.tokAt k.span k.number k.fault k.faultAt k.word k.got k.lines k.hasWait k.undoMany k.firstMinute k.lookClock k.hasTime k.latestMost k.textMany k.seed k.toldMany k.hasTold k.codes k.ones k.top k.deep k.isWhole z.1 z.2 hz, by decide +kernel, rfl, rfl, [true, false, false, false, false, false, false, false, false, false, false, false, false, false, false, false, false, false], by decide +kernel, (zf_t (zf_f (zf_f (zf_f (zf_f (zf_f (zf_f (zf_f (zf_f (zf_f (zf_f (zf_f (zf_f (zf_f (zf_f (zf_f (zf_f (zf_f zf_n)))))))))))))))))), rfl, rfl⟩
set_option maxHeartbeats 4000000 in
set_option maxRecDepth 100000 in
theorem rM_mean (l : Launch) (G : va_G) (cy : Nat → ClassId) (E : Nat → Nat) (N : Nat) (q : Nat → Nat) (x0 : Int32) (k k' : RS) (v : Int32) (h : G_mean N x0 k = some (v, k')) : KM l G cy E yX12_mean wsX12_mean rm_X12_mean [.int x0] v (RW cy q k) (RW cy q k') (q 0) 13 := by
  unfold G_mean at h
  obtain ⟨z, hz, h⟩ := zcl_e h
  cases h
  exact ⟨_, _, [0, 2], _, c_X12_mean l G cy E N (q 0) (q 1) (q 2) (q 3) (q 4) (q 5) (q 6) (q 7) (q 8) (q 9) (q 10) (q 11) (q 12) (q 13) (q 14) (q 15) (q 16) (q 17) k.thrown k.length k.size k.p k.limit k.token k.tokAt k.span k.number k.fault k.faultAt k.word k.got k.lines k.hasWait k.undoMany k.firstMinute k.lookClock k.hasTime k.latestMost k.textMany k.seed k.toldMany k.hasTold k.codes k.ones k.top k.deep k.isWhole k.s x0 z.1 z.2 hz, by decide +kernel, rfl, rfl, [true, false, true, false, false, false, false, false, false, false, false, false, false, false, false, false, false, false], by decide +kernel, (zf_t (zf_f (zf_t (zf_f (zf_f (zf_f (zf_f (zf_f (zf_f (zf_f (zf_f (zf_f (zf_f (zf_f (zf_f (zf_f (zf_f (zf_f zf_n)))))))))))))))))), rfl, rfl⟩
set_option maxHeartbeats 4000000 in
set_option maxRecDepth 100000 in
theorem rM_face (l : Launch) (G : va_G) (cy : Nat → ClassId) (E : Nat → Nat) (N : Nat) (q : Nat → Nat) (x0 : Int32) (k k' : RS) (v : Int32) (h : G_face N x0 k = some (v, k')) : KM l G cy E yX12_face wsX12_face rm_X12_face [.int x0] v (RW cy q k) (RW cy q k') (q 0) 13 := by
  unfold G_face at h
  obtain ⟨z, hz, h⟩ := zcl_e h
  cases h
  exact ⟨_, _, [0, 2, 5, 11], _, c_X12_face l G cy E N (q 0) (q 1) (q 2) (q 3) (q 4) (q 5) (q 6) (q 7) (q 8) (q 9) (q 10) (q 11) (q 12) (q 13) (q 14) (q 15) (q 16) (q 17) k.thrown k.length k.size k.p k.limit k.token k.tokAt k.span k.number k.fault k.faultAt k.word k.got k.lines k.hasWait k.undoMany k.firstMinute k.lookClock k.hasTime k.latestMost k.textMany k.seed k.toldMany k.hasTold k.codes k.ones k.top k.deep k.isWhole k.s k.names k.text x0 z.1 z.2.1 z.2.2.1 z.2.2.2 hz, by decide +kernel, rfl, rfl, [true, false, true, false, false, true, false, false, false, false, false, true, false, false, false, false, false, false], by decide +kernel, (zf_t (zf_f (zf_t (zf_f (zf_f (zf_t (zf_f (zf_f (zf_f (zf_f (zf_f (zf_t (zf_f (zf_f (zf_f (zf_f (zf_f (zf_f zf_n)))))))))))))))))), rfl, rfl⟩
set_option maxHeartbeats 4000000 in
set_option maxRecDepth 100000 in
theorem rM_byteAt (l : Launch) (G : va_G) (cy : Nat → ClassId) (E : Nat → Nat) (N : Nat) (q : Nat → Nat) (x0 : Int32) (k k' : RS) (v : Int32) (h : G_byteAt N x0 k = some (v, k')) : KM l G cy E yX12_byteAt wsX12_byteAt rm_X12_byteAt [.int x0] v (RW cy q k) (RW cy q k') (q 0) 13 := by
  unfold G_byteAt at h
  obtain ⟨z, hz, h⟩ := zcl_e h
  cases h
  exact ⟨_, _, [0, 11], _, c_X12_byteAt l G cy E N (q 0) (q 1) (q 2) (q 3) (q 4) (q 5) (q 6) (q 7) (q 8) (q 9) (q 10) (q 11) (q 12) (q 13) (q 14) (q 15) (q 16) (q 17) k.thrown k.length k.size k.p k.limit k.token k.tokAt k.span k.number k.fault k.faultAt k.word k.got k.lines k.hasWait k.undoMany k.firstMinute k.lookClock k.hasTime k.latestMost k.textMany k.seed k.toldMany k.hasTold k.codes k.ones k.top k.deep k.isWhole k.text x0 z.1 z.2 hz, by decide +kernel, rfl, rfl, [true, false, false, false, false, false, false, false, false, false, false, true, false, false, false, false, false, false], by decide +kernel, (zf_t (zf_f (zf_f (zf_f (zf_f (zf_f (zf_f (zf_f (zf_f (zf_f (zf_f (zf_t (zf_f (zf_f (zf_f (zf_f (zf_f (zf_f zf_n)))))))))))))))))), rfl, rfl⟩
set_option maxHeartbeats 4000000 in
set_option maxRecDepth 100000 in
theorem rM_drawn (l : Launch) (G : va_G) (cy : Nat → ClassId) (E : Nat → Nat) (N : Nat) (q : Nat → Nat) (x0 : Int32) (x1 : Int32) (k k' : RS) (v : Int32) (h : G_drawn N x0 x1 k = some (v, k')) : KM l G cy E yX12_drawn wsX12_drawn rm_X12_drawn [.int x0, .int x1] v (RW cy q k) (RW cy q k') (q 0) 13 := by
  unfold G_drawn at h
  obtain ⟨z, hz, h⟩ := zcl_e h
  cases h
  exact ⟨_, _, [0, 2, 7], _, c_X12_drawn l G cy E N (q 0) (q 1) (q 2) (q 3) (q 4) (q 5) (q 6) (q 7) (q 8) (q 9) (q 10) (q 11) (q 12) (q 13) (q 14) (q 15) (q 16) (q 17) k.thrown k.length k.size k.p k.limit k.token k.tokAt k.span k.number k.fault k.faultAt k.word k.got k.lines k.hasWait k.undoMany k.firstMinute k.lookClock k.hasTime k.latestMost k.textMany k.seed k.toldMany k.hasTold k.codes k.ones k.top k.deep k.isWhole k.s k.undone x0 x1 z.1 z.2.1 z.2.2.1 z.2.2.2.1 z.2.2.2.2.1 z.2.2.2.2.2 hz, by decide +kernel, rfl, rfl, [true, false, true, false, false, false, false, true, false, false, false, false, false, false, false, false, false, false], by decide +kernel, (zf_t (zf_f (zf_t (zf_f (zf_f (zf_f (zf_f (zf_t (zf_f (zf_f (zf_f (zf_f (zf_f (zf_f (zf_f (zf_f (zf_f (zf_f zf_n)))))))))))))))))), rfl, rfl⟩
set_option maxHeartbeats 4000000 in
set_option maxRecDepth 100000 in
theorem rM_odds (l : Launch) (G : va_G) (cy : Nat → ClassId) (E : Nat → Nat) (N : Nat) (q : Nat → Nat) (x0 : Int32) (x1 : Int32) (x2 : Int32) (k k' : RS) (v : Int32) (h : G_odds N x0 x1 x2 k = some (v, k')) : KM l G cy E yX12_odds wsX12_odds rm_X12_odds [.int x0, .int x1, .int x2] v (RW cy q k) (RW cy q k') (q 0) 13 := by
  unfold G_odds at h
  obtain ⟨z, hz, h⟩ := zcl_e h
  cases h
  exact ⟨_, _, [0, 2, 8], _, c_X12_odds l G cy E N (q 0) (q 1) (q 2) (q 3) (q 4) (q 5) (q 6) (q 7) (q 8) (q 9) (q 10) (q 11) (q 12) (q 13) (q 14) (q 15) (q 16) (q 17) k.thrown k.length k.size k.p k.limit k.token k.tokAt k.span k.number k.fault k.faultAt k.word k.got k.lines k.hasWait k.undoMany k.firstMinute k.lookClock k.hasTime k.latestMost k.textMany k.seed k.toldMany k.hasTold k.codes k.ones k.top k.deep k.isWhole k.s k.before x0 x1 x2 z.1 z.2.1 z.2.2.1 z.2.2.2.1 z.2.2.2.2 hz, by decide +kernel, rfl, rfl, [true, false, true, false, false, false, false, false, true, false, false, false, false, false, false, false, false, false], by decide +kernel, (zf_t (zf_f (zf_t (zf_f (zf_f (zf_f (zf_f (zf_f (zf_t (zf_f (zf_f (zf_f (zf_f (zf_f (zf_f (zf_f (zf_f (zf_f zf_n)))))))))))))))))), rfl, rfl⟩
set_option maxHeartbeats 4000000 in
set_option maxRecDepth 100000 in
theorem rM_book (l : Launch) (G : va_G) (cy : Nat → ClassId) (E : Nat → Nat) (N : Nat) (q : Nat → Nat) (x0 : Int32) (k k' : RS) (v : Int32) (h : G_book N x0 k = some (v, k')) : KM l G cy E yX12_book wsX12_book rm_X12_book [.int x0] v (RW cy q k) (RW cy q k') (q 0) 13 := by
  unfold G_book at h
  obtain ⟨z, hz, h⟩ := zcl_e h
  cases h
  exact ⟨_, _, [0, 1, 2, 6, 5, 4, 8, 12, 7], _, c_X12_book l G cy E N (q 0) (q 1) (q 2) (q 3) (q 4) (q 5) (q 6) (q 7) (q 8) (q 9) (q 10) (q 11) (q 12) (q 13) (q 14) (q 15) (q 16) (q 17) k.thrown k.length k.size k.p k.limit k.token k.tokAt k.span k.number k.fault k.faultAt k.word k.got k.lines k.hasWait k.undoMany k.firstMinute k.lookClock k.hasTime k.latestMost k.textMany k.seed k.toldMany k.hasTold k.codes k.ones k.top k.deep k.isWhole k.tape k.s k.reserved k.names k.read k.before k.toldAt k.undone x0 z.1 z.2.1 z.2.2.1 z.2.2.2.1 z.2.2.2.2.1 z.2.2.2.2.2.1 z.2.2.2.2.2.2.1 z.2.2.2.2.2.2.2.1 z.2.2.2.2.2.2.2.2.1 z.2.2.2.2.2.2.2.2.2.1 z.2.2.2.2.2.2.2.2.2.2.1 z.2.2.2.2.2.2.2.2.2.2.2.1 z.2.2.2.2.2.2.2.2.2.2.2.2.1 z.2.2.2.2.2.2.2.2.2.2.2.2.2.1 z.2.2.2.2.2.2.2.2.2.2.2.2.2.2.1 z.2.2.2.2.2.2.2.2.2.2.2.2.2.2.2.1 z.2.2.2.2.2.2.2.2.2.2.2.2.2.2.2.2.1 z.2.2.2.2.2.2.2.2.2.2.2.2.2.2.2.2.2.1 z.2.2.2.2.2.2.2.2.2.2.2.2.2.2.2.2.2.2.1 z.2.2.2.2.2.2.2.2.2.2.2.2.2.2.2.2.2.2.2.1 z.2.2.2.2.2.2.2.2.2.2.2.2.2.2.2.2.2.2.2.2.1 z.2.2.2.2.2.2.2.2.2.2.2.2.2.2.2.2.2.2.2.2.2 hz, by decide +kernel, rfl, rfl, [true, true, true, false, true, true, true, true, true, false, false, false, true, false, false, false, false, false], by decide +kernel, (zf_t (zf_t (zf_t (zf_f (zf_t (zf_t (zf_t (zf_t (zf_t (zf_f (zf_f (zf_f (zf_t (zf_f (zf_f (zf_f (zf_f (zf_f zf_n)))))))))))))))))), rfl, rfl⟩
set_option maxHeartbeats 4000000 in
set_option maxRecDepth 100000 in
theorem rM_told (l : Launch) (G : va_G) (cy : Nat → ClassId) (E : Nat → Nat) (N : Nat) (q : Nat → Nat) (x0 : Int32) (k k' : RS) (v : Int32) (h : G_told N x0 k = some (v, k')) : KM l G cy E yX12_told wsX12_told rm_X12_told [.int x0] v (RW cy q k) (RW cy q k') (q 0) 13 := by
  unfold G_told at h
  obtain ⟨z, hz, h⟩ := zcl_e h
  cases h
  exact ⟨_, _, [0, 12], _, c_X12_told l G cy E N (q 0) (q 1) (q 2) (q 3) (q 4) (q 5) (q 6) (q 7) (q 8) (q 9) (q 10) (q 11) (q 12) (q 13) (q 14) (q 15) (q 16) (q 17) k.thrown k.length k.size k.p k.limit k.token k.tokAt k.span k.number k.fault k.faultAt k.word k.got k.lines k.hasWait k.undoMany k.firstMinute k.lookClock k.hasTime k.latestMost k.textMany k.seed k.toldMany k.hasTold k.codes k.ones k.top k.deep k.isWhole k.toldAt x0 z.1 z.2 hz, by decide +kernel, rfl, rfl, [true, false, false, false, false, false, false, false, false, false, false, false, true, false, false, false, false, false], by decide +kernel, (zf_t (zf_f (zf_f (zf_f (zf_f (zf_f (zf_f (zf_f (zf_f (zf_f (zf_f (zf_f (zf_t (zf_f (zf_f (zf_f (zf_f (zf_f zf_n)))))))))))))))))), rfl, rfl⟩
set_option maxHeartbeats 4000000 in
set_option maxRecDepth 100000 in
theorem rM_sentence (l : Launch) (G : va_G) (cy : Nat → ClassId) (E : Nat → Nat) (N : Nat) (q : Nat → Nat) (k k' : RS) (v : Int32) (h : G_sentence N k = some (v, k')) : KM l G cy E yX12_sentence wsX12_sentence rm_X12_sentence [] v (RW cy q k) (RW cy q k') (q 0) 13 := by
  unfold G_sentence at h
  obtain ⟨z, hz, h⟩ := zcl_e h
  cases h
  exact ⟨_, _, [0, 1, 13, 4, 2, 6, 5], _, c_X12_sentence l G cy E N (q 0) (q 1) (q 2) (q 3) (q 4) (q 5) (q 6) (q 7) (q 8) (q 9) (q 10) (q 11) (q 12) (q 13) (q 14) (q 15) (q 16) (q 17) k.thrown k.length k.size k.p k.limit k.token k.tokAt k.span k.number k.fault k.faultAt k.word k.got k.lines k.hasWait k.undoMany k.firstMinute k.lookClock k.hasTime k.latestMost k.textMany k.seed k.toldMany k.hasTold k.codes k.ones k.top k.deep k.isWhole k.tape k.stack k.read k.s k.reserved k.names z.1 z.2.1 z.2.2.1 z.2.2.2.1 z.2.2.2.2.1 z.2.2.2.2.2.1 z.2.2.2.2.2.2.1 z.2.2.2.2.2.2.2.1 z.2.2.2.2.2.2.2.2.1 z.2.2.2.2.2.2.2.2.2.1 z.2.2.2.2.2.2.2.2.2.2.1 z.2.2.2.2.2.2.2.2.2.2.2.1 z.2.2.2.2.2.2.2.2.2.2.2.2.1 z.2.2.2.2.2.2.2.2.2.2.2.2.2.1 z.2.2.2.2.2.2.2.2.2.2.2.2.2.2.1 z.2.2.2.2.2.2.2.2.2.2.2.2.2.2.2.1 z.2.2.2.2.2.2.2.2.2.2.2.2.2.2.2.2.1 z.2.2.2.2.2.2.2.2.2.2.2.2.2.2.2.2.2.1 z.2.2.2.2.2.2.2.2.2.2.2.2.2.2.2.2.2.2.1 z.2.2.2.2.2.2.2.2.2.2.2.2.2.2.2.2.2.2.2.1 z.2.2.2.2.2.2.2.2.2.2.2.2.2.2.2.2.2.2.2.2.1 z.2.2.2.2.2.2.2.2.2.2.2.2.2.2.2.2.2.2.2.2.2 hz, by decide +kernel, rfl, rfl, [true, true, true, false, true, true, true, false, false, false, false, false, false, true, false, false, false, false], by decide +kernel, (zf_t (zf_t (zf_t (zf_f (zf_t (zf_t (zf_t (zf_f (zf_f (zf_f (zf_f (zf_f (zf_f (zf_t (zf_f (zf_f (zf_f (zf_f zf_n)))))))))))))))))), rfl, rfl⟩
set_option maxHeartbeats 4000000 in
set_option maxRecDepth 100000 in
theorem rM_said (l : Launch) (G : va_G) (cy : Nat → ClassId) (E : Nat → Nat) (N : Nat) (q : Nat → Nat) (x0 : Int32) (k k' : RS) (v : Int32) (h : G_said N x0 k = some (v, k')) : KM l G cy E yX12_said wsX12_said rm_X12_said [.int x0] v (RW cy q k) (RW cy q k') (q 0) 13 := by
  unfold G_said at h
  obtain ⟨z, hz, h⟩ := zcl_e h
  cases h
  exact ⟨_, _, [0, 2, 14], _, c_X12_said l G cy E N (q 0) (q 1) (q 2) (q 3) (q 4) (q 5) (q 6) (q 7) (q 8) (q 9) (q 10) (q 11) (q 12) (q 13) (q 14) (q 15) (q 16) (q 17) k.thrown k.length k.size k.p k.limit k.token k.tokAt k.span k.number k.fault k.faultAt k.word k.got k.lines k.hasWait k.undoMany k.firstMinute k.lookClock k.hasTime k.latestMost k.textMany k.seed k.toldMany k.hasTold k.codes k.ones k.top k.deep k.isWhole k.s k.truths x0 z.1 z.2.1 z.2.2 hz, by decide +kernel, rfl, rfl, [true, false, true, false, false, false, false, false, false, false, false, false, false, false, true, false, false, false], by decide +kernel, (zf_t (zf_f (zf_t (zf_f (zf_f (zf_f (zf_f (zf_f (zf_f (zf_f (zf_f (zf_f (zf_f (zf_f (zf_t (zf_f (zf_f (zf_f zf_n)))))))))))))))))), rfl, rfl⟩
set_option maxHeartbeats 4000000 in
set_option maxRecDepth 100000 in
theorem rM_image (l : Launch) (G : va_G) (cy : Nat → ClassId) (E : Nat → Nat) (N : Nat) (q : Nat → Nat) (x0 : Int32) (k k' : RS) (v : Int32) (h : G_image N x0 k = some (v, k')) : KM l G cy E yX12_image wsX12_image rm_X12_image [.int x0] v (RW cy q k) (RW cy q k') (q 0) 13 := by
  unfold G_image at h
  obtain ⟨z, hz, h⟩ := zcl_e h
  cases h
  exact ⟨_, _, [0, 2, 15, 5, 16, 17], _, c_X12_image l G cy E N (q 0) (q 1) (q 2) (q 3) (q 4) (q 5) (q 6) (q 7) (q 8) (q 9) (q 10) (q 11) (q 12) (q 13) (q 14) (q 15) (q 16) (q 17) k.thrown k.length k.size k.p k.limit k.token k.tokAt k.span k.number k.fault k.faultAt k.word k.got k.lines k.hasWait k.undoMany k.firstMinute k.lookClock k.hasTime k.latestMost k.textMany k.seed k.toldMany k.hasTold k.codes k.ones k.top k.deep k.isWhole k.s k.imaged k.names k.namesKept k.areKept x0 z.1 z.2.1 z.2.2.1 z.2.2.2.1 z.2.2.2.2 hz, by decide +kernel, rfl, rfl, [true, false, true, false, false, true, false, false, false, false, false, false, false, false, false, true, true, true], by decide +kernel, (zf_t (zf_f (zf_t (zf_f (zf_f (zf_t (zf_f (zf_f (zf_f (zf_f (zf_f (zf_f (zf_f (zf_f (zf_f (zf_t (zf_t (zf_t zf_n)))))))))))))))))), rfl, rfl⟩
set_option maxHeartbeats 4000000 in
set_option maxRecDepth 100000 in
theorem rM_restore (l : Launch) (G : va_G) (cy : Nat → ClassId) (E : Nat → Nat) (N : Nat) (q : Nat → Nat) (x0 : Int32) (k k' : RS) (v : Int32) (h : G_restore N x0 k = some (v, k')) : KM l G cy E yX12_restore wsX12_restore rm_X12_restore [.int x0] v (RW cy q k) (RW cy q k') (q 0) 13 := by
  unfold G_restore at h
  obtain ⟨z, hz, h⟩ := zcl_e h
  cases h
  exact ⟨_, _, [0, 17, 15, 2, 16, 5], _, c_X12_restore l G cy E N (q 0) (q 1) (q 2) (q 3) (q 4) (q 5) (q 6) (q 7) (q 8) (q 9) (q 10) (q 11) (q 12) (q 13) (q 14) (q 15) (q 16) (q 17) k.thrown k.length k.size k.p k.limit k.token k.tokAt k.span k.number k.fault k.faultAt k.word k.got k.lines k.hasWait k.undoMany k.firstMinute k.lookClock k.hasTime k.latestMost k.textMany k.seed k.toldMany k.hasTold k.codes k.ones k.top k.deep k.isWhole k.areKept k.imaged k.s k.namesKept k.names x0 z.1 z.2.1 z.2.2.1 z.2.2.2.1 z.2.2.2.2 hz, by decide +kernel, rfl, rfl, [true, false, true, false, false, true, false, false, false, false, false, false, false, false, false, true, true, true], by decide +kernel, (zf_t (zf_f (zf_t (zf_f (zf_f (zf_t (zf_f (zf_f (zf_f (zf_f (zf_f (zf_f (zf_f (zf_f (zf_f (zf_t (zf_t (zf_t zf_n)))))))))))))))))), rfl, rfl⟩
set_option maxHeartbeats 4000000 in
set_option maxRecDepth 100000 in
theorem rM_count (l : Launch) (G : va_G) (cy : Nat → ClassId) (E : Nat → Nat) (N : Nat) (q : Nat → Nat) (x0 : Int32) (k k' : RS) (v : Int32) (h : G_count N x0 k = some (v, k')) : KM l G cy E yX12_count wsX12_count rm_X12_count [.int x0] v (RW cy q k) (RW cy q k') (q 0) 13 := by
  unfold G_count at h
  obtain ⟨z, hz, h⟩ := zcl_e h
  cases h
  exact ⟨_, _, [0, 2], _, c_X12_count l G cy E N (q 0) (q 1) (q 2) (q 3) (q 4) (q 5) (q 6) (q 7) (q 8) (q 9) (q 10) (q 11) (q 12) (q 13) (q 14) (q 15) (q 16) (q 17) k.thrown k.length k.size k.p k.limit k.token k.tokAt k.span k.number k.fault k.faultAt k.word k.got k.lines k.hasWait k.undoMany k.firstMinute k.lookClock k.hasTime k.latestMost k.textMany k.seed k.toldMany k.hasTold k.codes k.ones k.top k.deep k.isWhole k.s x0 z.1 z.2 hz, by decide +kernel, rfl, rfl, [true, false, true, false, false, false, false, false, false, false, false, false, false, false, false, false, false, false], by decide +kernel, (zf_t (zf_f (zf_t (zf_f (zf_f (zf_f (zf_f (zf_f (zf_f (zf_f (zf_f (zf_f (zf_f (zf_f (zf_f (zf_f (zf_f (zf_f zf_n)))))))))))))))))), rfl, rfl⟩
