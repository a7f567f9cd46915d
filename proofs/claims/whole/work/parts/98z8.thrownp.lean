/-! ===== when they throw ===== -/
theorem wrT_ok (N : Nat) (x0 cl a b : Int32) (c d e g : Nat → Int32) (h : f_X11_isClock N x0 cl = some 0) : f_X11_wrongT N x0 cl a b c d e g = some () := by
  unfold f_X11_wrongT
  rw [h, zcl_s, if_pos rfl]
theorem maT_ok (N : Nat) (x0 x1 M T9 : Int32) (a : Nat → Int32) (o : Int32) (b c d e g : Nat → Int32) (h : f_X11_isMaster N x0 M = some 0 ∨ (f_X11_isMaster N x0 M = some 1 ∧ (x1 < 0 ∨ (¬ x1 < 0 ∧ ¬ x1 ≤ 6)))) : f_X11_masterT N x0 x1 M T9 a o b c d e g = some () := by
  unfold f_X11_masterT f_X11_masterT_18
  rcases h with h | ⟨h, h1 | ⟨h1, h2⟩⟩
  · rw [h, zcl_s, if_pos rfl]
  · rw [h, zcl_s, if_neg (show ¬ (1 : Int32) = 0 by decide), if_pos h1]
  · rw [h, zcl_s, if_neg (show ¬ (1 : Int32) = 0 by decide), if_neg h1, if_neg h2]
theorem meT_ok (N : Nat) (x0 M T9 : Int32) (a b : Nat → Int32) (h : ∃ z, f_X3_howOftenCame N M T9 a = some z ∧ (z = 0 ∨ (¬ z = 0 ∧ (x0 < 0 ∨ (¬ x0 < 0 ∧ ¬ x0 ≤ 1))))) : f_X11_meanT N x0 M T9 a b = some () := by
  unfold f_X11_meanT f_X11_meanT_24
  obtain ⟨z, h0, h⟩ := h
  rcases h with h | ⟨h, h1 | ⟨h1, h2⟩⟩
  · rw [h0, zcl_s, if_pos h]
  · rw [h0, zcl_s, if_neg h, if_pos h1]
  · rw [h0, zcl_s, if_neg h, if_neg h1, if_neg h2]
