/-! ===== the beginning: what the two constructors leave ===== -/
def rvf : Nat → Int64 := (vp_updL (vp_updL (vp_updL (vp_updL (vp_updL (vp_updL (vp_updL (vp_updL (vp_updL (vp_updL (vp_updL (vp_updL (vp_updL (vp_updL (vp_updL (vp_updL (vp_updL (vp_updL (vp_updL (vp_updL (vp_updL (vp_updL (vp_updL (vp_updL (vp_updL (vp_updL (fun _ => 0) 0 427021001579) 1 1717662580) 2 1936486263) 3 444015930995) 4 465726301555) 5 120265316263282) 6 1835361652) 7 427071202675) 8 2002872692) 9 1936028787) 10 1937010544) 11 495873782388) 12 1836021349) 13 120299592184933) 14 28530) 15 6385252) 16 7237492) 17 7304564) 18 444250812007) 19 491394656372) 20 25209) 21 29807) 22 1818326117) 23 109330312357234) 24 1667329381) 25 121450625394034)
theorem rvf_e : ∀ i, i < 26 → some (rvf i) = rv9[i]? := by decide +kernel
theorem rvf_RV : RV rvf := fun i w h => by
  have hi : i < 26 := (List.getElem?_eq_some_iff.mp h).1
  have := rvf_e i hi
  rw [h] at this
  exact Option.some.inj this
theorem ini409_ok (N : Nat) (hN : 100 ≤ N) (h' : Nat → Int32) (h3 : h' 3 = 15) (hz : ∀ i, i < 52 → i ≠ 3 → h' i = 0) (res : Nat → Int64) : ∃ s', f_X12_init_409 N N 0 (fun _ => 0) h' res = some (s', h', res) ∧ s' 3 = 15 ∧ ∀ i, i < 334 → ¬ i = 3 → s' i = 0 := by
  refine loopP (F := fun n i g => f_X12_init_409 N n (nI i) g h' res) (M := 52) (Post := fun z => ∃ s', z = some (s', h', res) ∧ s' 3 = 15 ∧ ∀ i, i < 334 → ¬ i = 3 → s' i = 0) (fun i g => (3 < i → g 3 = 15) ∧ ∀ k, ¬ k = 3 → g k = 0) ?_ ?_ N 0 (fun _ => 0) (by omega) (by omega) ⟨fun z => absurd z (by omega), fun _ _ => rfl⟩
  · intro n i g hi ⟨hI, hO⟩
    left
    refine ⟨upd g i (h' i), ?_, fun q => ?_, fun k hk => ?_⟩
    · show f_X12_init_409 N (n + 1) (nI i) g h' res = f_X12_init_409 N n (nI (i + 1)) (upd g i (h' i)) h' res
      rw [f_X12_init_409, if_neg (show ¬ (52 : Int32) ≤ nI i from nI_ge (b := 52) hi (by omega)), zin_nI hi (by omega), zck_t, zbn_s, zin_nI (show i < 334 by omega) (by omega), zck_t, zbn_s, zbn_s, nI_1, cl_n (show i < 2147483648 by omega)]
    · by_cases e : i = 3
      · rw [e, pk_us]; exact h3
      · rw [pk_un (by omega)]; exact hI (by omega)
    · by_cases e : k = i
      · rw [e, pk_us]; exact hz i hi (by omega)
      · rw [pk_un e]; exact hO k hk
  · intro n g ⟨hI, hO⟩
    show ∃ s', f_X12_init_409 N (n + 1) (nI 52) g h' res = some (s', h', res) ∧ s' 3 = 15 ∧ ∀ i, i < 334 → ¬ i = 3 → s' i = 0
    rw [f_X12_init_409, if_pos (show (52 : Int32) ≤ nI 52 by decide)]
    exact ⟨_, rfl, hI (by omega), fun i _ h => hO i h⟩
theorem ini_ok (N : Nat) (hN : 100 ≤ N) : ∃ s' h', f_X12_init_149 N (fun _ => 0) (fun _ => 0) (fun _ => 0) = some (s', h', rvf) ∧ s' 3 = 15 ∧ ∀ i, i < 334 → ¬ i = 3 → s' i = 0 := by
  obtain ⟨h', c1, c2, c3⟩ := X12_clears_ok N (fun _ => 0) hN
  obtain ⟨s', d1, d2, d3⟩ := ini409_ok N hN h' c2 c3 rvf
  refine ⟨s', h', ?_, d2, d3⟩
  show (zcl (f_X12_clears N (fun _ => 0)) fun z404 => f_X12_init_409 N N 0 (fun _ => 0) z404 rvf) = some (s', h', rvf)
  rw [c1, zcl_s]
  exact d1
