theorem n10 : ¬ (1 : Int32) = 0 := by decide
section QU
variable {S N O T B : Nat} {C D : zx_Y}
theorem ex_pair {l : Nat} (hR : R l S N O T B C (D (26, 0, 0, 0))) : g_X2_exists C l = some (if S = 0 then 0 else 1) ∧ (D (26, 0, 0, 0) 1 = 0 ↔ S = 0) := by
  obtain ⟨hS, hN, -⟩ := RN hR
  constructor
  · unfold g_X2_exists
    rw [hR.1.2.2.1.1]
    by_cases h : S = 0
    · rw [if_pos h, if_pos (by rw [h, nI_0]; decide)]
    · rw [if_neg h, if_neg (nI_nle (by omega) (by omega))]
  · rw [hR.1.2.2.1.2, ← nI_0, nI_eq (by omega) (by omega)]
theorem not_in {x : Int32} {n : Nat} (hn : n < 2 ^ 31) (h : ¬ ∃ k, k < n ∧ x = nI k) (k : Nat) (hk : k < n) : ¬ x = nI k := fun e => h ⟨k, hk, e⟩
theorem out_in {D : zx_Y} {x : Int32} {n : Nat} (hn : n < 2 ^ 31) (hp : 0 < n) (h : ¬ ∃ k, k < n ∧ x = nI k) : g_X11_isIn D x 0 (nI (n - 1)) = some 0 := by
  refine isIn_0 ?_
  rcases nI_cases (x := x) hn with q | q | q
  · exact absurd q h
  · exact Or.inl q.1
  · exact Or.inr (Int32.lt_of_lt_of_le (nI_lt (by omega) hn) q.2)
theorem in_in {D : zx_Y} {k n : Nat} (hn : n < 2 ^ 31) (h : k < n) : g_X11_isIn D (nI k) 0 (nI (n - 1)) = some 1 :=
  isIn_1 (nI_pos (by omega)) (nI_nlt (by omega) (by omega))
theorem op_train (hR : R 0 S N O T B C (D (26, 0, 0, 0))) (x0 x1 : Int32) : ∃ v w, g_X10_train C x0 x1 = some v ∧ g_X11_train D x0 x1 = some w ∧ (x1 ≠ 7 → v = w) := by
  obtain ⟨hS, hN, -⟩ := RN hR
  unfold g_X10_train g_X11_train
  by_cases h0 : ∃ t, t < N ∧ x0 = nI t
  · obtain ⟨t, ht, rfl⟩ := h0
    have ht10 : t < 10 := by omega
    rw [tw_1 hR.1.2.2.2.1.1 hN ht, isTr_1 hR.1.2.2.2.1.2 hN ht, zb_some, if_neg n10]
    obtain ⟨f, g, e', r, hw, ⟨q1, q2, q2d, q3, q3d, q4, q5, q5d, q6, q6d, q7, q8, q9, q11, q14⟩, -⟩ := hR.2.2.2.2.2 t ht
    unfold g_X9_property
    by_cases h1 : ∃ k, k < 10 ∧ x1 = nI k
    · obtain ⟨k, hk, rfl⟩ := h1
      rw [show g_X11_isIn D (nI k) 0 9 = some 1 from in_in (n := 10) (by omega) hk, zb_some, if_neg n10]
      rcases (show k = 0 ∨ k = 1 ∨ k = 2 ∨ k = 3 ∨ k = 4 ∨ k = 5 ∨ k = 6 ∨ k = 7 ∨ k = 8 ∨ k = 9 from by omega) with rfl | rfl | rfl | rfl | rfl | rfl | rfl | rfl | rfl | rfl
      · refine ⟨C (7, 0, t, 0) 1, D (26, 0, 0, 0) (75 + 40 * t), ?_, ?_, ?_⟩
        · simp [show nI 0 = (0 : Int32) from rfl, zb_some]
        · simp [show nI 0 = (0 : Int32) from rfl, zb_some, at_0 ht10]
        · exact fun _ => q1
      · refine ⟨C (7, 0, t, 0) 9, D (26, 0, 0, 0) (75 + 40 * t + 11), ?_, ?_, ?_⟩
        · simp [show nI 1 = (1 : Int32) from rfl, zb_some]
        · simp [show nI 1 = (1 : Int32) from rfl, zb_some, at_11 ht10]
        · exact fun _ => q9
      · refine ⟨C (7, 0, t, 0) 4, D (26, 0, 0, 0) (75 + 40 * t + 3), ?_, ?_, ?_⟩
        · simp [show nI 2 = (2 : Int32) from rfl, zb_some]
        · simp [show nI 2 = (2 : Int32) from rfl, zb_some, at_3 ht10]
        · exact fun _ => q4
      · refine ⟨C (7, 0, t, 0) 5, D (26, 0, 0, 0) (75 + 40 * t + 4), ?_, ?_, ?_⟩
        · simp [show nI 3 = (3 : Int32) from rfl, zb_some]
        · simp [show nI 3 = (3 : Int32) from rfl, zb_some, at_4 ht10]
        · intro _; first | exact q5 | (rw [q5, q5d])
      · refine ⟨C (7, 0, t, 0) 6, D (26, 0, 0, 0) (75 + 40 * t + 5), ?_, ?_, ?_⟩
        · simp [show nI 4 = (4 : Int32) from rfl, zb_some]
        · simp [show nI 4 = (4 : Int32) from rfl, zb_some, at_5 ht10]
        · intro _; first | exact q6 | (rw [q6, q6d])
      · refine ⟨C (7, 0, t, 0) 7, D (26, 0, 0, 0) (75 + 40 * t + 6), ?_, ?_, ?_⟩
        · simp [show nI 5 = (5 : Int32) from rfl, zb_some]
        · simp [show nI 5 = (5 : Int32) from rfl, zb_some, at_6 ht10]
        · exact fun _ => q7
      · refine ⟨C (7, 0, t, 0) 11, D (26, 0, 0, 0) (75 + 40 * t + 7), ?_, ?_, ?_⟩
        · simp [show nI 6 = (6 : Int32) from rfl, zb_some]
        · simp [show nI 6 = (6 : Int32) from rfl, zb_some, at_7 ht10]
        · exact fun _ => q11
      · refine ⟨C (7, 0, t, 0) 12, D (26, 0, 0, 0) (75 + 40 * t + 8), ?_, ?_, ?_⟩
        · simp [show nI 7 = (7 : Int32) from rfl, zb_some]
        · simp [show nI 7 = (7 : Int32) from rfl, zb_some, at_8 ht10]
        · exact fun h => absurd rfl h
      · refine ⟨C (7, 0, t, 0) 14, D (26, 0, 0, 0) (75 + 40 * t + 9), ?_, ?_, ?_⟩
        · simp [show nI 8 = (8 : Int32) from rfl, zb_some]
        · simp [show nI 8 = (8 : Int32) from rfl, zb_some, at_9 ht10]
        · exact fun _ => q14
      · refine ⟨C (7, 0, t, 0) 8, D (26, 0, 0, 0) (75 + 40 * t + 10), ?_, ?_, ?_⟩
        · simp [show nI 9 = (9 : Int32) from rfl, zb_some]
        · simp [show nI 9 = (9 : Int32) from rfl, zb_some, at_10 ht10]
        · exact fun _ => q8
    · have hn := not_in (by omega) h1
      rw [show g_X11_isIn D x1 0 9 = some 0 from out_in (n := 10) (by omega) (by omega) h1, zb_some, if_pos rfl]
      refine ⟨-1, -1, ?_, rfl, fun _ => rfl⟩
      rw [if_neg (show ¬ x1 = 0 from hn 0 (by omega)), if_neg (show ¬ x1 = 1 from hn 1 (by omega)), if_neg (show ¬ x1 = 2 from hn 2 (by omega)), if_neg (show ¬ x1 = 3 from hn 3 (by omega)), if_neg (show ¬ x1 = 4 from hn 4 (by omega)), if_neg (show ¬ x1 = 5 from hn 5 (by omega)), if_neg (show ¬ x1 = 6 from hn 6 (by omega)), if_neg (show ¬ x1 = 7 from hn 7 (by omega)), if_neg (show ¬ x1 = 8 from hn 8 (by omega)), if_neg (show ¬ x1 = 9 from hn 9 (by omega)), zb_some]
  · rw [tw_0 hR.1.2.2.2.1.1 hN h0, isTr_0 hR.1.2.2.2.1.2 hN h0, zb_some, if_pos rfl]
    exact ⟨-1, -1, rfl, rfl, fun _ => rfl⟩
theorem op_station (hR : R 0 S N O T B C (D (26, 0, 0, 0))) (x0 x1 : Int32) : ∃ v, g_X10_station C x0 x1 = some v ∧ g_X11_station D x0 x1 = some v := by
  obtain ⟨hS, hN, -⟩ := RN hR
  obtain ⟨x1e, x2e⟩ := ex_pair hR
  unfold g_X10_station g_X11_station
  rw [x1e, zb_some]
  by_cases hz : S = 0
  · rw [if_pos hz, if_pos rfl, if_pos (x2e.mpr hz)]
    exact ⟨_, rfl, rfl⟩
  · rw [if_neg hz, if_neg n10, if_neg (fun h => hz (x2e.mp h))]
    by_cases h0 : ∃ s, s < S ∧ x0 = nI s
    · obtain ⟨s, hs, rfl⟩ := h0
      obtain ⟨s01, hst⟩ := hR.2.1 s (by omega)
      obtain ⟨g0, g1, g2⟩ := hst hs
      rw [hst_1 hR.1.2.2.1.1 hS hs, isSt_1 hR.1.2.2.1.2 hS hs, zb_some, zb_some, if_neg n10, if_neg n10]
      by_cases h1 : ∃ k, k < 5 ∧ x1 = nI k
      · obtain ⟨k, hk, rfl⟩ := h1
        obtain ⟨tk, k1, k2⟩ := tk_pair hR (nI s)
        rw [show g_X11_isIn D (nI k) 0 4 = some 1 from in_in (n := 5) (by omega) hk, zb_some, if_neg n10]
        obtain ⟨tn, m1, m2⟩ := tin_pair hR (nI s) (nI k) (fun v3 v4 => (if nI k = 0 then (zi (9 + nI s) 640 fun k1 => (some (D (26, 0, 0, 0) k1))) else (if nI k = 1 then (zb (g_X11_taken D (nI s)) fun v5 => (some v5)) else (if nI k = 2 then (zi (17 + nI s) 640 fun k2 => (some (D (26, 0, 0, 0) k2))) else (if nI k = 3 then (some v3) else (zi (28 + nI s) 640 fun k3 => (some (D (26, 0, 0, 0) k3))))))))
        rw [m2]
        rw [show (9 + nI s : Int32) = nI (9 + s) from nI_add 9 s, show (17 + nI s : Int32) = nI (17 + s) from nI_add 17 s, show (28 + nI s : Int32) = nI (28 + s) from nI_add 28 s, zi_n _ (show 9 + s < 640 by omega) (by omega), zi_n _ (show 17 + s < 640 by omega) (by omega), zi_n _ (show 28 + s < 640 by omega) (by omega), zi_n _ (show s < 8 by omega) (by omega), zi_n _ (show s < 8 by omega) (by omega), zi_n _ (show s < 8 by omega) (by omega), k1, k2, m1, g0, g1, g2]
        simp only [zb_some]
        rcases (show k = 0 ∨ k = 1 ∨ k = 2 ∨ k = 3 ∨ k = 4 from by omega) with rfl | rfl | rfl | rfl | rfl
        · exact ⟨D (26, 0, 0, 0) (9 + s), by simp [nI_0], by simp [nI_0]⟩
        · exact ⟨tk, by simp [show nI 1 = (1 : Int32) from rfl], by simp [show nI 1 = (1 : Int32) from rfl]⟩
        · refine ⟨D (26, 0, 0, 0) (17 + s), ?_, by simp [show nI 2 = (2 : Int32) from rfl]⟩
          rw [g1] at s01
          rcases s01 with z | z <;> simp [show nI 2 = (2 : Int32) from rfl, z]
        · exact ⟨tn, by simp [show nI 3 = (3 : Int32) from rfl], by simp [show nI 3 = (3 : Int32) from rfl]⟩
        · exact ⟨_, by simp [show nI 4 = (4 : Int32) from rfl]; rfl, by simp [show nI 4 = (4 : Int32) from rfl]⟩
      · have hn := not_in (by omega) h1
        rw [show g_X11_isIn D x1 0 4 = some 0 from out_in (n := 5) (by omega) (by omega) h1, zb_some, if_pos rfl]
        refine ⟨-1, ?_, rfl⟩
        rw [if_neg (show ¬ x1 = 0 from hn 0 (by omega)), if_neg (show ¬ x1 = 1 from hn 1 (by omega)), if_neg (show ¬ x1 = 2 from hn 2 (by omega)), if_neg (show ¬ x1 = 3 from hn 3 (by omega)), if_neg (show ¬ x1 = 4 from hn 4 (by omega))]
    · rw [hst_0 hR.1.2.2.1.1 hS h0, isSt_0 hR.1.2.2.1.2 hS h0, zb_some, zb_some, if_pos rfl, if_pos rfl]
      exact ⟨_, rfl, rfl⟩
theorem op_block (hR : R 0 S N O T B C (D (26, 0, 0, 0))) (x0 x1 : Int32) : ∃ v, g_X10_block C x0 x1 = some v ∧ g_X11_block D x0 x1 = some v := by
  obtain ⟨hS, hN, -⟩ := RN hR
  obtain ⟨x1e, x2e⟩ := ex_pair hR
  unfold g_X10_block g_X11_block
  rw [x1e, zb_some]
  by_cases hz : S = 0
  · rw [if_pos hz, if_pos rfl, if_pos (x2e.mpr hz)]
    exact ⟨_, rfl, rfl⟩
  · rw [if_neg hz, if_neg n10, if_neg (fun h => hz (x2e.mp h))]
    by_cases h0 : ∃ b, b + 1 < S ∧ x0 = nI b
    · obtain ⟨b, hb, rfl⟩ := h0
      obtain ⟨⟨n, -, -, g0, g0d⟩, g1, g2⟩ := hR.2.2.1 b hb
      rw [hbl_1 hR.1.2.2.1.1 hS hb, isBl_1 hR.1.2.2.1.2 hS hb, zb_some, zb_some, if_neg n10, if_neg n10]
      by_cases h1 : ∃ k, k < 5 ∧ x1 = nI k
      · obtain ⟨k, hk, rfl⟩ := h1
        obtain ⟨oc, -, k1, k2⟩ := occ_pair hR (nI b)
        obtain ⟨sl, -, m1, m2⟩ := slow_pair hR (nI b)
        rw [show g_X11_isIn D (nI k) 0 4 = some 1 from in_in (n := 5) (by omega) hk, zb_some, if_neg n10]
        rw [show (2 + nI b : Int32) = nI (2 + b) from nI_add 2 b, show (36 + nI b : Int32) = nI (36 + b) from nI_add 36 b, show (43 + nI b : Int32) = nI (43 + b) from nI_add 43 b, zi_n _ (show 2 + b < 640 by omega) (by omega), zi_n _ (show 36 + b < 640 by omega) (by omega), zi_n _ (show 43 + b < 640 by omega) (by omega), zi_n _ (show b < 7 by omega) (by omega), zi_n _ (show b < 7 by omega) (by omega), zi_n _ (show b < 7 by omega) (by omega), k1, k2, m1, m2, g0, g0d, g1, g2]
        simp only [zb_some]
        rcases (show k = 0 ∨ k = 1 ∨ k = 2 ∨ k = 3 ∨ k = 4 from by omega) with rfl | rfl | rfl | rfl | rfl
        · exact ⟨_, by simp [nI_0]; rfl, by simp [nI_0]⟩
        · exact ⟨oc, by simp [show nI 1 = (1 : Int32) from rfl], by simp [show nI 1 = (1 : Int32) from rfl]⟩
        · exact ⟨nI sl, by simp [show nI 2 = (2 : Int32) from rfl], by simp [show nI 2 = (2 : Int32) from rfl]⟩
        · exact ⟨_, by simp [show nI 3 = (3 : Int32) from rfl]; rfl, by simp [show nI 3 = (3 : Int32) from rfl]⟩
        · exact ⟨_, by simp [show nI 4 = (4 : Int32) from rfl]; rfl, by simp [show nI 4 = (4 : Int32) from rfl]⟩
      · have hn := not_in (by omega) h1
        rw [show g_X11_isIn D x1 0 4 = some 0 from out_in (n := 5) (by omega) (by omega) h1, zb_some, if_pos rfl]
        refine ⟨-1, ?_, rfl⟩
        rw [if_neg (show ¬ x1 = 0 from hn 0 (by omega)), if_neg (show ¬ x1 = 1 from hn 1 (by omega)), if_neg (show ¬ x1 = 2 from hn 2 (by omega)), if_neg (show ¬ x1 = 3 from hn 3 (by omega)), if_neg (show ¬ x1 = 4 from hn 4 (by omega))]
    · rw [hbl_0 hR.1.2.2.1.1 hS h0, isBl_0 hR.1.2.2.1.2 hS h0, zb_some, zb_some, if_pos rfl, if_pos rfl]
      exact ⟨_, rfl, rfl⟩
theorem op_held (hR : R 0 S N O T B C (D (26, 0, 0, 0))) (x0 x1 : Int32) : ∃ v, g_X10_held C x0 x1 = some v ∧ g_X11_held D x0 x1 = some v := by
  obtain ⟨hS, hN, -⟩ := RN hR
  have hT := hR.1.2.2.2.2.2.1.2.2.2.2
  obtain ⟨x1e, x2e⟩ := ex_pair hR
  unfold g_X10_held g_X11_held
  rw [x1e, zb_some]
  by_cases hz : S = 0
  · rw [if_pos hz, if_pos rfl, if_pos (x2e.mpr hz)]
    exact ⟨_, rfl, rfl⟩
  · rw [if_neg hz, if_neg n10, if_neg (fun h => hz (x2e.mp h))]
    by_cases h0 : ∃ b, b + 1 < S ∧ x0 = nI b
    · obtain ⟨b, hb, rfl⟩ := h0
      rw [hbl_1 hR.1.2.2.1.1 hS hb, isBl_1 hR.1.2.2.1.2 hS hb, zb_some, zb_some, if_neg n10, if_neg n10, hR.1.1.1, hR.1.1.2]
      by_cases h1 : ∃ k, k < T + 1 ∧ x1 = nI k
      · obtain ⟨m, hm, rfl⟩ := h1
        have e1 : g_X11_isIn D (nI m) 0 (nI T) = some 1 := in_in (n := T + 1) (by omega) hm
        rw [if_neg (nI_pos (by omega)), if_pos (nI_le (by omega) (by omega)), e1, zb_some, if_neg n10]
        obtain ⟨v, g1, g2⟩ := held_loop hR hb (show m ≤ T by omega) N 0 1000 1000 (by omega) (by omega) (by omega)
        rw [nI_0] at g1 g2
        refine ⟨v, ?_, g2⟩
        have g3 : g_X2_holder C 0 (nI b) (nI m) = some v := by unfold g_X2_holder; exact g1
        rw [g3, zb_some]
      · have e1 : g_X11_isIn D x1 0 (nI T) = some 0 := out_in (n := T + 1) (by omega) (by omega) h1
        rw [e1, zb_some, if_pos rfl]
        refine ⟨-2, ?_, rfl⟩
        rcases nI_cases (x := x1) (n := T + 1) (by omega) with q | q | q
        · exact absurd q h1
        · rw [if_pos q.1]
        · rw [if_neg q.1, if_neg (fun h => absurd (Int32.le_trans q.2 h) (nI_ge (by omega) (by omega)))]
    · rw [hbl_0 hR.1.2.2.1.1 hS h0, isBl_0 hR.1.2.2.1.2 hS h0, zb_some, zb_some, if_pos rfl, if_pos rfl]
      exact ⟨_, rfl, rfl⟩
theorem op_order (hR : R 0 S N O T B C (D (26, 0, 0, 0))) (x0 : Int32) : ∃ v C' D', g_X10_order C x0 = some (v, C') ∧ g_X11_order D x0 = some (v, D') := by
  obtain ⟨hS, hN, -⟩ := RN hR
  obtain ⟨n, a, C', D', h1, h2, h3, h4, h5, h6, h7, h8, h9⟩ := rank_pair hR
  unfold g_X10_order g_X11_order
  rw [h2, h3, zm_some, zm_some, h6, h7]
  by_cases c : x0 = -1
  · rw [if_pos c, if_pos c]
    exact ⟨_, _, _, rfl, rfl⟩
  · rw [if_neg c, if_neg c]
    by_cases h0 : ∃ k, k < n ∧ x0 = nI k
    · obtain ⟨k, hk, rfl⟩ := h0
      rw [if_neg (nI_pos (by omega)), if_pos (nI_lt hk (by omega)), isN_1 hk (by omega), zb_some, if_neg n10, zi_n _ (by omega) (by omega), zi_n _ (by omega) (by omega), (h8 k hk).2.2.1, (h8 k hk).2.2.2]
      exact ⟨_, _, _, rfl, rfl⟩
    · rw [isN_0 (by omega) h0, zb_some, if_pos rfl]
      refine ⟨-1, C', D', ?_, rfl⟩
      rcases nI_cases (x := x0) (n := n) (by omega) with q | q | q
      · exact absurd q h0
      · rw [if_pos q.1]
      · rw [if_neg q.1, if_neg (Int32.not_lt.mpr q.2)]
theorem op_count (hR : R 0 S N O T B C (D (26, 0, 0, 0))) (hL : C (14, 0, 0, 0) 1 = D (25, 0, 0, 0) 4) (x0 : Int32) : ∃ v, g_X10_count C x0 = some v ∧ g_X11_count D x0 = some v := by
  obtain ⟨v0, a1, a2⟩ := cnt_pair hR 0
  obtain ⟨v4, b1, b2⟩ := cnt_pair hR 4
  obtain ⟨v9, c1, c2⟩ := stay_pair hR
  unfold g_X10_count g_X11_count
  rw [a1, a2, b1, b2, c1, c2, hR.1.1.1, hR.1.1.2, hR.1.2.1.1, hR.1.2.1.2, hR.1.2.2.1.1, hR.1.2.2.1.2, hR.1.2.2.2.1.1, hR.1.2.2.2.1.2, hR.1.2.2.2.2.1.1, hR.1.2.2.2.2.1.2, hL]
  simp only [zb_some]
  (repeat' split) <;> exact ⟨_, rfl, rfl⟩
end QU
