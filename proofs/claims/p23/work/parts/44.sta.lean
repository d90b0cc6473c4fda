theorem rmo {C0 : zx_Y} {l p O : Nat} (hO : O ≤ 6) (hp : p < O) (h5 : C0 (1, l, 0, 0) 5 = nI O) : ∃ C', g_X2_removeOrder C0 l (nI p) = some C' ∧ C' (1, l, 0, 0) 5 = nI (O - 1) ∧ (∀ h j, (¬ h.1 = 9 ∨ ¬ h.2.1 = l) → ¬ (h = (1, l, 0, 0) ∧ j = 5) → C' h j = C0 h j) ∧ ∀ s j, s < 6 → j < 4 → C' (9, l, s, 0) j = if p ≤ s ∧ s < O - 1 then C0 (9, l, s + 1, 0) j else C0 (9, l, s, 0) j := by
  obtain ⟨C', ⟨-, g1, g2⟩, g3⟩ := loop1 (N := O - 1) (P := fun t C => p ≤ t ∧ (∀ h j, (¬ h.1 = 9 ∨ ¬ h.2.1 = l) → C h j = C0 h j) ∧ ∀ s j, s < 6 → j < 4 → C (9, l, s, 0) j = if p ≤ s ∧ s < t then C0 (9, l, s + 1, 0) j else C0 (9, l, s, 0) j) (F := lg_X2_removeOrder_2 l (fun v1 M1 => (zl (zx_up M1 (1, l, 0, 0) 5 ((M1 (1, l, 0, 0) 5) - 1)) fun M2 => (some M2)))) (kc := fun v1 M1 => (zl (zx_up M1 (1, l, 0, 0) 5 ((M1 (1, l, 0, 0) 5) - 1)) fun M2 => (some M2)))
    (fun q C hP => by rw [lg_X2_removeOrder_2.eq_2, hP.2.1 _ _ (Or.inl (by simp)), h5, nI_1, if_pos (nI_le (by omega) (by omega))])
    (fun t C ht hP => by
      obtain ⟨C', c1, c2, c3⟩ := cp_X6 (C := C) (l := l) (i := t) (m := l) (j := t + 1) (Or.inr (by omega))
      refine ⟨C', ⟨by omega, fun h j hh => ?_, fun s j hs hj => ?_⟩, fun q => ?_⟩
      · rw [c2 h j (fun e => by rw [e] at hh; rcases hh with hh | hh <;> exact hh rfl)]
        exact hP.2.1 h j hh
      · by_cases e : s = t
        · subst e
          rw [c3 j hj, hP.2.2 (s + 1) j (by omega) hj, if_neg (by omega), if_pos ⟨hP.1, by omega⟩]
        · rw [c2 _ _ (by simp; omega), hP.2.2 s j hs hj]
          by_cases z : p ≤ s ∧ s < t
          · rw [if_pos z, if_pos ⟨z.1, by omega⟩]
          · rw [if_neg z, if_neg (by omega)]
      · rw [lg_X2_removeOrder_2.eq_2, hP.2.1 _ _ (Or.inl (by simp)), h5, nI_1, if_neg (nI_ge (by omega) (by omega)), zi_n _ (by omega) (by omega), zi_n _ (by omega) (by omega), c1, zm_some])
    (O - 1 - p) p 1000 C0 (by omega) (by omega) ⟨by omega, fun _ _ _ => rfl, fun s j _ _ => by rw [if_neg (by omega)]⟩
  have e5 : C' (1, l, 0, 0) 5 = nI O := (g1 _ _ (Or.inl (by simp))).trans h5
  refine ⟨zx_up C' (1, l, 0, 0) 5 (nI (O - 1)), ?_, up_e (by omega), fun h j hh hn => ?_, fun s j hs hj => ?_⟩
  · unfold g_X2_removeOrder
    rw [g3, zl_def, e5, sb_m1' (by omega)]
  · unfold zx_up
    rw [if_neg (fun e => hn ⟨e.2, e.1⟩)]
    exact g1 h j hh
  · rw [up_n (by omega)]
    exact g2 s j hs hj
theorem lft {D0 : zx_Y} {p O : Nat} (hO : O ≤ 6) (hp : p < O) (h5 : D0 (26, 0, 0, 0) 50 = nI O) : ∃ D', g_X11_lift D0 (nI p) = some (nI (O - 1), D') ∧ D' (26, 0, 0, 0) 50 = nI (O - 1) ∧ ∀ j, j ≠ 50 → D' (26, 0, 0, 0) j = if 51 + 4 * p ≤ j ∧ j < 51 + 4 * (O - 1) then D0 (26, 0, 0, 0) (j + 4) else D0 (26, 0, 0, 0) j := by
  obtain ⟨D', ⟨-, g1, g2⟩, g3⟩ := loop1 (N := 4 * (O - 1)) (P := fun t D => 4 * p ≤ t ∧ D (26, 0, 0, 0) 50 = nI (O - 1) ∧ ∀ j, j ≠ 50 → D (26, 0, 0, 0) j = if 51 + 4 * p ≤ j ∧ j < 51 + t then D0 (26, 0, 0, 0) (j + 4) else D0 (26, 0, 0, 0) j) (F := lg_X11_lift_34 (fun v2 M2 => (some ((M2 (26, 0, 0, 0) 50), M2)))) (kc := fun v2 M2 => (some ((M2 (26, 0, 0, 0) 50), M2)))
    (fun q D hP => by rw [lg_X11_lift_34.eq_2, hP.2.1, show (4 * nI (O - 1) : Int32) = nI (4 * (O - 1)) from pk_mul 4 _, if_pos (nI_le (Nat.le_refl _) (by omega))])
    (fun t D ht hP => by
      refine ⟨zx_up D (26, 0, 0, 0) (51 + t) (D (26, 0, 0, 0) (51 + t + 4)), ⟨by omega, (up_n (by omega)).trans hP.2.1, fun j hj => ?_⟩, fun q => ?_⟩
      · by_cases e : j = 51 + t
        · subst e
          rw [up_e (by omega), hP.2.2 _ (by omega), if_neg (by omega), if_pos (by omega)]
        · rw [up_n (by omega), hP.2.2 j hj]
          by_cases z : 51 + 4 * p ≤ j ∧ j < 51 + t
          · rw [if_pos z, if_pos (by omega)]
          · rw [if_neg z, if_neg (by omega)]
      · rw [lg_X11_lift_34.eq_2, hP.2.1, show (4 * nI (O - 1) : Int32) = nI (4 * (O - 1)) from pk_mul 4 _, if_neg (nI_ge ht (by omega)), show (51 + nI t : Int32) = nI (51 + t) from nI_add 51 t, show (nI (51 + t) + 4 : Int32) = nI (51 + t + 4) from nI_add _ 4, zi_n _ (by omega) (by omega), zi_n _ (by omega) (by omega), zl_def, nI_1])
    (4 * (O - 1) - 4 * p) (4 * p) 1000 (zx_up D0 (26, 0, 0, 0) 50 (nI (O - 1))) (by omega) (by omega) ⟨by omega, up_e (by omega), fun j hj => by rw [up_n (by omega), if_neg (by omega)]⟩
  refine ⟨D', ?_, g1, g2⟩
  unfold g_X11_lift
  rw [h5, isN_1 hp (by omega), zb_some, if_neg n10, zl_def, sb_m1' (by omega), show (4 * nI p : Int32) = nI (4 * p) from pk_mul 4 p, g3, g1]
theorem Op_lift {C D : zx_Y} (hI : II C D) (x0 : Int32) : ∃ v C' D', g_X10_lift C x0 = some (v, C') ∧ g_X11_lift D x0 = some (v, D') ∧ II C' D' := by
  obtain ⟨S, N, O, T, hT, hR, hP, hV, hA, hF⟩ := id hI
  obtain ⟨hS, hN, -⟩ := RN hR
  have hO : O ≤ 6 := hR.1.2.2.2.2.2.1.2.2.2.1
  have c5 := hR.1.2.2.2.2.1.1
  have d50 := hR.1.2.2.2.2.1.2
  by_cases h0 : ∃ p, p < O ∧ x0 = nI p
  · obtain ⟨p, hp, rfl⟩ := h0
    obtain ⟨C', a1, a2, a3, a4⟩ := rmo hO hp c5
    obtain ⟨D', b1, b2, b3⟩ := lft hO hp d50
    have e1 : g_X10_lift C (nI p) = some (nI (O - 1), C') := by
      unfold g_X10_lift
      rw [if_neg (nI_pos (by omega)), c5, if_pos (nI_lt hp (by omega)), a1, zm_some, a2]
    have e2 := b1
    have fc := fun c j => fr_X10_lift (c := c) (j_ := j) e1
    have fd := fun c j => fr_X11_lift (c := c) (j_ := j) e2
    have nd : ∀ j, (j < 50 ∨ 75 ≤ j) → D' (26, 0, 0, 0) j = D (26, 0, 0, 0) j := fun j hj => by
      rw [b3 j (by omega), if_neg (by omega)]
    have nc : ∀ h j, ¬ h.1 = 9 → ¬ (h = (1, 0, 0, 0) ∧ j = 5) → C' h j = C h j := fun h j h1 h2 => a3 h j (Or.inl h1) h2
    obtain ⟨hb, hs, hk, ho, hn, hts⟩ := hR
    refine ⟨_, _, _, e1, e2, S, N, O - 1, T, hT, ⟨?_, ?_, ?_, ?_, fun t ht => ?_, fun t ht => ?_⟩, (RP_cong' (fun c j e => fc c j (by rw [e]; decide)) (fun j h1 h2 => nd j (by omega)) hP), (RV_cong (fun c j e => fc c j (by rw [e]; decide)) (fun c j e => fc c j (by rw [e]; decide)) (fun c j e => fd c j (by rw [e]; decide)) (fun c j e => fd c j (by rw [e]; decide)) hV), (RA_cong (fun c j e => fc c j (by rw [e]; decide)) (fun c j e => fd c j (by rw [e]; decide)) (fun c j e => fd c j (by rw [e]; decide)) hA), (RF_cong (fun c j e => fc c j (by rw [e]; decide)) (fun c j e => fd c j (by rw [e]; decide)) (fun c j e => fd c j (by rw [e]; decide)) (fun c j e => fd c j (by rw [e]; decide)) hF)⟩
    · unfold Rb at hb ⊢
      rw [nc _ 0 (by simp) (by simp), nc _ 1 (by simp) (by simp), nc _ 2 (by simp) (by simp), nc _ 3 (by simp) (by simp), nc _ 4 (by simp) (by simp), nd 0 (by omega), nd 25 (by omega), nd 26 (by omega), nd 1 (by omega), nd 27 (by omega)]
      exact ⟨hb.1, hb.2.1, hb.2.2.1, hb.2.2.2.1, ⟨a2, b2⟩, ⟨hb.2.2.2.2.2.1.1, hb.2.2.2.2.2.1.2.1, hb.2.2.2.2.2.1.2.2.1, by omega, hb.2.2.2.2.2.1.2.2.2.2⟩, hb.2.2.2.2.2.2⟩
    · exact Rs_keep hS (fun s j => nc _ _ (by simp) (by simp)) (fun j h1 h2 h3 => nd j (by omega)) hs
    · exact Rk_keep hS (fun s j => nc _ _ (by simp) (by simp)) (fun j h1 => nd j (by omega)) hk
    · intro i hi
      rw [a4 i 0 (by omega) (by omega), a4 i 1 (by omega) (by omega), a4 i 2 (by omega) (by omega), a4 i 3 (by omega) (by omega), b3 _ (by omega), b3 _ (by omega), b3 _ (by omega), b3 _ (by omega)]
      by_cases z : p ≤ i
      · have z2 : p ≤ i ∧ i < O - 1 := ⟨z, hi⟩
        rw [if_pos z2, if_pos z2, if_pos z2, if_pos z2, if_pos (by omega), if_pos (by omega), if_pos (by omega), if_pos (by omega)]
        have y := ho (i + 1) (by omega)
        rw [show 51 + 4 * (i + 1) = 51 + 4 * i + 4 by omega] at y
        rw [show 51 + 4 * i + 1 + 4 = 51 + 4 * i + 4 + 1 by omega, show 51 + 4 * i + 2 + 4 = 51 + 4 * i + 4 + 2 by omega, show 51 + 4 * i + 3 + 4 = 51 + 4 * i + 4 + 3 by omega]
        exact y
      · rw [if_neg (by omega), if_neg (by omega), if_neg (by omega), if_neg (by omega), if_neg (by omega), if_neg (by omega), if_neg (by omega), if_neg (by omega)]
        exact ho i (by omega)
    · rw [nc _ _ (by simp) (by simp)]
      exact hn t ht
    · exact Rt_cong (by omega) hS (fun j hj => nc _ _ (by simp) (by simp)) (fun j hj => nc _ _ (by simp) (by simp)) (fun k s hk hs => nc _ _ (by simp) (by simp)) (fun j h1 h2 => nd j (by omega)) (hts t ht)
  · refine ⟨-1, C, D, ?_, ?_, hI⟩
    · unfold g_X10_lift
      rw [c5]
      rcases nI_cases (x := x0) (n := O) (by omega) with q | q | q
      · exact absurd q h0
      · rw [if_pos q.1]
      · rw [if_neg q.1, if_neg (Int32.not_lt.mpr q.2)]
    · unfold g_X11_lift
      rw [d50, isN_0 (by omega) h0, zb_some, if_pos rfl]
theorem R_nz {l S N O T B : Nat} {C : zx_Y} {A A' : Nat → Int32} (hA : ∀ j, j < 475 → A' j = A j) (h : R l S N O T B C A) : R l S N O T B C A' := R_cong (Lq_zc (fun _ _ _ => rfl)) hA h
theorem Op_image {C D : zx_Y} (hI : II C D) : ∃ v C' D', g_X10_image C = some (v, C') ∧ g_X11_image D = some (v, D') ∧ II C' D' := by
  obtain ⟨S, N, O, T, hT, hR, hP, hV, hA, hF⟩ := id hI
  obtain ⟨hS, hN, -⟩ := RN hR
  obtain ⟨C1, a1, a2⟩ := cp_line (C := C) (l := 1) (m := 0) (by decide) (fun s hs => (hR.2.1 s hs).1)
  have fc1 := fun c j => fr_X2_copyFrom (c := c) (j_ := j) a1
  have e1 : g_X10_image C = some (nI T, zx_up C1 (0, 0, 0, 0) 7 1) := by
    unfold g_X10_image
    rw [a1, zm_some, zl_def, up_n (by omega), fc1 (1, 0, 0, 0) 0 (by decide), hR.1.1.1]
  have e2 : g_X11_image D = some (nI T, zy_ck 26 32 640 (zx_up D (25, 0, 0, 0) 18 1)) := by
    unfold g_X11_image
    rw [zl_def, zl_def]
    have y : zy_ck 26 32 640 (zx_up D (25, 0, 0, 0) 18 1) (26, 0, 0, 0) 0 = nI T := by
      unfold zy_ck
      rw [if_neg (by simp), up_n (by omega), hR.1.1.2]
    rw [y]
  have fc := fun c j => fr_X10_image (c := c) (j_ := j) e1
  have fd := fun c j => fr_X11_image (c := c) (j_ := j) e2
  have c32 : ∀ j, j < 640 → zy_ck 26 32 640 (zx_up D (25, 0, 0, 0) 18 1) (32, 0, 0, 0) j = D (26, 0, 0, 0) j := fun j hj => by
    unfold zy_ck
    rw [if_pos ⟨rfl, hj⟩, up_n (by omega)]
  refine ⟨_, _, _, e1, e2, S, N, O, T, hT, (R_cong (l := 0) (m := 0) (Lq_zc (fun c j e => fc c j (by rw [e]; decide) (by rw [e]; decide))) (fun j _ => fd (26, 0, 0, 0) j (by show (10 : Nat) ≠ _; decide) (by show (10 : Nat) ≠ _; decide)) hR), (RP_cong (fun c j e => fc c j (by rw [e]; decide) (by rw [e]; decide)) (fun c j e => fd c j (by rw [e]; decide) (by rw [e]; decide)) hP), Or.inr ⟨up_e (by omega), ?_, S, N, O, T, hT, ?_⟩, (RA_cong (fun c j e => fc c j (by rw [e]; decide) (by rw [e]; decide)) (fun c j e => fd c j (by rw [e]; decide) (by rw [e]; decide)) (fun c j e => fd c j (by rw [e]; decide) (by rw [e]; decide)) hA), (RF_cong (fun c j e => fc c j (by rw [e]; decide) (by rw [e]; decide)) (fun c j e => fd c j (by rw [e]; decide) (by rw [e]; decide)) (fun c j e => fd c j (by rw [e]; decide) (by rw [e]; decide)) (fun c j e => fd c j (by rw [e]; decide) (by rw [e]; decide)) hF)⟩
  · unfold zy_ck
    rw [if_neg (by simp)]
    exact up_e (by omega)
  · refine R_cong (l := 1) (m := 0) ?_ (fun j hj => c32 j (by omega)) hR
    obtain ⟨g1, g2, g3, g4, g5, g6, g7⟩ := a2
    exact ⟨fun j hj => (up_n (by omega)).trans (g1 j hj), fun s j hs hj => (up_n (by omega)).trans (g2 s j hs hj), fun s j hs hj => (up_n (by omega)).trans (g3 s j hs hj), fun s j hs hj => (up_n (by omega)).trans (g4 s j hs hj), fun s j hs hj => (up_n (by omega)).trans (g5 s j hs hj), fun s j hs hj => (up_n (by omega)).trans (g6 s j hs hj), fun t k s ht hk hs => (up_n (by omega)).trans (g7 t k s ht hk hs)⟩
theorem Op_undo {C D : zx_Y} (hI : II C D) : ∃ v C' D', g_X10_undo C = some (v, C') ∧ g_X11_undo D = some (v, D') ∧ II C' D' := by
  obtain ⟨S, N, O, T, hT, hR, hP, hV, hA, hF⟩ := id hI
  obtain ⟨hS, hN, -⟩ := RN hR
  rcases id hV with ⟨v1, v2⟩ | ⟨v1, v2, S', N', O', T', hT', hR'⟩
  · refine ⟨-3, C, D, ?_, ?_, hI⟩
    · unfold g_X10_undo
      rw [v1, if_pos rfl]
    · unfold g_X11_undo
      rw [v2, if_pos rfl]
  · obtain ⟨C1, a1, a2⟩ := cp_line (C := C) (l := 0) (m := 1) (by decide) (fun s hs => (hR'.2.1 s hs).1)
    obtain ⟨g1, g2, g3, g4, g5, g6, g7⟩ := a2
    have e1 : g_X10_undo C = some (nI T', zx_up C1 (22, 0, 0, 0) 0 0) := by
      unfold g_X10_undo
      rw [v1, if_neg n10, a1, zm_some, zl_def, up_n (by omega), g1 0 (by omega), hR'.1.1.1]
    have d26 : ∀ j, j < 475 → (zx_up (zx_up (zy_ck 32 26 640 D) (26, 0, 0, 0) 475 0) (26, 0, 0, 0) 476 0) (26, 0, 0, 0) j = D (32, 0, 0, 0) j := fun j hj => by
      rw [up_n (by omega), up_n (by omega)]
      unfold zy_ck
      rw [if_pos ⟨rfl, by omega⟩]
    have e2 : g_X11_undo D = some (nI T', zx_up (zx_up (zy_ck 32 26 640 D) (26, 0, 0, 0) 475 0) (26, 0, 0, 0) 476 0) := by
      unfold g_X11_undo
      rw [v2, if_neg n10, zl_def, zl_def, zl_def, d26 0 (by omega), hR'.1.1.2]
    have fc := fun c j => fr_X10_undo (c := c) (j_ := j) e1
    have fd := fun c j => fr_X11_undo (c := c) (j_ := j) e2
    refine ⟨_, _, _, e1, e2, S', N', O', T', hT', R_cong (l := 0) (m := 1) ⟨fun j hj => (up_n (by omega)).trans (g1 j hj), fun s j hs hj => (up_n (by omega)).trans (g2 s j hs hj), fun s j hs hj => (up_n (by omega)).trans (g3 s j hs hj), fun s j hs hj => (up_n (by omega)).trans (g4 s j hs hj), fun s j hs hj => (up_n (by omega)).trans (g5 s j hs hj), fun s j hs hj => (up_n (by omega)).trans (g6 s j hs hj), fun t k s ht hk hs => (up_n (by omega)).trans (g7 t k s ht hk hs)⟩ d26 hR', Or.inl ⟨up_e (by omega), up_e (by omega)⟩, (RV_cong (fun c j e => fc c j (by rw [e]; decide) (by rw [e]; decide)) (fun c j e => fc c j (by rw [e]; decide) (by rw [e]; decide)) (fun c j e => fd c j (by rw [e]; decide)) (fun c j e => fd c j (by rw [e]; decide)) hV), (RA_cong (fun c j e => fc c j (by rw [e]; decide) (by rw [e]; decide)) (fun c j e => fd c j (by rw [e]; decide)) (fun c j e => fd c j (by rw [e]; decide)) hA), (RF_cong (fun c j e => fc c j (by rw [e]; decide) (by rw [e]; decide)) (fun c j e => fd c j (by rw [e]; decide)) (fun c j e => fd c j (by rw [e]; decide)) (fun c j e => fd c j (by rw [e]; decide)) hF)⟩
