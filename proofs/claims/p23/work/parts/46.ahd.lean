section QP
/-- the minutes to come, on a line aside and on the reference's row, which is kept -/
theorem try_pair {S N O T B n : Nat} {C D : zx_Y} (hn : n ≤ 500) (hT : T ≤ 9999) (hR : R 0 S N O T (T + 1) C (D (26, 0, 0, 0))) : ∃ C1 C2 D2, g_X2_copyFrom C 2 0 = some C1 ∧ g_X2_advance C1 2 (nI n) = some C2 ∧ g_X11_tryMinutes D (nI n) = some D2 ∧ R 2 S N O (T + n) (T + n + 1) C2 (D2 (26, 0, 0, 0)) ∧ (∀ j, 475 ≤ j → D2 (26, 0, 0, 0) j = D (26, 0, 0, 0) j) ∧ (∀ j, j < 640 → D2 (31, 0, 0, 0) j = D (26, 0, 0, 0) j) := by
  obtain ⟨C1, a1, a2⟩ := cp_line (C := C) (l := 2) (m := 0) (by decide) (fun s hs => (hR.2.1 s hs).1)
  have k26 : ∀ j, zy_ck 26 31 640 D (26, 0, 0, 0) j = D (26, 0, 0, 0) j := fun j => by
    unfold zy_ck
    rw [if_neg (by simp)]
  have hR1 : R 2 S N O T (T + 1) C1 ((zy_ck 26 31 640 D) (26, 0, 0, 0)) := R_cong a2 (fun j _ => k26 j) hR
  obtain ⟨C2, D2, b1, b2, b3, b4, b5⟩ := adv_pair (α := Nat) (G := lg_X11_tryMinutes_13 (nI n) (fun v1 M2 => (some M2))) (fun v1 M1 => some M1) (fun v1 M2 => (some M2)) (show n < 1000 by omega) (show T + n ≤ 10499 by omega) hR1 (fun q D => by rw [lg_X11_tryMinutes_13.eq_2, if_pos (nI_le (Nat.le_refl _) (by omega))]) (fun q i D D' hi hm => by rw [lg_X11_tryMinutes_13.eq_2, if_neg (nI_ge hi (by omega)), hm, zm_some, nI_1])
  refine ⟨C1, C2, D2, a1, ?_, ?_, b1, fun j hj => (b2 j hj).trans (k26 j), fun j hj => ?_⟩
  · unfold g_X2_advance
    exact b4
  · unfold g_X11_tryMinutes
    rw [zl_def]
    exact b5
  · rw [b3 (31, 0, 0, 0) j (by show (15 : Nat) ≠ 10; decide) (by show (15 : Nat) ≠ 22; decide) (by show (15 : Nat) ≠ 11; decide)]
    unfold zy_ck
    rw [if_pos ⟨rfl, hj⟩]
theorem ck_26 {D : zx_Y} {j : Nat} (hj : j < 640) : zy_ck 31 26 640 D (26, 0, 0, 0) j = D (31, 0, 0, 0) j := by
  unfold zy_ck
  rw [if_pos ⟨rfl, hj⟩]
theorem Op_ahead {C D : zx_Y} (hI : II C D) (x0 x1 : Int32) : ∃ v C' D', g_X10_ahead C x0 x1 = some (v, C') ∧ g_X11_ahead D x0 x1 = some (v, D') ∧ II C' D' := by
  obtain ⟨S, N, O, T, hT, hR, hP, hV, hA, hF⟩ := id hI
  obtain ⟨hS, hN, -⟩ := RN hR
  obtain ⟨x1e, x2e⟩ := ex_pair hR
  by_cases hz : S = 0
  · refine ⟨-3, C, D, ?_, ?_, hI⟩
    · unfold g_X10_ahead
      rw [x1e, zb_some, if_pos hz, if_pos rfl]
    · unfold g_X11_ahead
      rw [if_pos (x2e.mpr hz)]
  by_cases h0 : ∃ n, 1 ≤ n ∧ n ≤ 500 ∧ x0 = nI n
  rotate_left
  · obtain ⟨z1, z2⟩ := mins_0 (C := C) (D := D) h0
    refine ⟨-2, C, D, ?_, ?_, hI⟩
    · unfold g_X10_ahead
      rw [x1e, zb_some, if_neg hz, if_neg n10, z1, zb_some, if_pos rfl]
    · unfold g_X11_ahead
      rw [if_neg (fun h => hz (x2e.mp h)), z2, zb_some, if_pos rfl]
  obtain ⟨n, h1, h2, rfl⟩ := h0
  by_cases h3 : ∃ k, k < 4 ∧ x1 = nI k
  rotate_left
  · refine ⟨-1, C, D, ?_, ?_, hI⟩
    · unfold g_X10_ahead
      rw [x1e, zb_some, if_neg hz, if_neg n10, mins_1 h1 h2, zb_some, if_neg n10]
      rcases nI_cases (x := x1) (n := 4) (by omega) with q | q | q
      · exact absurd q h3
      · rw [if_pos q.1]
      · rw [if_neg q.1, if_neg (show ¬ x1 ≤ 3 from fun h => absurd (Int32.le_trans q.2 h) (by decide))]
    · unfold g_X11_ahead
      rw [if_neg (fun h => hz (x2e.mp h)), mins_2 h1 h2, zb_some, if_neg n10, show g_X11_isIn D x1 0 3 = some 0 from out_in (n := 4) (by omega) (by omega) h3, zb_some, if_pos rfl]
  obtain ⟨k, hk, rfl⟩ := h3
  obtain ⟨C1, C2, D2, a1, a2, a3, a4, a5, a6⟩ := try_pair (B := 0) h2 hT hR
  obtain ⟨w4, c1, c2⟩ := cnt_pair a4 4
  obtain ⟨w2, c3, c4⟩ := cnt_pair a4 2
  obtain ⟨wq, wq1, c5, c6⟩ := quiet_pair a4
  obtain ⟨wa, c7, c8⟩ := aw_pair a4 (nI k) (fun v3 v4 => (if nI k = 0 then (zb (g_X11_counted D2 4) fun v5 => (zl (zy_ck 31 26 640 D2) fun M2 => (some (v5, M2)))) else (if nI k = 1 then (zb (g_X11_counted D2 2) fun v6 => (zl (zy_ck 31 26 640 D2) fun M3 => (some (v6, M3)))) else (if nI k = 2 then (zl (zy_ck 31 26 640 D2) fun M4 => (some (v3, M4))) else (zb (g_X11_isStill D2) fun v7 => (if v7 = 0 then (zl (zy_ck 31 26 640 D2) fun M5 => (some (0, M5))) else (zl (zy_ck 31 26 640 D2) fun M6 => (some (1, M6)))))))))
  have fin : ∀ v, g_X10_ahead C (nI n) (nI k) = some (v, C2) → g_X11_ahead D (nI n) (nI k) = some (v, zy_ck 31 26 640 D2) → ∃ v C' D', g_X10_ahead C (nI n) (nI k) = some (v, C') ∧ g_X11_ahead D (nI n) (nI k) = some (v, D') ∧ II C' D' := fun v e1 e2 => by
    have fc := fun c j => fr_X10_ahead (c := c) (j_ := j) e1
    have fd := fun c j => fr_X11_ahead (c := c) (j_ := j) e2
    have d26 : ∀ j, j < 640 → zy_ck 31 26 640 D2 (26, 0, 0, 0) j = D (26, 0, 0, 0) j := fun j hj => (ck_26 hj).trans (a6 j hj)
    exact ⟨_, _, _, e1, e2, S, N, O, T, hT, (R_nz (fun j hj => d26 j (by omega)) (R_cong (l := 0) (m := 0) (A := D (26, 0, 0, 0)) (Lq_zc (fun c j e => fc c j (by rw [e]; decide) (by rw [e]; decide))) (fun _ _ => rfl) hR)), (RP_cong' (fun c j e => fc c j (by rw [e]; decide) (by rw [e]; decide)) (fun j h1 h2 => d26 j h2) hP), (RV_cong (fun c j e => fc c j (by rw [e]; decide) (by rw [e]; decide)) (fun c j e => fc c j (by rw [e]; decide) (by rw [e]; decide)) (fun c j e => fd c j (by rw [e]; decide) (by rw [e]; decide) (by rw [e]; decide) (by rw [e]; decide)) (fun c j e => fd c j (by rw [e]; decide) (by rw [e]; decide) (by rw [e]; decide) (by rw [e]; decide)) hV), (RA_cong (fun c j e => fc c j (by rw [e]; decide) (by rw [e]; decide)) (fun c j e => fd c j (by rw [e]; decide) (by rw [e]; decide) (by rw [e]; decide) (by rw [e]; decide)) (fun c j e => fd c j (by rw [e]; decide) (by rw [e]; decide) (by rw [e]; decide) (by rw [e]; decide)) hA), (RF_cong (fun c j e => fc c j (by rw [e]; decide) (by rw [e]; decide)) (fun c j e => fd c j (by rw [e]; decide) (by rw [e]; decide) (by rw [e]; decide) (by rw [e]; decide)) (fun c j e => fd c j (by rw [e]; decide) (by rw [e]; decide) (by rw [e]; decide) (by rw [e]; decide)) (fun c j e => fd c j (by rw [e]; decide) (by rw [e]; decide) (by rw [e]; decide) (by rw [e]; decide)) hF)⟩
  have bc : ∀ v : Int32, (if nI k = 0 then (zb (g_X2_trainsThatAre C2 2 4) fun v3 => (some (v3, C2))) else (if nI k = 1 then (zb (g_X2_trainsThatAre C2 2 2) fun v4 => (some (v4, C2))) else (if nI k = 2 then (zb (g_X2_allWaiting C2 2) fun v5 => (some (v5, C2))) else (zb (g_X2_isQuiet C2 2) fun v6 => (if v6 = 0 then (some (0, C2)) else (some (1, C2))))))) = some (v, C2) → g_X10_ahead C (nI n) (nI k) = some (v, C2) := fun v hv => by
    unfold g_X10_ahead
    rw [x1e, zb_some, if_neg hz, if_neg n10, mins_1 h1 h2, zb_some, if_neg n10, if_neg (nI_pos (by omega)), if_pos (show nI k ≤ 3 from nI_le (b := 3) (by omega) (by omega)), a1, zm_some, a2, zm_some]
    exact hv
  have bd : ∀ v : Int32, (if nI k = 0 then (zb (g_X11_counted D2 4) fun v5 => (zl (zy_ck 31 26 640 D2) fun M2 => (some (v5, M2)))) else (if nI k = 1 then (zb (g_X11_counted D2 2) fun v6 => (zl (zy_ck 31 26 640 D2) fun M3 => (some (v6, M3)))) else (if nI k = 2 then (zl (zy_ck 31 26 640 D2) fun M4 => (some (wa, M4))) else (zb (g_X11_isStill D2) fun v7 => (if v7 = 0 then (zl (zy_ck 31 26 640 D2) fun M5 => (some (0, M5))) else (zl (zy_ck 31 26 640 D2) fun M6 => (some (1, M6)))))))) = some (v, zy_ck 31 26 640 D2) → g_X11_ahead D (nI n) (nI k) = some (v, zy_ck 31 26 640 D2) := fun v hv => by
    unfold g_X11_ahead
    rw [if_neg (fun h => hz (x2e.mp h)), mins_2 h1 h2, zb_some, if_neg n10, show g_X11_isIn D (nI k) 0 3 = some 1 from in_in (n := 4) (by omega) hk, zb_some, if_neg n10, a3, zm_some]
    exact c8.trans hv
  rw [c1, c3, c5, c7] at bc
  rw [c2, c4, c6] at bd
  simp only [zb_some, zl_def] at bc bd
  have i1 : nI 1 = (1 : Int32) := rfl
  have i2 : nI 2 = (2 : Int32) := rfl
  rcases (show k = 0 ∨ k = 1 ∨ k = 2 ∨ k = 3 by omega) with rfl | rfl | rfl | rfl
  · exact fin w4 (bc _ (by rw [if_pos nI_0])) (bd _ (by rw [if_pos nI_0]))
  · exact fin w2 (bc _ (by rw [if_neg (show ¬ nI 1 = 0 by decide), if_pos i1])) (bd _ (by rw [if_neg (show ¬ nI 1 = 0 by decide), if_pos i1]))
  · exact fin wa (bc _ (by rw [if_neg (show ¬ nI 2 = 0 by decide), if_neg (show ¬ nI 2 = 1 by decide), if_pos i2])) (bd _ (by rw [if_neg (show ¬ nI 2 = 0 by decide), if_neg (show ¬ nI 2 = 1 by decide), if_pos i2]))
  · rcases wq1 with rfl | rfl
    · exact fin 0 (bc _ (by rw [if_neg (show ¬ nI 3 = 0 by decide), if_neg (show ¬ nI 3 = 1 by decide), if_neg (show ¬ nI 3 = 2 by decide), if_pos rfl])) (bd _ (by rw [if_neg (show ¬ nI 3 = 0 by decide), if_neg (show ¬ nI 3 = 1 by decide), if_neg (show ¬ nI 3 = 2 by decide), if_pos rfl]))
    · exact fin 1 (bc _ (by rw [if_neg (show ¬ nI 3 = 0 by decide), if_neg (show ¬ nI 3 = 1 by decide), if_neg (show ¬ nI 3 = 2 by decide), if_neg n10])) (bd _ (by rw [if_neg (show ¬ nI 3 = 0 by decide), if_neg (show ¬ nI 3 = 1 by decide), if_neg (show ¬ nI 3 = 2 by decide), if_neg n10]))
end QP
