/-- minutes pass -/
theorem adv_pair {α β : Type} {l S N O T n : Nat} {C D : zx_Y} {G : Nat → Int32 → zx_Y → Option β} (kc : Int32 → zx_Y → Option zx_Y) (kr : Int32 → zx_Y → Option β) (hn : n < 1000) (hT : T + n ≤ 10499) (hR : R l S N O T (T + 1) C (D (26, 0, 0, 0))) (g0 : ∀ q D, G (q + 1) (nI n) D = kr (nI n) D) (g1 : ∀ q i D D', i < n → g_X11_minute D = some D' → G (q + 1) (nI i) D = G q (nI (i + 1)) D') : ∃ C' D', R l S N O (T + n) (T + n + 1) C' (D' (26, 0, 0, 0)) ∧ (∀ j, 475 ≤ j → D' (26, 0, 0, 0) j = D (26, 0, 0, 0) j) ∧ (∀ c j, zc c j ≠ 10 → zc c j ≠ 22 → zc c j ≠ 11 → D' c j = D c j) ∧ lg_X2_advance_2 l (nI n) kc 1000 0 C = kc (nI n) C' ∧ G 1000 0 D = kr (nI n) D' := by
  have h := loop2 (N := n) (P := fun i C D' => R l S N O (T + i) (T + i + 1) C (D' (26, 0, 0, 0)) ∧ (∀ j, 475 ≤ j → D' (26, 0, 0, 0) j = D (26, 0, 0, 0) j) ∧ (∀ c j, zc c j ≠ 10 → zc c j ≠ 22 → zc c j ≠ 11 → D' c j = D c j)) (F := lg_X2_advance_2 l (nI n) kc) (G := G) (kc := kc) (kr := kr)
    (fun q C D _ => ⟨by rw [lg_X2_advance_2.eq_2, if_pos (nI_le (Nat.le_refl _) (by omega))], g0 q D⟩)
    (fun i C1 D1 hi hP => by
      obtain ⟨C', D', m1, mx, m2, m3⟩ := min_pair hP.1 (by omega)
      refine ⟨C', D', ⟨m1, fun j hj => (mx j hj).trans (hP.2.1 j hj), fun c j q1 q2 q3 => (fr_X11_minute m3 q1 q2 q3).trans (hP.2.2 c j q1 q2 q3)⟩, fun q => ?_, fun q => g1 q i D1 D' hi m3⟩
      rw [lg_X2_advance_2.eq_2, if_neg (nI_ge hi (by omega)), nI_1]
      exact m2 (lg_X2_advance_2 l (nI n) kc q (nI (i + 1))))
    n 0 1000 1000 C D (by omega) (by omega) (by omega) ⟨hR, fun _ _ => rfl, fun _ _ _ _ _ => rfl⟩
  rw [nI_0] at h
  obtain ⟨C', D', ⟨h1, h2, h4⟩, h3⟩ := h
  exact ⟨C', D', h1, h2, h4, h3⟩
theorem mins_1 {C : zx_Y} {n : Nat} (h1 : 1 ≤ n) (h2 : n ≤ 500) : g_X10_isMinutes C (nI n) = some 1 := by
  unfold g_X10_isMinutes
  rw [if_neg (show ¬ nI n < 1 from nI_nlt (b := 1) h1 (by omega)), if_neg (show ¬ 500 < nI n from nI_nlt (a := 500) h2 (by omega))]
theorem mins_0 {C D : zx_Y} {x : Int32} (h : ¬ ∃ n, 1 ≤ n ∧ n ≤ 500 ∧ x = nI n) : g_X10_isMinutes C x = some 0 ∧ g_X11_isIn D x 1 500 = some 0 := by
  have q : x < 1 ∨ (500 : Int32) < x := by
    rcases nI_cases (x := x) (n := 501) (by omega) with ⟨k, hk, rfl⟩ | q | q
    · rcases Nat.eq_zero_or_pos k with rfl | hp
      · left; decide
      · exact absurd ⟨k, hp, by omega, rfl⟩ h
    · left
      exact Int32.lt_of_lt_of_le q.1 (by decide)
    · right
      exact Int32.lt_of_lt_of_le (show (500 : Int32) < nI 501 by decide) q.2
  refine ⟨?_, isIn_0 q⟩
  unfold g_X10_isMinutes
  by_cases c : x < 1
  · rw [if_pos c]
  · rw [if_neg c, if_pos (q.resolve_left c)]
theorem mins_2 {D : zx_Y} {n : Nat} (h1 : 1 ≤ n) (h2 : n ≤ 500) : g_X11_isIn D (nI n) 1 500 = some 1 := isIn_1 (nI_nlt (b := 1) h1 (by omega)) (nI_nlt (a := 500) h2 (by omega))
theorem Op_pass {C D : zx_Y} (hI : II C D) (x0 : Int32) : ∃ v C' D', g_X10_pass C x0 = some (v, C') ∧ g_X11_pass D x0 = some (v, D') ∧ II C' D' := by
  obtain ⟨S, N, O, T, hT, hR, hP, hV, hA, hF⟩ := id hI
  obtain ⟨hS, hN, -⟩ := RN hR
  obtain ⟨x1e, x2e⟩ := ex_pair hR
  by_cases hz : S = 0
  · refine ⟨-3, C, D, ?_, ?_, hI⟩
    · unfold g_X10_pass
      rw [x1e, zb_some, if_pos hz, if_pos rfl]
    · unfold g_X11_pass
      rw [if_pos (x2e.mpr hz)]
  · by_cases h0 : ∃ n, 1 ≤ n ∧ n ≤ 500 ∧ x0 = nI n
    · obtain ⟨n, h1, h2, rfl⟩ := h0
      have bc : g_X10_pass C (nI n) = (if nI (T + n) ≤ 9999 then zm (g_X2_advance C 0 (nI n)) fun M1 => some (M1 (1, 0, 0, 0) 0, M1) else some (-4, C)) := by
        unfold g_X10_pass
        rw [x1e, zb_some, if_neg hz, if_neg n10, mins_1 h1 h2, zb_some, if_neg n10, hR.1.1.1, nI_add]
      have bd : g_X11_pass D (nI n) = (if nI (T + n) ≤ 9999 then lg_X11_pass_45 (nI n) (fun v2 M1 => some (M1 (26, 0, 0, 0) 0, M1)) 1000 0 D else some (-4, D)) := by
        unfold g_X11_pass
        rw [if_neg (fun h => hz (x2e.mp h)), mins_2 h1 h2, zb_some, if_neg n10, hR.1.1.2, nI_add]
      by_cases hT2 : T + n ≤ 9999
      · obtain ⟨C', D', a1, ax, -, a2, a3⟩ := adv_pair (α := Nat) (G := lg_X11_pass_45 (nI n) (fun v2 M1 => some (M1 (26, 0, 0, 0) 0, M1))) (fun v1 M1 => some M1) (fun v2 M1 => some (M1 (26, 0, 0, 0) 0, M1)) (show n < 1000 by omega) (show T + n ≤ 10499 by omega) hR (fun q D => by rw [lg_X11_pass_45.eq_2, if_pos (nI_le (Nat.le_refl _) (by omega))]) (fun q i D D' hi hm => by rw [lg_X11_pass_45.eq_2, if_neg (nI_ge hi (by omega)), hm, zm_some, nI_1])
        have lt : nI (T + n) ≤ 9999 := nI_le (b := 9999) hT2 (by omega)
        have e1 : g_X10_pass C (nI n) = some (nI (T + n), C') := by
          have a4 : g_X2_advance C 0 (nI n) = some C' := by unfold g_X2_advance; exact a2
          rw [bc, if_pos lt, a4, zm_some, a1.1.1.1]
        have e2 : g_X11_pass D (nI n) = some (nI (T + n), D') := by
          rw [bd, if_pos lt, a3, a1.1.1.2]
        have fc := fun c j => fr_X10_pass (c := c) (j_ := j) e1
        have fd := fun c j => fr_X11_pass (c := c) (j_ := j) e2
        exact ⟨_, _, _, e1, e2, S, N, O, T + n, hT2, a1, (RP_cong' (fun c j e => fc c j (by rw [e]; decide) (by rw [e]; decide)) (fun j h1 h2 => ax j h1) hP), (RV_cong (fun c j e => fc c j (by rw [e]; decide) (by rw [e]; decide)) (fun c j e => fc c j (by rw [e]; decide) (by rw [e]; decide)) (fun c j e => fd c j (by rw [e]; decide) (by rw [e]; decide) (by rw [e]; decide)) (fun c j e => fd c j (by rw [e]; decide) (by rw [e]; decide) (by rw [e]; decide)) hV), (RA_cong (fun c j e => fc c j (by rw [e]; decide) (by rw [e]; decide)) (fun c j e => fd c j (by rw [e]; decide) (by rw [e]; decide) (by rw [e]; decide)) (fun c j e => fd c j (by rw [e]; decide) (by rw [e]; decide) (by rw [e]; decide)) hA), (RF_cong (fun c j e => fc c j (by rw [e]; decide) (by rw [e]; decide)) (fun c j e => fd c j (by rw [e]; decide) (by rw [e]; decide) (by rw [e]; decide)) (fun c j e => fd c j (by rw [e]; decide) (by rw [e]; decide) (by rw [e]; decide)) (fun c j e => fd c j (by rw [e]; decide) (by rw [e]; decide) (by rw [e]; decide)) hF)⟩
      · have lt : ¬ nI (T + n) ≤ 9999 := nI_ge (a := 9999) (b := T + n) (by omega) (by omega)
        exact ⟨-4, C, D, by rw [bc, if_neg lt], by rw [bd, if_neg lt], hI⟩
    · obtain ⟨z1, z2⟩ := mins_0 (C := C) (D := D) h0
      refine ⟨-2, C, D, ?_, ?_, hI⟩
      · unfold g_X10_pass
        rw [x1e, zb_some, if_neg hz, if_neg n10, z1, zb_some, if_pos rfl]
      · unfold g_X11_pass
        rw [if_neg (fun h => hz (x2e.mp h)), z2, zb_some, if_pos rfl]
