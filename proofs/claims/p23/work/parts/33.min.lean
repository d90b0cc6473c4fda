theorem dis_loop {l S N O T B n : Nat} {a : Nat → Nat} (hB : T < B) (kc kr : Int32 → zx_Y → Option zx_Y) (hn : n ≤ 10) (hd : ∀ i j, i < j → j < n → a i ≠ a j) : ∀ (k i q q' : Nat) (C D : zx_Y), i + k = n → k < q → k < q' → R l S N O T B C (D (26, 0, 0, 0)) → C (1, l, 0, 0) 11 = nI n → D (25, 0, 0, 0) 2 = nI n → (∀ j, j < n → a j < N ∧ C (10, l, 0, 0) j = nI (a j) ∧ D (27, 0, 0, 0) j = nI (a j)) → (∀ j, i ≤ j → j < n → D (26, 0, 0, 0) (75 + 40 * a j) = 1) →
    ∃ C' D', R l S N O T B C' (D' (26, 0, 0, 0)) ∧ (∀ j, 475 ≤ j → D' (26, 0, 0, 0) j = D (26, 0, 0, 0) j) ∧ lg_X2_dispatchTrains_6 l kc q (nI i) C = kc (nI n) C' ∧ lg_X11_minute_221 kr q' (nI i) D = kr (nI n) D'
  | _, _, 0, _, _, _, _, h, _, _, _, _, _, _ => absurd h (by omega)
  | _, _, _ + 1, 0, _, _, _, _, h, _, _, _, _, _ => absurd h (by omega)
  | 0, i, q + 1, q' + 1, C, D, e, _, _, hR, c11, d2, _, _ => by
    have e : i = n := by omega
    subst e
    refine ⟨C, D, hR, fun _ _ => rfl, ?_, ?_⟩
    · rw [lg_X2_dispatchTrains_6.eq_2, c11, if_pos (nI_le (by omega) (by omega))]
    · rw [lg_X11_minute_221.eq_2, d2, if_pos (nI_le (by omega) (by omega))]
  | k + 1, i, q + 1, q' + 1, C, D, e, _, _, hR, c11, d2, hl, h1 => by
    have hN := hR.1.2.2.2.2.2.1
    obtain ⟨g1, g2, g3⟩ := hl i (by omega)
    obtain ⟨C', D', s0, sx, s1, s2, s3, s4, s5, s6, s7⟩ := dis_step hB g1 hR (h1 i (by omega) (by omega))
    obtain ⟨C'', D'', z0, zx, z1, z2⟩ := dis_loop hB kc kr hn hd k (i + 1) q q' C' D' (by omega) (by omega) (by omega) s0 (s3.trans c11) (s5.trans d2) (fun j hj => by rw [s2, s4]; exact hl j hj) (fun j hj1 hj2 => by
      rw [s1 _ (hl j hj2).1 (fun q => hd i j (by omega) hj2 q.symm)]
      exact h1 j (by omega) hj2)
    refine ⟨C'', D'', z0, fun j hj => (zx j hj).trans (sx j hj), ?_, ?_⟩
    · rw [lg_X2_dispatchTrains_6.eq_2, c11, if_neg (nI_ge (by omega) (by omega)), zi_n _ (by omega) (by omega), g2, zi_n _ (by omega) (by omega), nI_1]
      exact (s6 (lg_X2_dispatchTrains_6 l kc q (nI (i + 1)))).trans z1
    · rw [lg_X11_minute_221.eq_2, d2, if_neg (nI_ge (by omega) (by omega)), zi_n _ (by omega) (by omega), g3, nI_1]
      exact (s7 (lg_X11_minute_221 kr q' (nI (i + 1)))).trans z2
theorem time_R {l S N O T B : Nat} {C D : zx_Y} (hR : R l S N O T B C (D (26, 0, 0, 0))) (h : T + 1 ≤ 10499) : R l S N O (T + 1) B (zx_up C (1, l, 0, 0) 0 (nI (T + 1))) ((zx_up D (26, 0, 0, 0) 0 (nI (T + 1))) (26, 0, 0, 0)) := by
  have hR0 := hR
  obtain ⟨hb, hs, hk, ho, hn, hts⟩ := hR0
  obtain ⟨hS, hS1, hN, hO, hT⟩ := hb.2.2.2.2.2.1
  have h0 := hb.1.1
  have h0d := hb.1.2
  have h3 := hb.2.2.1.1
  have h1d := hb.2.2.1.2
  have h4 := hb.2.2.2.1.1
  have h27 := hb.2.2.2.1.2
  refine ⟨?_, ?_, ?_, ?_, fun t ht => ?_, fun t ht => ?_⟩
  · unfold Rb at hb ⊢
    simp (disch := omega) only [up_n, up_e]
    exact ⟨⟨trivial, trivial⟩, hb.2.1, hb.2.2.1, hb.2.2.2.1, hb.2.2.2.2.1, ⟨hS, hS1, hN, hO, h⟩, hb.2.2.2.2.2.2⟩
  · exact (Rs_keep hS (fun s j => (by first | (simp (disch := omega) only [up_n, up_e]; done) | rfl)) (fun j h1 h2 h3 => (by first | (simp (disch := omega) only [up_n, up_e]; done) | rfl)) hs)
  · exact (Rk_keep hS (fun s j => (by first | (simp (disch := omega) only [up_n, up_e]; done) | rfl)) (fun j h1 => (by first | (simp (disch := omega) only [up_n, up_e]; done) | rfl)) hk)
  · intro i hi
    simp (disch := omega) only [up_n]
    exact ho i hi
  · simp (disch := omega) only [up_n]
    exact hn t ht
  · exact Rt_cong (by omega) hS (fun j hj => (by simp (disch := omega) only [up_n])) (fun j hj => (by simp (disch := omega) only [up_n])) (fun k s hk hs => (by simp (disch := omega) only [up_n])) (fun j h1 h2 => (by simp (disch := omega) only [up_n])) (Rt_time (by omega) (hts t ht))
/-- a minute passes on both sides -/
theorem min_pair {l S N O T : Nat} {C D : zx_Y} (hR : R l S N O T (T + 1) C (D (26, 0, 0, 0))) (h : T + 1 ≤ 10499) : ∃ C' D', R l S N O (T + 1) (T + 2) C' (D' (26, 0, 0, 0)) ∧ (∀ j, 475 ≤ j → D' (26, 0, 0, 0) j = D (26, 0, 0, 0) j) ∧
    (∀ F : zx_Y → Option zx_Y, (zm (g_X2_countMinute C l) fun M1 => zl (zx_up M1 (1, l, 0, 0) 0 ((M1 (1, l, 0, 0) 0) + 1)) fun M2 => zm (g_X2_endRuns M2 l) fun M3 => zm (g_X2_admitTrains M3 l) fun M4 => zm (g_X2_endReliefs M4 l) fun M5 => zm (g_X2_dispatchTrains M5 l) fun M6 => F M6) = F C') ∧ g_X11_minute D = some D' := by
  have hN := hR.1.2.2.2.2.2.1
  -- the ends of loops
  have e4 : ∀ {T B : Nat} {C D : zx_Y}, R l S N O T B C (D (26, 0, 0, 0)) → C (1, l, 0, 0) 4 ≤ nI N := fun h => by rw [h.1.2.2.2.1.1]; exact nI_le (Nat.le_refl _) (by omega)
  have e27 : ∀ {T B : Nat} {C D : zx_Y}, R l S N O T B C (D (26, 0, 0, 0)) → D (26, 0, 0, 0) 27 ≤ nI N := fun h => by rw [h.1.2.2.2.1.2]; exact nI_le (Nat.le_refl _) (by omega)
  -- accounts
  obtain ⟨C1, D1, ⟨R1, K1⟩, a1, a2⟩ := loop2 (P := fun _ C D' => R l S N O T (T + 1) C (D' (26, 0, 0, 0)) ∧ (∀ j, 475 ≤ j → D' (26, 0, 0, 0) j = D (26, 0, 0, 0) j)) (F := lg_X2_countMinute_2 l (fun _ M => some M)) (G := lg_X11_account_2 (fun _ M => some M)) (kc := fun _ M => some M) (kr := fun _ M => some M)
    (fun q C D h => ⟨by rw [lg_X2_countMinute_2.eq_2, if_pos (e4 h.1)], by rw [lg_X11_account_2.eq_2, if_pos (e27 h.1)]⟩) (fun t C1 D1 ht h => by
      obtain ⟨C2, D2, y1, y2, y3, y4⟩ := acc_step _ _ t C1 D1 ht h.1
      exact ⟨C2, D2, ⟨y1, fun j hj => (y2 j hj).trans (h.2 j hj)⟩, y3, y4⟩) N 0 1000 1000 C D (by omega) (by omega) (by omega) ⟨hR, fun _ _ => rfl⟩
  have R2 := time_R R1 h
  obtain ⟨C3, D3, ⟨R3, K3⟩, b1, b2⟩ := loop2 (P := fun _ C D' => R l S N O (T + 1) (T + 1) C (D' (26, 0, 0, 0)) ∧ (∀ j, 475 ≤ j → D' (26, 0, 0, 0) j = D (26, 0, 0, 0) j)) (F := lg_X2_endRuns_2 l (fun _ M => some M)) (G := lg_X11_minute_16 (fun v1 M3 => (lg_X11_minute_66 (fun v2 M4 => (lg_X11_minute_146 (fun v3 M5 => (zm (g_X11_sortTrains M5) fun M6 => (lg_X11_minute_221 (fun v4 M7 => (some M7)) 1000 0 M6))) 1000 0 M4)) 1000 0 M3))) (kc := fun _ M => some M) (kr := (fun v1 M3 => (lg_X11_minute_66 (fun v2 M4 => (lg_X11_minute_146 (fun v3 M5 => (zm (g_X11_sortTrains M5) fun M6 => (lg_X11_minute_221 (fun v4 M7 => (some M7)) 1000 0 M6))) 1000 0 M4)) 1000 0 M3)))
    (fun q C D h => ⟨by rw [lg_X2_endRuns_2.eq_2, if_pos (e4 h.1)], by rw [lg_X11_minute_16.eq_2, if_pos (e27 h.1)]⟩) (fun t C1 D1 ht h => by
      obtain ⟨C2, D2, y1, y2, y3, y4⟩ := run_step _ _ t C1 D1 ht h.1
      exact ⟨C2, D2, ⟨y1, fun j hj => (y2 j hj).trans (h.2 j hj)⟩, y3, y4⟩) N 0 1000 1000 _ _ (by omega) (by omega) (by omega) ⟨R2, fun j hj => by simp (disch := omega) only [up_n]; exact K1 j hj⟩
  obtain ⟨C4, D4, ⟨R4, K4⟩, c1, c2⟩ := loop2 (P := fun _ C D' => R l S N O (T + 1) (T + 1) C (D' (26, 0, 0, 0)) ∧ (∀ j, 475 ≤ j → D' (26, 0, 0, 0) j = D (26, 0, 0, 0) j)) (F := lg_X2_admitTrains_2 l (fun _ M => some M)) (G := lg_X11_minute_66 (fun v2 M4 => (lg_X11_minute_146 (fun v3 M5 => (zm (g_X11_sortTrains M5) fun M6 => (lg_X11_minute_221 (fun v4 M7 => (some M7)) 1000 0 M6))) 1000 0 M4))) (kc := fun _ M => some M) (kr := (fun v2 M4 => (lg_X11_minute_146 (fun v3 M5 => (zm (g_X11_sortTrains M5) fun M6 => (lg_X11_minute_221 (fun v4 M7 => (some M7)) 1000 0 M6))) 1000 0 M4)))
    (fun q C D h => ⟨by rw [lg_X2_admitTrains_2.eq_2, if_pos (e4 h.1)], by rw [lg_X11_minute_66.eq_2, if_pos (e27 h.1)]⟩) (fun t C1 D1 ht h => by
      obtain ⟨C2, D2, y1, y2, y3, y4⟩ := adm_step _ _ t C1 D1 ht h.1
      exact ⟨C2, D2, ⟨y1, fun j hj => (y2 j hj).trans (h.2 j hj)⟩, y3, y4⟩) N 0 1000 1000 C3 D3 (by omega) (by omega) (by omega) ⟨R3, K3⟩
  obtain ⟨C5, D5, ⟨R5, K5⟩, d1, d2⟩ := loop2 (P := fun _ C D' => R l S N O (T + 1) (T + 1) C (D' (26, 0, 0, 0)) ∧ (∀ j, 475 ≤ j → D' (26, 0, 0, 0) j = D (26, 0, 0, 0) j)) (F := lg_X2_endReliefs_2 l (fun _ M => some M)) (G := lg_X11_minute_146 (fun v3 M5 => (zm (g_X11_sortTrains M5) fun M6 => (lg_X11_minute_221 (fun v4 M7 => (some M7)) 1000 0 M6)))) (kc := fun _ M => some M) (kr := (fun v3 M5 => (zm (g_X11_sortTrains M5) fun M6 => (lg_X11_minute_221 (fun v4 M7 => (some M7)) 1000 0 M6))))
    (fun q C D h => ⟨by rw [lg_X2_endReliefs_2.eq_2, if_pos (e4 h.1)], by rw [lg_X11_minute_146.eq_2, if_pos (e27 h.1)]⟩) (fun t C1 D1 ht h => by
      obtain ⟨C2, D2, y1, y2, y3, y4⟩ := rlf_step (Nat.le_refl _) _ _ t C1 D1 ht h.1
      exact ⟨C2, D2, ⟨y1, fun j hj => (y2 j hj).trans (h.2 j hj)⟩, y3, y4⟩) N 0 1000 1000 C4 D4 (by omega) (by omega) (by omega) ⟨R4, K4⟩
  have R5 := R_B (show T + 1 ≤ T + 2 by omega) R5
  obtain ⟨n, a, C6, D6, f0, f1, f2, f3, f4, f5, f6, f7, f8⟩ := rank_pair R5
  have R6 := R_fr f3 f4 R5
  obtain ⟨C7, D7, R7, K7, g1, g2⟩ := dis_loop (l := l) (show T + 1 < T + 2 by omega) (fun _ M => some M) (fun _ M => some M) (show n ≤ 10 by omega) f8 n 0 1000 1000 C6 D6 (by omega) (by omega) (by omega) R6 f5 f6 (fun j hj => ⟨(f7 j hj).1, (f7 j hj).2.2⟩) (fun j _ hj => by
    rw [f4 (26, 0, 0, 0) _ (by show (10 : Nat) ≠ 11; decide) (by show (10 : Nat) ≠ 22; decide)]
    exact (f7 j hj).2.1)
  rw [nI_0] at a1 a2 b1 b2 c1 c2 d1 d2 g1 g2
  refine ⟨C7, D7, R7, fun j hj => (K7 j hj).trans ((f4 (26, 0, 0, 0) j (by show (10 : Nat) ≠ 11; decide) (by show (10 : Nat) ≠ 22; decide)).trans (K5 j hj)), fun F => ?_, ?_⟩
  · have k1 : g_X2_countMinute C l = some C1 := by unfold g_X2_countMinute; exact a1
    rw [k1, zm_some, zl_def, R1.1.1.1, nI_1]
    have k2 : g_X2_endRuns (zx_up C1 (1, l, 0, 0) 0 (nI (T + 1))) l = some C3 := by unfold g_X2_endRuns; exact b1
    have k3 : g_X2_admitTrains C3 l = some C4 := by unfold g_X2_admitTrains; exact c1
    have k4 : g_X2_endReliefs C4 l = some C5 := by unfold g_X2_endReliefs; exact d1
    have k5 : g_X2_dispatchTrains C5 l = some C7 := by unfold g_X2_dispatchTrains; rw [f1, zm_some]; exact g1
    rw [k2, zm_some, k3, zm_some, k4, zm_some, k5, zm_some]
  · unfold g_X11_minute
    have k1 : g_X11_account D = some D1 := by unfold g_X11_account; exact a2
    rw [k1, zm_some, zl_def, R1.1.1.2, nI_1, b2]
    show lg_X11_minute_66 _ 1000 0 D3 = _
    rw [c2]
    show lg_X11_minute_146 _ 1000 0 D4 = _
    rw [d2]
    show zm (g_X11_sortTrains D5) _ = _
    rw [f2, zm_some, g2]
