/-! commands are carried out: bounds, orders, stations -/
theorem rf_c {C : zx_Y} {r m : Int32} : g_X0_refuse C r m = some (1, zx_up (zx_up C (21, 0, 0, 0) 0 r) (21, 0, 0, 0) 1 m) := rfl
theorem rf_d {D : zx_Y} {r m : Int32} : g_X11_refuse D r m = some (zx_up (zx_up D (25, 0, 0, 0) 13 r) (25, 0, 0, 0) 14 m) := rfl
/-- a step of both sides: both refuse with the same reason, or both carry out -/
def SR (i k S N O T : Nat) (C D : zx_Y) : Prop :=
  (∃ r m : Int32, ¬ r = -5 ∧ g_X0_refuses C 0 i = some (1, zx_up (zx_up C (21, 0, 0, 0) 0 r) (21, 0, 0, 0) 1 m) ∧ g_X11_carryOut D = some (zx_up (zx_up D (25, 0, 0, 0) 13 r) (25, 0, 0, 0) 14 m) ∧ (r = 1 → m = -5)) ∨
  (g_X0_refuses C 0 i = some (0, C) ∧ ∃ C' D' S' N' O', g_X0_carryOut C 0 i = some C' ∧ g_X11_carryOut D = some D' ∧ D' (25, 0, 0, 0) 13 = D (25, 0, 0, 0) 13 ∧ D' (25, 0, 0, 0) 14 = D (25, 0, 0, 0) 14 ∧ R 0 S' N' O' T (T + 1) C' (D' (26, 0, 0, 0)) ∧ ((k = 76 ∧ D' (26, 0, 0, 0) 476 = 0) ∨ (k ≠ 76 ∧ (RP N C (D (26, 0, 0, 0)) → RP N' C' (D' (26, 0, 0, 0))) ∧ (D (26, 0, 0, 0) 476 = 0 → D' (26, 0, 0, 0) 476 = 0))))
section SW
variable {S N O T B i x0 x1 x2 x3 : Nat} {C D : zx_Y}
theorem bo_R (hR : R 0 S N O T B C (D (26, 0, 0, 0))) : R 0 S N O T B (zx_up C (1, 0, 0, 0) 1 (nI x0)) ((zx_up D (26, 0, 0, 0) 25 (nI x0)) (26, 0, 0, 0)) := by
  obtain ⟨hb, hs, hk, ho, hn, hts⟩ := id hR
  obtain ⟨hS, hS1, hN, hO, hT⟩ := hb.2.2.2.2.2.1
  refine ⟨?_, ?_, ?_, ?_, fun t ht => ?_, fun t ht => ?_⟩
  · unfold Rb at hb ⊢
    simp (disch := omega) only [up_n, up_e]
    exact ⟨hb.1, ⟨trivial, hb.2.1.2⟩, hb.2.2.1, hb.2.2.2.1, hb.2.2.2.2.1, hb.2.2.2.2.2.1, hb.2.2.2.2.2.2⟩
  · exact (Rs_keep hS (fun s j => (by first | (simp (disch := omega) only [up_n, up_e]; done) | rfl)) (fun j h1 h2 h3 => (by first | (simp (disch := omega) only [up_n, up_e]; done) | rfl)) hs)
  · exact (Rk_keep hS (fun s j => (by first | (simp (disch := omega) only [up_n, up_e]; done) | rfl)) (fun j h1 => (by first | (simp (disch := omega) only [up_n, up_e]; done) | rfl)) hk)
  · intro i hi
    simp (disch := omega) only [up_n]
    exact ho i hi
  · simp (disch := omega) only [up_n]
    exact hn t ht
  · exact Rt_cong (by omega) hS (fun j hj => (by simp (disch := omega) only [up_n])) (fun j hj => (by simp (disch := omega) only [up_n])) (fun k s hk hs => (by simp (disch := omega) only [up_n])) (fun j h1 h2 => (by simp (disch := omega) only [up_n])) (hts t ht)
theorem st_W (hR : R 0 S N O T (T + 1) C (D (26, 0, 0, 0))) (h0 : C (17, i, 0, 0) 0 = nI 87) (h7 : C (17, i, 0, 0) 7 = nI x0) (hx : x0 ≤ 9999) (d0 : D (25, 0, 0, 0) 15 = nI 87) (d1 : D (30, 0, 0, 0) 0 = nI x0) : SR i 87 S N O T C D := by
  by_cases z : x0 = 0
  · refine Or.inl ⟨4, 0, by decide, ?_, ?_, by decide⟩
    · unfold g_X0_refuses
      rw [h0, if_neg (show ¬ nI 87 = (76 : Int32) by decide), if_neg (show ¬ nI 87 = (77 : Int32) by decide), if_neg (show ¬ nI 87 = (78 : Int32) by decide), if_neg (show ¬ nI 87 = (79 : Int32) by decide), if_neg (show ¬ nI 87 = (80 : Int32) by decide), if_neg (show ¬ nI 87 = (81 : Int32) by decide), if_neg (show ¬ nI 87 = (82 : Int32) by decide), if_neg (show ¬ nI 87 = (83 : Int32) by decide), if_neg (show ¬ nI 87 = (84 : Int32) by decide), h7, if_pos (show nI x0 = 0 by rw [z]; rfl), rf_c, zv_some, if_neg n10]
    · unfold g_X11_carryOut g_X11_bound
      rw [d0, if_neg (show ¬ nI 87 = (76 : Int32) by decide), if_neg (show ¬ nI 87 = (77 : Int32) by decide), if_neg (show ¬ nI 87 = (78 : Int32) by decide), if_neg (show ¬ nI 87 = (79 : Int32) by decide), if_neg (show ¬ nI 87 = (80 : Int32) by decide), if_neg (show ¬ nI 87 = (81 : Int32) by decide), if_neg (show ¬ nI 87 = (82 : Int32) by decide), if_neg (show ¬ nI 87 = (83 : Int32) by decide), if_neg (show ¬ nI 87 = (84 : Int32) by decide), d1, if_pos (show nI x0 = 0 by rw [z]; rfl), rf_d, zm_some, zm_some]
  · have nz : ¬ nI x0 = 0 := fun e => z (nI_inj (b := 0) e (by omega) (by omega))
    refine Or.inr ⟨?_, zx_up C (1, 0, 0, 0) 1 (nI x0), zx_up D (26, 0, 0, 0) 25 (nI x0), S, N, O, ?_, ?_, up_n (by omega), up_n (by omega), bo_R hR, Or.inr ⟨by decide, ?_, fun h => (up_n (by omega)).trans h⟩⟩
    · unfold g_X0_refuses
      rw [h0, if_neg (show ¬ nI 87 = (76 : Int32) by decide), if_neg (show ¬ nI 87 = (77 : Int32) by decide), if_neg (show ¬ nI 87 = (78 : Int32) by decide), if_neg (show ¬ nI 87 = (79 : Int32) by decide), if_neg (show ¬ nI 87 = (80 : Int32) by decide), if_neg (show ¬ nI 87 = (81 : Int32) by decide), if_neg (show ¬ nI 87 = (82 : Int32) by decide), if_neg (show ¬ nI 87 = (83 : Int32) by decide), if_neg (show ¬ nI 87 = (84 : Int32) by decide), h7, if_neg nz]
    · unfold g_X0_carryOut
      rw [h0, if_neg (show ¬ nI 87 = (76 : Int32) by decide), if_neg (show ¬ nI 87 = (77 : Int32) by decide), if_neg (show ¬ nI 87 = (78 : Int32) by decide), if_neg (show ¬ nI 87 = (79 : Int32) by decide), if_neg (show ¬ nI 87 = (80 : Int32) by decide), if_neg (show ¬ nI 87 = (81 : Int32) by decide), if_neg (show ¬ nI 87 = (82 : Int32) by decide), if_neg (show ¬ nI 87 = (83 : Int32) by decide), if_neg (show ¬ nI 87 = (84 : Int32) by decide), h7, zl_def]
    · unfold g_X11_carryOut g_X11_bound
      rw [d0, if_neg (show ¬ nI 87 = (76 : Int32) by decide), if_neg (show ¬ nI 87 = (77 : Int32) by decide), if_neg (show ¬ nI 87 = (78 : Int32) by decide), if_neg (show ¬ nI 87 = (79 : Int32) by decide), if_neg (show ¬ nI 87 = (80 : Int32) by decide), if_neg (show ¬ nI 87 = (81 : Int32) by decide), if_neg (show ¬ nI 87 = (82 : Int32) by decide), if_neg (show ¬ nI 87 = (83 : Int32) by decide), if_neg (show ¬ nI 87 = (84 : Int32) by decide), d1, if_neg nz, zl_def, zm_some]
    · exact RP_cong' (fun c j e => if_neg fun y => by rw [y.2, y.1] at e; exact absurd e (by decide)) (fun j h1 h2 => by simp (disch := omega) only [up_n])
theorem sl_step {w q : Nat} {kk : Int32 → zx_Y → Option zx_Y} (hw : w < 4) (hO : O < 6) : lg_X11_slow_112 (nI (51 + 4 * O)) kk (q + 1) (nI w) D = lg_X11_slow_112 (nI (51 + 4 * O)) kk q (nI (w + 1)) (zx_up D (26, 0, 0, 0) (51 + 4 * O + w) (D (30, 0, 0, 0) w)) := by
  rw [lg_X11_slow_112.eq_2, if_neg (show ¬ (4 : Int32) ≤ nI w from nI_ge (b := 4) (by omega) (by omega)), zi_n _ (by omega) (by omega), nI_add, zi_n _ (by omega) (by omega), zl_def, nI_1]
theorem sl_all {kk : Int32 → zx_Y → Option zx_Y} (hO : O < 6) : lg_X11_slow_112 (nI (51 + 4 * O)) kk 1000 0 D = kk 4 (zx_up (zx_up (zx_up (zx_up D (26, 0, 0, 0) (51 + 4 * O) (D (30, 0, 0, 0) 0)) (26, 0, 0, 0) (51 + 4 * O + 1) (D (30, 0, 0, 0) 1)) (26, 0, 0, 0) (51 + 4 * O + 2) (D (30, 0, 0, 0) 2)) (26, 0, 0, 0) (51 + 4 * O + 3) (D (30, 0, 0, 0) 3)) := by
  rw [← nI_0, sl_step (by omega) hO, sl_step (by omega) hO, sl_step (by omega) hO, sl_step (by omega) hO]
  simp (disch := omega) only [up_n]
  rw [lg_X11_slow_112.eq_2, if_pos (show (4 : Int32) ≤ nI (0 + 1 + 1 + 1 + 1) by decide)]
  rfl
theorem or_R (hR : R 0 S N O T B C (D (26, 0, 0, 0))) (hO : O < 6) (hw : x1 ≤ 9999) : R 0 S N (O + 1) T B (zx_up (zx_up (zx_up (zx_up (zx_up C (9, 0, O, 0) 0 (nI x0)) (9, 0, O, 0) 1 (nI x1)) (9, 0, O, 0) 2 (nI x2)) (9, 0, O, 0) 3 (nI x3)) (1, 0, 0, 0) 5 (nI (O + 1))) ((zx_up (zx_up (zx_up (zx_up (zx_up D (26, 0, 0, 0) (51 + 4 * O) (nI x0)) (26, 0, 0, 0) (51 + 4 * O + 1) (nI x1)) (26, 0, 0, 0) (51 + 4 * O + 2) (nI x2)) (26, 0, 0, 0) (51 + 4 * O + 3) (nI x3)) (26, 0, 0, 0) 50 (nI (O + 1))) (26, 0, 0, 0)) := by
  obtain ⟨hb, hs, hk, ho, hn, hts⟩ := id hR
  obtain ⟨hS, hS1, hN, hO6, hT⟩ := hb.2.2.2.2.2.1
  refine ⟨?_, ?_, ?_, ?_, fun t ht => ?_, fun t ht => ?_⟩
  · unfold Rb at hb ⊢
    simp (disch := omega) only [up_n, up_e]
    exact ⟨hb.1, hb.2.1, hb.2.2.1, hb.2.2.2.1, ⟨trivial, trivial⟩, ⟨hS, hS1, hN, by omega, hT⟩, hb.2.2.2.2.2.2⟩
  · exact (Rs_keep hS (fun s j => (by first | (simp (disch := omega) only [up_n, up_e]; done) | rfl)) (fun j h1 h2 h3 => (by first | (simp (disch := omega) only [up_n, up_e]; done) | rfl)) hs)
  · exact (Rk_keep hS (fun s j => (by first | (simp (disch := omega) only [up_n, up_e]; done) | rfl)) (fun j h1 => (by first | (simp (disch := omega) only [up_n, up_e]; done) | rfl)) hk)
  · intro i hi
    by_cases e : i = O
    · subst e
      simp (disch := omega) only [up_n, up_e]
      exact ⟨trivial, ⟨x1, hw, rfl, rfl⟩, trivial, trivial⟩
    · simp (disch := omega) only [up_n]
      exact ho i (by omega)
  · simp (disch := omega) only [up_n]
    exact hn t ht
  · exact Rt_cong (by omega) hS (fun j hj => (by simp (disch := omega) only [up_n])) (fun j hj => (by simp (disch := omega) only [up_n])) (fun k s hk hs => (by simp (disch := omega) only [up_n])) (fun j h1 h2 => (by simp (disch := omega) only [up_n])) (hts t ht)
theorem st_O (hR : R 0 S N O T (T + 1) C (D (26, 0, 0, 0))) (h0 : C (17, i, 0, 0) 0 = nI 79) (h1 : C (17, i, 0, 0) 1 = nI x0) (h7 : C (17, i, 0, 0) 7 = nI x1) (h4 : C (17, i, 0, 0) 4 = nI x2) (h8 : C (17, i, 0, 0) 8 = nI x3) (y0 : x0 ≤ 7) (y1 : x1 ≤ 9999) (y2 : x2 ≤ 9999) (y3 : x3 ≤ 9999) (d0 : D (25, 0, 0, 0) 15 = nI 79) (e0 : D (30, 0, 0, 0) 0 = nI x0) (e1 : D (30, 0, 0, 0) 1 = nI x1) (e2 : D (30, 0, 0, 0) 2 = nI x2) (e3 : D (30, 0, 0, 0) 3 = nI x3) : SR i 79 S N O T C D := by
  obtain ⟨hS, hN, -⟩ := RN hR
  have hO6 : O ≤ 6 := hR.1.2.2.2.2.2.1.2.2.2.1
  obtain ⟨x1e, x2e⟩ := ex_pair hR
  have rC : g_X0_refuses C 0 i = zv (g_X0_refusesOrder C 0 i) fun v4 M4 => (zo v4 ((some (v4, M4)))) := by
    unfold g_X0_refuses
    rw [h0, if_neg (show ¬ nI 79 = (76 : Int32) by decide), if_neg (show ¬ nI 79 = (77 : Int32) by decide), if_neg (show ¬ nI 79 = (78 : Int32) by decide), if_pos (show nI 79 = (79 : Int32) by decide)]
  have rD : g_X11_carryOut D = zm (g_X11_slow D) fun M4 => (some M4) := by
    unfold g_X11_carryOut
    rw [d0, if_neg (show ¬ nI 79 = (76 : Int32) by decide), if_neg (show ¬ nI 79 = (77 : Int32) by decide), if_neg (show ¬ nI 79 = (78 : Int32) by decide), if_pos (show nI 79 = (79 : Int32) by decide)]
  unfold SR
  rw [rC, rD]
  unfold g_X0_refusesOrder g_X11_slow
  rw [x1e, zb_some, h1, h4, h8, e0, e2, e3, hR.1.2.2.2.2.1.1, hR.1.2.2.2.2.1.2]
  by_cases hz : S = 0
  · rw [if_pos hz, if_pos (show (0 : Int32) = 0 from rfl), if_pos (x2e.mpr hz), rf_c, rf_d, zv_some, zo_1, zv_some, zo_1, zm_some, zm_some]
    exact Or.inl ⟨1, -5, by decide, rfl, rfl, fun _ => rfl⟩
  · rw [if_neg hz, if_neg n10, if_neg (fun h => hz (x2e.mp h))]
    by_cases hb : ∃ b, b + 1 < S ∧ nI x0 = nI b
    · have hx0 : x0 + 1 < S := by
        obtain ⟨b, q1, q2⟩ := hb
        have := nI_inj q2 (by omega) (by omega)
        omega
      rw [hbl_1 hR.1.2.2.1.1 hS hx0, isBl_1 hR.1.2.2.1.2 hS hx0, zb_some, zb_some, if_neg n10, if_neg n10]
      by_cases hO : O < 6
      · rw [if_pos (show nI O < (6 : Int32) from nI_lt (b := 6) (by omega) (by omega)), if_neg (show ¬ nI O = (6 : Int32) from fun e => by have := nI_inj (b := 6) e (by omega) (by omega); omega)]
        by_cases hlt : x2 < x3
        · rw [if_pos (nI_lt hlt (by omega)), if_pos (nI_lt hlt (by omega)), show (51 + 4 * nI O : Int32) = nI (51 + 4 * O) from by rw [show (4 : Int32) = nI 4 from rfl, show (51 : Int32) = nI 51 from rfl, pk_mul, nI_add], sl_all hO, zl_def, zm_some, zv_some, zo_0, e0, e1, e2, e3]
          have eC : g_X0_carryOut C 0 i = some (zx_up (zx_up (zx_up (zx_up (zx_up C (9, 0, O, 0) 0 (nI x0)) (9, 0, O, 0) 1 (nI x1)) (9, 0, O, 0) 2 (nI x2)) (9, 0, O, 0) 3 (nI x3)) (1, 0, 0, 0) 5 (nI (O + 1))) := by
            unfold g_X0_carryOut g_X0_addOrder
            rw [h0, if_neg (show ¬ nI 79 = (76 : Int32) by decide), if_neg (show ¬ nI 79 = (77 : Int32) by decide), if_neg (show ¬ nI 79 = (78 : Int32) by decide), if_pos (show nI 79 = (79 : Int32) by decide), hR.1.2.2.2.2.1.1, if_neg (nI_pos (by omega)), if_pos (show nI O < (6 : Int32) from nI_lt (b := 6) (by omega) (by omega)), zi_n _ hO (by omega)]
            simp (disch := omega) only [zl_def, up_n, up_e, h1, h7, h4, h8, hR.1.2.2.2.2.1.1, nI_1, zm_some]
          refine Or.inr ⟨rfl, _, _, S, N, O + 1, eC, rfl, by simp (disch := omega) only [up_n], by simp (disch := omega) only [up_n], ?_, Or.inr ⟨by decide, fun hP => ?_, fun h => by simp (disch := omega) only [up_n]; exact h⟩⟩
          · simp (disch := omega) only [up_n, hR.1.2.2.2.2.1.2, nI_1]
            exact or_R hR hO y1
          · exact RP_cong' (fun c j e => fr_X0_carryOut eC (by rw [e]; decide)) (fun j h1 h2 => by simp (disch := omega) only [up_n]) hP
        · have nl : ¬ nI x2 < nI x3 := fun h => hlt ((nI_ltI (by omega) (by omega)).mp h)
          rw [if_neg nl, if_neg nl, rf_c, rf_d, zv_some, if_neg n10, zv_some, zo_1, zm_some, zm_some]
          exact Or.inl ⟨4, nI x3, by decide, rfl, rfl, fun h => absurd h (by decide)⟩
      · have e6 : O = 6 := by omega
        rw [if_neg (show ¬ nI O < (6 : Int32) from by rw [e6]; decide), if_pos (show nI O = (6 : Int32) from by rw [e6]; rfl), rf_c, rf_d, zv_some, zo_1, zv_some, zo_1, zm_some, zm_some]
        exact Or.inl ⟨3, 6, by decide, rfl, rfl, fun h => absurd h (by decide)⟩
    · rw [hbl_0 hR.1.2.2.1.1 hS hb, isBl_0 hR.1.2.2.1.2 hS hb, zb_some, zb_some, if_pos (show (0 : Int32) = 0 from rfl), if_pos (show (0 : Int32) = 0 from rfl), rf_c, rf_d, zv_some, zo_1, zv_some, zo_1, zm_some, zm_some]
      exact Or.inl ⟨2, nI x0, by decide, rfl, rfl, fun h => absurd h (by decide)⟩
theorem sta_R (hR : R 0 S N O T B C (D (26, 0, 0, 0))) (hs0 : x0 < S) (y2 : x2 ≤ 1) : R 0 S N O T B (zx_up (zx_up C (3, 0, x0, 0) 0 (nI x1)) (3, 0, x0, 0) 1 (nI x2)) ((zx_up (zx_up D (26, 0, 0, 0) (9 + x0) (nI x1)) (26, 0, 0, 0) (17 + x0) (nI x2)) (26, 0, 0, 0)) := by
  obtain ⟨hb, hs, hk, ho, hn, hts⟩ := id hR
  obtain ⟨hS, hS1, hN, hO6, hT⟩ := hb.2.2.2.2.2.1
  refine ⟨?_, fun s hs8 => ?_, ?_, ?_, fun t ht => ?_, fun t ht => ?_⟩
  · unfold Rb at hb ⊢
    simp (disch := omega) only [up_n]
    exact hb
  · by_cases e : s = x0
    · subst e
      simp (disch := omega) only [up_n, up_e]
      refine ⟨?_, fun q => ⟨trivial, trivial, ((hs s hs8).2 q).2.2⟩⟩
      rcases (show x2 = 0 ∨ x2 = 1 by omega) with h | h
      · exact Or.inl (by rw [h]; rfl)
      · exact Or.inr (by rw [h]; rfl)
    · simp (disch := omega) only [up_n]
      exact ⟨(hs s hs8).1, fun q => (hs s hs8).2 q⟩
  · exact (Rk_keep hS (fun s j => (by first | (simp (disch := omega) only [up_n, up_e]; done) | rfl)) (fun j h1 => (by first | (simp (disch := omega) only [up_n, up_e]; done) | rfl)) hk)
  · intro i hi
    simp (disch := omega) only [up_n]
    exact ho i hi
  · simp (disch := omega) only [up_n]
    exact hn t ht
  · exact Rt_cong (by omega) hS (fun j hj => (by simp (disch := omega) only [up_n])) (fun j hj => (by simp (disch := omega) only [up_n])) (fun k s hk hs => (by simp (disch := omega) only [up_n])) (fun j h1 h2 => (by simp (disch := omega) only [up_n])) (hts t ht)
theorem st_S (hR : R 0 S N O T (T + 1) C (D (26, 0, 0, 0))) (h0 : C (17, i, 0, 0) 0 = nI 83) (h1 : C (17, i, 0, 0) 1 = nI x0) (h3 : C (17, i, 0, 0) 3 = nI x1) (h9 : C (17, i, 0, 0) 9 = nI x2) (y0 : x0 ≤ 7) (y1 : x1 ≤ 9) (y2 : x2 ≤ 1) (d0 : D (25, 0, 0, 0) 15 = nI 83) (e0 : D (30, 0, 0, 0) 0 = nI x0) (e1 : D (30, 0, 0, 0) 1 = nI x1) (e2 : D (30, 0, 0, 0) 2 = nI x2) : SR i 83 S N O T C D := by
  obtain ⟨hS, hN, -⟩ := RN hR
  obtain ⟨x1e, x2e⟩ := ex_pair hR
  have rC : g_X0_refuses C 0 i = zv (g_X0_refusesStation C 0 i) fun v4 M4 => (zo v4 ((some (v4, M4)))) := by
    unfold g_X0_refuses
    rw [h0, if_neg (show ¬ nI 83 = (76 : Int32) by decide), if_neg (show ¬ nI 83 = (77 : Int32) by decide), if_neg (show ¬ nI 83 = (78 : Int32) by decide), if_neg (show ¬ nI 83 = (79 : Int32) by decide), if_neg (show ¬ nI 83 = (80 : Int32) by decide), if_neg (show ¬ nI 83 = (81 : Int32) by decide), if_neg (show ¬ nI 83 = (82 : Int32) by decide), if_pos (show nI 83 = (83 : Int32) by decide)]
  have rD : g_X11_carryOut D = zm (g_X11_equip D) fun M4 => (some M4) := by
    unfold g_X11_carryOut
    rw [d0, if_neg (show ¬ nI 83 = (76 : Int32) by decide), if_neg (show ¬ nI 83 = (77 : Int32) by decide), if_neg (show ¬ nI 83 = (78 : Int32) by decide), if_neg (show ¬ nI 83 = (79 : Int32) by decide), if_neg (show ¬ nI 83 = (80 : Int32) by decide), if_neg (show ¬ nI 83 = (81 : Int32) by decide), if_neg (show ¬ nI 83 = (82 : Int32) by decide), if_pos (show nI 83 = (83 : Int32) by decide)]
  unfold SR
  rw [rC, rD]
  unfold g_X0_refusesStation g_X11_equip
  rw [x1e, zb_some, h1, h3, e0, e1]
  by_cases hz : S = 0
  · rw [if_pos hz, if_pos (show (0 : Int32) = 0 from rfl), if_pos (x2e.mpr hz), rf_c, rf_d, zv_some, zo_1, zv_some, zo_1, zm_some, zm_some]
    exact Or.inl ⟨1, -5, by decide, rfl, rfl, fun _ => rfl⟩
  · rw [if_neg hz, if_neg n10, if_neg (fun h => hz (x2e.mp h))]
    by_cases hb : ∃ s, s < S ∧ nI x0 = nI s
    · have hx0 : x0 < S := by
        obtain ⟨b, q1, q2⟩ := hb
        have := nI_inj q2 (by omega) (by omega)
        omega
      rw [hst_1 hR.1.2.2.1.1 hS hx0, isSt_1 hR.1.2.2.1.2 hS hx0, zb_some, zb_some, if_neg n10, if_neg n10, isn (a := x1) (lo := 1) (hi := 4) (y := 1) (z := 4) (by omega) rfl rfl (by omega) (by omega), zb_some]
      obtain ⟨v, tc, td⟩ := tk_pair hR (nI x0)
      rw [tc, td, zb_some, zb_some]
      by_cases r1 : 1 ≤ x1
      · have b1 : ¬ nI x1 < (1 : Int32) := fun h => by have := (nI_ltI (b := 1) (by omega) (by omega)).mp h; omega
        rw [if_neg b1]
        by_cases r4 : x1 ≤ 4
        · have b4 : ¬ (4 : Int32) < nI x1 := fun h => by have := (nI_ltI (a := 4) (by omega) (by omega)).mp h; omega
          rw [if_neg b4, if_pos (show 1 ≤ x1 ∧ x1 ≤ 4 from ⟨r1, r4⟩), if_neg n10]
          by_cases hv : v ≤ nI x1
          · have nv : ¬ nI x1 < v := Int32.not_lt.mpr hv
            have eC : g_X0_carryOut C 0 i = some (zx_up (zx_up C (3, 0, x0, 0) 0 (nI x1)) (3, 0, x0, 0) 1 (nI x2)) := by
              unfold g_X0_carryOut g_X0_changeStation
              rw [h0, if_neg (show ¬ nI 83 = (76 : Int32) by decide), if_neg (show ¬ nI 83 = (77 : Int32) by decide), if_neg (show ¬ nI 83 = (78 : Int32) by decide), if_neg (show ¬ nI 83 = (79 : Int32) by decide), if_neg (show ¬ nI 83 = (80 : Int32) by decide), if_neg (show ¬ nI 83 = (81 : Int32) by decide), if_neg (show ¬ nI 83 = (82 : Int32) by decide), if_pos (show nI 83 = (83 : Int32) by decide), h1, hst_1 hR.1.2.2.1.1 hS hx0, zb_some, if_neg n10, zi_n _ (by omega) (by omega), zl_def, up_n (by omega), h1, zi_n _ (by omega) (by omega), up_n (by omega), h9, h3, zo_v (by rcases (show x2 = 0 ∨ x2 = 1 by omega) with h | h; exact Or.inl (by rw [h]; rfl); exact Or.inr (by rw [h]; rfl)), zl_def, zm_some]
            rw [if_neg nv, if_pos hv, zv_some, zo_0, show (9 + nI x0 : Int32) = nI (9 + x0) from nI_add 9 x0, zi_n _ (show 9 + x0 < 640 by omega) (by omega), zl_def, up_n (by omega), e2, show (17 + nI x0 : Int32) = nI (17 + x0) from nI_add 17 x0, zi_n _ (show 17 + x0 < 640 by omega) (by omega), zl_def, zm_some]
            exact Or.inr ⟨rfl, _, _, S, N, O, eC, rfl, by simp (disch := omega) only [up_n], by simp (disch := omega) only [up_n], sta_R hR hx0 y2, Or.inr ⟨by decide, fun hP => RP_cong' (fun c j e => fr_X0_carryOut eC (by rw [e]; decide)) (fun j h1 h2 => by simp (disch := omega) only [up_n]) hP, fun h => by simp (disch := omega) only [up_n]; exact h⟩⟩
          · have nv : nI x1 < v := Int32.not_le.mp hv
            rw [if_pos nv, if_neg hv, rf_c, rf_d, zv_some, zo_1, zv_some, zo_1, zm_some, zm_some]
            exact Or.inl ⟨4, nI x1, by decide, rfl, rfl, fun h => absurd h (by decide)⟩
        · have b4 : (4 : Int32) < nI x1 := nI_lt (a := 4) (by omega) (by omega)
          rw [if_pos b4, if_neg (show ¬ (1 ≤ x1 ∧ x1 ≤ 4) by omega), if_pos (show (0 : Int32) = 0 from rfl), rf_c, rf_d, zv_some, zo_1, zv_some, zo_1, zm_some, zm_some]
          exact Or.inl ⟨4, nI x1, by decide, rfl, rfl, fun h => absurd h (by decide)⟩
      · have b1 : nI x1 < (1 : Int32) := nI_lt (b := 1) (by omega) (by omega)
        rw [if_pos b1, if_neg (show ¬ (1 ≤ x1 ∧ x1 ≤ 4) by omega), if_pos (show (0 : Int32) = 0 from rfl), rf_c, rf_d, zv_some, zo_1, zv_some, zo_1, zm_some, zm_some]
        exact Or.inl ⟨4, nI x1, by decide, rfl, rfl, fun h => absurd h (by decide)⟩
    · rw [hst_0 hR.1.2.2.1.1 hS hb, isSt_0 hR.1.2.2.1.2 hS hb, zb_some, zb_some, if_pos (show (0 : Int32) = 0 from rfl), if_pos (show (0 : Int32) = 0 from rfl), rf_c, rf_d, zv_some, zo_1, zv_some, zo_1, zm_some, zm_some]
      exact Or.inl ⟨2, nI x0, by decide, rfl, rfl, fun h => absurd h (by decide)⟩
end SW
