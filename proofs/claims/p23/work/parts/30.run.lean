theorem note_0 {C : zx_Y} {l t s : Nat} {v : Int32} (hs : s < 8) : g_X9_note C l t 0 (nI s) v = some (zx_up C (13, l, t, 0) s v) := by
  unfold g_X9_note
  rw [if_neg (nI_pos (by omega)), if_pos (by rw [show (8 : Int32) = nI 8 from rfl]; exact nI_lt hs (by omega)), zi_0 _ (by omega) (by omega), zi_n _ hs (by omega), zl_def]
theorem note_1 {C : zx_Y} {l t s : Nat} {v : Int32} (hs : s < 8) : g_X9_note C l t 1 (nI s) v = some (zx_up C (13, l, t, 1) s v) := by
  unfold g_X9_note
  rw [if_neg (nI_pos (by omega)), if_pos (by rw [show (8 : Int32) = nI 8 from rfl]; exact nI_lt hs (by omega)), zi_1 _ (by omega) (by omega), zi_n _ hs (by omega), zl_def]
theorem chg_e {C : zx_Y} {l t : Nat} {v w : Int32} : g_X9_changeTo C l t v w = some (zx_up (zx_up (zx_up (zx_up (zx_up C (7, l, t, 0) 1 v) (7, l, t, 0) 11 w) (7, l, t, 0) 9 (-5)) (7, l, t, 0) 12 (-5)) (7, l, t, 0) 14 (-5)) := by
  unfold g_X9_changeTo
  simp only [zl_def]
theorem bec_e {D : zx_Y} {t T : Nat} {x y : Int32} (ht : t < 10) (h0 : D (26, 0, 0, 0) 0 = nI T) : g_X11_become D (nI t) x y = some (zx_up (zx_up (zx_up (zx_up D (26, 0, 0, 0) (75 + 40 * t) x) (26, 0, 0, 0) (75 + 40 * t + 11) y) (26, 0, 0, 0) (75 + 40 * t + 7) (nI T)) (26, 0, 0, 0) (75 + 40 * t + 8) (-5)) := by
  unfold g_X11_become
  simp (disch := omega) only [↓mset_0 ht, ↓mset_11 ht, ↓mset_7 ht, ↓mset_8 ht, up_n, h0]
theorem com_e {D : zx_Y} {t T s : Nat} (ht : t < 10) (hs : s < 8) (h0 : D (26, 0, 0, 0) 0 = nI T) : g_X11_comeIn D (nI t) (nI s) = some (zx_up (zx_up (zx_up (zx_up (zx_up (zx_up (zx_up D (26, 0, 0, 0) (75 + 40 * t) 1) (26, 0, 0, 0) (75 + 40 * t + 11) (nI s)) (26, 0, 0, 0) (75 + 40 * t + 7) (nI T)) (26, 0, 0, 0) (75 + 40 * t + 8) (-5)) (26, 0, 0, 0) (75 + 40 * t + 12) (nI T)) (26, 0, 0, 0) (75 + 40 * t + 17 + s) (nI T)) (26, 0, 0, 0) (28 + s) (D (26, 0, 0, 0) (28 + s) + 1)) := by
  unfold g_X11_comeIn
  rw [bec_e ht h0, zm_some, mset_12 ht]
  simp (disch := omega) only [up_n, h0]
  rw [set_arr ht hs, zm_some, show (28 : Int32) = nI 28 from rfl, nI_add, zi_n _ (by omega) (by omega), zi_n _ (by omega) (by omega), zl_def]
  simp (disch := omega) only [up_n]
theorem bri_n {C : zx_Y} {l t T S s g : Nat} (hS : S ≤ 8) (hg : g < 8) (hs : s < S) (h3 : C (1, l, 0, 0) 3 = nI S) (h0 : C (1, l, 0, 0) 0 = nI T) (h7 : C (7, l, t, 0) 3 = nI g) (hl : s ≠ g) : g_X2_bringInto C l t (nI s) = some (zx_up (zx_up (zx_up (zx_up (zx_up (zx_up (zx_up C (3, l, s, 0) 2 (C (3, l, s, 0) 2 + 1)) (13, l, t, 0) s (nI T)) (7, l, t, 0) 1 1) (7, l, t, 0) 11 (nI T)) (7, l, t, 0) 9 (nI s)) (7, l, t, 0) 12 (-5)) (7, l, t, 0) 13 (nI T)) := by
  unfold g_X2_bringInto
  have hne : ¬ nI s = nI g := fun e => hl (nI_inj e (by omega) (by omega))
  rw [hst_1 h3 hS hs, zb_some, if_neg (by decide), zi_n _ (by omega) (by omega), zl_def, note_0 (by omega), zm_some]
  simp (disch := omega) only [zl_def, up_n, h7, h0, if_neg hne]
theorem bri_l {C : zx_Y} {l t T S s g : Nat} (hS : S ≤ 8) (hg : g < 8) (hs : s < S) (h3 : C (1, l, 0, 0) 3 = nI S) (h0 : C (1, l, 0, 0) 0 = nI T) (h7 : C (7, l, t, 0) 3 = nI g) (hl : s = g) : g_X2_bringInto C l t (nI s) = some (zx_up (zx_up (zx_up (zx_up (zx_up (zx_up (zx_up C (3, l, s, 0) 2 (C (3, l, s, 0) 2 + 1)) (13, l, t, 0) s (nI T)) (7, l, t, 0) 1 4) (7, l, t, 0) 11 (nI T)) (7, l, t, 0) 9 (-5)) (7, l, t, 0) 12 (-5)) (7, l, t, 0) 14 (-5)) := by
  unfold g_X2_bringInto
  rw [hst_1 h3 hS hs, zb_some, if_neg (by decide), zi_n _ (by omega) (by omega), zl_def, note_0 (by omega), zm_some]
  simp (disch := omega) only [up_n, h7, h0]
  rw [if_pos (by rw [hl]), chg_e, zm_some]
theorem arv_n {D : zx_Y} {t T f g p s : Nat} (ht : t < 10) (hf : f < 8) (hg : g < 8) (hs : s < 8) (hsx : s = nx f g p) (h0 : D (26, 0, 0, 0) 0 = nI T) (h1 : D (26, 0, 0, 0) (75 + 40 * t + 1) = nI f) (h2 : D (26, 0, 0, 0) (75 + 40 * t + 2) = nI g) (h11 : D (26, 0, 0, 0) (75 + 40 * t + 11) = nI (bk f g p)) (hl : s ≠ g) : g_X11_arrive D (nI t) = some (zx_up (zx_up (zx_up (zx_up (zx_up (zx_up (zx_up D (26, 0, 0, 0) (75 + 40 * t) 1) (26, 0, 0, 0) (75 + 40 * t + 11) (nI s)) (26, 0, 0, 0) (75 + 40 * t + 7) (nI T)) (26, 0, 0, 0) (75 + 40 * t + 8) (-5)) (26, 0, 0, 0) (75 + 40 * t + 12) (nI T)) (26, 0, 0, 0) (75 + 40 * t + 17 + s) (nI T)) (26, 0, 0, 0) (28 + s) (D (26, 0, 0, 0) (28 + s) + 1)) := by
  unfold g_X11_arrive
  have hne : ¬ nI s = nI g := fun e => hl (nI_inj e (by omega) (by omega))
  rw [goal_1 ht hf hg h1 h2 h11, zb_some, ← hsx, com_e ht hs h0, zm_some, bat_2 ht]
  simp (disch := omega) only [up_n, h2, if_neg hne]
theorem arv_l {D : zx_Y} {t T f g p s : Nat} (ht : t < 10) (hf : f < 8) (hg : g < 8) (hs : s < 8) (hsx : s = nx f g p) (h0 : D (26, 0, 0, 0) 0 = nI T) (h1 : D (26, 0, 0, 0) (75 + 40 * t + 1) = nI f) (h2 : D (26, 0, 0, 0) (75 + 40 * t + 2) = nI g) (h11 : D (26, 0, 0, 0) (75 + 40 * t + 11) = nI (bk f g p)) (hl : s = g) : g_X11_arrive D (nI t) = some (zx_up (zx_up (zx_up (zx_up (zx_up (zx_up (zx_up (zx_up (zx_up (zx_up (zx_up (zx_up D (26, 0, 0, 0) (75 + 40 * t) 1) (26, 0, 0, 0) (75 + 40 * t + 11) (nI s)) (26, 0, 0, 0) (75 + 40 * t + 7) (nI T)) (26, 0, 0, 0) (75 + 40 * t + 8) (-5)) (26, 0, 0, 0) (75 + 40 * t + 12) (nI T)) (26, 0, 0, 0) (75 + 40 * t + 17 + s) (nI T)) (26, 0, 0, 0) (28 + s) (D (26, 0, 0, 0) (28 + s) + 1)) (26, 0, 0, 0) (75 + 40 * t) 4) (26, 0, 0, 0) (75 + 40 * t + 11) (-5)) (26, 0, 0, 0) (75 + 40 * t + 7) (nI T)) (26, 0, 0, 0) (75 + 40 * t + 8) (-5)) (26, 0, 0, 0) (75 + 40 * t + 9) (-5)) := by
  unfold g_X11_arrive
  rw [goal_1 ht hf hg h1 h2 h11, zb_some, ← hsx, com_e ht hs h0, zm_some, bat_2 ht]
  simp (disch := omega) only [up_n, h2]
  rw [if_pos (by rw [hl]), bec_e (T := T) ht (by simp (disch := omega) only [up_n]; exact h0), zm_some, mset_9 ht]
theorem run_step {l S N O T B : Nat} (kc kr : Int32 → zx_Y → Option zx_Y) (t : Nat) (C D : zx_Y) (ht : t < N) (hR : R l S N O T B C (D (26, 0, 0, 0))) : ∃ C' D', R l S N O T B C' (D' (26, 0, 0, 0)) ∧ (∀ j, 475 ≤ j → D' (26, 0, 0, 0) j = D (26, 0, 0, 0) j) ∧ (∀ q, lg_X2_endRuns_2 l kc (q + 1) (nI t) C = lg_X2_endRuns_2 l kc q (nI (t + 1)) C') ∧ (∀ q, lg_X11_minute_16 kr (q + 1) (nI t) D = lg_X11_minute_16 kr q (nI (t + 1)) D') := by
  have hR0 := hR
  obtain ⟨hb, hs, hk, ho, hn, hts⟩ := hR0
  obtain ⟨hS, hS1, hN, hO, hT⟩ := hb.2.2.2.2.2.1
  have h0 := hb.1.1
  have h0d := hb.1.2
  have h3 := hb.2.2.1.1
  have h1d := hb.2.2.1.2
  have h4 := hb.2.2.2.1.1
  have h27 := hb.2.2.2.1.2
  obtain ⟨f, g, e, r, hw, hx, hp, ha, hord, hst⟩ := hts t ht
  obtain ⟨q1, q2, q2d, q3, q3d, q4, q5, q5d, q6, q6d, q7, q8, q9, q11, q14⟩ := id hx
  have ht10 : t < 10 := by omega
  have e4 : ¬ C (1, l, 0, 0) 4 ≤ nI t := by rw [h4]; exact nI_ge ht (by omega)
  have e27 : ¬ D (26, 0, 0, 0) 27 ≤ nI t := by rw [h27]; exact nI_ge ht (by omega)
  have no : D (26, 0, 0, 0) (75 + 40 * t) ≠ 2 → ∃ C' D', R l S N O T B C' (D' (26, 0, 0, 0)) ∧ (∀ j, 475 ≤ j → D' (26, 0, 0, 0) j = D (26, 0, 0, 0) j) ∧ (∀ q, lg_X2_endRuns_2 l kc (q + 1) (nI t) C = lg_X2_endRuns_2 l kc q (nI (t + 1)) C') ∧ (∀ q, lg_X11_minute_16 kr (q + 1) (nI t) D = lg_X11_minute_16 kr q (nI (t + 1)) D') := fun hne => by
    refine ⟨C, D, hR, fun _ _ => rfl, fun q => ?_, fun q => ?_⟩
    · rw [lg_X2_endRuns_2.eq_2, if_neg e4, zi_n _ ht10 (by omega), q1, if_neg hne, nI_1]
    · rw [lg_X11_minute_16.eq_2, if_neg e27, bat_0 ht10, if_neg hne, nI_1]
  rcases hst with ⟨a1, -⟩ | ⟨a1, -⟩ | ⟨a1, p, u, d, a2, a3, a4, a5, a6, a7, a8, a9, a10⟩ | ⟨a1, -⟩ | ⟨a1, -⟩
  · exact no (by rw [a1]; decide)
  · exact no (by rw [a1]; decide)
  · obtain ⟨b1, b2, b3, b4, b5, b6⟩ := Wy_b a4 hw.1 hw.2.1
    by_cases c : nI T < nI u
    · refine ⟨C, D, hR, fun _ _ => rfl, fun q => ?_, fun q => ?_⟩
      · rw [lg_X2_endRuns_2.eq_2, if_neg e4, zi_n _ ht10 (by omega), q1, if_pos a1, h0, a9, if_pos c, nI_1]
      · rw [lg_X11_minute_16.eq_2, if_neg e27, bat_0 ht10, if_pos a1, bat_8 ht10, h0d, a8, if_pos c, nI_1]
    · have hu : u ≤ T := by
        have := mt (nI_ltI (a := T) (b := u) (by omega) (by omega)).mpr c
        omega
      by_cases hl : nx f g p = g
      · refine ⟨_, _, arr_l hR ht rfl hu hl a1 a4 a5 a6 a10 hw hx hp ha hord, (fun j hj => (by first | (simp (disch := omega) only [up_n]; done) | rfl)), fun q => ?_, fun q => ?_⟩
        · rw [lg_X2_endRuns_2.eq_2, if_neg e4, zi_n _ ht10 (by omega), q1, if_pos a1, h0, a9, if_neg c, a3, bri_l hS (by omega) b3 h3 h0 q3 hl, zm_some, nI_1]
        · rw [lg_X11_minute_16.eq_2, if_neg e27, bat_0 ht10, if_pos a1, bat_8 ht10, h0d, a8, if_neg c, arv_l ht10 (by omega) (by omega) (by omega) rfl h0d q2d q3d a2 hl, zm_some, nI_1]
      · refine ⟨_, _, arr_n hR ht rfl hu hl a1 a4 a5 a6 a10 hw hx hp ha hord, (fun j hj => (by first | (simp (disch := omega) only [up_n]; done) | rfl)), fun q => ?_, fun q => ?_⟩
        · rw [lg_X2_endRuns_2.eq_2, if_neg e4, zi_n _ ht10 (by omega), q1, if_pos a1, h0, a9, if_neg c, a3, bri_n hS (by omega) b3 h3 h0 q3 hl, zm_some, nI_1]
        · rw [lg_X11_minute_16.eq_2, if_neg e27, bat_0 ht10, if_pos a1, bat_8 ht10, h0d, a8, if_neg c, arv_n ht10 (by omega) (by omega) (by omega) rfl h0d q2d q3d a2 hl, zm_some, nI_1]
  · exact no (by rw [a1]; decide)
  · exact no (by rcases a1 with a1 | a1 <;> rw [a1] <;> decide)
