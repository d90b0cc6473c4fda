/-! commands are carried out: trains and new lines, both sides -/
section SU
variable {S N O T B i x0 x1 x2 x3 x4 x5 : Nat} {C D : zx_Y}
theorem st_T (hR : R 0 S N O T (T + 1) C (D (26, 0, 0, 0))) (h0 : C (17, i, 0, 0) 0 = nI 84) (h1 : C (17, i, 0, 0) 1 = nI x0) (h2 : C (17, i, 0, 0) 2 = nI x1) (h3 : C (17, i, 0, 0) 3 = nI x2) (h4 : C (17, i, 0, 0) 4 = nI x3) (h5 : C (17, i, 0, 0) 5 = nI x4) (h6 : C (17, i, 0, 0) 6 = nI x5) (y0 : x0 ≤ 7) (y1 : x1 ≤ 7) (y2 : x2 ≤ 9) (y3 : x3 ≤ 9999) (y4 : x4 ≤ 9) (y5 : x5 ≤ 9999) (d0 : D (25, 0, 0, 0) 15 = nI 84) (e0 : D (30, 0, 0, 0) 0 = nI x0) (e1 : D (30, 0, 0, 0) 1 = nI x1) (e2 : D (30, 0, 0, 0) 2 = nI x2) (e3 : D (30, 0, 0, 0) 3 = nI x3) (e4 : D (30, 0, 0, 0) 4 = nI x4) (e5 : D (30, 0, 0, 0) 5 = nI x5) : SR i 84 S N O T C D := by
  obtain ⟨hS, hN, -⟩ := RN hR
  have hT : T ≤ 10499 := hR.1.2.2.2.2.2.1.2.2.2.2
  obtain ⟨x1e, x2e⟩ := ex_pair hR
  have rC : g_X0_refuses C 0 i = zv (g_X0_refusesTrain C 0 i) fun v4 M4 => (zo v4 ((some (v4, M4)))) := by
    unfold g_X0_refuses
    rw [h0, if_neg (show ¬ nI 84 = (76 : Int32) by decide), if_neg (show ¬ nI 84 = (77 : Int32) by decide), if_neg (show ¬ nI 84 = (78 : Int32) by decide), if_neg (show ¬ nI 84 = (79 : Int32) by decide), if_neg (show ¬ nI 84 = (80 : Int32) by decide), if_neg (show ¬ nI 84 = (81 : Int32) by decide), if_neg (show ¬ nI 84 = (82 : Int32) by decide), if_neg (show ¬ nI 84 = (83 : Int32) by decide), if_pos (show nI 84 = (84 : Int32) by decide)]
  have rD : g_X11_carryOut D = zm (g_X11_bring D) fun M4 => (some M4) := by
    unfold g_X11_carryOut
    rw [d0, if_neg (show ¬ nI 84 = (76 : Int32) by decide), if_neg (show ¬ nI 84 = (77 : Int32) by decide), if_neg (show ¬ nI 84 = (78 : Int32) by decide), if_neg (show ¬ nI 84 = (79 : Int32) by decide), if_neg (show ¬ nI 84 = (80 : Int32) by decide), if_neg (show ¬ nI 84 = (81 : Int32) by decide), if_neg (show ¬ nI 84 = (82 : Int32) by decide), if_neg (show ¬ nI 84 = (83 : Int32) by decide), if_pos (show nI 84 = (84 : Int32) by decide)]
  unfold SR
  rw [rC, rD]
  unfold g_X0_refusesTrain g_X11_bring
  rw [x1e, zb_some, h1, h2, h4, h6, e0, e1, e3, e5, hR.1.2.2.2.1.1, hR.1.2.2.2.1.2, hR.1.1.1, hR.1.1.2]
  by_cases hz : S = 0
  · rw [if_pos hz, if_pos (show (0 : Int32) = 0 from rfl), if_pos (x2e.mpr hz), rf_c, rf_d, zv_some, zo_1, zv_some, zo_1, zm_some, zm_some]
    exact Or.inl ⟨1, -5, by decide, rfl, rfl, fun _ => rfl⟩
  · rw [if_neg hz, if_neg n10, if_neg (fun h => hz (x2e.mp h))]
    by_cases hb : ∃ s, s < S ∧ nI x0 = nI s
    · have hx0 : x0 < S := by
        obtain ⟨b, q1, q2⟩ := hb
        have := nI_inj q2 (by omega) (by omega)
        omega
      rw [hst_1 hR.1.2.2.1.1 hS hx0, isSt_1 hR.1.2.2.1.2 hS hx0, zb_some, zb_some, if_neg n10, if_neg n10]
      by_cases hb2 : ∃ s, s < S ∧ nI x1 = nI s
      · have hx1 : x1 < S := by
          obtain ⟨b, q1, q2⟩ := hb2
          have := nI_inj q2 (by omega) (by omega)
          omega
        rw [hst_1 hR.1.2.2.1.1 hS hx1, isSt_1 hR.1.2.2.1.2 hS hx1, zb_some, zb_some, if_neg n10, if_neg n10]
        by_cases hN9 : N < 10
        · rw [if_pos (show nI N < (10 : Int32) from nI_lt (b := 10) hN9 (by omega)), if_neg (show ¬ nI N = (10 : Int32) from fun e => by have := nI_inj (b := 10) e (by omega) (by omega); omega)]
          by_cases he : x0 = x1
          · rw [if_pos (show nI x1 = nI x0 by rw [he]), if_pos (show nI x0 = nI x1 by rw [he]), rf_c, rf_d, zv_some, zo_1, zv_some, zo_1, zm_some, zm_some]
            exact Or.inl ⟨4, nI x1, by decide, rfl, rfl, fun h => absurd h (by decide)⟩
          · rw [if_neg (show ¬ nI x1 = nI x0 from fun e => he (nI_inj e (by omega) (by omega)).symm), if_neg (show ¬ nI x0 = nI x1 from fun e => he (nI_inj e (by omega) (by omega)))]
            by_cases ht : T ≤ x3
            · rw [if_pos (nI_le ht (by omega)), if_pos (nI_le ht (by omega))]
              by_cases hu : x5 = 0
              · rw [if_pos (show nI x5 = 0 by rw [hu]; rfl), if_pos (show nI x5 = 0 by rw [hu]; rfl), rf_c, rf_d, zv_some, if_neg n10, zv_some, zo_1, zm_some, zm_some]
                exact Or.inl ⟨4, 0, by decide, rfl, rfl, fun h => absurd h (by decide)⟩
              · have nu : ¬ nI x5 = 0 := fun e => hu (nI_inj (b := 0) e (by omega) (by omega))
                obtain ⟨C1, c1, c2, c3, c4, c5⟩ := bg_c (n := N) h1 h2 h3 h4 h5 h6
                obtain ⟨D1, d1, d2, d3, d4, d5, d6⟩ := bg_d (n := N) hN9 hR.1.2.2.2.1.2 e0 e1 e2 e3 e4 e5
                rw [if_neg nu, if_neg nu, zv_some, zo_0, d1, zm_some, zm_some]
                have k14 : C1 (1, 0, 0, 0) 4 = nI N := (c2 _ _ (by simp) (by simp) (by simp) (by simp)).trans hR.1.2.2.2.1.1
                have eC : g_X0_carryOut C 0 i = some (zx_up C1 (1, 0, 0, 0) 4 (nI (N + 1))) := by
                  unfold g_X0_carryOut g_X0_addTrain
                  rw [h0, if_neg (show ¬ nI 84 = (76 : Int32) by decide), if_neg (show ¬ nI 84 = (77 : Int32) by decide), if_neg (show ¬ nI 84 = (78 : Int32) by decide), if_neg (show ¬ nI 84 = (79 : Int32) by decide), if_neg (show ¬ nI 84 = (80 : Int32) by decide), if_neg (show ¬ nI 84 = (81 : Int32) by decide), if_neg (show ¬ nI 84 = (82 : Int32) by decide), if_neg (show ¬ nI 84 = (83 : Int32) by decide), if_pos (show nI 84 = (84 : Int32) by decide), hR.1.2.2.2.1.1, if_neg (nI_pos (by omega)), if_pos (show nI N < (10 : Int32) from nI_lt (b := 10) hN9 (by omega)), zi_n _ hN9 (by omega), c1, zm_some, k14, nI_1, zl_def, zm_some]
                have k7 : ∀ a b c d j, ¬ (j = 4 ∧ a = 1 ∧ b = 0 ∧ c = 0 ∧ d = 0) → (zx_up C1 (1, 0, 0, 0) 4 (nI (N + 1))) (a, b, c, d) j = C1 (a, b, c, d) j := fun a b c d j h => up_n h
                refine Or.inr ⟨rfl, _, _, S, N + 1, O, eC, rfl, d2 _ _ (by simp), d2 _ _ (by simp), tr_R hR hN9 hx0 hx1 he y3 y4 ?_ (up_e (by omega)) ?_ ?_ ?_ d2 d3 d5 d6, Or.inr ⟨by decide, fun hP => ?_, fun h => (d2 _ _ (by simp; omega)).trans h⟩⟩
                · intro h j q1 q2 q3 q4 q5
                  exact (show (zx_up C1 (1, 0, 0, 0) 4 (nI (N + 1))) h j = C1 h j from if_neg fun e => q5 ⟨e.2, e.1⟩).trans (c2 h j q1 q2 q3 q4)
                · simp (disch := omega) only [k7]
                  exact c3
                · intro j hj
                  simp (disch := omega) only [k7]
                  exact c4 j hj
                · intro j hj
                  simp (disch := omega) only [k7]
                  exact c5 j hj
                · have f4 : ∀ c j, zc c j = 4 → (zx_up C1 (1, 0, 0, 0) 4 (nI (N + 1))) c j = C c j := fun c j e => fr_X0_carryOut eC (by rw [e]; decide)
                  unfold RP at hP ⊢
                  rw [f4 (22, 0, 0, 0) 0 rfl, f4 (22, 0, 0, 0) 1 rfl, f4 (22, 0, 0, 0) 2 rfl, d2 _ 476 (by simp; omega), d2 _ 475 (by simp; omega)]
                  rcases hP with h | ⟨a1, F, U, a2, a3, a4, a5, a6, a7, a8⟩
                  · exact Or.inl h
                  · refine Or.inr ⟨a1, F, U, a2, a3, a4, a5, a6, a7, fun t k s ht hk hs => ?_⟩
                    rw [f4 (24, 2 * t + k, 0, 0) s rfl]
                    by_cases e : t = N
                    · subst e
                      have z := d4 (by rw [a7]; exact fun h => by rw [← nI_0] at h; exact nI_ge (a := 0) (by omega) (by omega) h) (8 * k + s) (by omega)
                      rw [z]
                      exact ⟨fun _ => ⟨(a8 t k s ht hk hs).2 (Nat.le_refl _), Or.inl rfl⟩, fun h => by omega⟩
                    · rw [d2 (26, 0, 0, 0) (477 + 16 * t + (8 * k + s)) (by simp; omega)]
                      exact ⟨fun h => (a8 t k s ht hk hs).1 (by omega), fun h => (a8 t k s ht hk hs).2 (by omega)⟩
            · have nt : ¬ nI T ≤ nI x3 := nI_ge (by omega) (by omega)
              rw [if_neg nt, if_neg nt, rf_c, rf_d, zv_some, zo_1, zv_some, zo_1, zm_some, zm_some]
              exact Or.inl ⟨4, nI x3, by decide, rfl, rfl, fun h => absurd h (by decide)⟩
        · have e10 : N = 10 := by omega
          rw [if_neg (show ¬ nI N < (10 : Int32) from by rw [e10]; decide), if_pos (show nI N = (10 : Int32) from by rw [e10]; rfl), rf_c, rf_d, zv_some, zo_1, zv_some, zo_1, zm_some, zm_some]
          exact Or.inl ⟨3, 10, by decide, rfl, rfl, fun h => absurd h (by decide)⟩
      · rw [hst_0 hR.1.2.2.1.1 hS hb2, isSt_0 hR.1.2.2.1.2 hS hb2, zb_some, zb_some, if_pos (show (0 : Int32) = 0 from rfl), if_pos (show (0 : Int32) = 0 from rfl), zb_some, if_neg n10, rf_c, rf_d, zv_some, zo_1, zv_some, zo_1, zm_some, zm_some]
        exact Or.inl ⟨2, nI x1, by decide, rfl, rfl, fun h => absurd h (by decide)⟩
    · rw [hst_0 hR.1.2.2.1.1 hS hb, isSt_0 hR.1.2.2.1.2 hS hb, zb_some, zb_some, if_pos (show (0 : Int32) = 0 from rfl), if_pos (show (0 : Int32) = 0 from rfl), zb_some, if_pos (show (0 : Int32) = 0 from rfl), rf_c, rf_d, zv_some, zo_1, zv_some, zo_1, zm_some, zm_some]
      exact Or.inl ⟨2, nI x0, by decide, rfl, rfl, fun h => absurd h (by decide)⟩
end SU
section SL
variable {S N O T B i n : Nat} {C D : zx_Y} {a : Nat → Nat}
theorem ln_ref (hn : n ≤ 7) (hc : C (17, i, 0, 0) 11 = nI n) (hd : D (25, 0, 0, 0) 11 = nI n) (ha : ∀ j, j < n → a j ≤ 9999 ∧ C (18, i, 0, 0) j = nI (a j)) (hb : ∀ j, j < n → D (30, 0, 0, 0) j = nI (a j)) (kc : Int32 → Option (Int32 × zx_Y)) (kd : Int32 → Option zx_Y) : ∀ (k w q q' : Nat), w + k = n → k < q → k < q' →
    (∃ m : Int32, lg_X0_refusesLengths_2 C i kc q (nI w) = some (1, zx_up (zx_up C (21, 0, 0, 0) 0 4) (21, 0, 0, 0) 1 m) ∧ lg_X11_makeLine_2 D kd q' (nI w) = some (zx_up (zx_up D (25, 0, 0, 0) 13 4) (25, 0, 0, 0) 14 m)) ∨
    (lg_X0_refusesLengths_2 C i kc q (nI w) = kc (nI n) ∧ lg_X11_makeLine_2 D kd q' (nI w) = kd (nI n) ∧ ∀ j, w ≤ j → j < n → 1 ≤ a j ∧ a j ≤ 99)
  | _, _, 0, _, _, h, _ => absurd h (by omega)
  | _, _, _ + 1, 0, _, _, h => absurd h (by omega)
  | 0, w, q + 1, q' + 1, e, _, _ => by
    have e : w = n := by omega
    subst e
    refine Or.inr ⟨?_, ?_, fun j h1 h2 => by omega⟩
    · rw [lg_X0_refusesLengths_2.eq_2, hc, if_pos (nI_le (Nat.le_refl _) (by omega))]
    · rw [lg_X11_makeLine_2.eq_2, hd, if_pos (nI_le (Nat.le_refl _) (by omega))]
  | k + 1, w, q + 1, q' + 1, e, h1, h2 => by
    obtain ⟨aw, cw⟩ := ha w (by omega)
    have dw := hb w (by omega)
    rw [lg_X0_refusesLengths_2.eq_2, hc, if_neg (nI_ge (by omega) (by omega)), zi_n _ (by omega) (by omega), cw, lg_X11_makeLine_2.eq_2, hd, if_neg (nI_ge (by omega) (by omega)), zi_n _ (by omega) (by omega), zi_n _ (by omega) (by omega), dw, isn (a := a w) (lo := 1) (hi := 99) (y := 1) (z := 99) (by omega) rfl rfl (by omega) (by omega), zb_some]
    by_cases r1 : 1 ≤ a w
    · rw [if_neg (show ¬ nI (a w) < (1 : Int32) from fun h => by have := (nI_ltI (b := 1) (by omega) (by omega)).mp h; omega)]
      by_cases r2 : a w ≤ 99
      · rw [if_pos (show nI (a w) ≤ (99 : Int32) from nI_le (b := 99) r2 (by omega)), if_pos (show 1 ≤ a w ∧ a w ≤ 99 from ⟨r1, r2⟩), if_neg n10, nI_1]
        rcases ln_ref hn hc hd ha hb kc kd k (w + 1) q q' (by omega) (by omega) (by omega) with h | ⟨g1, g2, g3⟩
        · exact Or.inl h
        · refine Or.inr ⟨g1, g2, fun j h3 h4 => ?_⟩
          by_cases e : j = w
          · rw [e]
            exact ⟨r1, r2⟩
          · exact g3 j (by omega) h4
      · rw [if_neg (show ¬ nI (a w) ≤ (99 : Int32) from nI_ge (a := 99) (by omega) (by omega)), if_neg (show ¬ (1 ≤ a w ∧ a w ≤ 99) by omega), if_pos (show (0 : Int32) = 0 from rfl), rf_c, rf_d, zv_some, zo_1, zm_some]
        exact Or.inl ⟨_, rfl, rfl⟩
    · rw [if_pos (show nI (a w) < (1 : Int32) from nI_lt (b := 1) (by omega) (by omega)), if_neg (show ¬ (1 ≤ a w ∧ a w ≤ 99) by omega), if_pos (show (0 : Int32) = 0 from rfl), rf_c, rf_d, zv_some, zo_1, zm_some]
      exact Or.inl ⟨_, rfl, rfl⟩
theorem ml_22 {C0 : zx_Y} (kc : Int32 → zx_Y → Option zx_Y) : ∃ C', ((∀ h j, (∀ s, s < 8 → h ≠ (3, 0, s, 0)) → C' h j = C0 h j) ∧ ∀ s, s < 8 → C' (3, 0, s, 0) 0 = 2 ∧ C' (3, 0, s, 0) 1 = 0 ∧ C' (3, 0, s, 0) 2 = 0) ∧ lg_X0_makeLine_22 0 i kc 1000 0 C0 = kc (nI 8) C' := by
  have h := loop1 (N := 8) (P := fun t C => (∀ h j, (∀ s, s < 8 → h ≠ (3, 0, s, 0)) → C h j = C0 h j) ∧ ∀ s, s < t → C (3, 0, s, 0) 0 = 2 ∧ C (3, 0, s, 0) 1 = 0 ∧ C (3, 0, s, 0) 2 = 0) (F := lg_X0_makeLine_22 0 i kc) (kc := kc)
    (fun q C _ => by rw [lg_X0_makeLine_22.eq_2, if_pos (show (8 : Int32) ≤ nI 8 by decide)])
    (fun t C ht hP => by
      refine ⟨zx_up (zx_up (zx_up C (3, 0, t, 0) 0 2) (3, 0, t, 0) 1 0) (3, 0, t, 0) 2 0, ⟨fun h j hh => ?_, fun s hs => ?_⟩, fun q => ?_⟩
      · rw [zx_up_h _ _ _ _ (hh t ht), zx_up_h _ _ _ _ (hh t ht), zx_up_h _ _ _ _ (hh t ht)]
        exact hP.1 h j hh
      · by_cases e : s = t
        · subst e
          simp (disch := omega) only [up_n, up_e]
          exact ⟨trivial, trivial, trivial⟩
        · simp (disch := omega) only [up_n]
          exact hP.2 s (by omega)
      · rw [lg_X0_makeLine_22.eq_2, if_neg (show ¬ (8 : Int32) ≤ nI t from nI_ge (b := 8) ht (by omega)), zi_n _ ht (by omega), zl_def, zi_n _ ht (by omega), zl_def, zi_n _ ht (by omega), zl_def, nI_1])
    8 0 1000 C0 (by omega) (by omega) ⟨fun _ _ _ => rfl, fun j hj => absurd hj (by omega)⟩
  rw [nI_0] at h
  exact h
theorem ml_66 {C0 : zx_Y} (kc : Int32 → zx_Y → Option zx_Y) : ∃ C', ((∀ h j, (∀ s, s < 7 → h ≠ (5, 0, s, 0)) → C' h j = C0 h j) ∧ ∀ s, s < 7 → C' (5, 0, s, 0) 0 = C0 (18, i, 0, 0) s ∧ C' (5, 0, s, 0) 1 = 0 ∧ C' (5, 0, s, 0) 2 = 0) ∧ lg_X0_makeLine_66 0 i kc 1000 0 C0 = kc (nI 7) C' := by
  have h := loop1 (N := 7) (P := fun t C => (∀ h j, (∀ s, s < 7 → h ≠ (5, 0, s, 0)) → C h j = C0 h j) ∧ ∀ s, s < t → C (5, 0, s, 0) 0 = C0 (18, i, 0, 0) s ∧ C (5, 0, s, 0) 1 = 0 ∧ C (5, 0, s, 0) 2 = 0) (F := lg_X0_makeLine_66 0 i kc) (kc := kc)
    (fun q C _ => by rw [lg_X0_makeLine_66.eq_2, if_pos (show (7 : Int32) ≤ nI 7 by decide)])
    (fun t C ht hP => by
      refine ⟨zx_up (zx_up (zx_up C (5, 0, t, 0) 0 (C0 (18, i, 0, 0) t)) (5, 0, t, 0) 1 0) (5, 0, t, 0) 2 0, ⟨fun h j hh => ?_, fun s hs => ?_⟩, fun q => ?_⟩
      · rw [zx_up_h _ _ _ _ (hh t ht), zx_up_h _ _ _ _ (hh t ht), zx_up_h _ _ _ _ (hh t ht)]
        exact hP.1 h j hh
      · by_cases e : s = t
        · subst e
          simp (disch := omega) only [up_n, up_e]
          exact ⟨trivial, trivial, trivial⟩
        · simp (disch := omega) only [up_n]
          exact hP.2 s (by omega)
      · rw [lg_X0_makeLine_66.eq_2, if_neg (show ¬ (7 : Int32) ≤ nI t from nI_ge (b := 7) ht (by omega)), zi_n _ ht (by omega), zi_n _ ht (by omega), hP.1 (18, i, 0, 0) t (by simp), zl_def, zi_n _ ht (by omega), zl_def, zi_n _ ht (by omega), zl_def, nI_1])
    7 0 1000 C0 (by omega) (by omega) ⟨fun _ _ _ => rfl, fun j hj => absurd hj (by omega)⟩
  rw [nI_0] at h
  exact h
theorem ml_69 {D0 : zx_Y} {p1 p2 p3 : Int32} (kc : Int32 → zx_Y → Option zx_Y) : ∃ D', ((∀ h j, h ≠ (26, 0, 0, 0) → D' h j = D0 h j) ∧ ∀ j, j < 640 → D' (26, 0, 0, 0) j = 0) ∧ lg_X11_makeLine_69 p1 p2 p3 kc 1000 0 D0 = kc (nI 640) D' := by
  have h := loop1 (N := 640) (P := fun t D => (∀ h j, h ≠ (26, 0, 0, 0) → D h j = D0 h j) ∧ ∀ j, j < t → D (26, 0, 0, 0) j = 0) (F := lg_X11_makeLine_69 p1 p2 p3 kc) (kc := kc)
    (fun q C _ => by rw [lg_X11_makeLine_69.eq_2, if_pos (show (640 : Int32) ≤ nI 640 by decide)])
    (fun t D ht hP => by
      refine ⟨zx_up D (26, 0, 0, 0) t 0, ⟨fun h j hh => (zx_up_h _ _ _ _ hh).trans (hP.1 h j hh), fun j hj => ?_⟩, fun q => ?_⟩
      · by_cases e : j = t
        · subst e
          exact up_e (by omega)
        · rw [up_n (by omega)]
          exact hP.2 j (by omega)
      · rw [lg_X11_makeLine_69.eq_2, if_neg (show ¬ (640 : Int32) ≤ nI t from nI_ge (b := 640) ht (by omega)), zi_n _ ht (by omega), zl_def, nI_1])
    640 0 1000 D0 (by omega) (by omega) ⟨fun _ _ _ => rfl, fun j hj => absurd hj (by omega)⟩
  rw [nI_0] at h
  exact h
theorem ml_129 {D0 : zx_Y} (hn : n ≤ 7) (hd : D0 (25, 0, 0, 0) 11 = nI n) (hb : ∀ j, j < n → D0 (30, 0, 0, 0) j = nI (a j)) (kc : Int32 → zx_Y → Option zx_Y) : ∃ D', ((∀ h j, ¬ (h = (26, 0, 0, 0) ∧ 2 ≤ j ∧ j < 2 + n) → D' h j = D0 h j) ∧ ∀ j, j < n → D' (26, 0, 0, 0) (2 + j) = nI (a j)) ∧ lg_X11_makeLine_129 kc 1000 0 D0 = kc (nI n) D' := by
  have h := loop1 (N := n) (P := fun t D => (∀ h j, ¬ (h = (26, 0, 0, 0) ∧ 2 ≤ j ∧ j < 2 + n) → D h j = D0 h j) ∧ ∀ j, j < t → D (26, 0, 0, 0) (2 + j) = nI (a j)) (F := lg_X11_makeLine_129 kc) (kc := kc)
    (fun q D hP => by rw [lg_X11_makeLine_129.eq_2, hP.1 _ _ (by simp), hd, if_pos (nI_le (Nat.le_refl _) (by omega))])
    (fun t D ht hP => by
      refine ⟨zx_up D (26, 0, 0, 0) (2 + t) (nI (a t)), ⟨fun h j hh => (show zx_up D (26, 0, 0, 0) (2 + t) (nI (a t)) h j = D h j from if_neg fun e => hh ⟨e.2, by omega, by omega⟩).trans (hP.1 h j hh), fun j hj => ?_⟩, fun q => ?_⟩
      · by_cases e : j = t
        · subst e
          exact up_e (by omega)
        · rw [up_n (by omega)]
          exact hP.2 j (by omega)
      · rw [lg_X11_makeLine_129.eq_2, hP.1 (25, 0, 0, 0) 11 (by simp), hd, if_neg (nI_ge ht (by omega)), zi_n _ (by omega) (by omega), show (2 + nI t : Int32) = nI (2 + t) from nI_add 2 t, zi_n _ (by omega) (by omega), hP.1 (30, 0, 0, 0) t (by simp), hb t ht, zl_def, nI_1])
    n 0 1000 D0 (by omega) (by omega) ⟨fun _ _ _ => rfl, fun j hj => absurd hj (by omega)⟩
  rw [nI_0] at h
  exact h
theorem ml_163 {D0 : zx_Y} (hn : n ≤ 7) (hd : D0 (25, 0, 0, 0) 11 = nI n) (kc : Int32 → zx_Y → Option zx_Y) : ∃ D', ((∀ h j, ¬ (h = (26, 0, 0, 0) ∧ 9 ≤ j ∧ j < 10 + n) → D' h j = D0 h j) ∧ ∀ j, j < n + 1 → D' (26, 0, 0, 0) (9 + j) = 2) ∧ lg_X11_makeLine_163 kc 1000 0 D0 = kc (nI (n + 1)) D' := by
  have h := loop1 (N := n + 1) (P := fun t D => (∀ h j, ¬ (h = (26, 0, 0, 0) ∧ 9 ≤ j ∧ j < 10 + n) → D h j = D0 h j) ∧ ∀ j, j < t → D (26, 0, 0, 0) (9 + j) = 2) (F := lg_X11_makeLine_163 kc) (kc := kc)
    (fun q D hP => by rw [lg_X11_makeLine_163.eq_2, hP.1 _ _ (by simp), hd, if_pos (nI_lt (by omega) (by omega))])
    (fun t D ht hP => by
      refine ⟨zx_up D (26, 0, 0, 0) (9 + t) 2, ⟨fun h j hh => (show zx_up D (26, 0, 0, 0) (9 + t) 2 h j = D h j from if_neg fun e => hh ⟨e.2, by omega, by omega⟩).trans (hP.1 h j hh), fun j hj => ?_⟩, fun q => ?_⟩
      · by_cases e : j = t
        · subst e
          exact up_e (by omega)
        · rw [up_n (by omega)]
          exact hP.2 j (by omega)
      · rw [lg_X11_makeLine_163.eq_2, hP.1 (25, 0, 0, 0) 11 (by simp), hd, if_neg (fun h => by have := (nI_ltI (by omega) (by omega)).mp h; omega), show (9 + nI t : Int32) = nI (9 + t) from nI_add 9 t, zi_n _ (by omega) (by omega), zl_def, nI_1])
    (n + 1) 0 1000 D0 (by omega) (by omega) ⟨fun _ _ _ => rfl, fun j hj => absurd hj (by omega)⟩
  rw [nI_0] at h
  exact h
theorem st_L (hR : R 0 S N O T (T + 1) C (D (26, 0, 0, 0))) (hn1 : 1 ≤ n) (hn : n ≤ 7) (h0 : C (17, i, 0, 0) 0 = nI 76) (hc : C (17, i, 0, 0) 11 = nI n) (ha : ∀ j, j < n → a j ≤ 9999 ∧ C (18, i, 0, 0) j = nI (a j)) (d0 : D (25, 0, 0, 0) 15 = nI 76) (hd : D (25, 0, 0, 0) 11 = nI n) (hb : ∀ j, j < n → D (30, 0, 0, 0) j = nI (a j)) : SR i 76 S N O T C D := by
  have rC : g_X0_refuses C 0 i = zv (g_X0_refusesLengths C i) fun v4 M4 => (zo v4 ((some (v4, M4)))) := by
    unfold g_X0_refuses
    rw [h0, if_pos (show nI 76 = (76 : Int32) by decide)]
  have rD : g_X11_carryOut D = zm (g_X11_makeLine D) fun M4 => (some M4) := by
    unfold g_X11_carryOut
    rw [d0, if_pos (show nI 76 = (76 : Int32) by decide)]
  unfold SR
  rw [rC, rD]
  unfold g_X0_refusesLengths g_X11_makeLine
  rcases ln_ref hn hc hd ha hb (fun v1 => some (0, C)) (fun v1 => (lg_X11_makeLine_69 (D (26, 0, 0, 0) 0) (D (26, 0, 0, 0) 25) (D (26, 0, 0, 0) 26) (fun v2 M1 => (zl (zx_up M1 (26, 0, 0, 0) 0 (D (26, 0, 0, 0) 0)) fun M2 => (zl (zx_up M2 (26, 0, 0, 0) 25 (D (26, 0, 0, 0) 25)) fun M3 => (zl (zx_up M3 (26, 0, 0, 0) 26 (D (26, 0, 0, 0) 26)) fun M4 => (zl (zx_up M4 (26, 0, 0, 0) 1 ((M4 (25, 0, 0, 0) 11) + 1)) fun M5 => (lg_X11_makeLine_129 (fun v3 M6 => (lg_X11_makeLine_163 (fun v4 M7 => (some M7)) 1000 0 M6)) 1000 0 M5)))))) 1000 0 D)) n 0 1000 1000 (by omega) (by omega) (by omega) with ⟨m, g1, g2⟩ | ⟨g1, g2, g3⟩
  · rw [nI_0] at g1 g2
    rw [g1, g2, zv_some, zo_1, zm_some]
    exact Or.inl ⟨4, m, by decide, rfl, rfl, fun h => absurd h (by decide)⟩
  · rw [nI_0] at g1 g2
    obtain ⟨D1, ⟨a1, a2⟩, a3⟩ := ml_69 (D0 := D) (p1 := D (26, 0, 0, 0) 0) (p2 := D (26, 0, 0, 0) 25) (p3 := D (26, 0, 0, 0) 26) (fun v2 M1 => (zl (zx_up M1 (26, 0, 0, 0) 0 (D (26, 0, 0, 0) 0)) fun M2 => (zl (zx_up M2 (26, 0, 0, 0) 25 (D (26, 0, 0, 0) 25)) fun M3 => (zl (zx_up M3 (26, 0, 0, 0) 26 (D (26, 0, 0, 0) 26)) fun M4 => (zl (zx_up M4 (26, 0, 0, 0) 1 ((M4 (25, 0, 0, 0) 11) + 1)) fun M5 => (lg_X11_makeLine_129 (fun v3 M6 => (lg_X11_makeLine_163 (fun v4 M7 => (some M7)) 1000 0 M6)) 1000 0 M5))))))
    rw [g1, g2, a3, zv_some, zo_0, zl_def, zl_def, zl_def]
    generalize hD2 : zx_up (zx_up (zx_up D1 (26, 0, 0, 0) 0 _) (26, 0, 0, 0) 25 _) (26, 0, 0, 0) 26 _ = D2
    have k2 : ∀ h j, h ≠ (26, 0, 0, 0) → D2 h j = D h j := fun h j q => by
      subst hD2
      rw [zx_up_h _ _ _ _ q, zx_up_h _ _ _ _ q, zx_up_h _ _ _ _ q]
      exact a1 h j q
    rw [k2 (25, 0, 0, 0) 11 (by simp), hd, nI_1, zl_def]
    generalize hD3 : zx_up D2 (26, 0, 0, 0) 1 (nI (n + 1)) = D3
    have k3 : ∀ h j, h ≠ (26, 0, 0, 0) → D3 h j = D h j := fun h j q => by
      subst hD3
      rw [zx_up_h _ _ _ _ q]
      exact k2 h j q
    obtain ⟨D4, ⟨b1, b2⟩, b3⟩ := ml_129 (D0 := D3) (a := a) hn ((k3 _ _ (by simp)).trans hd) (fun j hj => (k3 _ _ (by simp)).trans (hb j hj)) (fun v3 M6 => (lg_X11_makeLine_163 (fun v4 M7 => (some M7)) 1000 0 M6))
    have k4 : ∀ h j, h ≠ (26, 0, 0, 0) → D4 h j = D h j := fun h j q => (b1 h j (fun z => q z.1)).trans (k3 h j q)
    obtain ⟨D5, ⟨c1, c2⟩, c3⟩ := ml_163 (D0 := D4) hn ((k4 _ _ (by simp)).trans hd) (fun v4 M7 => (some M7))
    have k5 : ∀ h j, h ≠ (26, 0, 0, 0) → D5 h j = D h j := fun h j q => (c1 h j (fun z => q z.1)).trans (k4 h j q)
    rw [b3, c3, zm_some]
    have A3 : ∀ j, j < 640 → D3 (26, 0, 0, 0) j = if j = 1 then nI (n + 1) else if j = 26 then D (26, 0, 0, 0) 26 else if j = 25 then D (26, 0, 0, 0) 25 else if j = 0 then D (26, 0, 0, 0) 0 else 0 := fun j hj => by
      subst hD3
      subst hD2
      by_cases q1 : j = 1
      · rw [if_pos q1, up_e (by omega)]
      rw [if_neg q1, up_n (by omega)]
      by_cases q2 : j = 26
      · rw [if_pos q2, up_e (by omega)]
      rw [if_neg q2, up_n (by omega)]
      by_cases q3 : j = 25
      · rw [if_pos q3, up_e (by omega)]
      rw [if_neg q3, up_n (by omega)]
      by_cases q4 : j = 0
      · rw [if_pos q4, up_e (by omega)]
      rw [if_neg q4, up_n (by omega)]
      exact a2 j hj
    have A5 : ∀ j, (j < 2 ∨ 17 ≤ j) → D5 (26, 0, 0, 0) j = D3 (26, 0, 0, 0) j := fun j hj => (c1 _ _ (fun z => by omega)).trans (b1 _ _ (fun z => by omega))
    have Az : ∀ j, 17 ≤ j → j < 640 → j ≠ 25 → j ≠ 26 → D5 (26, 0, 0, 0) j = 0 := fun j h1 h2 h3 h4 => by
      rw [A5 j (by omega), A3 j h2, if_neg (by omega), if_neg h4, if_neg h3, if_neg (by omega)]
    obtain ⟨C4, ⟨p1, p2⟩, p3⟩ := ml_22 (i := i) (C0 := zx_up (zx_up (zx_up C (1, 0, 0, 0) 3 (nI (n + 1))) (1, 0, 0, 0) 4 0) (1, 0, 0, 0) 5 0) (fun v1 M4 => (lg_X0_makeLine_66 0 i (fun v2 M5 => (some M5)) 1000 0 M4))
    obtain ⟨C5, ⟨q1, q2⟩, q3⟩ := ml_66 (i := i) (C0 := C4) (fun v2 M5 => (some M5))
    have eC : g_X0_carryOut C 0 i = some C5 := by
      unfold g_X0_carryOut g_X0_makeLine
      rw [h0, if_pos (show nI 76 = (76 : Int32) by decide), hc, nI_1, zl_def, zl_def, zl_def, p3, q3, zm_some]
    have K5 : ∀ a b c d j, a ≠ 3 → a ≠ 5 → a ≠ 1 → C5 (a, b, c, d) j = C (a, b, c, d) j := fun a b c d j z1 z2 z3 => by
      rw [q1 _ _ (by simp [z2]), p1 _ _ (by simp [z1])]
      simp (disch := omega) only [up_n]
    have K1 : ∀ j, C5 (1, 0, 0, 0) j = (zx_up (zx_up (zx_up C (1, 0, 0, 0) 3 (nI (n + 1))) (1, 0, 0, 0) 4 0) (1, 0, 0, 0) 5 0) (1, 0, 0, 0) j := fun j => by
      rw [q1 _ _ (by simp), p1 _ _ (by simp)]
    obtain ⟨hbb, hss, hkk, hoo, hnn, htt⟩ := id hR
    refine Or.inr ⟨rfl, C5, D5, n + 1, 0, 0, eC, rfl, k5 _ _ (by simp), k5 _ _ (by simp), ⟨?_, fun s hs => ?_, fun b hb2 => ?_, fun i hi => absurd hi (by omega), fun t ht => ?_, fun t ht => absurd ht (by omega)⟩, Or.inl ⟨rfl, Az 476 (by omega) (by omega) (by omega) (by omega)⟩⟩
    · unfold Rb at hbb ⊢
      simp only [K1]
      simp (disch := omega) only [up_n, up_e]
      rw [A5 0 (by omega), A3 0 (by omega), A5 25 (by omega), A3 25 (by omega), A5 26 (by omega), A3 26 (by omega), A5 1 (by omega), A3 1 (by omega), Az 27 (by omega) (by omega) (by omega) (by omega), Az 50 (by omega) (by omega) (by omega) (by omega)]
      exact ⟨hbb.1, hbb.2.1, ⟨trivial, rfl⟩, ⟨nI_0.symm, nI_0.symm⟩, ⟨nI_0.symm, nI_0.symm⟩, ⟨by omega, by omega, by omega, by omega, hbb.2.2.2.2.2.1.2.2.2.2⟩, hbb.2.2.2.2.2.2⟩
    · have k3s : ∀ j, C5 (3, 0, s, 0) j = C4 (3, 0, s, 0) j := fun j => q1 _ _ (by simp)
      rw [k3s, k3s, k3s, (p2 s hs).1, (p2 s hs).2.1, (p2 s hs).2.2]
      refine ⟨Or.inl rfl, fun z => ⟨(c2 s (by omega)).symm, (Az (17 + s) (by omega) (by omega) (by omega) (by omega)).symm, (Az (28 + s) (by omega) (by omega) (by omega) (by omega)).symm⟩⟩
    · have h2b : D5 (26, 0, 0, 0) (2 + b) = nI (a b) := (c1 _ _ (fun z => by omega)).trans (b2 b (by omega))
      have h18 : C4 (18, i, 0, 0) b = nI (a b) := by
        rw [p1 _ _ (by simp)]
        simp (disch := omega) only [up_n]
        exact (ha b (by omega)).2
      have g := g3 b (by omega) (by omega)
      rw [(q2 b (by omega)).1, (q2 b (by omega)).2.1, (q2 b (by omega)).2.2, h18, h2b, Az (36 + b) (by omega) (by omega) (by omega) (by omega), Az (43 + b) (by omega) (by omega) (by omega) (by omega)]
      exact ⟨⟨a b, g.1, g.2, rfl, rfl⟩, rfl, rfl⟩
    · rw [K5 _ _ _ _ _ (by omega) (by omega) (by omega)]
      exact hnn t ht
end SL
