/-! commands are carried out: a train comes, a new line -/
theorem bl_76 {C0 : zx_Y} {n : Nat} (kc : Int32 → zx_Y → Option zx_Y) : ∃ C', ((∀ h j, h ≠ (11, 0, n, 0) → C' h j = C0 h j) ∧ ∀ j, j < 4 → C' (11, 0, n, 0) j = 0) ∧ lg_X9_begin_76 0 n kc 1000 0 C0 = kc (nI 4) C' := by
  have h := loop1 (N := 4) (P := fun t C => (∀ h j, h ≠ (11, 0, n, 0) → C h j = C0 h j) ∧ ∀ j, j < t → C (11, 0, n, 0) j = 0) (F := lg_X9_begin_76 0 n kc) (kc := kc)
    (fun q C _ => by rw [lg_X9_begin_76.eq_2, if_pos (show (4 : Int32) ≤ nI 4 by decide)])
    (fun t C ht hP => by
      refine ⟨zx_up C (11, 0, n, 0) t 0, ⟨fun h j hh => (zx_up_h _ _ _ _ hh).trans (hP.1 h j hh), fun j hj => ?_⟩, fun q => ?_⟩
      · by_cases e : j = t
        · subst e
          exact up_e (by omega)
        · rw [up_n (by omega)]
          exact hP.2 j (by omega)
      · rw [lg_X9_begin_76.eq_2, if_neg (show ¬ (4 : Int32) ≤ nI t from nI_ge (b := 4) ht (by omega)), zi_n _ ht (by omega), zl_def, nI_1])
    4 0 1000 C0 (by omega) (by omega) ⟨fun _ _ _ => rfl, fun j hj => absurd hj (by omega)⟩
  rw [nI_0] at h
  exact h
theorem bl_100 {C0 : zx_Y} {n : Nat} (kc : Int32 → zx_Y → Option zx_Y) : ∃ C', ((∀ h j, h ≠ (13, 0, n, 0) → h ≠ (13, 0, n, 1) → C' h j = C0 h j) ∧ ∀ j, j < 8 → C' (13, 0, n, 0) j = -5 ∧ C' (13, 0, n, 1) j = -5) ∧ lg_X9_begin_100 0 n kc 1000 0 C0 = kc (nI 8) C' := by
  have h := loop1 (N := 8) (P := fun t C => (∀ h j, h ≠ (13, 0, n, 0) → h ≠ (13, 0, n, 1) → C h j = C0 h j) ∧ ∀ j, j < t → C (13, 0, n, 0) j = -5 ∧ C (13, 0, n, 1) j = -5) (F := lg_X9_begin_100 0 n kc) (kc := kc)
    (fun q C _ => by rw [lg_X9_begin_100.eq_2, if_pos (show (8 : Int32) ≤ nI 8 by decide)])
    (fun t C ht hP => by
      refine ⟨zx_up (zx_up C (13, 0, n, 0) t (-5)) (13, 0, n, 1) t (-5), ⟨fun h j hh hk => ((zx_up_h _ _ _ _ hk).trans (zx_up_h _ _ _ _ hh)).trans (hP.1 h j hh hk), fun j hj => ?_⟩, fun q => ?_⟩
      · by_cases e : j = t
        · subst e
          exact ⟨(up_n (by omega)).trans (up_e (by omega)), up_e (by omega)⟩
        · simp (disch := omega) only [up_n]
          exact hP.2 j (by omega)
      · rw [lg_X9_begin_100.eq_2, if_neg (show ¬ (8 : Int32) ≤ nI t from nI_ge (b := 8) ht (by omega)), zi_n _ ht (by omega), zl_def, zi_n _ ht (by omega), zl_def, nI_1])
    8 0 1000 C0 (by omega) (by omega) ⟨fun _ _ _ _ => rfl, fun j hj => absurd hj (by omega)⟩
  rw [nI_0] at h
  exact h
theorem bt_21 {D0 : zx_Y} {n : Nat} (hn : n < 10) (kc : Int32 → zx_Y → Option zx_Y) : ∃ D', ((∀ h j, ¬ (h = (26, 0, 0, 0) ∧ 75 + 40 * n ≤ j ∧ j < 115 + 40 * n) → D' h j = D0 h j) ∧ ∀ j, j < 40 → D' (26, 0, 0, 0) (75 + 40 * n + j) = if j < 17 then 0 else -5) ∧ lg_X11_bringTrain_21 (nI n) kc 1000 0 D0 = kc (nI 40) D' := by
  have h := loop1 (N := 40) (P := fun t D => (∀ h j, ¬ (h = (26, 0, 0, 0) ∧ 75 + 40 * n ≤ j ∧ j < 115 + 40 * n) → D h j = D0 h j) ∧ ∀ j, j < t → D (26, 0, 0, 0) (75 + 40 * n + j) = if j < 17 then 0 else -5) (F := lg_X11_bringTrain_21 (nI n) kc) (kc := kc)
    (fun q C _ => by rw [lg_X11_bringTrain_21.eq_2, if_pos (show (40 : Int32) ≤ nI 40 by decide)])
    (fun t D ht hP => by
      refine ⟨zx_up D (26, 0, 0, 0) (75 + 40 * n + t) (if t < 17 then 0 else -5), ⟨fun h j hh => (show zx_up D (26, 0, 0, 0) (75 + 40 * n + t) (if t < 17 then 0 else -5) h j = D h j from if_neg fun e => hh ⟨e.2, by omega, by omega⟩).trans (hP.1 h j hh), fun j hj => ?_⟩, fun q => ?_⟩
      · by_cases e : j = t
        · subst e
          exact up_e (by omega)
        · rw [up_n (by omega)]
          exact hP.2 j (by omega)
      · rw [lg_X11_bringTrain_21.eq_2, if_neg (show ¬ (40 : Int32) ≤ nI t from nI_ge (b := 40) ht (by omega)), set_n hn ht, set_n hn ht, zm_some, zm_some, nI_1]
        by_cases e : t < 17
        · rw [if_pos (show nI t < (17 : Int32) from nI_lt (b := 17) e (by omega)), if_pos e]
        · rw [if_neg (show ¬ nI t < (17 : Int32) from fun h => e ((nI_ltI (b := 17) (by omega) (by omega)).mp h)), if_neg e])
    40 0 1000 D0 (by omega) (by omega) ⟨fun _ _ _ => rfl, fun j hj => absurd hj (by omega)⟩
  rw [nI_0] at h
  exact h
theorem bt_177 {D0 : zx_Y} {n : Nat} (hn : n < 10) (kc : Int32 → zx_Y → Option zx_Y) : ∃ D', ((∀ h j, ¬ (h = (26, 0, 0, 0) ∧ 477 + 16 * n ≤ j ∧ j < 493 + 16 * n) → D' h j = D0 h j) ∧ ∀ j, j < 16 → D' (26, 0, 0, 0) (477 + 16 * n + j) = -5) ∧ lg_X11_bringTrain_177 (nI n) kc 1000 0 D0 = kc (nI 16) D' := by
  have h := loop1 (N := 16) (P := fun t D => (∀ h j, ¬ (h = (26, 0, 0, 0) ∧ 477 + 16 * n ≤ j ∧ j < 493 + 16 * n) → D h j = D0 h j) ∧ ∀ j, j < t → D (26, 0, 0, 0) (477 + 16 * n + j) = -5) (F := lg_X11_bringTrain_177 (nI n) kc) (kc := kc)
    (fun q C _ => by rw [lg_X11_bringTrain_177.eq_2, if_pos (show (16 : Int32) ≤ nI 16 by decide)])
    (fun t D ht hP => by
      refine ⟨zx_up D (26, 0, 0, 0) (477 + 16 * n + t) (-5), ⟨fun h j hh => (show zx_up D (26, 0, 0, 0) (477 + 16 * n + t) (-5) h j = D h j from if_neg fun e => hh ⟨e.2, by omega, by omega⟩).trans (hP.1 h j hh), fun j hj => ?_⟩, fun q => ?_⟩
      · by_cases e : j = t
        · subst e
          exact up_e (by omega)
        · rw [up_n (by omega)]
          exact hP.2 j (by omega)
      · rw [lg_X11_bringTrain_177.eq_2, if_neg (show ¬ (16 : Int32) ≤ nI t from nI_ge (b := 16) ht (by omega)), show (477 + 16 * nI n + nI t : Int32) = nI (477 + 16 * n + t) from by rw [show (16 : Int32) = nI 16 from rfl, show (477 : Int32) = nI 477 from rfl, pk_mul, nI_add, nI_add], zi_n _ (by omega) (by omega), zl_def, nI_1])
    16 0 1000 D0 (by omega) (by omega) ⟨fun _ _ _ => rfl, fun j hj => absurd hj (by omega)⟩
  rw [nI_0] at h
  exact h
section ST
variable {S N O T B i x0 x1 x2 x3 x4 x5 : Nat} {C D : zx_Y}
/-- the class begins train n -/
theorem bg_c {n : Nat} (h1 : C (17, i, 0, 0) 1 = nI x0) (h2 : C (17, i, 0, 0) 2 = nI x1) (h3 : C (17, i, 0, 0) 3 = nI x2) (h4 : C (17, i, 0, 0) 4 = nI x3) (h5 : C (17, i, 0, 0) 5 = nI x4) (h6 : C (17, i, 0, 0) 6 = nI x5) : ∃ C', g_X9_begin C 0 n i = some C' ∧ (∀ h j, h ≠ (7, 0, n, 0) → h ≠ (11, 0, n, 0) → h ≠ (13, 0, n, 0) → h ≠ (13, 0, n, 1) → C' h j = C h j) ∧ (C' (7, 0, n, 0) 0 = C (7, 0, n, 0) 0 ∧ C' (7, 0, n, 0) 1 = 0 ∧ C' (7, 0, n, 0) 2 = nI x0 ∧ C' (7, 0, n, 0) 3 = nI x1 ∧ C' (7, 0, n, 0) 4 = nI x2 ∧ C' (7, 0, n, 0) 5 = nI x3 ∧ C' (7, 0, n, 0) 6 = nI x4 ∧ C' (7, 0, n, 0) 7 = nI x5 ∧ C' (7, 0, n, 0) 8 = 0 ∧ C' (7, 0, n, 0) 9 = -5 ∧ C' (7, 0, n, 0) 11 = nI x3 ∧ C' (7, 0, n, 0) 12 = -5 ∧ C' (7, 0, n, 0) 14 = -5) ∧ (∀ j, j < 4 → C' (11, 0, n, 0) j = 0) ∧ (∀ j, j < 8 → C' (13, 0, n, 0) j = -5 ∧ C' (13, 0, n, 1) j = -5) := by
  unfold g_X9_begin
  rw [h1, zl_def]
  rw [up_n (by omega), h2, zl_def]
  rw [up_n (by omega), up_n (by omega), h3, zl_def]
  rw [up_n (by omega), up_n (by omega), up_n (by omega), h4, zl_def]
  rw [up_n (by omega), up_n (by omega), up_n (by omega), up_n (by omega), h5, zl_def]
  rw [up_n (by omega), up_n (by omega), up_n (by omega), up_n (by omega), up_n (by omega), h6, zl_def]
  rw [zl_def, zl_def, zl_def]
  generalize hC0 : zx_up (zx_up (zx_up (zx_up (zx_up (zx_up (zx_up (zx_up (zx_up C _ _ _) _ _ _) _ _ _) _ _ _) _ _ _) _ _ _) _ _ _) _ _ _) _ _ _ = CC
  have hh5 : CC (7, 0, n, 0) 5 = nI x3 := by
    subst hC0
    simp (disch := omega) only [up_n, up_e]
  unfold g_X9_changeTo
  rw [hh5, zl_def, zl_def, zl_def, zl_def, zl_def, zm_some]
  generalize hC1 : zx_up (zx_up (zx_up (zx_up (zx_up CC _ _ _) _ _ _) _ _ _) _ _ _) _ _ _ = C1
  obtain ⟨C2, ⟨a1, a2⟩, a3⟩ := bl_76 (C0 := C1) (n := n) (fun v1 M11 => lg_X9_begin_100 0 n (fun v2 M12 => some M12) 1000 0 M11)
  obtain ⟨C3, ⟨b1, b2⟩, b3⟩ := bl_100 (C0 := C2) (n := n) (fun v2 M12 => some M12)
  rw [a3, b3]
  have k7 : ∀ j, C3 (7, 0, n, 0) j = C1 (7, 0, n, 0) j := fun j => (b1 _ _ (by simp) (by simp)).trans (a1 _ _ (by simp))
  refine ⟨C3, rfl, fun h j q1 q2 q3 q4 => ?_, ?_, fun j hj => ?_, b2⟩
  · rw [b1 h j q3 q4, a1 h j q2]
    subst hC1
    subst hC0
    simp only [zx_up_h _ _ _ _ q1]
  · simp only [k7]
    subst hC1
    subst hC0
    simp (disch := omega) only [up_n, up_e]
    exact ⟨trivial, trivial, trivial, trivial, trivial, trivial, trivial, trivial, trivial, trivial, trivial, trivial, trivial⟩
  · rw [b1 _ _ (by simp) (by simp)]
    exact a2 j hj
/-- the reference brings train n -/
theorem bg_d {n : Nat} (hn : n < 10) (h27 : D (26, 0, 0, 0) 27 = nI n) (e0 : D (30, 0, 0, 0) 0 = nI x0) (e1 : D (30, 0, 0, 0) 1 = nI x1) (e2 : D (30, 0, 0, 0) 2 = nI x2) (e3 : D (30, 0, 0, 0) 3 = nI x3) (e4 : D (30, 0, 0, 0) 4 = nI x4) (e5 : D (30, 0, 0, 0) 5 = nI x5) : ∃ D', g_X11_bringTrain D = some D' ∧ (∀ h j, ¬ (h = (26, 0, 0, 0) ∧ (j = 27 ∨ (75 + 40 * n ≤ j ∧ j < 115 + 40 * n) ∨ (477 + 16 * n ≤ j ∧ j < 493 + 16 * n))) → D' h j = D h j) ∧ D' (26, 0, 0, 0) 27 = nI (n + 1) ∧ (¬ D (26, 0, 0, 0) 476 ≤ 0 → ∀ j, j < 16 → D' (26, 0, 0, 0) (477 + 16 * n + j) = -5) ∧ (D' (26, 0, 0, 0) (75 + 40 * n) = 0 ∧ D' (26, 0, 0, 0) (75 + 40 * n + 1) = nI x0 ∧ D' (26, 0, 0, 0) (75 + 40 * n + 2) = nI x1 ∧ D' (26, 0, 0, 0) (75 + 40 * n + 3) = nI x2 ∧ D' (26, 0, 0, 0) (75 + 40 * n + 4) = nI x3 ∧ D' (26, 0, 0, 0) (75 + 40 * n + 5) = nI x4 ∧ D' (26, 0, 0, 0) (75 + 40 * n + 6) = nI x5 ∧ D' (26, 0, 0, 0) (75 + 40 * n + 7) = nI x3 ∧ D' (26, 0, 0, 0) (75 + 40 * n + 8) = -5 ∧ D' (26, 0, 0, 0) (75 + 40 * n + 9) = -5 ∧ D' (26, 0, 0, 0) (75 + 40 * n + 10) = 0 ∧ D' (26, 0, 0, 0) (75 + 40 * n + 11) = -5 ∧ D' (26, 0, 0, 0) (75 + 40 * n + 13) = 0 ∧ D' (26, 0, 0, 0) (75 + 40 * n + 14) = 0 ∧ D' (26, 0, 0, 0) (75 + 40 * n + 15) = 0 ∧ D' (26, 0, 0, 0) (75 + 40 * n + 16) = 0) ∧ (∀ j, 17 ≤ j → j < 40 → D' (26, 0, 0, 0) (75 + 40 * n + j) = -5) := by
  unfold g_X11_bringTrain
  rw [zl_def, h27, nI_1]
  obtain ⟨D1, ⟨a1, a2⟩, a3⟩ := bt_21 (D0 := zx_up D (26, 0, 0, 0) 27 (nI (n + 1))) hn (fun v1 M2 => (zm (g_X11_set M2 (nI n) 1 (M2 (30, 0, 0, 0) 0)) fun M3 => (zm (g_X11_set M3 (nI n) 2 (M3 (30, 0, 0, 0) 1)) fun M4 => (zm (g_X11_set M4 (nI n) 3 (M4 (30, 0, 0, 0) 2)) fun M5 => (zm (g_X11_set M5 (nI n) 4 (M5 (30, 0, 0, 0) 3)) fun M6 => (zm (g_X11_set M6 (nI n) 5 (M6 (30, 0, 0, 0) 4)) fun M7 => (zm (g_X11_set M7 (nI n) 6 (M7 (30, 0, 0, 0) 5)) fun M8 => (zm (g_X11_set M8 (nI n) 7 (M8 (30, 0, 0, 0) 3)) fun M9 => (zm (g_X11_set M9 (nI n) 8 (-5)) fun M10 => (zm (g_X11_set M10 (nI n) 9 (-5)) fun M11 => (zm (g_X11_set M11 (nI n) 11 (-5)) fun M12 => (if (M12 (26, 0, 0, 0) 476) ≤ 0 then (some M12) else (lg_X11_bringTrain_177 (nI n) (fun v2 M13 => (some M13)) 1000 0 M12)))))))))))))
  rw [a3, set_1 hn, zm_some, set_2 hn, zm_some, set_3 hn, zm_some, set_4 hn, zm_some, set_5 hn, zm_some, set_6 hn, zm_some, set_7 hn, zm_some, set_8 hn, zm_some, set_9 hn, zm_some, set_11 hn, zm_some]
  have k30 : ∀ j, D1 (30, 0, 0, 0) j = D (30, 0, 0, 0) j := fun j => (a1 _ _ (by simp)).trans (up_n (by omega))
  have k476 : D1 (26, 0, 0, 0) 476 = D (26, 0, 0, 0) 476 := (a1 _ _ (by simp; omega)).trans (up_n (by omega))
  simp (disch := omega) only [up_n, k30, k476, e0, e1, e2, e3, e4, e5]
  generalize hD2 : zx_up (zx_up (zx_up (zx_up (zx_up (zx_up (zx_up (zx_up (zx_up (zx_up D1 _ _ _) _ _ _) _ _ _) _ _ _) _ _ _) _ _ _) _ _ _) _ _ _) _ _ _) _ _ _ = D2
  have f2 : ∀ h j, ¬ (h = (26, 0, 0, 0) ∧ (j = 27 ∨ (75 + 40 * n ≤ j ∧ j < 115 + 40 * n) ∨ (477 + 16 * n ≤ j ∧ j < 493 + 16 * n))) → D2 h j = D h j := fun h j q => by
    subst hD2
    have e : D1 h j = D h j := (a1 h j (fun z => q ⟨z.1, Or.inr (Or.inl z.2)⟩)).trans (if_neg fun z => q ⟨z.2, Or.inl z.1⟩)
    rw [← e]
    obtain ⟨c1, c2, c3, c4⟩ := h
    by_cases z : c1 = 26 ∧ c2 = 0 ∧ c3 = 0 ∧ c4 = 0
    · obtain ⟨rfl, rfl, rfl, rfl⟩ := z
      have q2 : ¬ (j = 27 ∨ (75 + 40 * n ≤ j ∧ j < 115 + 40 * n) ∨ (477 + 16 * n ≤ j ∧ j < 493 + 16 * n)) := fun z => q ⟨rfl, z⟩
      simp (disch := omega) only [up_n]
    · simp (disch := omega) only [up_n]
  have v2 : D2 (26, 0, 0, 0) 27 = nI (n + 1) := by
    subst hD2
    simp (disch := omega) only [up_n]
    exact (a1 _ _ (by simp; omega)).trans (up_e (by omega))
  have r2 : (D2 (26, 0, 0, 0) (75 + 40 * n) = 0 ∧ D2 (26, 0, 0, 0) (75 + 40 * n + 1) = nI x0 ∧ D2 (26, 0, 0, 0) (75 + 40 * n + 2) = nI x1 ∧ D2 (26, 0, 0, 0) (75 + 40 * n + 3) = nI x2 ∧ D2 (26, 0, 0, 0) (75 + 40 * n + 4) = nI x3 ∧ D2 (26, 0, 0, 0) (75 + 40 * n + 5) = nI x4 ∧ D2 (26, 0, 0, 0) (75 + 40 * n + 6) = nI x5 ∧ D2 (26, 0, 0, 0) (75 + 40 * n + 7) = nI x3 ∧ D2 (26, 0, 0, 0) (75 + 40 * n + 8) = -5 ∧ D2 (26, 0, 0, 0) (75 + 40 * n + 9) = -5 ∧ D2 (26, 0, 0, 0) (75 + 40 * n + 10) = 0 ∧ D2 (26, 0, 0, 0) (75 + 40 * n + 11) = -5 ∧ D2 (26, 0, 0, 0) (75 + 40 * n + 13) = 0 ∧ D2 (26, 0, 0, 0) (75 + 40 * n + 14) = 0 ∧ D2 (26, 0, 0, 0) (75 + 40 * n + 15) = 0 ∧ D2 (26, 0, 0, 0) (75 + 40 * n + 16) = 0) ∧ (∀ j, 17 ≤ j → j < 40 → D2 (26, 0, 0, 0) (75 + 40 * n + j) = -5) := by
    subst hD2
    simp (disch := omega) only [up_n, up_e]
    exact ⟨⟨a2 0 (by omega), trivial, trivial, trivial, trivial, trivial, trivial, trivial, trivial, trivial, a2 10 (by omega), trivial, a2 13 (by omega), a2 14 (by omega), a2 15 (by omega), a2 16 (by omega)⟩, fun j h1 h2 => by simp (disch := omega) only [up_n]; rw [a2 j h2, if_neg (by omega)]⟩
  by_cases z : D (26, 0, 0, 0) 476 ≤ 0
  · rw [if_pos z]
    exact ⟨D2, rfl, f2, v2, fun h => absurd z h, r2.1, r2.2⟩
  · rw [if_neg z]
    obtain ⟨D3, ⟨b1, b2⟩, b3⟩ := bt_177 (D0 := D2) hn (fun v2 M13 => (some M13))
    rw [b3]
    have kk : ∀ j, (j = 27 ∨ (75 + 40 * n ≤ j ∧ j < 115 + 40 * n)) → D3 (26, 0, 0, 0) j = D2 (26, 0, 0, 0) j := fun j hj => b1 _ _ (fun y => by omega)
    refine ⟨D3, rfl, fun h j q => (b1 h j (fun y => q ⟨y.1, Or.inr (Or.inr y.2)⟩)).trans (f2 h j q), (kk _ (by omega)).trans v2, fun _ => b2, ?_, fun j h1 h2 => (kk _ (by omega)).trans (r2.2 j h1 h2)⟩
    have r := r2.1
    simp (disch := omega) only [kk]
    exact r
theorem tr_R {C' D' : zx_Y} (hR : R 0 S N O T B C (D (26, 0, 0, 0))) (hN : N < 10) (y0 : x0 < S) (y1 : x1 < S) (yn : x0 ≠ x1) (y3 : x3 ≤ 9999) (y4 : x4 ≤ 9) (c1 : ∀ h j, h ≠ (7, 0, N, 0) → h ≠ (11, 0, N, 0) → h ≠ (13, 0, N, 0) → h ≠ (13, 0, N, 1) → ¬ (h = (1, 0, 0, 0) ∧ j = 4) → C' h j = C h j) (c4 : C' (1, 0, 0, 0) 4 = nI (N + 1)) (c7 : (C' (7, 0, N, 0) 0 = C (7, 0, N, 0) 0 ∧ C' (7, 0, N, 0) 1 = 0 ∧ C' (7, 0, N, 0) 2 = nI x0 ∧ C' (7, 0, N, 0) 3 = nI x1 ∧ C' (7, 0, N, 0) 4 = nI x2 ∧ C' (7, 0, N, 0) 5 = nI x3 ∧ C' (7, 0, N, 0) 6 = nI x4 ∧ C' (7, 0, N, 0) 7 = nI x5 ∧ C' (7, 0, N, 0) 8 = 0 ∧ C' (7, 0, N, 0) 9 = -5 ∧ C' (7, 0, N, 0) 11 = nI x3 ∧ C' (7, 0, N, 0) 12 = -5 ∧ C' (7, 0, N, 0) 14 = -5)) (c11 : ∀ j, j < 4 → C' (11, 0, N, 0) j = 0) (c13 : ∀ j, j < 8 → C' (13, 0, N, 0) j = -5 ∧ C' (13, 0, N, 1) j = -5)
    (d1 : ∀ h j, ¬ (h = (26, 0, 0, 0) ∧ (j = 27 ∨ (75 + 40 * N ≤ j ∧ j < 115 + 40 * N) ∨ (477 + 16 * N ≤ j ∧ j < 493 + 16 * N))) → D' h j = D h j) (d27 : D' (26, 0, 0, 0) 27 = nI (N + 1)) (dr : (D' (26, 0, 0, 0) (75 + 40 * N) = 0 ∧ D' (26, 0, 0, 0) (75 + 40 * N + 1) = nI x0 ∧ D' (26, 0, 0, 0) (75 + 40 * N + 2) = nI x1 ∧ D' (26, 0, 0, 0) (75 + 40 * N + 3) = nI x2 ∧ D' (26, 0, 0, 0) (75 + 40 * N + 4) = nI x3 ∧ D' (26, 0, 0, 0) (75 + 40 * N + 5) = nI x4 ∧ D' (26, 0, 0, 0) (75 + 40 * N + 6) = nI x5 ∧ D' (26, 0, 0, 0) (75 + 40 * N + 7) = nI x3 ∧ D' (26, 0, 0, 0) (75 + 40 * N + 8) = -5 ∧ D' (26, 0, 0, 0) (75 + 40 * N + 9) = -5 ∧ D' (26, 0, 0, 0) (75 + 40 * N + 10) = 0 ∧ D' (26, 0, 0, 0) (75 + 40 * N + 11) = -5 ∧ D' (26, 0, 0, 0) (75 + 40 * N + 13) = 0 ∧ D' (26, 0, 0, 0) (75 + 40 * N + 14) = 0 ∧ D' (26, 0, 0, 0) (75 + 40 * N + 15) = 0 ∧ D' (26, 0, 0, 0) (75 + 40 * N + 16) = 0)) (da : ∀ j, 17 ≤ j → j < 40 → D' (26, 0, 0, 0) (75 + 40 * N + j) = -5) : R 0 S (N + 1) O T B C' (D' (26, 0, 0, 0)) := by
  obtain ⟨hb, hs, hk, ho, hn, hts⟩ := id hR
  obtain ⟨hS, hS1, hN10, hO6, hT⟩ := hb.2.2.2.2.2.1
  have A : ∀ j, j < 475 → j ≠ 27 → (j < 75 + 40 * N ∨ 115 + 40 * N ≤ j) → D' (26, 0, 0, 0) j = D (26, 0, 0, 0) j := fun j h1 h2 h3 => d1 _ _ (fun z => by omega)
  refine ⟨?_, ?_, ?_, ?_, fun t ht => ?_, fun t ht => ?_⟩
  · unfold Rb at hb ⊢
    rw [c1 (1, 0, 0, 0) 0 (by simp) (by simp) (by simp) (by simp) (by simp), c1 (1, 0, 0, 0) 1 (by simp) (by simp) (by simp) (by simp) (by simp), c1 (1, 0, 0, 0) 2 (by simp) (by simp) (by simp) (by simp) (by simp), c1 (1, 0, 0, 0) 3 (by simp) (by simp) (by simp) (by simp) (by simp), c1 (1, 0, 0, 0) 5 (by simp) (by simp) (by simp) (by simp) (by simp), A 0 (by omega) (by omega) (by omega), A 25 (by omega) (by omega) (by omega), A 26 (by omega) (by omega) (by omega), A 1 (by omega) (by omega) (by omega), A 50 (by omega) (by omega) (by omega)]
    exact ⟨hb.1, hb.2.1, hb.2.2.1, ⟨c4, d27⟩, hb.2.2.2.2.1, ⟨hS, hS1, by omega, hO6, hT⟩, hb.2.2.2.2.2.2⟩
  · exact Rs_keep hS (fun s j => c1 _ _ (by simp) (by simp) (by simp) (by simp) (by simp)) (fun j h1 h2 h3 => A j (by omega) (by omega) (by omega)) hs
  · exact Rk_keep hS (fun s j => c1 _ _ (by simp) (by simp) (by simp) (by simp) (by simp)) (fun j h1 => A j (by omega) (by omega) (by omega)) hk
  · intro i hi
    have k9 : ∀ j, C' (9, 0, i, 0) j = C (9, 0, i, 0) j := fun j => c1 _ _ (by simp) (by simp) (by simp) (by simp) (by simp)
    rw [k9, k9, k9, k9, A _ (by omega) (by omega) (by omega), A _ (by omega) (by omega) (by omega), A _ (by omega) (by omega) (by omega), A _ (by omega) (by omega) (by omega)]
    exact ho i hi
  · by_cases e : t = N
    · subst e
      rw [c7.1]
      exact hn t ht
    · rw [c1 _ _ (by simp; omega) (by simp) (by simp) (by simp) (by simp)]
      exact hn t ht
  · by_cases e : t = N
    · subst e
      obtain ⟨c70, c71, c72, c73, c74, c75, c76, c77, c78, c79, c711, c712, c714⟩ := c7
      obtain ⟨r0, r1, r2, r3, r4, r5, r6, r7, r8, r9, r10, r11, r13, r14, r15, r16⟩ := dr
      have a17 : ∀ s, s < 8 → D' (26, 0, 0, 0) (75 + 40 * t + 17 + s) = -5 ∧ D' (26, 0, 0, 0) (75 + 40 * t + 25 + s) = -5 := fun s hs => ⟨(show 75 + 40 * t + 17 + s = 75 + 40 * t + (17 + s) by omega) ▸ da (17 + s) (by omega) (by omega), (show 75 + 40 * t + 25 + s = 75 + 40 * t + (25 + s) by omega) ▸ da (25 + s) (by omega) (by omega)⟩
      refine ⟨x0, x1, x4, x3, ⟨y0, y1, yn, y4, y3⟩, ⟨c71.trans r0.symm, c72, r1, c73, r2, c74.trans r3.symm, c75, r4, c76, r5, c77.trans r6.symm, c78.trans r10.symm, c79.trans r11.symm, c711.trans r7.symm, c714.trans r9.symm⟩, ⟨(c11 0 (by omega)).trans r13.symm, (c11 1 (by omega)).trans r16.symm, (c11 2 (by omega)).trans r14.symm, (c11 3 (by omega)).trans r15.symm⟩, fun s hs => ⟨(c13 s hs).1.trans (a17 s hs).1.symm, (c13 s hs).2.trans (a17 s hs).2.symm, Or.inl (a17 s hs).1, Or.inl (a17 s hs).2⟩, fun p q hp hq hj d a hd hb h1 h2 => absurd ((a17 p hp).2.symm.trans h1).symm (nI_m5 hd), Or.inl ⟨r0, c712.trans r8.symm, r11, r9, a17⟩⟩
    · have ht2 : t < N := by omega
      exact Rt_cong (by omega) hS (fun j hj => c1 _ _ (by simp; omega) (by simp) (by simp) (by simp) (by simp)) (fun j hj => c1 _ _ (by simp) (by simp; omega) (by simp) (by simp) (by simp)) (fun k s hk hs => c1 _ _ (by simp) (by simp) (by simp; omega) (by simp; omega) (by simp)) (fun j h1 h2 => A j (by omega) (by omega) (by omega)) (hts t ht2)
end ST
