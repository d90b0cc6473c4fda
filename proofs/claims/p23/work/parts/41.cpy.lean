/-- a loop over one memory -/
theorem loop1 {α : Type} {N : Nat} {P : Nat → zx_Y → Prop} {F : Nat → Int32 → zx_Y → Option α} {kc : Int32 → zx_Y → Option α} (h0 : ∀ q C, P N C → F (q + 1) (nI N) C = kc (nI N) C) (hs : ∀ t C, t < N → P t C → ∃ C', P (t + 1) C' ∧ ∀ q, F (q + 1) (nI t) C = F q (nI (t + 1)) C') : ∀ (k t q : Nat) (C : zx_Y), t + k = N → k < q → P t C → ∃ C', P N C' ∧ F q (nI t) C = kc (nI N) C'
  | _, _, 0, _, _, h, _ => absurd h (by omega)
  | 0, t, q + 1, C, e, _, hP => by
    have e : t = N := by omega
    subst e
    exact ⟨C, hP, h0 q C hP⟩
  | k + 1, t, q + 1, C, e, _, hP => by
    obtain ⟨C', g1, g2⟩ := hs t C (by omega) hP
    obtain ⟨C'', g4, g5⟩ := loop1 h0 hs k (t + 1) q C' (by omega) (by omega) g1
    exact ⟨C'', g4, (g2 q).trans g5⟩
theorem cy_e {M : zx_Y} {s d : zx_H} {n j : Nat} (h : j < n) : zx_cy M s d n d j = M s j := if_pos ⟨rfl, h⟩
theorem cy_h {M : zx_Y} {s d h : zx_H} {n j : Nat} (q : h ≠ d) : zx_cy M s d n h j = M h j := if_neg fun e => q e.1
theorem cy_n {M : zx_Y} {s : zx_H} {a b c d n a' b' c' d' j : Nat} (h : ¬ (a' = a ∧ b' = b ∧ c' = c ∧ d' = d)) : zx_cy M s (a, b, c, d) n (a', b', c', d') j = M (a', b', c', d') j := by
  refine cy_h fun e => h ?_
  simp only [Prod.mk.injEq] at e
  exact e
theorem cp_X7 {C : zx_Y} {l i m j : Nat} (hne : l ≠ m ∨ i ≠ j) (hb : C (3, m, j, 0) 1 = 0 ∨ C (3, m, j, 0) 1 = 1) : ∃ C', g_X7_copyFrom C l i m j = some C' ∧ (∀ h k, h ≠ (3, l, i, 0) → C' h k = C h k) ∧ (∀ k, k < 3 → C' (3, l, i, 0) k = C (3, m, j, 0) k) := by
  refine ⟨(zx_up (zx_up (zx_up C (3, l, i, 0) 0 (C (3, m, j, 0) 0)) (3, l, i, 0) 1 (C (3, m, j, 0) 1)) (3, l, i, 0) 2 (C (3, m, j, 0) 2)), ?_, fun h k hh => ?_, fun k hk => ?_⟩
  · unfold g_X7_copyFrom
    rw [zl_def, zo_v (by simp (disch := omega) only [up_n]; exact hb)]
    simp (disch := omega) only [zl_def, up_n]
  · simp only [zx_up_h _ _ _ _ hh]
  · rcases (show k = 0 ∨ k = 1 ∨ k = 2 by omega) with rfl | rfl | rfl <;> simp (disch := omega) only [up_n, up_e]
theorem cp_X5 {C : zx_Y} {l i m j : Nat} (hne : l ≠ m ∨ i ≠ j) : ∃ C', g_X5_copyFrom C l i m j = some C' ∧ (∀ h k, h ≠ (5, l, i, 0) → C' h k = C h k) ∧ (∀ k, k < 3 → C' (5, l, i, 0) k = C (5, m, j, 0) k) := by
  refine ⟨(zx_up (zx_up (zx_up C (5, l, i, 0) 0 (C (5, m, j, 0) 0)) (5, l, i, 0) 1 (C (5, m, j, 0) 1)) (5, l, i, 0) 2 (C (5, m, j, 0) 2)), ?_, fun h k hh => ?_, fun k hk => ?_⟩
  · unfold g_X5_copyFrom
    simp (disch := omega) only [zl_def, up_n]
  · simp only [zx_up_h _ _ _ _ hh]
  · rcases (show k = 0 ∨ k = 1 ∨ k = 2 by omega) with rfl | rfl | rfl <;> simp (disch := omega) only [up_n, up_e]
theorem cp_X6 {C : zx_Y} {l i m j : Nat} (hne : l ≠ m ∨ i ≠ j) : ∃ C', g_X6_copyFrom C l i m j = some C' ∧ (∀ h k, h ≠ (9, l, i, 0) → C' h k = C h k) ∧ (∀ k, k < 4 → C' (9, l, i, 0) k = C (9, m, j, 0) k) := by
  refine ⟨(zx_up (zx_up (zx_up (zx_up C (9, l, i, 0) 0 (C (9, m, j, 0) 0)) (9, l, i, 0) 1 (C (9, m, j, 0) 1)) (9, l, i, 0) 2 (C (9, m, j, 0) 2)) (9, l, i, 0) 3 (C (9, m, j, 0) 3)), ?_, fun h k hh => ?_, fun k hk => ?_⟩
  · unfold g_X6_copyFrom
    simp (disch := omega) only [zl_def, up_n]
  · simp only [zx_up_h _ _ _ _ hh]
  · rcases (show k = 0 ∨ k = 1 ∨ k = 2 ∨ k = 3 by omega) with rfl | rfl | rfl | rfl <;> simp (disch := omega) only [up_n, up_e]
theorem cp_X9 {C : zx_Y} {l i m j : Nat} (hne : l ≠ m ∨ i ≠ j) : ∃ C', g_X9_copyFrom C l i m j = some C' ∧ (∀ h k, h ≠ (7, l, i, 0) → h ≠ (11, l, i, 0) → h ≠ (13, l, i, 0) → h ≠ (13, l, i, 1) → C' h k = C h k) ∧ (∀ k, k < 15 → C' (7, l, i, 0) k = C (7, m, j, 0) k) ∧ (∀ k, k < 4 → C' (11, l, i, 0) k = C (11, m, j, 0) k) ∧ (∀ k s, k < 2 → s < 8 → C' (13, l, i, k) s = C (13, m, j, k) s) := by
  refine ⟨(zx_cy (zx_cy (zx_cy (zx_up (zx_up (zx_up (zx_up (zx_up (zx_up (zx_up (zx_up (zx_up (zx_up (zx_up (zx_up (zx_up (zx_up (zx_up C (7, l, i, 0) 0 (C (7, m, j, 0) 0)) (7, l, i, 0) 1 (C (7, m, j, 0) 1)) (7, l, i, 0) 2 (C (7, m, j, 0) 2)) (7, l, i, 0) 3 (C (7, m, j, 0) 3)) (7, l, i, 0) 4 (C (7, m, j, 0) 4)) (7, l, i, 0) 5 (C (7, m, j, 0) 5)) (7, l, i, 0) 6 (C (7, m, j, 0) 6)) (7, l, i, 0) 7 (C (7, m, j, 0) 7)) (7, l, i, 0) 8 (C (7, m, j, 0) 8)) (7, l, i, 0) 9 (C (7, m, j, 0) 9)) (7, l, i, 0) 10 (C (7, m, j, 0) 10)) (7, l, i, 0) 11 (C (7, m, j, 0) 11)) (7, l, i, 0) 12 (C (7, m, j, 0) 12)) (7, l, i, 0) 13 (C (7, m, j, 0) 13)) (7, l, i, 0) 14 (C (7, m, j, 0) 14)) (11, m, j, 0) (11, l, i, 0) 4) (13, m, j, 0) (13, l, i, 0) 8) (13, m, j, 1) (13, l, i, 1) 8), ?_, fun h k h1 h2 h3 h4 => ?_, fun k hk => ?_, fun k hk => ?_, fun k s hk hs => ?_⟩
  · unfold g_X9_copyFrom
    simp (disch := omega) only [zl_def, up_n]
  · rw [cy_h h4, cy_h h3, cy_h h2]
    simp only [zx_up_h _ _ _ _ h1]
  · rcases (show k = 0 ∨ k = 1 ∨ k = 2 ∨ k = 3 ∨ k = 4 ∨ k = 5 ∨ k = 6 ∨ k = 7 ∨ k = 8 ∨ k = 9 ∨ k = 10 ∨ k = 11 ∨ k = 12 ∨ k = 13 ∨ k = 14 by omega) with rfl | rfl | rfl | rfl | rfl | rfl | rfl | rfl | rfl | rfl | rfl | rfl | rfl | rfl | rfl <;> simp (disch := omega) only [cy_n, up_n, up_e]
  · rw [cy_n (by omega), cy_n (by omega), cy_e hk]
    simp (disch := omega) only [up_n]
  · rcases (show k = 0 ∨ k = 1 by omega) with rfl | rfl
    · rw [cy_n (by omega), cy_e hs, cy_n (by omega)]
      simp (disch := omega) only [up_n]
    · rw [cy_e hs, cy_n (by omega), cy_n (by omega)]
      simp (disch := omega) only [up_n]
theorem cpl_X7 {C0 : zx_Y} {l m : Nat} (hne : l ≠ m) (hb : ∀ s, s < 8 → C0 (3, m, s, 0) 1 = 0 ∨ C0 (3, m, s, 0) 1 = 1) (kc : Int32 → zx_Y → Option zx_Y) : ∃ C', ((∀ h j, (¬ h.1 = 3 ∨ ¬ h.2.1 = l) → C' h j = C0 h j) ∧ ∀ s j, s < 8 → j < 3 → C' (3, l, s, 0) j = C0 (3, m, s, 0) j) ∧ lg_X2_copyFrom_50 l m kc 1000 0 C0 = kc (nI 8) C' := by
  have h := loop1 (N := 8) (P := fun t C => (∀ h j, (¬ h.1 = 3 ∨ ¬ h.2.1 = l) → C h j = C0 h j) ∧ ∀ s j, s < t → j < 3 → C (3, l, s, 0) j = C0 (3, m, s, 0) j) (F := lg_X2_copyFrom_50 l m kc) (kc := kc)
    (fun q C _ => by rw [lg_X2_copyFrom_50.eq_2, if_pos (show (8 : Int32) ≤ nI 8 by decide)])
    (fun t C ht hP => by
      obtain ⟨C', c1, c2, c3⟩ := cp_X7 (C := C) (l := l) (i := t) (m := m) (j := t) (Or.inl hne) (by rw [hP.1 _ _ (Or.inr (fun e => hne e.symm))]; exact hb t ht)
      refine ⟨C', ⟨fun h j hh => ?_, fun s j hs hj => ?_⟩, fun q => ?_⟩
      · rw [c2 h j (fun e => by rw [e] at hh; rcases hh with hh | hh <;> exact hh rfl)]
        exact hP.1 h j hh
      · by_cases e : s = t
        · subst e
          rw [c3 j hj]
          exact hP.1 _ _ (Or.inr (fun e => hne e.symm))
        · rw [c2 _ _ (by simp; omega)]
          exact hP.2 s j (by omega) hj
      · rw [lg_X2_copyFrom_50.eq_2, if_neg (show ¬ (8 : Int32) ≤ nI t from nI_ge (b := 8) ht (by omega)), zi_n _ ht (by omega), zi_n _ ht (by omega), c1, zm_some, nI_1])
    8 0 1000 C0 (by omega) (by omega) ⟨fun _ _ _ => rfl, fun s j hs _ => absurd hs (by omega)⟩
  rw [nI_0] at h
  exact h
theorem cpl_X5 {C0 : zx_Y} {l m : Nat} (hne : l ≠ m) (kc : Int32 → zx_Y → Option zx_Y) : ∃ C', ((∀ h j, (¬ h.1 = 5 ∨ ¬ h.2.1 = l) → C' h j = C0 h j) ∧ ∀ s j, s < 7 → j < 3 → C' (5, l, s, 0) j = C0 (5, m, s, 0) j) ∧ lg_X2_copyFrom_79 l m kc 1000 0 C0 = kc (nI 7) C' := by
  have h := loop1 (N := 7) (P := fun t C => (∀ h j, (¬ h.1 = 5 ∨ ¬ h.2.1 = l) → C h j = C0 h j) ∧ ∀ s j, s < t → j < 3 → C (5, l, s, 0) j = C0 (5, m, s, 0) j) (F := lg_X2_copyFrom_79 l m kc) (kc := kc)
    (fun q C _ => by rw [lg_X2_copyFrom_79.eq_2, if_pos (show (7 : Int32) ≤ nI 7 by decide)])
    (fun t C ht hP => by
      obtain ⟨C', c1, c2, c3⟩ := cp_X5 (C := C) (l := l) (i := t) (m := m) (j := t) (Or.inl hne)
      refine ⟨C', ⟨fun h j hh => ?_, fun s j hs hj => ?_⟩, fun q => ?_⟩
      · rw [c2 h j (fun e => by rw [e] at hh; rcases hh with hh | hh <;> exact hh rfl)]
        exact hP.1 h j hh
      · by_cases e : s = t
        · subst e
          rw [c3 j hj]
          exact hP.1 _ _ (Or.inr (fun e => hne e.symm))
        · rw [c2 _ _ (by simp; omega)]
          exact hP.2 s j (by omega) hj
      · rw [lg_X2_copyFrom_79.eq_2, if_neg (show ¬ (7 : Int32) ≤ nI t from nI_ge (b := 7) ht (by omega)), zi_n _ ht (by omega), zi_n _ ht (by omega), c1, zm_some, nI_1])
    7 0 1000 C0 (by omega) (by omega) ⟨fun _ _ _ => rfl, fun s j hs _ => absurd hs (by omega)⟩
  rw [nI_0] at h
  exact h
theorem cpl_X6 {C0 : zx_Y} {l m : Nat} (hne : l ≠ m) (kc : Int32 → zx_Y → Option zx_Y) : ∃ C', ((∀ h j, (¬ h.1 = 9 ∨ ¬ h.2.1 = l) → C' h j = C0 h j) ∧ ∀ s j, s < 6 → j < 4 → C' (9, l, s, 0) j = C0 (9, m, s, 0) j) ∧ lg_X2_copyFrom_108 l m kc 1000 0 C0 = kc (nI 6) C' := by
  have h := loop1 (N := 6) (P := fun t C => (∀ h j, (¬ h.1 = 9 ∨ ¬ h.2.1 = l) → C h j = C0 h j) ∧ ∀ s j, s < t → j < 4 → C (9, l, s, 0) j = C0 (9, m, s, 0) j) (F := lg_X2_copyFrom_108 l m kc) (kc := kc)
    (fun q C _ => by rw [lg_X2_copyFrom_108.eq_2, if_pos (show (6 : Int32) ≤ nI 6 by decide)])
    (fun t C ht hP => by
      obtain ⟨C', c1, c2, c3⟩ := cp_X6 (C := C) (l := l) (i := t) (m := m) (j := t) (Or.inl hne)
      refine ⟨C', ⟨fun h j hh => ?_, fun s j hs hj => ?_⟩, fun q => ?_⟩
      · rw [c2 h j (fun e => by rw [e] at hh; rcases hh with hh | hh <;> exact hh rfl)]
        exact hP.1 h j hh
      · by_cases e : s = t
        · subst e
          rw [c3 j hj]
          exact hP.1 _ _ (Or.inr (fun e => hne e.symm))
        · rw [c2 _ _ (by simp; omega)]
          exact hP.2 s j (by omega) hj
      · rw [lg_X2_copyFrom_108.eq_2, if_neg (show ¬ (6 : Int32) ≤ nI t from nI_ge (b := 6) ht (by omega)), zi_n _ ht (by omega), zi_n _ ht (by omega), c1, zm_some, nI_1])
    6 0 1000 C0 (by omega) (by omega) ⟨fun _ _ _ => rfl, fun s j hs _ => absurd hs (by omega)⟩
  rw [nI_0] at h
  exact h
theorem cpl_X9 {C0 : zx_Y} {l m : Nat} (hne : l ≠ m) (kc : Int32 → zx_Y → Option zx_Y) : ∃ C', ((∀ h j, ((¬ h.1 = 7 ∧ ¬ h.1 = 11 ∧ ¬ h.1 = 13) ∨ ¬ h.2.1 = l) → C' h j = C0 h j) ∧ ∀ t, t < 10 → (∀ j, j < 15 → C' (7, l, t, 0) j = C0 (7, m, t, 0) j) ∧ (∀ j, j < 4 → C' (11, l, t, 0) j = C0 (11, m, t, 0) j) ∧ (∀ k s, k < 2 → s < 8 → C' (13, l, t, k) s = C0 (13, m, t, k) s)) ∧ lg_X2_copyFrom_137 l m kc 1000 0 C0 = kc (nI 10) C' := by
  have h := loop1 (N := 10) (P := fun u C => (∀ h j, ((¬ h.1 = 7 ∧ ¬ h.1 = 11 ∧ ¬ h.1 = 13) ∨ ¬ h.2.1 = l) → C h j = C0 h j) ∧ ∀ t, t < u → (∀ j, j < 15 → C (7, l, t, 0) j = C0 (7, m, t, 0) j) ∧ (∀ j, j < 4 → C (11, l, t, 0) j = C0 (11, m, t, 0) j) ∧ (∀ k s, k < 2 → s < 8 → C (13, l, t, k) s = C0 (13, m, t, k) s)) (F := lg_X2_copyFrom_137 l m kc) (kc := kc)
    (fun q C _ => by rw [lg_X2_copyFrom_137.eq_2, if_pos (show (10 : Int32) ≤ nI 10 by decide)])
    (fun u C hu hP => by
      obtain ⟨C', c1, c2, c3, c4, c5⟩ := cp_X9 (C := C) (l := l) (i := u) (m := m) (j := u) (Or.inl hne)
      have ml : ¬ m = l := fun e => hne e.symm
      refine ⟨C', ⟨fun h j hh => ?_, fun t ht => ?_⟩, fun q => ?_⟩
      · have hx : ∀ k d, (k = 7 ∨ k = 11 ∨ k = 13) → h ≠ (k, l, u, d) := fun k d hk e => by
          subst e
          rcases hh with hh | hh
          · simp only at hh
            omega
          · exact hh rfl
        rw [c2 h j (hx 7 0 (by omega)) (hx 11 0 (by omega)) (hx 13 0 (by omega)) (hx 13 1 (by omega))]
        exact hP.1 h j hh
      · by_cases e : t = u
        · subst e
          exact ⟨fun j hj => by rw [c3 j hj]; exact hP.1 _ _ (Or.inr ml), fun j hj => by rw [c4 j hj]; exact hP.1 _ _ (Or.inr ml), fun k s hk hs => by rw [c5 k s hk hs]; exact hP.1 _ _ (Or.inr ml)⟩
        · obtain ⟨g1, g2, g3⟩ := hP.2 t (by omega)
          refine ⟨fun j hj => ?_, fun j hj => ?_, fun k s hk hs => ?_⟩
          · rw [c2 _ _ (by simp; omega) (by simp) (by simp) (by simp)]; exact g1 j hj
          · rw [c2 _ _ (by simp) (by simp; omega) (by simp) (by simp)]; exact g2 j hj
          · rw [c2 _ _ (by simp) (by simp) (by simp; omega) (by simp; omega)]; exact g3 k s hk hs
      · rw [lg_X2_copyFrom_137.eq_2, if_neg (show ¬ (10 : Int32) ≤ nI u from nI_ge (b := 10) hu (by omega)), zi_n _ hu (by omega), zi_n _ hu (by omega), c1, zm_some, nI_1])
    10 0 1000 C0 (by omega) (by omega) ⟨fun _ _ _ => rfl, fun t ht => absurd ht (by omega)⟩
  rw [nI_0] at h
  exact h
theorem cp_line {C : zx_Y} {l m : Nat} (hne : l ≠ m) (hb : ∀ s, s < 8 → C (3, m, s, 0) 1 = 0 ∨ C (3, m, s, 0) 1 = 1) : ∃ C', g_X2_copyFrom C l m = some C' ∧ Lq l m C' C := by
  have ml : ¬ m = l := fun e => hne e.symm
  obtain ⟨C1, ⟨a1, a2⟩, a3⟩ := cpl_X7 (C0 := (zx_up (zx_up (zx_up (zx_up (zx_up (zx_up C (1, l, 0, 0) 0 (C (1, m, 0, 0) 0)) (1, l, 0, 0) 1 (C (1, m, 0, 0) 1)) (1, l, 0, 0) 2 (C (1, m, 0, 0) 2)) (1, l, 0, 0) 3 (C (1, m, 0, 0) 3)) (1, l, 0, 0) 4 (C (1, m, 0, 0) 4)) (1, l, 0, 0) 5 (C (1, m, 0, 0) 5))) hne (fun s hs => by simp (disch := omega) only [up_n]; exact hb s hs) (fun v1 M7 => (lg_X2_copyFrom_79 l m (fun v2 M8 => (lg_X2_copyFrom_108 l m (fun v3 M9 => (lg_X2_copyFrom_137 l m (fun v4 M10 => (some M10)) 1000 0 M9)) 1000 0 M8)) 1000 0 M7))
  obtain ⟨C2, ⟨b1, b2⟩, b3⟩ := cpl_X5 (C0 := C1) hne (fun v2 M8 => (lg_X2_copyFrom_108 l m (fun v3 M9 => (lg_X2_copyFrom_137 l m (fun v4 M10 => (some M10)) 1000 0 M9)) 1000 0 M8))
  obtain ⟨C3, ⟨c1, c2⟩, c3⟩ := cpl_X6 (C0 := C2) hne (fun v3 M9 => (lg_X2_copyFrom_137 l m (fun v4 M10 => (some M10)) 1000 0 M9))
  obtain ⟨C4, ⟨d1, d2⟩, d3⟩ := cpl_X9 (C0 := C3) hne (fun v4 M10 => (some M10))
  refine ⟨C4, ?_, fun j hj => ?_, fun s j hs hj => ?_, fun b j hb hj => ?_, fun i j hi hj => ?_, fun t j ht hj => ?_, fun t j ht hj => ?_, fun t k s ht hk hs => ?_⟩
  · unfold g_X2_copyFrom
    simp (disch := omega) only [zl_def, up_n]
    rw [a3, b3, c3, d3]
  · rw [d1 _ _ (Or.inl ⟨by simp, by simp, by simp⟩), c1 _ _ (Or.inl (by simp)), b1 _ _ (Or.inl (by simp)), a1 _ _ (Or.inl (by simp))]
    rcases (show j = 0 ∨ j = 1 ∨ j = 2 ∨ j = 3 ∨ j = 4 ∨ j = 5 by omega) with rfl | rfl | rfl | rfl | rfl | rfl <;> simp (disch := omega) only [up_n, up_e]
  · rw [d1 _ _ (Or.inl ⟨by simp, by simp, by simp⟩), c1 _ _ (Or.inl (by simp)), b1 _ _ (Or.inl (by simp)), a2 s j hs hj]
    simp (disch := omega) only [up_n]
  · rw [d1 _ _ (Or.inl ⟨by simp, by simp, by simp⟩), c1 _ _ (Or.inl (by simp)), b2 b j hb hj, a1 _ _ (Or.inl (by simp))]
    simp (disch := omega) only [up_n]
  · rw [d1 _ _ (Or.inl ⟨by simp, by simp, by simp⟩), c2 i j hi hj, b1 _ _ (Or.inl (by simp)), a1 _ _ (Or.inl (by simp))]
    simp (disch := omega) only [up_n]
  · rw [(d2 t ht).1 j hj, c1 _ _ (Or.inl (by simp)), b1 _ _ (Or.inl (by simp)), a1 _ _ (Or.inl (by simp))]
    simp (disch := omega) only [up_n]
  · rw [(d2 t ht).2.1 j hj, c1 _ _ (Or.inl (by simp)), b1 _ _ (Or.inl (by simp)), a1 _ _ (Or.inl (by simp))]
    simp (disch := omega) only [up_n]
  · rw [(d2 t ht).2.2 k s hk hs, c1 _ _ (Or.inl (by simp)), b1 _ _ (Or.inl (by simp)), a1 _ _ (Or.inl (by simp))]
    simp (disch := omega) only [up_n]
