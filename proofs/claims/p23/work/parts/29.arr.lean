theorem arr_n {l S N O T B t f g e r p u d s : Nat} {C D : zx_Y} (hR : R l S N O T B C (D (26, 0, 0, 0))) (ht : t < N) (hsx : s = nx f g p) (hu : u ≤ T) (hl : s ≠ g)
    (a1 : D (26, 0, 0, 0) (75 + 40 * t) = 2) (a4 : Wy f g p) (a5 : D (26, 0, 0, 0) (75 + 40 * t + 25 + p) = nI d) (a6 : d < u) (a10 : ∀ s, s < 8 → Ah f g p s → D (26, 0, 0, 0) (75 + 40 * t + 17 + s) = -5)
    (hw : f < S ∧ g < S ∧ f ≠ g ∧ e ≤ 9 ∧ r ≤ 9999) (hx : C (7, l, t, 0) 1 = D (26, 0, 0, 0) (75 + 40 * t) ∧ C (7, l, t, 0) 2 = nI f ∧ D (26, 0, 0, 0) (75 + 40 * t + 1) = nI f ∧ C (7, l, t, 0) 3 = nI g ∧ D (26, 0, 0, 0) (75 + 40 * t + 2) = nI g ∧ C (7, l, t, 0) 4 = D (26, 0, 0, 0) (75 + 40 * t + 3) ∧ C (7, l, t, 0) 5 = nI r ∧ D (26, 0, 0, 0) (75 + 40 * t + 4) = nI r ∧ C (7, l, t, 0) 6 = nI e ∧ D (26, 0, 0, 0) (75 + 40 * t + 5) = nI e ∧ C (7, l, t, 0) 7 = D (26, 0, 0, 0) (75 + 40 * t + 6) ∧ C (7, l, t, 0) 8 = D (26, 0, 0, 0) (75 + 40 * t + 10) ∧ C (7, l, t, 0) 9 = D (26, 0, 0, 0) (75 + 40 * t + 11) ∧ C (7, l, t, 0) 11 = D (26, 0, 0, 0) (75 + 40 * t + 7) ∧ C (7, l, t, 0) 14 = D (26, 0, 0, 0) (75 + 40 * t + 9)) (hp : C (11, l, t, 0) 0 = D (26, 0, 0, 0) (75 + 40 * t + 13) ∧ C (11, l, t, 0) 1 = D (26, 0, 0, 0) (75 + 40 * t + 16) ∧ C (11, l, t, 0) 2 = D (26, 0, 0, 0) (75 + 40 * t + 14) ∧ C (11, l, t, 0) 3 = D (26, 0, 0, 0) (75 + 40 * t + 15)) (ha : ∀ s, s < 8 → C (13, l, t, 0) s = D (26, 0, 0, 0) (75 + 40 * t + 17 + s) ∧ C (13, l, t, 1) s = D (26, 0, 0, 0) (75 + 40 * t + 25 + s) ∧ (D (26, 0, 0, 0) (75 + 40 * t + 17 + s) = -5 ∨ ∃ a, a ≤ T ∧ D (26, 0, 0, 0) (75 + 40 * t + 17 + s) = nI a) ∧ (D (26, 0, 0, 0) (75 + 40 * t + 25 + s) = -5 ∨ ∃ a, a ≤ T ∧ D (26, 0, 0, 0) (75 + 40 * t + 25 + s) = nI a)) (hord : ∀ p q, p < 8 → q < 8 → Aj f g p q → ∀ d a, d < 2 ^ 31 → a < 2 ^ 31 → D (26, 0, 0, 0) (75 + 40 * t + 25 + p) = nI d → D (26, 0, 0, 0) (75 + 40 * t + 17 + q) = nI a → d < a) : R l S N O T B (zx_up (zx_up (zx_up (zx_up (zx_up (zx_up (zx_up C (3, l, s, 0) 2 (C (3, l, s, 0) 2 + 1)) (13, l, t, 0) s (nI T)) (7, l, t, 0) 1 1) (7, l, t, 0) 11 (nI T)) (7, l, t, 0) 9 (nI s)) (7, l, t, 0) 12 (-5)) (7, l, t, 0) 13 (nI T)) ((zx_up (zx_up (zx_up (zx_up (zx_up (zx_up (zx_up D (26, 0, 0, 0) (75 + 40 * t) 1) (26, 0, 0, 0) (75 + 40 * t + 11) (nI s)) (26, 0, 0, 0) (75 + 40 * t + 7) (nI T)) (26, 0, 0, 0) (75 + 40 * t + 8) (-5)) (26, 0, 0, 0) (75 + 40 * t + 12) (nI T)) (26, 0, 0, 0) (75 + 40 * t + 17 + s) (nI T)) (26, 0, 0, 0) (28 + s) (D (26, 0, 0, 0) (28 + s) + 1)) (26, 0, 0, 0)) := by
  have hR0 := hR
  obtain ⟨hb, hs, hk, ho, hn, hts⟩ := hR0
  obtain ⟨hS, hS1, hN, hO, hT⟩ := hb.2.2.2.2.2.1
  have h0 := hb.1.1
  have h0d := hb.1.2
  have h3 := hb.2.2.1.1
  have h1d := hb.2.2.1.2
  have h4 := hb.2.2.2.1.1
  have h27 := hb.2.2.2.1.2

  obtain ⟨q1, q2, q2d, q3, q3d, q4, q5, q5d, q6, q6d, q7, q8, q9, q11, q14⟩ := hx
  obtain ⟨p0, p1, p2, p3⟩ := hp
  obtain ⟨b1, b2, b3, b4, b5, b6⟩ := Wy_b a4 hw.1 hw.2.1
  rw [← hsx] at b3 b4 b5 b6
  have hR1 := came_1 hR b3
  have hDD : ∀ j, j < 75 → (zx_up (zx_up (zx_up (zx_up (zx_up (zx_up (zx_up D (26, 0, 0, 0) (75 + 40 * t) 1) (26, 0, 0, 0) (75 + 40 * t + 11) (nI s)) (26, 0, 0, 0) (75 + 40 * t + 7) (nI T)) (26, 0, 0, 0) (75 + 40 * t + 8) (-5)) (26, 0, 0, 0) (75 + 40 * t + 12) (nI T)) (26, 0, 0, 0) (75 + 40 * t + 17 + s) (nI T)) (26, 0, 0, 0) (28 + s) (D (26, 0, 0, 0) (28 + s) + 1)) (26, 0, 0, 0) j = zx_up D (26, 0, 0, 0) (28 + s) (D (26, 0, 0, 0) (28 + s) + 1) (26, 0, 0, 0) j := fun j hj => by
    by_cases e : j = 28 + s
    · subst e
      simp (disch := omega) only [up_n, up_e]
    · simp (disch := omega) only [up_n]
  exact R_tr hR1 ht ⟨fun j hj => (by first | (simp (disch := omega) only [up_n, up_e]; done) | rfl), fun i j hi hj => (by first | (simp (disch := omega) only [up_n, up_e]; done) | rfl), fun u j hu => (by first | (simp (disch := omega) only [up_n, up_e]; done) | rfl), (by first | (simp (disch := omega) only [up_n, up_e]; done) | rfl), fun u j hu => (by first | (simp (disch := omega) only [up_n, up_e]; done) | rfl), fun u k s hu => (by first | (simp (disch := omega) only [up_n, up_e]; done) | rfl)⟩ (fun j hj hj2 => hDD j hj) (fun j hj hj2 hj3 => (by first | (simp (disch := omega) only [up_n, up_e]; done) | rfl)) (Rs_keep hS (fun s j => (by first | (simp (disch := omega) only [up_n, up_e]; done) | rfl)) (fun j h1 h2 h3 => hDD j (by omega)) hR1.2.1) (Rk_keep hS (fun s j => (by first | (simp (disch := omega) only [up_n, up_e]; done) | rfl)) (fun j h1 => hDD j (by omega)) hR1.2.2.1) ⟨f, g, e, r, hw, ⟨(by first | (simp (disch := omega) only [up_n, up_e]; done) | (simp (disch := omega) only [up_n, up_e]; trivial) | rfl), (by first | (simp (disch := omega) only [up_n, up_e]; done) | (simp (disch := omega) only [up_n, up_e]; exact q2) | exact q2), (by first | (simp (disch := omega) only [up_n, up_e]; done) | (simp (disch := omega) only [up_n, up_e]; exact q2d) | exact q2d), (by first | (simp (disch := omega) only [up_n, up_e]; done) | (simp (disch := omega) only [up_n, up_e]; exact q3) | exact q3), (by first | (simp (disch := omega) only [up_n, up_e]; done) | (simp (disch := omega) only [up_n, up_e]; exact q3d) | exact q3d), (by first | (simp (disch := omega) only [up_n, up_e]; done) | (simp (disch := omega) only [up_n, up_e]; exact q4) | exact q4), (by first | (simp (disch := omega) only [up_n, up_e]; done) | (simp (disch := omega) only [up_n, up_e]; exact q5) | exact q5), (by first | (simp (disch := omega) only [up_n, up_e]; done) | (simp (disch := omega) only [up_n, up_e]; exact q5d) | exact q5d), (by first | (simp (disch := omega) only [up_n, up_e]; done) | (simp (disch := omega) only [up_n, up_e]; exact q6) | exact q6), (by first | (simp (disch := omega) only [up_n, up_e]; done) | (simp (disch := omega) only [up_n, up_e]; exact q6d) | exact q6d), (by first | (simp (disch := omega) only [up_n, up_e]; done) | (simp (disch := omega) only [up_n, up_e]; exact q7) | exact q7), (by first | (simp (disch := omega) only [up_n, up_e]; done) | (simp (disch := omega) only [up_n, up_e]; exact q8) | exact q8), (by first | (simp (disch := omega) only [up_n, up_e]; done) | (simp (disch := omega) only [up_n, up_e]; trivial) | rfl), (by first | (simp (disch := omega) only [up_n, up_e]; done) | (simp (disch := omega) only [up_n, up_e]; trivial) | rfl), (by first | (simp (disch := omega) only [up_n, up_e]; done) | (simp (disch := omega) only [up_n, up_e]; exact q14) | exact q14)⟩, ⟨(by first | (simp (disch := omega) only [up_n, up_e]; done) | (simp (disch := omega) only [up_n, up_e]; exact p0) | exact p0), (by first | (simp (disch := omega) only [up_n, up_e]; done) | (simp (disch := omega) only [up_n, up_e]; exact p1) | exact p1), (by first | (simp (disch := omega) only [up_n, up_e]; done) | (simp (disch := omega) only [up_n, up_e]; exact p2) | exact p2), (by first | (simp (disch := omega) only [up_n, up_e]; done) | (simp (disch := omega) only [up_n, up_e]; exact p3) | exact p3)⟩, (fun c hc => by
    by_cases e : c = s
    · subst e
      simp (disch := omega) only [up_n, up_e]
      exact ⟨trivial, (ha c hc).2.1, Or.inr ⟨T, Nat.le_refl _, rfl⟩, (ha c hc).2.2.2⟩
    · simp (disch := omega) only [up_n]
      exact ha c hc), (fun a_ b_ h1 h2 h3 d_ c_ h4 h5 => by
    by_cases e : b_ = s
    · subst e
      simp (disch := omega) only [up_n, up_e]
      intro h6 h7
      have e1 : a_ = p := by unfold Wy at a4; unfold Aj at h3; unfold nx at hsx; split at hsx <;> omega
      subst e1
      have e2 := nI_inj (h6.symm.trans a5) h4 (by omega)
      have e3 := nI_inj h7 (by omega) h5
      omega
    · simp (disch := omega) only [up_n]
      exact hord a_ b_ h1 h2 h3 d_ c_ h4 h5), (Or.inr (Or.inl ⟨(by first | (simp (disch := omega) only [up_n, up_e]; done) | (simp (disch := omega) only [up_n, up_e]; trivial) | rfl), (by first | (simp (disch := omega) only [up_n, up_e]; done) | (simp (disch := omega) only [up_n, up_e]; trivial) | rfl), (by first | (simp (disch := omega) only [up_n, up_e]; done) | (simp (disch := omega) only [up_n, up_e]; trivial) | rfl), s, (by first | (simp (disch := omega) only [up_n, up_e]; done) | (simp (disch := omega) only [up_n, up_e]; trivial) | rfl), b5.resolve_left hl, fun c hc hq => by
    have e1 : c ≠ s := by unfold Ah at hq; omega
    have e2 : Ah f g p c := by unfold Wy at a4; unfold Ah at hq ⊢; unfold nx at hsx; split at hsx <;> omega
    simp (disch := omega) only [up_n]
    exact a10 c hc e2⟩))⟩
theorem arr_l {l S N O T B t f g e r p u d s : Nat} {C D : zx_Y} (hR : R l S N O T B C (D (26, 0, 0, 0))) (ht : t < N) (hsx : s = nx f g p) (hu : u ≤ T) (hl : s = g)
    (a1 : D (26, 0, 0, 0) (75 + 40 * t) = 2) (a4 : Wy f g p) (a5 : D (26, 0, 0, 0) (75 + 40 * t + 25 + p) = nI d) (a6 : d < u) (a10 : ∀ s, s < 8 → Ah f g p s → D (26, 0, 0, 0) (75 + 40 * t + 17 + s) = -5)
    (hw : f < S ∧ g < S ∧ f ≠ g ∧ e ≤ 9 ∧ r ≤ 9999) (hx : C (7, l, t, 0) 1 = D (26, 0, 0, 0) (75 + 40 * t) ∧ C (7, l, t, 0) 2 = nI f ∧ D (26, 0, 0, 0) (75 + 40 * t + 1) = nI f ∧ C (7, l, t, 0) 3 = nI g ∧ D (26, 0, 0, 0) (75 + 40 * t + 2) = nI g ∧ C (7, l, t, 0) 4 = D (26, 0, 0, 0) (75 + 40 * t + 3) ∧ C (7, l, t, 0) 5 = nI r ∧ D (26, 0, 0, 0) (75 + 40 * t + 4) = nI r ∧ C (7, l, t, 0) 6 = nI e ∧ D (26, 0, 0, 0) (75 + 40 * t + 5) = nI e ∧ C (7, l, t, 0) 7 = D (26, 0, 0, 0) (75 + 40 * t + 6) ∧ C (7, l, t, 0) 8 = D (26, 0, 0, 0) (75 + 40 * t + 10) ∧ C (7, l, t, 0) 9 = D (26, 0, 0, 0) (75 + 40 * t + 11) ∧ C (7, l, t, 0) 11 = D (26, 0, 0, 0) (75 + 40 * t + 7) ∧ C (7, l, t, 0) 14 = D (26, 0, 0, 0) (75 + 40 * t + 9)) (hp : C (11, l, t, 0) 0 = D (26, 0, 0, 0) (75 + 40 * t + 13) ∧ C (11, l, t, 0) 1 = D (26, 0, 0, 0) (75 + 40 * t + 16) ∧ C (11, l, t, 0) 2 = D (26, 0, 0, 0) (75 + 40 * t + 14) ∧ C (11, l, t, 0) 3 = D (26, 0, 0, 0) (75 + 40 * t + 15)) (ha : ∀ s, s < 8 → C (13, l, t, 0) s = D (26, 0, 0, 0) (75 + 40 * t + 17 + s) ∧ C (13, l, t, 1) s = D (26, 0, 0, 0) (75 + 40 * t + 25 + s) ∧ (D (26, 0, 0, 0) (75 + 40 * t + 17 + s) = -5 ∨ ∃ a, a ≤ T ∧ D (26, 0, 0, 0) (75 + 40 * t + 17 + s) = nI a) ∧ (D (26, 0, 0, 0) (75 + 40 * t + 25 + s) = -5 ∨ ∃ a, a ≤ T ∧ D (26, 0, 0, 0) (75 + 40 * t + 25 + s) = nI a)) (hord : ∀ p q, p < 8 → q < 8 → Aj f g p q → ∀ d a, d < 2 ^ 31 → a < 2 ^ 31 → D (26, 0, 0, 0) (75 + 40 * t + 25 + p) = nI d → D (26, 0, 0, 0) (75 + 40 * t + 17 + q) = nI a → d < a) : R l S N O T B (zx_up (zx_up (zx_up (zx_up (zx_up (zx_up (zx_up C (3, l, s, 0) 2 (C (3, l, s, 0) 2 + 1)) (13, l, t, 0) s (nI T)) (7, l, t, 0) 1 4) (7, l, t, 0) 11 (nI T)) (7, l, t, 0) 9 (-5)) (7, l, t, 0) 12 (-5)) (7, l, t, 0) 14 (-5)) ((zx_up (zx_up (zx_up (zx_up (zx_up (zx_up (zx_up (zx_up (zx_up (zx_up (zx_up (zx_up D (26, 0, 0, 0) (75 + 40 * t) 1) (26, 0, 0, 0) (75 + 40 * t + 11) (nI s)) (26, 0, 0, 0) (75 + 40 * t + 7) (nI T)) (26, 0, 0, 0) (75 + 40 * t + 8) (-5)) (26, 0, 0, 0) (75 + 40 * t + 12) (nI T)) (26, 0, 0, 0) (75 + 40 * t + 17 + s) (nI T)) (26, 0, 0, 0) (28 + s) (D (26, 0, 0, 0) (28 + s) + 1)) (26, 0, 0, 0) (75 + 40 * t) 4) (26, 0, 0, 0) (75 + 40 * t + 11) (-5)) (26, 0, 0, 0) (75 + 40 * t + 7) (nI T)) (26, 0, 0, 0) (75 + 40 * t + 8) (-5)) (26, 0, 0, 0) (75 + 40 * t + 9) (-5)) (26, 0, 0, 0)) := by
  have hR0 := hR
  obtain ⟨hb, hs, hk, ho, hn, hts⟩ := hR0
  obtain ⟨hS, hS1, hN, hO, hT⟩ := hb.2.2.2.2.2.1
  have h0 := hb.1.1
  have h0d := hb.1.2
  have h3 := hb.2.2.1.1
  have h1d := hb.2.2.1.2
  have h4 := hb.2.2.2.1.1
  have h27 := hb.2.2.2.1.2

  obtain ⟨q1, q2, q2d, q3, q3d, q4, q5, q5d, q6, q6d, q7, q8, q9, q11, q14⟩ := hx
  obtain ⟨p0, p1, p2, p3⟩ := hp
  obtain ⟨b1, b2, b3, b4, b5, b6⟩ := Wy_b a4 hw.1 hw.2.1
  rw [← hsx] at b3 b4 b5 b6
  have hR1 := came_1 hR b3
  have hDD : ∀ j, j < 75 → (zx_up (zx_up (zx_up (zx_up (zx_up (zx_up (zx_up (zx_up (zx_up (zx_up (zx_up (zx_up D (26, 0, 0, 0) (75 + 40 * t) 1) (26, 0, 0, 0) (75 + 40 * t + 11) (nI s)) (26, 0, 0, 0) (75 + 40 * t + 7) (nI T)) (26, 0, 0, 0) (75 + 40 * t + 8) (-5)) (26, 0, 0, 0) (75 + 40 * t + 12) (nI T)) (26, 0, 0, 0) (75 + 40 * t + 17 + s) (nI T)) (26, 0, 0, 0) (28 + s) (D (26, 0, 0, 0) (28 + s) + 1)) (26, 0, 0, 0) (75 + 40 * t) 4) (26, 0, 0, 0) (75 + 40 * t + 11) (-5)) (26, 0, 0, 0) (75 + 40 * t + 7) (nI T)) (26, 0, 0, 0) (75 + 40 * t + 8) (-5)) (26, 0, 0, 0) (75 + 40 * t + 9) (-5)) (26, 0, 0, 0) j = zx_up D (26, 0, 0, 0) (28 + s) (D (26, 0, 0, 0) (28 + s) + 1) (26, 0, 0, 0) j := fun j hj => by
    by_cases e : j = 28 + s
    · subst e
      simp (disch := omega) only [up_n, up_e]
    · simp (disch := omega) only [up_n]
  exact R_tr hR1 ht ⟨fun j hj => (by first | (simp (disch := omega) only [up_n, up_e]; done) | rfl), fun i j hi hj => (by first | (simp (disch := omega) only [up_n, up_e]; done) | rfl), fun u j hu => (by first | (simp (disch := omega) only [up_n, up_e]; done) | rfl), (by first | (simp (disch := omega) only [up_n, up_e]; done) | rfl), fun u j hu => (by first | (simp (disch := omega) only [up_n, up_e]; done) | rfl), fun u k s hu => (by first | (simp (disch := omega) only [up_n, up_e]; done) | rfl)⟩ (fun j hj hj2 => hDD j hj) (fun j hj hj2 hj3 => (by first | (simp (disch := omega) only [up_n, up_e]; done) | rfl)) (Rs_keep hS (fun s j => (by first | (simp (disch := omega) only [up_n, up_e]; done) | rfl)) (fun j h1 h2 h3 => hDD j (by omega)) hR1.2.1) (Rk_keep hS (fun s j => (by first | (simp (disch := omega) only [up_n, up_e]; done) | rfl)) (fun j h1 => hDD j (by omega)) hR1.2.2.1) ⟨f, g, e, r, hw, ⟨(by first | (simp (disch := omega) only [up_n, up_e]; done) | (simp (disch := omega) only [up_n, up_e]; trivial) | rfl), (by first | (simp (disch := omega) only [up_n, up_e]; done) | (simp (disch := omega) only [up_n, up_e]; exact q2) | exact q2), (by first | (simp (disch := omega) only [up_n, up_e]; done) | (simp (disch := omega) only [up_n, up_e]; exact q2d) | exact q2d), (by first | (simp (disch := omega) only [up_n, up_e]; done) | (simp (disch := omega) only [up_n, up_e]; exact q3) | exact q3), (by first | (simp (disch := omega) only [up_n, up_e]; done) | (simp (disch := omega) only [up_n, up_e]; exact q3d) | exact q3d), (by first | (simp (disch := omega) only [up_n, up_e]; done) | (simp (disch := omega) only [up_n, up_e]; exact q4) | exact q4), (by first | (simp (disch := omega) only [up_n, up_e]; done) | (simp (disch := omega) only [up_n, up_e]; exact q5) | exact q5), (by first | (simp (disch := omega) only [up_n, up_e]; done) | (simp (disch := omega) only [up_n, up_e]; exact q5d) | exact q5d), (by first | (simp (disch := omega) only [up_n, up_e]; done) | (simp (disch := omega) only [up_n, up_e]; exact q6) | exact q6), (by first | (simp (disch := omega) only [up_n, up_e]; done) | (simp (disch := omega) only [up_n, up_e]; exact q6d) | exact q6d), (by first | (simp (disch := omega) only [up_n, up_e]; done) | (simp (disch := omega) only [up_n, up_e]; exact q7) | exact q7), (by first | (simp (disch := omega) only [up_n, up_e]; done) | (simp (disch := omega) only [up_n, up_e]; exact q8) | exact q8), (by first | (simp (disch := omega) only [up_n, up_e]; done) | (simp (disch := omega) only [up_n, up_e]; trivial) | rfl), (by first | (simp (disch := omega) only [up_n, up_e]; done) | (simp (disch := omega) only [up_n, up_e]; trivial) | rfl), (by first | (simp (disch := omega) only [up_n, up_e]; done) | (simp (disch := omega) only [up_n, up_e]; trivial) | rfl)⟩, ⟨(by first | (simp (disch := omega) only [up_n, up_e]; done) | (simp (disch := omega) only [up_n, up_e]; exact p0) | exact p0), (by first | (simp (disch := omega) only [up_n, up_e]; done) | (simp (disch := omega) only [up_n, up_e]; exact p1) | exact p1), (by first | (simp (disch := omega) only [up_n, up_e]; done) | (simp (disch := omega) only [up_n, up_e]; exact p2) | exact p2), (by first | (simp (disch := omega) only [up_n, up_e]; done) | (simp (disch := omega) only [up_n, up_e]; exact p3) | exact p3)⟩, (fun c hc => by
    by_cases e : c = s
    · subst e
      simp (disch := omega) only [up_n, up_e]
      exact ⟨trivial, (ha c hc).2.1, Or.inr ⟨T, Nat.le_refl _, rfl⟩, (ha c hc).2.2.2⟩
    · simp (disch := omega) only [up_n]
      exact ha c hc), (fun a_ b_ h1 h2 h3 d_ c_ h4 h5 => by
    by_cases e : b_ = s
    · subst e
      simp (disch := omega) only [up_n, up_e]
      intro h6 h7
      have e1 : a_ = p := by unfold Wy at a4; unfold Aj at h3; unfold nx at hsx; split at hsx <;> omega
      subst e1
      have e2 := nI_inj (h6.symm.trans a5) h4 (by omega)
      have e3 := nI_inj h7 (by omega) h5
      omega
    · simp (disch := omega) only [up_n]
      exact hord a_ b_ h1 h2 h3 d_ c_ h4 h5), (Or.inr (Or.inr (Or.inr (Or.inr ⟨Or.inl (by first | (simp (disch := omega) only [up_n, up_e]; done) | (simp (disch := omega) only [up_n, up_e]; trivial) | rfl), (by first | (simp (disch := omega) only [up_n, up_e]; done) | (simp (disch := omega) only [up_n, up_e]; trivial) | rfl), (by first | (simp (disch := omega) only [up_n, up_e]; done) | (simp (disch := omega) only [up_n, up_e]; trivial) | rfl)⟩))))⟩
