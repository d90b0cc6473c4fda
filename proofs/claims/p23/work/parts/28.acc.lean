/-- two loops over the trains, side by side -/
theorem loop2 {α β : Type} {N : Nat} {P : Nat → zx_Y → zx_Y → Prop} {F : Nat → Int32 → zx_Y → Option α} {G : Nat → Int32 → zx_Y → Option β} {kc : Int32 → zx_Y → Option α} {kr : Int32 → zx_Y → Option β} (h0 : ∀ q C D, P N C D → F (q + 1) (nI N) C = kc (nI N) C ∧ G (q + 1) (nI N) D = kr (nI N) D) (hs : ∀ t C D, t < N → P t C D → ∃ C' D', P (t + 1) C' D' ∧ (∀ q, F (q + 1) (nI t) C = F q (nI (t + 1)) C') ∧ (∀ q, G (q + 1) (nI t) D = G q (nI (t + 1)) D')) : ∀ (k t q q' : Nat) (C D : zx_Y), t + k = N → k < q → k < q' → P t C D → ∃ C' D', P N C' D' ∧ F q (nI t) C = kc (nI N) C' ∧ G q' (nI t) D = kr (nI N) D'
  | _, _, 0, _, _, _, _, h, _, _ => absurd h (by omega)
  | _, _, _ + 1, 0, _, _, _, _, h, _ => absurd h (by omega)
  | 0, t, q + 1, q' + 1, C, D, e, _, _, hP => by
    have e : t = N := by omega
    subst e
    exact ⟨C, D, hP, (h0 q C D hP).1, (h0 q' C D hP).2⟩
  | k + 1, t, q + 1, q' + 1, C, D, e, _, _, hP => by
    obtain ⟨C', D', g1, g2, g3⟩ := hs t C D (by omega) hP
    obtain ⟨C'', D'', g4, g5, g6⟩ := loop2 h0 hs k (t + 1) q q' C' D' (by omega) (by omega) (by omega) g1
    exact ⟨C'', D'', g4, (g2 q).trans g5, (g3 q').trans g6⟩

theorem acc_0 {l S N O T B t : Nat} {C D : zx_Y} (hR : R l S N O T B C (D (26, 0, 0, 0))) (ht : t < N) : R l S N O T B (zx_up C (11, l, t, 0) 0 (C (11, l, t, 0) 0 + 1)) ((zx_up D (26, 0, 0, 0) (75 + 40 * t + 13) (D (26, 0, 0, 0) (75 + 40 * t + 13) + 1)) (26, 0, 0, 0)) := by
  have hR0 := hR
  obtain ⟨hb, hs, hk, ho, hn, hts⟩ := hR0
  obtain ⟨hS, hS1, hN, hO, hT⟩ := hb.2.2.2.2.2.1
  have h0 := hb.1.1
  have h0d := hb.1.2
  have h3 := hb.2.2.1.1
  have h1d := hb.2.2.1.2
  have h4 := hb.2.2.2.1.1
  have h27 := hb.2.2.2.1.2
  obtain ⟨f, g, e, r, hw, ⟨q1, q2, q2d, q3, q3d, q4, q5, q5d, q6, q6d, q7, q8, q9, q11, q14⟩, ⟨p0, p1, p2, p3⟩, ha, hord, hst⟩ := hts t ht
  exact R_tr hR ht ⟨fun j hj => (by first | (simp (disch := omega) only [up_n, up_e]; done) | rfl), fun i j hi hj => (by first | (simp (disch := omega) only [up_n, up_e]; done) | rfl), fun u j hu => (by first | (simp (disch := omega) only [up_n, up_e]; done) | rfl), (by first | (simp (disch := omega) only [up_n, up_e]; done) | rfl), fun u j hu => (by first | (simp (disch := omega) only [up_n, up_e]; done) | rfl), fun u k s hu => (by first | (simp (disch := omega) only [up_n, up_e]; done) | rfl)⟩ (fun j hj hj2 => (by first | (simp (disch := omega) only [up_n, up_e]; done) | rfl)) (fun j hj hj2 hj3 => (by first | (simp (disch := omega) only [up_n, up_e]; done) | rfl)) (Rs_keep hS (fun s j => (by first | (simp (disch := omega) only [up_n, up_e]; done) | rfl)) (fun j h1 h2 h3 => (by first | (simp (disch := omega) only [up_n, up_e]; done) | rfl)) hs) (Rk_keep hS (fun s j => (by first | (simp (disch := omega) only [up_n, up_e]; done) | rfl)) (fun j h1 => (by first | (simp (disch := omega) only [up_n, up_e]; done) | rfl)) hk) ⟨f, g, e, r, hw, ⟨(by first | (simp (disch := omega) only [up_n, up_e]; done) | (simp (disch := omega) only [up_n, up_e]; exact q1) | exact q1), (by first | (simp (disch := omega) only [up_n, up_e]; done) | (simp (disch := omega) only [up_n, up_e]; exact q2) | exact q2), (by first | (simp (disch := omega) only [up_n, up_e]; done) | (simp (disch := omega) only [up_n, up_e]; exact q2d) | exact q2d), (by first | (simp (disch := omega) only [up_n, up_e]; done) | (simp (disch := omega) only [up_n, up_e]; exact q3) | exact q3), (by first | (simp (disch := omega) only [up_n, up_e]; done) | (simp (disch := omega) only [up_n, up_e]; exact q3d) | exact q3d), (by first | (simp (disch := omega) only [up_n, up_e]; done) | (simp (disch := omega) only [up_n, up_e]; exact q4) | exact q4), (by first | (simp (disch := omega) only [up_n, up_e]; done) | (simp (disch := omega) only [up_n, up_e]; exact q5) | exact q5), (by first | (simp (disch := omega) only [up_n, up_e]; done) | (simp (disch := omega) only [up_n, up_e]; exact q5d) | exact q5d), (by first | (simp (disch := omega) only [up_n, up_e]; done) | (simp (disch := omega) only [up_n, up_e]; exact q6) | exact q6), (by first | (simp (disch := omega) only [up_n, up_e]; done) | (simp (disch := omega) only [up_n, up_e]; exact q6d) | exact q6d), (by first | (simp (disch := omega) only [up_n, up_e]; done) | (simp (disch := omega) only [up_n, up_e]; exact q7) | exact q7), (by first | (simp (disch := omega) only [up_n, up_e]; done) | (simp (disch := omega) only [up_n, up_e]; exact q8) | exact q8), (by first | (simp (disch := omega) only [up_n, up_e]; done) | (simp (disch := omega) only [up_n, up_e]; exact q9) | exact q9), (by first | (simp (disch := omega) only [up_n, up_e]; done) | (simp (disch := omega) only [up_n, up_e]; exact q11) | exact q11), (by first | (simp (disch := omega) only [up_n, up_e]; done) | (simp (disch := omega) only [up_n, up_e]; exact q14) | exact q14)⟩, ⟨(by simp (disch := omega) only [up_n, up_e]; rw [p0]), (by first | (simp (disch := omega) only [up_n, up_e]; done) | (simp (disch := omega) only [up_n, up_e]; exact p1) | exact p1), (by first | (simp (disch := omega) only [up_n, up_e]; done) | (simp (disch := omega) only [up_n, up_e]; exact p2) | exact p2), (by first | (simp (disch := omega) only [up_n, up_e]; done) | (simp (disch := omega) only [up_n, up_e]; exact p3) | exact p3)⟩, (fun s hs_ => by simp (disch := omega) only [up_n, up_e]; exact ha s hs_), (fun a_ b_ h1 h2 h3 d_ c_ h4 h5 => by simp (disch := omega) only [up_n, up_e]; exact hord a_ b_ h1 h2 h3 d_ c_ h4 h5), (St_cong (m := l) (by omega) (by omega) (by omega) (fun j hj => (by first | (simp (disch := omega) only [up_n, up_e]; done) | rfl)) (fun j h1 h2 h3 => (by first | (simp (disch := omega) only [up_n, up_e]; done) | rfl)) hst)⟩
theorem acc_1 {l S N O T B t : Nat} {C D : zx_Y} (hR : R l S N O T B C (D (26, 0, 0, 0))) (ht : t < N) : R l S N O T B (zx_up C (11, l, t, 0) 1 (C (11, l, t, 0) 1 + 1)) ((zx_up D (26, 0, 0, 0) (75 + 40 * t + 16) (D (26, 0, 0, 0) (75 + 40 * t + 16) + 1)) (26, 0, 0, 0)) := by
  have hR0 := hR
  obtain ⟨hb, hs, hk, ho, hn, hts⟩ := hR0
  obtain ⟨hS, hS1, hN, hO, hT⟩ := hb.2.2.2.2.2.1
  have h0 := hb.1.1
  have h0d := hb.1.2
  have h3 := hb.2.2.1.1
  have h1d := hb.2.2.1.2
  have h4 := hb.2.2.2.1.1
  have h27 := hb.2.2.2.1.2
  obtain ⟨f, g, e, r, hw, ⟨q1, q2, q2d, q3, q3d, q4, q5, q5d, q6, q6d, q7, q8, q9, q11, q14⟩, ⟨p0, p1, p2, p3⟩, ha, hord, hst⟩ := hts t ht
  exact R_tr hR ht ⟨fun j hj => (by first | (simp (disch := omega) only [up_n, up_e]; done) | rfl), fun i j hi hj => (by first | (simp (disch := omega) only [up_n, up_e]; done) | rfl), fun u j hu => (by first | (simp (disch := omega) only [up_n, up_e]; done) | rfl), (by first | (simp (disch := omega) only [up_n, up_e]; done) | rfl), fun u j hu => (by first | (simp (disch := omega) only [up_n, up_e]; done) | rfl), fun u k s hu => (by first | (simp (disch := omega) only [up_n, up_e]; done) | rfl)⟩ (fun j hj hj2 => (by first | (simp (disch := omega) only [up_n, up_e]; done) | rfl)) (fun j hj hj2 hj3 => (by first | (simp (disch := omega) only [up_n, up_e]; done) | rfl)) (Rs_keep hS (fun s j => (by first | (simp (disch := omega) only [up_n, up_e]; done) | rfl)) (fun j h1 h2 h3 => (by first | (simp (disch := omega) only [up_n, up_e]; done) | rfl)) hs) (Rk_keep hS (fun s j => (by first | (simp (disch := omega) only [up_n, up_e]; done) | rfl)) (fun j h1 => (by first | (simp (disch := omega) only [up_n, up_e]; done) | rfl)) hk) ⟨f, g, e, r, hw, ⟨(by first | (simp (disch := omega) only [up_n, up_e]; done) | (simp (disch := omega) only [up_n, up_e]; exact q1) | exact q1), (by first | (simp (disch := omega) only [up_n, up_e]; done) | (simp (disch := omega) only [up_n, up_e]; exact q2) | exact q2), (by first | (simp (disch := omega) only [up_n, up_e]; done) | (simp (disch := omega) only [up_n, up_e]; exact q2d) | exact q2d), (by first | (simp (disch := omega) only [up_n, up_e]; done) | (simp (disch := omega) only [up_n, up_e]; exact q3) | exact q3), (by first | (simp (disch := omega) only [up_n, up_e]; done) | (simp (disch := omega) only [up_n, up_e]; exact q3d) | exact q3d), (by first | (simp (disch := omega) only [up_n, up_e]; done) | (simp (disch := omega) only [up_n, up_e]; exact q4) | exact q4), (by first | (simp (disch := omega) only [up_n, up_e]; done) | (simp (disch := omega) only [up_n, up_e]; exact q5) | exact q5), (by first | (simp (disch := omega) only [up_n, up_e]; done) | (simp (disch := omega) only [up_n, up_e]; exact q5d) | exact q5d), (by first | (simp (disch := omega) only [up_n, up_e]; done) | (simp (disch := omega) only [up_n, up_e]; exact q6) | exact q6), (by first | (simp (disch := omega) only [up_n, up_e]; done) | (simp (disch := omega) only [up_n, up_e]; exact q6d) | exact q6d), (by first | (simp (disch := omega) only [up_n, up_e]; done) | (simp (disch := omega) only [up_n, up_e]; exact q7) | exact q7), (by first | (simp (disch := omega) only [up_n, up_e]; done) | (simp (disch := omega) only [up_n, up_e]; exact q8) | exact q8), (by first | (simp (disch := omega) only [up_n, up_e]; done) | (simp (disch := omega) only [up_n, up_e]; exact q9) | exact q9), (by first | (simp (disch := omega) only [up_n, up_e]; done) | (simp (disch := omega) only [up_n, up_e]; exact q11) | exact q11), (by first | (simp (disch := omega) only [up_n, up_e]; done) | (simp (disch := omega) only [up_n, up_e]; exact q14) | exact q14)⟩, ⟨(by first | (simp (disch := omega) only [up_n, up_e]; done) | (simp (disch := omega) only [up_n, up_e]; exact p0) | exact p0), (by simp (disch := omega) only [up_n, up_e]; rw [p1]), (by first | (simp (disch := omega) only [up_n, up_e]; done) | (simp (disch := omega) only [up_n, up_e]; exact p2) | exact p2), (by first | (simp (disch := omega) only [up_n, up_e]; done) | (simp (disch := omega) only [up_n, up_e]; exact p3) | exact p3)⟩, (fun s hs_ => by simp (disch := omega) only [up_n, up_e]; exact ha s hs_), (fun a_ b_ h1 h2 h3 d_ c_ h4 h5 => by simp (disch := omega) only [up_n, up_e]; exact hord a_ b_ h1 h2 h3 d_ c_ h4 h5), (St_cong (m := l) (by omega) (by omega) (by omega) (fun j hj => (by first | (simp (disch := omega) only [up_n, up_e]; done) | rfl)) (fun j h1 h2 h3 => (by first | (simp (disch := omega) only [up_n, up_e]; done) | rfl)) hst)⟩
theorem acc_2 {l S N O T B t : Nat} {C D : zx_Y} (hR : R l S N O T B C (D (26, 0, 0, 0))) (ht : t < N) : R l S N O T B (zx_up C (11, l, t, 0) 2 (C (11, l, t, 0) 2 + 1)) ((zx_up D (26, 0, 0, 0) (75 + 40 * t + 14) (D (26, 0, 0, 0) (75 + 40 * t + 14) + 1)) (26, 0, 0, 0)) := by
  have hR0 := hR
  obtain ⟨hb, hs, hk, ho, hn, hts⟩ := hR0
  obtain ⟨hS, hS1, hN, hO, hT⟩ := hb.2.2.2.2.2.1
  have h0 := hb.1.1
  have h0d := hb.1.2
  have h3 := hb.2.2.1.1
  have h1d := hb.2.2.1.2
  have h4 := hb.2.2.2.1.1
  have h27 := hb.2.2.2.1.2
  obtain ⟨f, g, e, r, hw, ⟨q1, q2, q2d, q3, q3d, q4, q5, q5d, q6, q6d, q7, q8, q9, q11, q14⟩, ⟨p0, p1, p2, p3⟩, ha, hord, hst⟩ := hts t ht
  exact R_tr hR ht ⟨fun j hj => (by first | (simp (disch := omega) only [up_n, up_e]; done) | rfl), fun i j hi hj => (by first | (simp (disch := omega) only [up_n, up_e]; done) | rfl), fun u j hu => (by first | (simp (disch := omega) only [up_n, up_e]; done) | rfl), (by first | (simp (disch := omega) only [up_n, up_e]; done) | rfl), fun u j hu => (by first | (simp (disch := omega) only [up_n, up_e]; done) | rfl), fun u k s hu => (by first | (simp (disch := omega) only [up_n, up_e]; done) | rfl)⟩ (fun j hj hj2 => (by first | (simp (disch := omega) only [up_n, up_e]; done) | rfl)) (fun j hj hj2 hj3 => (by first | (simp (disch := omega) only [up_n, up_e]; done) | rfl)) (Rs_keep hS (fun s j => (by first | (simp (disch := omega) only [up_n, up_e]; done) | rfl)) (fun j h1 h2 h3 => (by first | (simp (disch := omega) only [up_n, up_e]; done) | rfl)) hs) (Rk_keep hS (fun s j => (by first | (simp (disch := omega) only [up_n, up_e]; done) | rfl)) (fun j h1 => (by first | (simp (disch := omega) only [up_n, up_e]; done) | rfl)) hk) ⟨f, g, e, r, hw, ⟨(by first | (simp (disch := omega) only [up_n, up_e]; done) | (simp (disch := omega) only [up_n, up_e]; exact q1) | exact q1), (by first | (simp (disch := omega) only [up_n, up_e]; done) | (simp (disch := omega) only [up_n, up_e]; exact q2) | exact q2), (by first | (simp (disch := omega) only [up_n, up_e]; done) | (simp (disch := omega) only [up_n, up_e]; exact q2d) | exact q2d), (by first | (simp (disch := omega) only [up_n, up_e]; done) | (simp (disch := omega) only [up_n, up_e]; exact q3) | exact q3), (by first | (simp (disch := omega) only [up_n, up_e]; done) | (simp (disch := omega) only [up_n, up_e]; exact q3d) | exact q3d), (by first | (simp (disch := omega) only [up_n, up_e]; done) | (simp (disch := omega) only [up_n, up_e]; exact q4) | exact q4), (by first | (simp (disch := omega) only [up_n, up_e]; done) | (simp (disch := omega) only [up_n, up_e]; exact q5) | exact q5), (by first | (simp (disch := omega) only [up_n, up_e]; done) | (simp (disch := omega) only [up_n, up_e]; exact q5d) | exact q5d), (by first | (simp (disch := omega) only [up_n, up_e]; done) | (simp (disch := omega) only [up_n, up_e]; exact q6) | exact q6), (by first | (simp (disch := omega) only [up_n, up_e]; done) | (simp (disch := omega) only [up_n, up_e]; exact q6d) | exact q6d), (by first | (simp (disch := omega) only [up_n, up_e]; done) | (simp (disch := omega) only [up_n, up_e]; exact q7) | exact q7), (by first | (simp (disch := omega) only [up_n, up_e]; done) | (simp (disch := omega) only [up_n, up_e]; exact q8) | exact q8), (by first | (simp (disch := omega) only [up_n, up_e]; done) | (simp (disch := omega) only [up_n, up_e]; exact q9) | exact q9), (by first | (simp (disch := omega) only [up_n, up_e]; done) | (simp (disch := omega) only [up_n, up_e]; exact q11) | exact q11), (by first | (simp (disch := omega) only [up_n, up_e]; done) | (simp (disch := omega) only [up_n, up_e]; exact q14) | exact q14)⟩, ⟨(by first | (simp (disch := omega) only [up_n, up_e]; done) | (simp (disch := omega) only [up_n, up_e]; exact p0) | exact p0), (by first | (simp (disch := omega) only [up_n, up_e]; done) | (simp (disch := omega) only [up_n, up_e]; exact p1) | exact p1), (by simp (disch := omega) only [up_n, up_e]; rw [p2]), (by first | (simp (disch := omega) only [up_n, up_e]; done) | (simp (disch := omega) only [up_n, up_e]; exact p3) | exact p3)⟩, (fun s hs_ => by simp (disch := omega) only [up_n, up_e]; exact ha s hs_), (fun a_ b_ h1 h2 h3 d_ c_ h4 h5 => by simp (disch := omega) only [up_n, up_e]; exact hord a_ b_ h1 h2 h3 d_ c_ h4 h5), (St_cong (m := l) (by omega) (by omega) (by omega) (fun j hj => (by first | (simp (disch := omega) only [up_n, up_e]; done) | rfl)) (fun j h1 h2 h3 => (by first | (simp (disch := omega) only [up_n, up_e]; done) | rfl)) hst)⟩
theorem acc_3 {l S N O T B t : Nat} {C D : zx_Y} (hR : R l S N O T B C (D (26, 0, 0, 0))) (ht : t < N) : R l S N O T B (zx_up C (11, l, t, 0) 3 (C (11, l, t, 0) 3 + 1)) ((zx_up D (26, 0, 0, 0) (75 + 40 * t + 15) (D (26, 0, 0, 0) (75 + 40 * t + 15) + 1)) (26, 0, 0, 0)) := by
  have hR0 := hR
  obtain ⟨hb, hs, hk, ho, hn, hts⟩ := hR0
  obtain ⟨hS, hS1, hN, hO, hT⟩ := hb.2.2.2.2.2.1
  have h0 := hb.1.1
  have h0d := hb.1.2
  have h3 := hb.2.2.1.1
  have h1d := hb.2.2.1.2
  have h4 := hb.2.2.2.1.1
  have h27 := hb.2.2.2.1.2
  obtain ⟨f, g, e, r, hw, ⟨q1, q2, q2d, q3, q3d, q4, q5, q5d, q6, q6d, q7, q8, q9, q11, q14⟩, ⟨p0, p1, p2, p3⟩, ha, hord, hst⟩ := hts t ht
  exact R_tr hR ht ⟨fun j hj => (by first | (simp (disch := omega) only [up_n, up_e]; done) | rfl), fun i j hi hj => (by first | (simp (disch := omega) only [up_n, up_e]; done) | rfl), fun u j hu => (by first | (simp (disch := omega) only [up_n, up_e]; done) | rfl), (by first | (simp (disch := omega) only [up_n, up_e]; done) | rfl), fun u j hu => (by first | (simp (disch := omega) only [up_n, up_e]; done) | rfl), fun u k s hu => (by first | (simp (disch := omega) only [up_n, up_e]; done) | rfl)⟩ (fun j hj hj2 => (by first | (simp (disch := omega) only [up_n, up_e]; done) | rfl)) (fun j hj hj2 hj3 => (by first | (simp (disch := omega) only [up_n, up_e]; done) | rfl)) (Rs_keep hS (fun s j => (by first | (simp (disch := omega) only [up_n, up_e]; done) | rfl)) (fun j h1 h2 h3 => (by first | (simp (disch := omega) only [up_n, up_e]; done) | rfl)) hs) (Rk_keep hS (fun s j => (by first | (simp (disch := omega) only [up_n, up_e]; done) | rfl)) (fun j h1 => (by first | (simp (disch := omega) only [up_n, up_e]; done) | rfl)) hk) ⟨f, g, e, r, hw, ⟨(by first | (simp (disch := omega) only [up_n, up_e]; done) | (simp (disch := omega) only [up_n, up_e]; exact q1) | exact q1), (by first | (simp (disch := omega) only [up_n, up_e]; done) | (simp (disch := omega) only [up_n, up_e]; exact q2) | exact q2), (by first | (simp (disch := omega) only [up_n, up_e]; done) | (simp (disch := omega) only [up_n, up_e]; exact q2d) | exact q2d), (by first | (simp (disch := omega) only [up_n, up_e]; done) | (simp (disch := omega) only [up_n, up_e]; exact q3) | exact q3), (by first | (simp (disch := omega) only [up_n, up_e]; done) | (simp (disch := omega) only [up_n, up_e]; exact q3d) | exact q3d), (by first | (simp (disch := omega) only [up_n, up_e]; done) | (simp (disch := omega) only [up_n, up_e]; exact q4) | exact q4), (by first | (simp (disch := omega) only [up_n, up_e]; done) | (simp (disch := omega) only [up_n, up_e]; exact q5) | exact q5), (by first | (simp (disch := omega) only [up_n, up_e]; done) | (simp (disch := omega) only [up_n, up_e]; exact q5d) | exact q5d), (by first | (simp (disch := omega) only [up_n, up_e]; done) | (simp (disch := omega) only [up_n, up_e]; exact q6) | exact q6), (by first | (simp (disch := omega) only [up_n, up_e]; done) | (simp (disch := omega) only [up_n, up_e]; exact q6d) | exact q6d), (by first | (simp (disch := omega) only [up_n, up_e]; done) | (simp (disch := omega) only [up_n, up_e]; exact q7) | exact q7), (by first | (simp (disch := omega) only [up_n, up_e]; done) | (simp (disch := omega) only [up_n, up_e]; exact q8) | exact q8), (by first | (simp (disch := omega) only [up_n, up_e]; done) | (simp (disch := omega) only [up_n, up_e]; exact q9) | exact q9), (by first | (simp (disch := omega) only [up_n, up_e]; done) | (simp (disch := omega) only [up_n, up_e]; exact q11) | exact q11), (by first | (simp (disch := omega) only [up_n, up_e]; done) | (simp (disch := omega) only [up_n, up_e]; exact q14) | exact q14)⟩, ⟨(by first | (simp (disch := omega) only [up_n, up_e]; done) | (simp (disch := omega) only [up_n, up_e]; exact p0) | exact p0), (by first | (simp (disch := omega) only [up_n, up_e]; done) | (simp (disch := omega) only [up_n, up_e]; exact p1) | exact p1), (by first | (simp (disch := omega) only [up_n, up_e]; done) | (simp (disch := omega) only [up_n, up_e]; exact p2) | exact p2), (by simp (disch := omega) only [up_n, up_e]; rw [p3])⟩, (fun s hs_ => by simp (disch := omega) only [up_n, up_e]; exact ha s hs_), (fun a_ b_ h1 h2 h3 d_ c_ h4 h5 => by simp (disch := omega) only [up_n, up_e]; exact hord a_ b_ h1 h2 h3 d_ c_ h4 h5), (St_cong (m := l) (by omega) (by omega) (by omega) (fun j hj => (by first | (simp (disch := omega) only [up_n, up_e]; done) | rfl)) (fun j h1 h2 h3 => (by first | (simp (disch := omega) only [up_n, up_e]; done) | rfl)) hst)⟩
theorem blk_1 {l S N O T B b : Nat} {C D : zx_Y} (hR : R l S N O T B C (D (26, 0, 0, 0))) (hb1 : b + 1 < S) : R l S N O T B (zx_up C (5, l, b, 0) 1 (C (5, l, b, 0) 1 + 1)) ((zx_up D (26, 0, 0, 0) (36 + b) (D (26, 0, 0, 0) (36 + b) + 1)) (26, 0, 0, 0)) := by
  have hR0 := hR
  obtain ⟨hb, hs, hk, ho, hn, hts⟩ := hR0
  obtain ⟨hS, hS1, hN, hO, hT⟩ := hb.2.2.2.2.2.1
  have h0 := hb.1.1
  have h0d := hb.1.2
  have h3 := hb.2.2.1.1
  have h1d := hb.2.2.1.2
  have h4 := hb.2.2.2.1.1
  have h27 := hb.2.2.2.1.2
  refine ⟨?_, ?_, ?_, ?_, fun t ht => ?_, fun t ht => ?_⟩
  · unfold Rb at hb ⊢
    simp (disch := omega) only [up_n]
    exact hb
  · exact (Rs_keep hS (fun s j => (by first | (simp (disch := omega) only [up_n, up_e]; done) | rfl)) (fun j h1 h2 h3 => (by first | (simp (disch := omega) only [up_n, up_e]; done) | rfl)) hs)
  · intro c hc
    by_cases e : c = b
    · subst e
      simp (disch := omega) only [up_n, up_e]
      exact ⟨(hk c hc).1, by rw [(hk c hc).2.1], (hk c hc).2.2⟩
    · simp (disch := omega) only [up_n]
      exact hk c hc
  · intro i hi
    simp (disch := omega) only [up_n]
    exact ho i hi
  · simp (disch := omega) only [up_n]
    exact hn t ht
  · exact Rt_cong (by omega) hS (fun j hj => (by simp (disch := omega) only [up_n])) (fun j hj => (by simp (disch := omega) only [up_n])) (fun k s hk hs => (by simp (disch := omega) only [up_n])) (fun j h1 h2 => (by simp (disch := omega) only [up_n])) (hts t ht)
theorem blk_2 {l S N O T B b : Nat} {C D : zx_Y} (hR : R l S N O T B C (D (26, 0, 0, 0))) (hb1 : b + 1 < S) : R l S N O T B (zx_up C (5, l, b, 0) 2 (C (5, l, b, 0) 2 + 1)) ((zx_up D (26, 0, 0, 0) (43 + b) (D (26, 0, 0, 0) (43 + b) + 1)) (26, 0, 0, 0)) := by
  have hR0 := hR
  obtain ⟨hb, hs, hk, ho, hn, hts⟩ := hR0
  obtain ⟨hS, hS1, hN, hO, hT⟩ := hb.2.2.2.2.2.1
  have h0 := hb.1.1
  have h0d := hb.1.2
  have h3 := hb.2.2.1.1
  have h1d := hb.2.2.1.2
  have h4 := hb.2.2.2.1.1
  have h27 := hb.2.2.2.1.2
  refine ⟨?_, ?_, ?_, ?_, fun t ht => ?_, fun t ht => ?_⟩
  · unfold Rb at hb ⊢
    simp (disch := omega) only [up_n]
    exact hb
  · exact (Rs_keep hS (fun s j => (by first | (simp (disch := omega) only [up_n, up_e]; done) | rfl)) (fun j h1 h2 h3 => (by first | (simp (disch := omega) only [up_n, up_e]; done) | rfl)) hs)
  · intro c hc
    by_cases e : c = b
    · subst e
      simp (disch := omega) only [up_n, up_e]
      exact ⟨(hk c hc).1, (hk c hc).2.1, by rw [(hk c hc).2.2]⟩
    · simp (disch := omega) only [up_n]
      exact hk c hc
  · intro i hi
    simp (disch := omega) only [up_n]
    exact ho i hi
  · simp (disch := omega) only [up_n]
    exact hn t ht
  · exact Rt_cong (by omega) hS (fun j hj => (by simp (disch := omega) only [up_n])) (fun j hj => (by simp (disch := omega) only [up_n])) (fun k s hk hs => (by simp (disch := omega) only [up_n])) (fun j h1 h2 => (by simp (disch := omega) only [up_n])) (hts t ht)
theorem came_1 {l S N O T B s : Nat} {C D : zx_Y} (hR : R l S N O T B C (D (26, 0, 0, 0))) (hs1 : s < S) : R l S N O T B (zx_up C (3, l, s, 0) 2 (C (3, l, s, 0) 2 + 1)) ((zx_up D (26, 0, 0, 0) (28 + s) (D (26, 0, 0, 0) (28 + s) + 1)) (26, 0, 0, 0)) := by
  have hR0 := hR
  obtain ⟨hb, hs, hk, ho, hn, hts⟩ := hR0
  obtain ⟨hS, hS1, hN, hO, hT⟩ := hb.2.2.2.2.2.1
  have h0 := hb.1.1
  have h0d := hb.1.2
  have h3 := hb.2.2.1.1
  have h1d := hb.2.2.1.2
  have h4 := hb.2.2.2.1.1
  have h27 := hb.2.2.2.1.2
  refine ⟨?_, ?_, ?_, ?_, fun t ht => ?_, fun t ht => ?_⟩
  · unfold Rb at hb ⊢
    simp (disch := omega) only [up_n]
    exact hb
  · intro c hc
    by_cases e : c = s
    · subst e
      simp (disch := omega) only [up_n, up_e]
      exact ⟨(hs c hc).1, fun q => ⟨((hs c hc).2 q).1, ((hs c hc).2 q).2.1, by rw [((hs c hc).2 q).2.2]⟩⟩
    · simp (disch := omega) only [up_n]
      exact hs c hc
  · exact (Rk_keep hS (fun s j => (by first | (simp (disch := omega) only [up_n, up_e]; done) | rfl)) (fun j h1 => (by first | (simp (disch := omega) only [up_n, up_e]; done) | rfl)) hk)
  · intro i hi
    simp (disch := omega) only [up_n]
    exact ho i hi
  · simp (disch := omega) only [up_n]
    exact hn t ht
  · exact Rt_cong (by omega) hS (fun j hj => (by simp (disch := omega) only [up_n])) (fun j hj => (by simp (disch := omega) only [up_n])) (fun k s hk hs => (by simp (disch := omega) only [up_n])) (fun j h1 h2 => (by simp (disch := omega) only [up_n])) (hts t ht)
theorem up_id {M : zx_Y} {h : zx_H} {j : Nat} {v : Int32} (e : v = M h j) : zx_up M h j v = M := by
  funext h' j'
  unfold zx_up
  by_cases q : j' = j ∧ h' = h
  · rw [if_pos q, q.1, q.2, e]
  · rw [if_neg q]
theorem up_same {M : zx_Y} {h : zx_H} {j : Nat} : zx_up M h j (M h j) = M := up_id rfl
theorem acc_step {l S N O T B : Nat} (kc kr : Int32 → zx_Y → Option zx_Y) (t : Nat) (C D : zx_Y) (ht : t < N) (hR : R l S N O T B C (D (26, 0, 0, 0))) : ∃ C' D', R l S N O T B C' (D' (26, 0, 0, 0)) ∧ (∀ j, 475 ≤ j → D' (26, 0, 0, 0) j = D (26, 0, 0, 0) j) ∧ (∀ q, lg_X2_countMinute_2 l kc (q + 1) (nI t) C = lg_X2_countMinute_2 l kc q (nI (t + 1)) C') ∧ (∀ q, lg_X11_account_2 kr (q + 1) (nI t) D = lg_X11_account_2 kr q (nI (t + 1)) D') := by
  have hR0 := hR
  obtain ⟨hb, hs, hk, ho, hn, hts⟩ := hR0
  obtain ⟨hS, hS1, hN, hO, hT⟩ := hb.2.2.2.2.2.1
  have h0 := hb.1.1
  have h0d := hb.1.2
  have h3 := hb.2.2.1.1
  have h1d := hb.2.2.1.2
  have h4 := hb.2.2.2.1.1
  have h27 := hb.2.2.2.1.2
  obtain ⟨f, g, e, r, hw, ⟨q1, q2, q2d, q3, q3d, q4, q5, q5d, q6, q6d, q7, q8, q9, q11, q14⟩, ⟨p0, p1, p2, p3⟩, ha, hord, hst⟩ := hts t ht
  have ht10 : t < 10 := by omega
  have e4 : ¬ C (1, l, 0, 0) 4 ≤ nI t := by rw [h4]; exact nI_ge ht (by omega)
  have e27 : ¬ D (26, 0, 0, 0) 27 ≤ nI t := by rw [h27]; exact nI_ge ht (by omega)
  rcases hst with ⟨a1, a2, a3, a4, a5⟩ | ⟨a1, a2, a3, p, a4, a5, a6⟩ | ⟨a1, p, u, d, a2, a3, a4, a5, a6, a7, a8, a9, a10⟩ | ⟨a1, a2, p, s0, u, w, a3, a4, a5, a6, a7, a8, a9, a10, a11⟩ | ⟨a1, a2, a3⟩
  · by_cases c : nI T < nI r
    · refine ⟨_, _, hR, (fun j hj => (by first | (simp (disch := omega) only [up_n]; done) | rfl)), fun q => ?_, fun q => ?_⟩
      · rw [lg_X2_countMinute_2.eq_2, if_neg e4, zi_n _ ht10 (by omega)]
        unfold g_X9_isCounted
        simp (disch := omega) [q1, a1, h0, q5, zb_some, nI_1, zi_0, zl_def, up_n, up_e, c]
      · rw [lg_X11_account_2.eq_2, if_neg e27]
        simp (disch := omega) [↓bat_0 ht10, ↓bat_4 ht10, ↓bat_11 ht10, ↓bat_13 ht10, ↓bat_14 ht10, ↓bat_15 ht10, ↓bat_16 ht10, ↓mset_13 ht10, ↓mset_14 ht10, ↓mset_15 ht10, ↓mset_16 ht10, a1, h0d, q5d, nI_1, up_n, c]
        try rw [up_same]
    · refine ⟨_, _, acc_0 hR ht, (fun j hj => (by first | (simp (disch := omega) only [up_n]; done) | rfl)), fun q => ?_, fun q => ?_⟩
      · rw [lg_X2_countMinute_2.eq_2, if_neg e4, zi_n _ ht10 (by omega)]
        unfold g_X9_isCounted
        simp (disch := omega) [q1, a1, h0, q5, zb_some, nI_1, zi_0, zl_def, up_n, up_e, c]
      · rw [lg_X11_account_2.eq_2, if_neg e27]
        simp (disch := omega) [↓bat_0 ht10, ↓bat_4 ht10, ↓bat_11 ht10, ↓bat_13 ht10, ↓bat_14 ht10, ↓bat_15 ht10, ↓bat_16 ht10, ↓mset_13 ht10, ↓mset_14 ht10, ↓mset_15 ht10, ↓mset_16 ht10, a1, h0d, q5d, nI_1, up_n, c]
  · have z1 : ∀ f : Nat → Option zx_Y, zi 1 4 f = f 1 := fun f => zi_1 f (by omega) (by omega)
    · refine ⟨_, _, acc_1 hR ht, (fun j hj => (by first | (simp (disch := omega) only [up_n]; done) | rfl)), fun q => ?_, fun q => ?_⟩
      · rw [lg_X2_countMinute_2.eq_2, if_neg e4, zi_n _ ht10 (by omega)]
        unfold g_X9_isCounted
        simp (disch := omega) [q1, a1, h0, q5, zb_some, nI_1, zi_0, zl_def, up_n, up_e, z1]
      · rw [lg_X11_account_2.eq_2, if_neg e27]
        simp (disch := omega) [↓bat_0 ht10, ↓bat_4 ht10, ↓bat_11 ht10, ↓bat_13 ht10, ↓bat_14 ht10, ↓bat_15 ht10, ↓bat_16 ht10, ↓mset_13 ht10, ↓mset_14 ht10, ↓mset_15 ht10, ↓mset_16 ht10, a1, h0d, q5d, nI_1, up_n]
  · have z1 : ∀ f : Nat → Option zx_Y, zi 2 4 f = f 2 := fun f => zi_n (k := 2) f (by omega) (by omega)
    obtain ⟨b1, b2, b3, b4, b5, b6⟩ := Wy_b a4 hw.1 hw.2.1
    have hb1 := hbl_1 (C := zx_up C (11, l, t, 0) 2 (C (11, l, t, 0) 2 + 1)) (l := l) (by simp (disch := omega) only [up_n]; exact h3) hS b2
    · refine ⟨_, _, blk_1 (acc_2 hR ht) b2, (fun j hj => (by first | (simp (disch := omega) only [up_n]; done) | rfl)), fun q => ?_, fun q => ?_⟩
      · rw [lg_X2_countMinute_2.eq_2, if_neg e4, zi_n _ ht10 (by omega)]
        unfold g_X9_isCounted
        simp (disch := omega) [q1, a1, h0, q5, zb_some, nI_1, zi_0, zl_def, up_n, up_e, z1, q9, a2, hb1, zi_n]
      · rw [lg_X11_account_2.eq_2, if_neg e27]
        simp (disch := omega) [↓bat_0 ht10, ↓bat_4 ht10, ↓bat_11 ht10, ↓bat_13 ht10, ↓bat_14 ht10, ↓bat_15 ht10, ↓bat_16 ht10, ↓mset_13 ht10, ↓mset_14 ht10, ↓mset_15 ht10, ↓mset_16 ht10, a1, h0d, q5d, nI_1, up_n, a2, show (36 : Int32) = nI 36 from rfl, nI_add, zi_n, zl_def]
  · have z1 : ∀ f : Nat → Option zx_Y, zi 3 4 f = f 3 := fun f => zi_n (k := 3) f (by omega) (by omega)
    · refine ⟨_, _, acc_3 hR ht, (fun j hj => (by first | (simp (disch := omega) only [up_n]; done) | rfl)), fun q => ?_, fun q => ?_⟩
      · rw [lg_X2_countMinute_2.eq_2, if_neg e4, zi_n _ ht10 (by omega)]
        unfold g_X9_isCounted
        simp (disch := omega) [q1, a1, h0, q5, zb_some, nI_1, zi_0, zl_def, up_n, up_e, z1]
      · rw [lg_X11_account_2.eq_2, if_neg e27]
        simp (disch := omega) [↓bat_0 ht10, ↓bat_4 ht10, ↓bat_11 ht10, ↓bat_13 ht10, ↓bat_14 ht10, ↓bat_15 ht10, ↓bat_16 ht10, ↓mset_13 ht10, ↓mset_14 ht10, ↓mset_15 ht10, ↓mset_16 ht10, a1, h0d, q5d, nI_1, up_n]
  · rcases a1 with a1 | a1
    · refine ⟨_, _, hR, (fun j hj => (by first | (simp (disch := omega) only [up_n]; done) | rfl)), fun q => ?_, fun q => ?_⟩
      · rw [lg_X2_countMinute_2.eq_2, if_neg e4, zi_n _ ht10 (by omega)]
        unfold g_X9_isCounted
        simp (disch := omega) [q1, a1, h0, q5, zb_some, nI_1, zi_0, zl_def, up_n, up_e]
      · rw [lg_X11_account_2.eq_2, if_neg e27]
        simp (disch := omega) [↓bat_0 ht10, ↓bat_4 ht10, ↓bat_11 ht10, ↓bat_13 ht10, ↓bat_14 ht10, ↓bat_15 ht10, ↓bat_16 ht10, ↓mset_13 ht10, ↓mset_14 ht10, ↓mset_15 ht10, ↓mset_16 ht10, a1, h0d, q5d, nI_1, up_n]
        try rw [up_same]
    · refine ⟨_, _, hR, (fun j hj => (by first | (simp (disch := omega) only [up_n]; done) | rfl)), fun q => ?_, fun q => ?_⟩
      · rw [lg_X2_countMinute_2.eq_2, if_neg e4, zi_n _ ht10 (by omega)]
        unfold g_X9_isCounted
        simp (disch := omega) [q1, a1, h0, q5, zb_some, nI_1, zi_0, zl_def, up_n, up_e]
      · rw [lg_X11_account_2.eq_2, if_neg e27]
        simp (disch := omega) [↓bat_0 ht10, ↓bat_4 ht10, ↓bat_11 ht10, ↓bat_13 ht10, ↓bat_14 ht10, ↓bat_15 ht10, ↓bat_16 ht10, ↓mset_13 ht10, ↓mset_14 ht10, ↓mset_15 ht10, ↓mset_16 ht10, a1, h0d, q5d, nI_1, up_n]
        try rw [up_same]
