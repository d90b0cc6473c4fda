theorem up_1 {D : zx_Y} {t f g : Nat} (ht : t < 10) (hf : f < 8) (hg : g < 8) (h1 : D (26, 0, 0, 0) (75 + 40 * t + 1) = nI f) (h2 : D (26, 0, 0, 0) (75 + 40 * t + 2) = nI g) : g_X11_isUp D (nI t) = some (if f < g then 1 else 0) := by
  unfold g_X11_isUp
  rw [at_2 ht, zb_some, at_1 ht, zb_some, h1, h2]
  by_cases h : f < g
  · rw [if_neg (nI_ge h (by omega)), if_pos h]
  · rw [if_pos (nI_le (by omega) (by omega)), if_neg h]
theorem goal_1 {D : zx_Y} {t f g p : Nat} (ht : t < 10) (hf : f < 8) (hg : g < 8) (h1 : D (26, 0, 0, 0) (75 + 40 * t + 1) = nI f) (h2 : D (26, 0, 0, 0) (75 + 40 * t + 2) = nI g) (h11 : D (26, 0, 0, 0) (75 + 40 * t + 11) = nI (bk f g p)) : g_X11_goal D (nI t) = some (nI (nx f g p)) := by
  unfold g_X11_goal
  rw [up_1 ht hf hg h1 h2, zb_some]
  unfold nx bk at *
  by_cases h : f < g
  · simp [h, at_11 ht, h11, zb_some, nI_1]
  · simp [h, at_11 ht, h11, zb_some]
theorem ins_1 {D : zx_Y} {t : Nat} {x : Int32} (ht : t < 10) : g_X11_isInStation D (nI t) x = some (if (D (26, 0, 0, 0) (75 + 40 * t) = 1 ∨ D (26, 0, 0, 0) (75 + 40 * t) = 3) ∧ D (26, 0, 0, 0) (75 + 40 * t + 11) = x then 1 else 0) := by
  unfold g_X11_isInStation
  simp only [at_0 ht, at_11 ht, zb_some]
  grind
theorem tk_step {l S N O T B : Nat} {C D : zx_Y} (hR : R l S N O T B C (D (26, 0, 0, 0))) {t : Nat} (ht : t < N) (x : Int32) : ∃ b : Int32, (b = 0 ∨ b = 1) ∧ g_X9_takesTrackOf C l t x = some b ∧ ∀ kk q w, lg_X11_taken_4 D x kk (q + 1) w (nI t) = lg_X11_taken_4 D x kk q (w + b) (nI t + 1) := by
  obtain ⟨hb, -, -, -, -, hts⟩ := hR
  have hN : N ≤ 10 := hb.2.2.2.2.2.1.2.2.1
  have hS : S ≤ 8 := hb.2.2.2.2.2.1.1
  have h27 := hb.2.2.2.1.2
  obtain ⟨f, g, e, r, hw, ⟨q1, q2, q2d, q3, q3d, q4, q5, q5d, q6, q6d, q7, q8, q9, q11, q14⟩, -, -, -, hst⟩ := hts t ht
  have ht10 : t < 10 := by omega
  have e27 : ¬ D (26, 0, 0, 0) 27 ≤ nI t := by rw [h27]; exact nI_ge ht (by omega)
  unfold g_X9_takesTrackOf
  rw [q1, q9]
  rcases hst with ⟨a1, a2, a3, a4, a5⟩ | ⟨a1, a2, a3, p, a4, a5, a6⟩ | ⟨a1, p, u, d, a2, a3, a4, a5, a6, a7, a8, a9, a10⟩ | ⟨a1, a2, p, s0, u, w, a3, a4, a5, a6, a7, a8, a9, a10, a11⟩ | ⟨a1, a2, a3⟩
  · refine ⟨0, Or.inl rfl, by simp [a1], fun kk q w => ?_⟩
    rw [lg_X11_taken_4.eq_2, if_neg e27]
    simp [at_0 ht10, ins_1 ht10, zb_some, a1]
  · refine ⟨if D (26, 0, 0, 0) (75 + 40 * t + 11) = x then 1 else 0, by grind, by simp [a1]; grind, fun kk q w => ?_⟩
    rw [lg_X11_taken_4.eq_2, if_neg e27]
    simp [at_0 ht10, ins_1 ht10, zb_some, a1]
    grind
  · have hg := goal_1 ht10 (by omega) (by omega) q2d q3d a2
    refine ⟨if nI (nx f g p) = x ∧ ¬ nI g = x then 1 else 0, by grind, by simp [a1, a3, q3]; grind, fun kk q w => ?_⟩
    rw [lg_X11_taken_4.eq_2, if_neg e27]
    simp [at_0 ht10, at_2 ht10, ins_1 ht10, zb_some, a1, hg, q3d]
    grind
  · refine ⟨if D (26, 0, 0, 0) (75 + 40 * t + 11) = x then 1 else 0, by grind, by simp [a1]; grind, fun kk q w => ?_⟩
    rw [lg_X11_taken_4.eq_2, if_neg e27]
    simp [at_0 ht10, ins_1 ht10, zb_some, a1]
    grind
  · refine ⟨0, Or.inl rfl, by rcases a1 with a1 | a1 <;> simp [a1], fun kk q w => ?_⟩
    rw [lg_X11_taken_4.eq_2, if_neg e27]
    rcases a1 with a1 | a1 <;> simp [at_0 ht10, ins_1 ht10, zb_some, a1]
theorem tk_loop {l S N O T B : Nat} {C D : zx_Y} (hR : R l S N O T B C (D (26, 0, 0, 0))) (x : Int32) (kc kr : Int32 → Int32 → Option Int32) : ∀ (k t q q' : Nat) (w : Int32), t + k = N → k < q → k < q' → ∃ v, lg_X2_takenTracks_4 C l x kc q w (nI t) = kc v (nI N) ∧ lg_X11_taken_4 D x kr q' w (nI t) = kr v (nI N)
  | 0, t, 0, _, _, _, h, _ => absurd h (by omega)
  | 0, t, _ + 1, 0, _, _, _, h => absurd h (by omega)
  | 0, t, q + 1, q' + 1, w, e, _, _ => by
    have e : t = N := by omega
    subst e
    refine ⟨w, ?_, ?_⟩
    · rw [lg_X2_takenTracks_4.eq_2, hR.1.2.2.2.1.1, if_pos (nI_le (by omega) (by have := hR.1.2.2.2.2.2.1; omega))]
    · rw [lg_X11_taken_4.eq_2, hR.1.2.2.2.1.2, if_pos (nI_le (by omega) (by have := hR.1.2.2.2.2.2.1; omega))]
  | k + 1, t, 0, _, _, _, h, _ => absurd h (by omega)
  | k + 1, t, _ + 1, 0, _, _, _, h => absurd h (by omega)
  | k + 1, t, q + 1, q' + 1, w, e, h1, h2 => by
    have hN := hR.1.2.2.2.2.2.1
    obtain ⟨b, hb, e1, e2⟩ := tk_step hR (t := t) (by omega) x
    rw [e2, lg_X2_takenTracks_4.eq_2, hR.1.2.2.2.1.1, if_neg (nI_ge (by omega) (by omega)), zi_n _ (by omega) (by omega), e1, zb_some, nI_1]
    obtain ⟨v, g1, g2⟩ := tk_loop hR x kc kr k (t + 1) q q' (w + b) (by omega) (by omega) (by omega)
    refine ⟨v, ?_, g2⟩
    rcases hb with rfl | rfl
    · rw [if_pos rfl, ← g1, Int32.add_zero]
    · rw [if_neg (by decide), ← g1]
theorem tk_pair {l S N O T B : Nat} {C D : zx_Y} (hR : R l S N O T B C (D (26, 0, 0, 0))) (x : Int32) : ∃ v, g_X2_takenTracks C l x = some v ∧ g_X11_taken D x = some v := by
  have hN := hR.1.2.2.2.2.2.1
  exact tk_loop hR x _ _ N 0 1000 1000 0 (by omega) (by omega) (by omega)
theorem free_pair {l S N O T B : Nat} {C D : zx_Y} (hR : R l S N O T B C (D (26, 0, 0, 0))) {s : Nat} (hs : s < S) : ∃ b : Int32, (b = 0 ∨ b = 1) ∧ g_X2_hasFreeTrack C l (nI s) = some b ∧ g_X11_hasTrack D (nI s) = some b := by
  obtain ⟨v, e1, e2⟩ := tk_pair hR (nI s)
  have hS : S ≤ 8 := hR.1.2.2.2.2.2.1.1
  have h0 := ((hR.2.1 s (by omega)).2 hs).1
  unfold g_X2_hasFreeTrack g_X11_hasTrack
  rw [e1, e2, hst_1 hR.1.2.2.1.1 hS hs]
  simp only [zb_some, show (9 : Int32) = nI 9 from rfl, nI_add]
  rw [zi_n _ (show s < 8 by omega) (by omega), zi_n _ (show 9 + s < 640 by omega) (by omega), h0]
  refine ⟨if D (26, 0, 0, 0) (9 + s) ≤ v then 0 else 1, by grind, by grind, by grind⟩
theorem occ_loop {l S N O T B : Nat} {C D : zx_Y} (hR : R l S N O T B C (D (26, 0, 0, 0))) (x : Int32) : ∀ (k t q q' : Nat), t + k = N → k < q → k < q' → ∃ v, (v = -5 ∨ ∃ u, u < N ∧ v = nI u) ∧ lg_X2_occupant_2 C l x (fun _ => some (-5)) q (nI t) = some v ∧ lg_X11_trainIn_2 D x (fun _ => some (-5)) q' (nI t) = some v
  | 0, t, 0, _, _, h, _ => absurd h (by omega)
  | 0, t, _ + 1, 0, _, _, h => absurd h (by omega)
  | 0, t, q + 1, q' + 1, e, _, _ => by
    have e : t = N := by omega
    subst e
    refine ⟨-5, Or.inl rfl, ?_, ?_⟩
    · rw [lg_X2_occupant_2.eq_2, hR.1.2.2.2.1.1, if_pos (nI_le (by omega) (by have := hR.1.2.2.2.2.2.1; omega))]
    · rw [lg_X11_trainIn_2.eq_2, hR.1.2.2.2.1.2, if_pos (nI_le (by omega) (by have := hR.1.2.2.2.2.2.1; omega))]
  | k + 1, t, 0, _, _, h, _ => absurd h (by omega)
  | k + 1, t, _ + 1, 0, _, _, h => absurd h (by omega)
  | k + 1, t, q + 1, q' + 1, e, h1, h2 => by
    have hN := hR.1.2.2.2.2.2.1
    obtain ⟨v, hv, g1, g2⟩ := occ_loop hR x k (t + 1) q q' (by omega) (by omega) (by omega)
    obtain ⟨f, g, e', r, hw, ⟨q1, q2, q2d, q3, q3d, q4, q5, q5d, q6, q6d, q7, q8, q9, q11, q14⟩, -⟩ := hR.2.2.2.2.2 t (by omega)
    rw [lg_X2_occupant_2.eq_2, hR.1.2.2.2.1.1, if_neg (nI_ge (by omega) (by omega)), zi_n _ (by omega) (by omega), zi_n _ (by omega) (by omega), q1, q9, nI_1, g1]
    rw [lg_X11_trainIn_2.eq_2, hR.1.2.2.2.1.2, if_neg (nI_ge (by omega) (by omega)), at_0 (by omega), at_11 (by omega), zb_some, zb_some, nI_1, g2]
    by_cases c1 : D (26, 0, 0, 0) (75 + 40 * t) = 2 ∧ D (26, 0, 0, 0) (75 + 40 * t + 11) = x
    · exact ⟨nI t, Or.inr ⟨t, by omega, rfl⟩, by rw [if_pos c1.1, if_pos c1.2], by rw [if_pos c1.1, if_pos c1.2]⟩
    · exact ⟨v, hv, by grind, by grind⟩
theorem occ_pair {l S N O T B : Nat} {C D : zx_Y} (hR : R l S N O T B C (D (26, 0, 0, 0))) (x : Int32) : ∃ v, (v = -5 ∨ ∃ u, u < N ∧ v = nI u) ∧ g_X2_occupant C l x = some v ∧ g_X11_trainIn D x = some v := by
  have hN := hR.1.2.2.2.2.2.1
  exact occ_loop hR x N 0 1000 1000 (by omega) (by omega) (by omega)
theorem slow_loop {l S N O T B : Nat} {C D : zx_Y} (hR : R l S N O T B C (D (26, 0, 0, 0))) (x : Int32) : ∀ (k t q q' a : Nat), t + k = O → k < q → k < q' → a ≤ 9999 * t → ∃ v, v ≤ 9999 * O ∧ lg_X2_slowMinutes_4 C l x (fun v1 _ => some v1) q (nI a) (nI t) = some (nI v) ∧ lg_X11_slowness_4 D x (fun v1 _ => some v1) q' (nI a) (nI t) = some (nI v)
  | 0, t, 0, _, _, _, h, _, _ => absurd h (by omega)
  | 0, t, _ + 1, 0, _, _, _, h, _ => absurd h (by omega)
  | 0, t, q + 1, q' + 1, a, e, _, _, ha => by
    have e : t = O := by omega
    subst e
    refine ⟨a, ha, ?_, ?_⟩
    · rw [lg_X2_slowMinutes_4.eq_2, hR.1.2.2.2.2.1.1, if_pos (nI_le (by omega) (by have := hR.1.2.2.2.2.2.1; omega))]
    · rw [lg_X11_slowness_4.eq_2, hR.1.2.2.2.2.1.2, if_pos (nI_le (by omega) (by have := hR.1.2.2.2.2.2.1; omega))]
  | k + 1, t, 0, _, _, _, h, _, _ => absurd h (by omega)
  | k + 1, t, _ + 1, 0, _, _, _, h, _ => absurd h (by omega)
  | k + 1, t, q + 1, q' + 1, a, e, h1, h2, ha => by
    have hN := hR.1.2.2.2.2.2.1
    obtain ⟨o0, ⟨w, hw, o1, o1d⟩, o2, o3⟩ := hR.2.2.2.1 t (by omega)
    rw [lg_X2_slowMinutes_4.eq_2, hR.1.2.2.2.2.1.1, if_neg (nI_ge (by omega) (by omega)), zi_n _ (by omega) (by omega), hR.1.1.1, o0, o1, o2, o3, nI_1, nI_add]
    rw [lg_X11_slowness_4.eq_2, hR.1.2.2.2.2.1.2, if_neg (nI_ge (by omega) (by omega))]
    simp only [show (51 : Int32) = nI 51 from rfl, show (4 : Int32) = nI 4 from rfl, show (2 : Int32) = nI 2 from rfl, show (3 : Int32) = nI 3 from rfl, nI_1, pk_mul, nI_add]
    simp (disch := omega) only [zi_n, hR.1.1.2, o1d, nI_add]
    by_cases c1 : D (26, 0, 0, 0) (51 + 4 * t) = x ∧ ¬ nI T < D (26, 0, 0, 0) (51 + 4 * t + 2) ∧ ¬ D (26, 0, 0, 0) (51 + 4 * t + 3) ≤ nI T
    · obtain ⟨v, hv, g1, g2⟩ := slow_loop hR x k (t + 1) q q' (a + w) (by omega) (by omega) (by omega) (by omega)
      exact ⟨v, hv, by grind, by grind⟩
    · obtain ⟨v, hv, g1, g2⟩ := slow_loop hR x k (t + 1) q q' a (by omega) (by omega) (by omega) (by omega)
      have e0 : nI a + 0 = nI a := Int32.add_zero _
      exact ⟨v, hv, by grind, by grind⟩
theorem slow_pair {l S N O T B : Nat} {C D : zx_Y} (hR : R l S N O T B C (D (26, 0, 0, 0))) (x : Int32) : ∃ v, v ≤ 59994 ∧ g_X2_slowMinutes C l x = some (nI v) ∧ g_X11_slowness D x = some (nI v) := by
  have hN := hR.1.2.2.2.2.2.1
  obtain ⟨v, hv, h⟩ := slow_loop hR x O 0 1000 1000 0 (by omega) (by omega) (by omega) (by omega)
  exact ⟨v, by omega, h⟩
