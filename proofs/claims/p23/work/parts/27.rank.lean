theorem zc_b {j : Nat} (h : j < 6) (l : Nat) : zc (1, l, 0, 0) j ≠ 200 + l := by
  have e : Nat.beq j 11 = false := by
    cases q : Nat.beq j 11 with
    | false => rfl
    | true => exact absurd (Nat.eq_of_beq_eq_true q) (by omega)
  show (bif Nat.beq j 11 then 200 + l else 100 + l) ≠ 200 + l
  rw [e]
  show 100 + l ≠ 200 + l
  omega
theorem Lq_fr {l : Nat} {C C' : zx_Y} (hc : ∀ h j, zc h j ≠ 200 + l → C' h j = C h j) : Lq l l C' C :=
  ⟨fun j hj => hc _ _ (zc_b hj l), fun s j _ _ => hc _ _ (show 100 + l ≠ 200 + l by omega), fun s j _ _ => hc _ _ (show 100 + l ≠ 200 + l by omega), fun s j _ _ => hc _ _ (show 100 + l ≠ 200 + l by omega), fun s j _ _ => hc _ _ (show 100 + l ≠ 200 + l by omega), fun s j _ _ => hc _ _ (show 100 + l ≠ 200 + l by omega), fun s k j _ _ _ => hc _ _ (show 100 + l ≠ 200 + l by omega)⟩
theorem R_fr {l S N O T B : Nat} {C C' D D' : zx_Y} (hc : ∀ h j, zc h j ≠ 200 + l → C' h j = C h j) (hd : ∀ h j, zc h j ≠ 11 → zc h j ≠ 22 → D' h j = D h j) (h : R l S N O T B C (D (26, 0, 0, 0))) : R l S N O T B C' (D' (26, 0, 0, 0)) :=
  R_cong (Lq_fr hc) (fun j _ => hd (26, 0, 0, 0) j (by show (10 : Nat) ≠ 11; decide) (by show (10 : Nat) ≠ 22; decide)) h
theorem ins_loop {l S N O T B t n : Nat} {a : Nat → Nat} (ht : t < N) (hn : n < 10) (kc kr : Int32 → zx_Y → Option zx_Y) : ∀ (p q q' : Nat) (C D : zx_Y), R l S N O T B C (D (26, 0, 0, 0)) → D (26, 0, 0, 0) (75 + 40 * t) = 1 → (∀ i, i < n → a i < N ∧ D (26, 0, 0, 0) (75 + 40 * a i) = 1) → p ≤ n → p < q → p < q' →
    (∀ i, i < p → C (10, l, 0, 0) i = nI (a i) ∧ D (27, 0, 0, 0) i = nI (a i)) → (∀ i, p ≤ i → i < n → C (10, l, 0, 0) (i + 1) = nI (a i) ∧ D (27, 0, 0, 0) (i + 1) = nI (a i)) →
    ∃ (p' : Nat) (C' D' : zx_Y), p' ≤ n ∧ lg_X2_rank_36 l (nI t) kc q (nI p) C = kc (nI p') C' ∧ lg_X11_sortTrains_33 (nI t) kr q' (nI p) D = kr (nI p') D' ∧ (∀ h j, h ≠ (10, l, 0, 0) → C' h j = C h j) ∧ (∀ h j, h ≠ (27, 0, 0, 0) → D' h j = D h j) ∧
      (∀ i, i < p' → C' (10, l, 0, 0) i = nI (a i) ∧ D' (27, 0, 0, 0) i = nI (a i)) ∧ (∀ i, p' ≤ i → i < n → C' (10, l, 0, 0) (i + 1) = nI (a i) ∧ D' (27, 0, 0, 0) (i + 1) = nI (a i))
  | _, 0, _, _, _, _, _, _, _, h, _, _, _ => absurd h (by omega)
  | _, _ + 1, 0, _, _, _, _, _, _, _, h, _, _ => absurd h (by omega)
  | 0, q + 1, q' + 1, C, D, hR, h1, ha, hp, _, _, g1, g2 => by
    refine ⟨0, C, D, by omega, ?_, ?_, fun _ _ _ => rfl, fun _ _ _ => rfl, g1, g2⟩
    · rw [lg_X2_rank_36.eq_2, if_pos (by rw [nI_0]; decide)]
    · rw [lg_X11_sortTrains_33.eq_2, if_pos (by rw [nI_0]; decide)]
  | p + 1, q + 1, q' + 1, C, D, hR, h1, ha, hp, _, _, g1, g2 => by
    have hN := hR.1.2.2.2.2.2.1
    obtain ⟨e1, e2⟩ := g1 p (by omega)
    obtain ⟨a1, a2⟩ := ha p (by omega)
    obtain ⟨b, hb, i1, i2⟩ := ah_pair hR ht a1 h1 a2
    rw [lg_X2_rank_36.eq_2, lg_X11_sortTrains_33.eq_2]
    rw [if_neg (nI_nle (by omega) (by omega)), if_neg (nI_nle (by omega) (by omega))]
    simp (disch := omega) only [nI_pred, zi_n, e1, e2, i1, i2, zb_some, pk_m1, zl_def]
    rcases hb with rfl | rfl
    · refine ⟨p + 1, C, D, by omega, by rw [if_pos rfl], by rw [if_pos rfl], fun _ _ _ => rfl, fun _ _ _ => rfl, g1, g2⟩
    · rw [if_neg (by decide), if_neg (by decide)]
      have fc : ∀ h j, h ≠ (10, l, 0, 0) → zx_up C (10, l, 0, 0) (p + 1) (nI (a p)) h j = C h j := fun h j q => zx_up_h _ _ _ _ q
      have fd : ∀ h j, h ≠ (27, 0, 0, 0) → zx_up D (27, 0, 0, 0) (p + 1) (nI (a p)) h j = D h j := fun h j q => zx_up_h _ _ _ _ q
      have e26 : ∀ j, zx_up D (27, 0, 0, 0) (p + 1) (nI (a p)) (26, 0, 0, 0) j = D (26, 0, 0, 0) j := fun j => fd _ _ (by simp)
      obtain ⟨p', C', D', r0, r1, r2, r3, r4, r5, r6⟩ := ins_loop ht hn kc kr p q q' (zx_up C (10, l, 0, 0) (p + 1) (nI (a p))) (zx_up D (27, 0, 0, 0) (p + 1) (nI (a p))) (R_fr (fun h j q => fc h j (fun e => q (by rw [e]; rfl))) (fun h j q _ => fd h j (fun e => q (by rw [e]; rfl))) hR) (by rw [e26]; exact h1) (fun i hi => by rw [e26]; exact ha i hi) (by omega) (by omega) (by omega)
        (fun i hi => by simp (disch := omega) only [up_n]; exact g1 i (by omega))
        (fun i hi hi2 => by
          by_cases c : i = p
          · subst c
            simp (disch := omega) only [up_e]
            exact ⟨trivial, trivial⟩
          · simp (disch := omega) only [up_n]
            exact g2 i (by omega) hi2)
      exact ⟨p', C', D', r0, r1, r2, fun h j q => (r3 h j q).trans (fc h j q), fun h j q => (r4 h j q).trans (fd h j q), r5, r6⟩
theorem rank_loop {l S N O T B : Nat} : ∀ (k t q q' n : Nat) (a : Nat → Nat) (C D : zx_Y), t + k = N → k < q → k < q' → R l S N O T B C (D (26, 0, 0, 0)) → n ≤ t → C (1, l, 0, 0) 11 = nI n → D (25, 0, 0, 0) 2 = nI n →
    (∀ i, i < n → a i < t ∧ D (26, 0, 0, 0) (75 + 40 * a i) = 1 ∧ C (10, l, 0, 0) i = nI (a i) ∧ D (27, 0, 0, 0) i = nI (a i)) → (∀ i j, i < j → j < n → a i ≠ a j) →
    ∃ (n' : Nat) (a' : Nat → Nat) (C' D' : zx_Y), n' ≤ N ∧ lg_X2_rank_7 l (fun _ M => some M) q (nI t) C = some C' ∧ lg_X11_sortTrains_7 (fun _ M => some M) q' (nI t) D = some D' ∧ (∀ h j, zc h j ≠ 200 + l → C' h j = C h j) ∧ (∀ h j, zc h j ≠ 11 → zc h j ≠ 22 → D' h j = D h j) ∧ C' (1, l, 0, 0) 11 = nI n' ∧ D' (25, 0, 0, 0) 2 = nI n' ∧
      (∀ i, i < n' → a' i < N ∧ D (26, 0, 0, 0) (75 + 40 * a' i) = 1 ∧ C' (10, l, 0, 0) i = nI (a' i) ∧ D' (27, 0, 0, 0) i = nI (a' i)) ∧ (∀ i j, i < j → j < n' → a' i ≠ a' j)
  | _, _, 0, _, _, _, _, _, _, h, _, _, _, _, _, _, _ => absurd h (by omega)
  | _, _, _ + 1, 0, _, _, _, _, _, _, h, _, _, _, _, _, _ => absurd h (by omega)
  | 0, t, q + 1, q' + 1, n, a, C, D, e, _, _, hR, hn, c11, d2, g1, g2 => by
    have hN := hR.1.2.2.2.2.2.1
    refine ⟨n, a, C, D, by omega, ?_, ?_, fun _ _ _ => rfl, fun _ _ _ _ => rfl, c11, d2, fun i hi => ⟨by have := (g1 i hi).1; omega, (g1 i hi).2⟩, g2⟩
    · rw [lg_X2_rank_7.eq_2, hR.1.2.2.2.1.1, if_pos (nI_le (by omega) (by omega))]
    · rw [lg_X11_sortTrains_7.eq_2, hR.1.2.2.2.1.2, if_pos (nI_le (by omega) (by omega))]
  | k + 1, t, q + 1, q' + 1, n, a, C, D, e, _, _, hR, hn, c11, d2, g1, g2 => by
    have hN := hR.1.2.2.2.2.2.1
    obtain ⟨f, g, e', r, hw, ⟨q1, -⟩, -⟩ := hR.2.2.2.2.2 t (by omega)
    rw [lg_X2_rank_7.eq_2, lg_X11_sortTrains_7.eq_2, hR.1.2.2.2.1.1, hR.1.2.2.2.1.2, if_neg (nI_ge (by omega) (by omega)), if_neg (nI_ge (by omega) (by omega)), zi_n _ (by omega) (by omega), at_0 (by omega), zb_some, q1, c11, d2, nI_1]
    by_cases c : D (26, 0, 0, 0) (75 + 40 * t) = 1
    · rw [if_pos c, if_pos c]
      obtain ⟨p', C', D', r0, r1, r2, r3, r4, r5, r6⟩ := ins_loop (a := a) (n := n) (show t < N by omega) (by omega)
        (fun v1 M1 => zi v1 10 fun k2 => zl (zx_up M1 (10, l, 0, 0) k2 (nI t)) fun M2 => zl (zx_up M2 (1, l, 0, 0) 11 (M2 (1, l, 0, 0) 11 + 1)) fun M3 => lg_X2_rank_7 l (fun _ M => some M) q (nI (t + 1)) M3)
        (fun v2 M1 => zi v2 10 fun k1 => zl (zx_up M1 (27, 0, 0, 0) k1 (nI t)) fun M2 => zl (zx_up M2 (25, 0, 0, 0) 2 (M2 (25, 0, 0, 0) 2 + 1)) fun M3 => lg_X11_sortTrains_7 (fun _ M => some M) q' (nI (t + 1)) M3)
        n 1000 1000 C D hR c (fun i hi => ⟨by have := (g1 i hi).1; omega, (g1 i hi).2.1⟩) (Nat.le_refl _) (by omega) (by omega) (fun i hi => (g1 i hi).2.2) (fun i hi hi2 => absurd hi (by omega))
      rw [r1, r2]
      simp (disch := omega) only [zi_n, zl_def, up_n]
      have k11 : C' (1, l, 0, 0) 11 = C (1, l, 0, 0) 11 := r3 _ _ (by simp)
      have k2 : D' (25, 0, 0, 0) 2 = D (25, 0, 0, 0) 2 := r4 _ _ (by simp)
      rw [k11, k2, c11, d2, nI_1]
      have fc : ∀ h j, zc h j ≠ 200 + l → zx_up (zx_up C' (10, l, 0, 0) p' (nI t)) (1, l, 0, 0) 11 (nI (n + 1)) h j = C h j := fun h j q => by
        have e1 : h ≠ (10, l, 0, 0) := fun e => q (by rw [e]; rfl)
        have e2 : ¬ (j = 11 ∧ h = (1, l, 0, 0)) := fun e => q (by rw [e.1, e.2]; rfl)
        rw [show zx_up (zx_up C' (10, l, 0, 0) p' (nI t)) (1, l, 0, 0) 11 (nI (n + 1)) h j = zx_up C' (10, l, 0, 0) p' (nI t) h j from if_neg e2, zx_up_h _ _ _ _ e1]
        exact r3 h j e1
      have fd : ∀ h j, zc h j ≠ 11 → zc h j ≠ 22 → zx_up (zx_up D' (27, 0, 0, 0) p' (nI t)) (25, 0, 0, 0) 2 (nI (n + 1)) h j = D h j := fun h j q q2 => by
        have e1 : h ≠ (27, 0, 0, 0) := fun e => q (by rw [e]; rfl)
        have e2 : ¬ (j = 2 ∧ h = (25, 0, 0, 0)) := fun e => q2 (by rw [e.1, e.2]; rfl)
        rw [show zx_up (zx_up D' (27, 0, 0, 0) p' (nI t)) (25, 0, 0, 0) 2 (nI (n + 1)) h j = zx_up D' (27, 0, 0, 0) p' (nI t) h j from if_neg e2, zx_up_h _ _ _ _ e1]
        exact r4 h j e1
      have e26 : ∀ j, zx_up (zx_up D' (27, 0, 0, 0) p' (nI t)) (25, 0, 0, 0) 2 (nI (n + 1)) (26, 0, 0, 0) j = D (26, 0, 0, 0) j := fun j => fd _ _ (by show (10 : Nat) ≠ 11; decide) (by show (10 : Nat) ≠ 22; decide)
      obtain ⟨n', a', C'', D'', s0, s1, s2, s3, s4, s5, s6, s7, s8⟩ := rank_loop k (t + 1) q q' (n + 1) (fun i => if i < p' then a i else if i = p' then t else a (i - 1)) (zx_up (zx_up C' (10, l, 0, 0) p' (nI t)) (1, l, 0, 0) 11 (nI (n + 1))) (zx_up (zx_up D' (27, 0, 0, 0) p' (nI t)) (25, 0, 0, 0) 2 (nI (n + 1))) (by omega) (by omega) (by omega) (R_fr fc fd hR) (by omega) (by simp (disch := omega) only [up_e]) (by simp (disch := omega) only [up_e])
        (fun i hi => by
          simp (disch := omega) only [up_n]
          rcases Nat.lt_trichotomy i p' with c1 | c1 | c1
          · simp (disch := omega) only [up_n, if_pos c1]
            have := g1 i (by omega)
            have := r5 i c1
            exact ⟨by omega, by rw [r4 _ _ (by simp)]; exact (g1 i (by omega)).2.1, this.1, this.2⟩
          · subst c1
            simp (disch := omega) only [up_e, if_neg (Nat.lt_irrefl i), if_true]
            exact ⟨by omega, by rw [r4 _ _ (by simp)]; exact c, trivial, trivial⟩
          · have z := r6 (i - 1) (by omega) (by omega)
            rw [show i - 1 + 1 = i by omega] at z
            simp (disch := omega) only [up_n, if_neg (show ¬ i < p' by omega), if_neg (show ¬ i = p' by omega)]
            have z1 := g1 (i - 1) (by omega)
            exact ⟨by omega, by rw [r4 _ _ (by simp)]; exact z1.2.1, z.1, z.2⟩)
        (fun i j hij hj => by
          have z1 : ∀ i, i < n → a i ≠ t := fun i hi => by have := (g1 i hi).1; omega
          have w1 := g2 i j hij
          have w2 := g2 i (j - 1)
          have w3 := g2 (i - 1) (j - 1)
          have y1 := z1 i
          have y2 := z1 (j - 1)
          have y3 := z1 (i - 1)
          split <;> split <;> (try split) <;> (try split) <;> omega)
      exact ⟨n', a', C'', D'', s0, s1, s2, fun h j q => (s3 h j q).trans (fc h j q), fun h j q q2 => (s4 h j q q2).trans (fd h j q q2), s5, s6, fun i hi => by have z := s7 i hi; rw [e26] at z; exact z, s8⟩
    · rw [if_neg c, if_neg c]
      exact rank_loop k (t + 1) q q' n a C D (by omega) (by omega) (by omega) hR (by omega) c11 d2 (fun i hi => ⟨by have := (g1 i hi).1; omega, (g1 i hi).2⟩) g2
theorem rank_pair {l S N O T B : Nat} {C D : zx_Y} (hR : R l S N O T B C (D (26, 0, 0, 0))) : ∃ (n' : Nat) (a' : Nat → Nat) (C' D' : zx_Y), n' ≤ N ∧ g_X2_rank C l = some C' ∧ g_X11_sortTrains D = some D' ∧ (∀ h j, zc h j ≠ 200 + l → C' h j = C h j) ∧ (∀ h j, zc h j ≠ 11 → zc h j ≠ 22 → D' h j = D h j) ∧ C' (1, l, 0, 0) 11 = nI n' ∧ D' (25, 0, 0, 0) 2 = nI n' ∧
      (∀ i, i < n' → a' i < N ∧ D (26, 0, 0, 0) (75 + 40 * a' i) = 1 ∧ C' (10, l, 0, 0) i = nI (a' i) ∧ D' (27, 0, 0, 0) i = nI (a' i)) ∧ (∀ i j, i < j → j < n' → a' i ≠ a' j) := by
  have hN := hR.1.2.2.2.2.2.1
  have fc : ∀ h j, zc h j ≠ 200 + l → zx_up C (1, l, 0, 0) 11 0 h j = C h j := fun h j q => if_neg fun e => q (by rw [e.1, e.2]; rfl)
  have fd : ∀ h j, zc h j ≠ 11 → zc h j ≠ 22 → zx_up D (25, 0, 0, 0) 2 0 h j = D h j := fun h j _ q => if_neg fun e => q (by rw [e.1, e.2]; rfl)
  have e26 : ∀ j, zx_up D (25, 0, 0, 0) 2 0 (26, 0, 0, 0) j = D (26, 0, 0, 0) j := fun j => fd _ _ (by show (10 : Nat) ≠ 11; decide) (by show (10 : Nat) ≠ 22; decide)
  obtain ⟨n', a', C'', D'', s0, s1, s2, s3, s4, s5, s6, s7, s8⟩ := rank_loop N 0 1000 1000 0 (fun _ => 0) (zx_up C (1, l, 0, 0) 11 0) (zx_up D (25, 0, 0, 0) 2 0) (by omega) (by omega) (by omega) (R_fr fc fd hR) (by omega) (by rw [up_e (by omega), nI_0]) (by rw [up_e (by omega), nI_0]) (fun i hi => absurd hi (by omega)) (fun i j _ hj => absurd hj (by omega))
  rw [nI_0] at s1 s2
  have t1 : g_X2_rank C l = some C'' := by
    unfold g_X2_rank
    rw [zl_def]
    exact s1
  have t2 : g_X11_sortTrains D = some D'' := by
    unfold g_X11_sortTrains
    rw [zl_def]
    exact s2
  refine ⟨n', a', C'', D'', s0, t1, t2, fun h j q => (s3 h j q).trans (fc h j q), fun h j q q2 => (s4 h j q q2).trans (fd h j q q2), s5, s6, fun i hi => ?_, s8⟩
  have z := s7 i hi
  rw [e26] at z
  exact z
