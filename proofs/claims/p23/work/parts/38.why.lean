section QV
variable {S N O T B : Nat} {C D : zx_Y}
theorem riv_loop {l n t : Nat} {a : Nat → Nat} (hR : R l S N O T B C (D (26, 0, 0, 0))) (ht : t < N) (hn : n ≤ 10) (h11 : C (1, l, 0, 0) 11 = nI n) (hl : ∀ j, j < n → a j < N ∧ D (26, 0, 0, 0) (75 + 40 * a j) = 1 ∧ C (10, l, 0, 0) j = nI (a j)) (h1 : D (26, 0, 0, 0) (75 + 40 * t) = 1) : ∀ (k i q : Nat), i + k = n → k < q → ∃ v, lg_X2_rivalOf_6 C l t (fun v1 => (some ((-5), C))) q (nI i) = some (v, C) := by
  obtain ⟨hS, hN, -⟩ := RN hR
  intro k
  induction k with
  | zero =>
    intro i q e h
    obtain ⟨q, rfl⟩ : ∃ q', q = q' + 1 := ⟨q - 1, by omega⟩
    have e : i = n := by omega
    subst e
    exact ⟨-5, by rw [lg_X2_rivalOf_6.eq_2, h11, if_pos (nI_le (Nat.le_refl _) (by omega))]⟩
  | succ k ih =>
    intro i q e h
    obtain ⟨q, rfl⟩ : ∃ q', q = q' + 1 := ⟨q - 1, by omega⟩
    obtain ⟨g1, g2, g3⟩ := hl i (by omega)
    obtain ⟨v, ihv⟩ := ih (i + 1) q (by omega) (by omega)
    obtain ⟨f', g', p', w, oc, fr', ov, wf, wg, wfg, wy, w2, w3, w1d, w2d, w9, w11, hw12, hoc, hfr', n1, n2, n3, n4, o1, o2, y1, y2, m1, m2, v1, v2, w7, ob, wfr, may⟩ := way_pair hR ht h1
    have n2' := n2
    obtain ⟨f', g', p', w, oc, fr', ov, wf, wg, wfg, wy, w2, w3, w1d, w2d, w9, w11, hw12, hoc, hfr', n1, n2, n3, n4, o1, o2, y1, y2, m1, m2, v1, v2, w7, ob, wfr, may⟩ := way_pair hR g1 g2
    rw [lg_X2_rivalOf_6.eq_2, h11, if_neg (nI_ge (by omega) (by omega)), zi_n _ (by omega) (by omega), g3, zi_n _ (by omega) (by omega), n2, n2', ob, nI_1, ihv]
    simp only [zb_some]
    (repeat' split) <;> exact ⟨_, rfl⟩
theorem riv_def {l t : Nat} (hR : R l S N O T B C (D (26, 0, 0, 0))) (ht : t < N) (h1 : D (26, 0, 0, 0) (75 + 40 * t) = 1) : ∃ v C', g_X2_rivalOf C l t = some (v, C') ∧ R l S N O T B C' (D (26, 0, 0, 0)) := by
  obtain ⟨hS, hN, -⟩ := RN hR
  obtain ⟨n, a, C', D', r1, r2, r3, r4, r5, r6, r7, r8, r9⟩ := rank_pair hR
  have hR' : R l S N O T B C' (D (26, 0, 0, 0)) := R_fr r4 (fun _ _ _ _ => rfl) hR
  obtain ⟨v, hv⟩ := riv_loop hR' ht (show n ≤ 10 by omega) r6 (fun j hj => ⟨(r8 j hj).1, (r8 j hj).2.1, (r8 j hj).2.2.1⟩) h1 n 0 1000 (by omega) (by omega)
  rw [nI_0] at hv
  refine ⟨v, C', ?_, hR'⟩
  unfold g_X2_rivalOf
  rw [r2, zm_some]
  exact hv
theorem fa_loop {l n t : Nat} {x : Int32} {a : Nat → Nat} (hR : R l S N O T B C (D (26, 0, 0, 0))) (hn : n ≤ 10) (h2 : D (25, 0, 0, 0) 2 = nI n) (hl : ∀ j, j < n → a j < N ∧ D (26, 0, 0, 0) (75 + 40 * a j) = 1 ∧ D (27, 0, 0, 0) j = nI (a j)) : ∀ (k i q : Nat), i + k = n → k < q → ∃ v, lg_X11_firstAhead_19 D (nI t) x (fun v3 => (some ((-5), D))) q (nI i) = some (v, D) := by
  obtain ⟨hS, hN, -⟩ := RN hR
  intro k
  induction k with
  | zero =>
    intro i q e h
    obtain ⟨q, rfl⟩ : ∃ q', q = q' + 1 := ⟨q - 1, by omega⟩
    have e : i = n := by omega
    subst e
    exact ⟨-5, by rw [lg_X11_firstAhead_19.eq_2, h2, if_pos (nI_le (Nat.le_refl _) (by omega))]⟩
  | succ k ih =>
    intro i q e h
    obtain ⟨q, rfl⟩ : ∃ q', q = q' + 1 := ⟨q - 1, by omega⟩
    obtain ⟨g1, g2, g3⟩ := hl i (by omega)
    obtain ⟨v, ihv⟩ := ih (i + 1) q (by omega) (by omega)
    obtain ⟨f', g', p', w, oc, fr', ov, wf, wg, wfg, wy, w2, w3, w1d, w2d, w9, w11, hw12, hoc, hfr', n1, n2, n3, n4, o1, o2, y1, y2, m1, m2, v1, v2, w7, ob, wfr, may⟩ := way_pair hR g1 g2
    rw [lg_X11_firstAhead_19.eq_2, h2, if_neg (nI_ge (by omega) (by omega))]
    simp (disch := omega) only [zi_n, g3, may, zb_some, at_11, w11, n4, nI_1, ihv]
    (repeat' split) <;> exact ⟨_, rfl⟩
theorem fa_def {l t : Nat} (hR : R l S N O T B C (D (26, 0, 0, 0))) (ht : t < N) (h1 : D (26, 0, 0, 0) (75 + 40 * t) = 1) : ∃ v D', g_X11_firstAhead D (nI t) = some (v, D') := by
  obtain ⟨hS, hN, -⟩ := RN hR
  obtain ⟨n, a, C', D', r1, r2, r3, r4, r5, r6, r7, r8, r9⟩ := rank_pair hR
  have e26 : ∀ j, D' (26, 0, 0, 0) j = D (26, 0, 0, 0) j := fun j => r5 _ _ (by show (10 : Nat) ≠ 11; decide) (by show (10 : Nat) ≠ 22; decide)
  have hR' : R l S N O T B C (D' (26, 0, 0, 0)) := R_fr (fun _ _ _ => rfl) r5 hR
  obtain ⟨f', g', p', w, oc, fr', ov, wf, wg, wfg, wy, w2, w3, w1d, w2d, w9, w11, hw12, hoc, hfr', n1, n2, n3, n4, o1, o2, y1, y2, m1, m2, v1, v2, w7, ob, wfr, may⟩ := way_pair hR' ht (by rw [e26]; exact h1)
  unfold g_X11_firstAhead
  rw [r3, zm_some, at_11 (by omega), zb_some, w11, n4, zb_some]
  obtain ⟨v, hv⟩ := fa_loop (x := nI (bk f' g' p')) (t := t) hR' (show n ≤ 10 by omega) r7 (fun j hj => ⟨(r8 j hj).1, by rw [e26]; exact (r8 j hj).2.1, (r8 j hj).2.2.2⟩) n 0 1000 (by omega) (by omega)
  rw [nI_0] at hv
  exact ⟨v, D', hv⟩
theorem op_why (hR : R 0 S N O T B C (D (26, 0, 0, 0))) (x0 x1 : Int32) : ∃ v w C' D', g_X10_why C x0 x1 = some (v, C') ∧ g_X11_why D x0 x1 = some (w, D') := by
  obtain ⟨hS, hN, -⟩ := RN hR
  unfold g_X10_why g_X11_why
  by_cases h0 : ∃ t, t < N ∧ x0 = nI t
  · obtain ⟨t, ht, rfl⟩ := h0
    have ht10 : t < 10 := by omega
    rw [tw_1 hR.1.2.2.2.1.1 hN ht, isTr_1 hR.1.2.2.2.1.2 hN ht, zb_some, if_neg n10]
    obtain ⟨f, g, e', r, hw, ⟨q1, q2, q2d, q3, q3d, q4, q5, q5d, q6, q6d, q7, q8, q9, q11, q14⟩, -, -, -, hst⟩ := hR.2.2.2.2.2 t ht
    by_cases h1 : ∃ k, k < 2 ∧ x1 = nI k
    · obtain ⟨k, hk, rfl⟩ := h1
      rw [show g_X11_isIn D (nI k) 0 1 = some 1 from in_in (n := 2) (by omega) hk, zb_some, if_neg n10, if_neg (nI_pos (by omega)), if_pos (show nI k ≤ 1 from nI_le (b := 1) (by omega) (by omega)), at_0 ht10, zb_some]
      obtain ⟨fr, hfr, f1, f2⟩ := free_pair hR hw.1
      unfold g_X2_reasonFor
      rw [q1, q2, f1, hR.1.1.1]
      rcases hst with ⟨a1, a2, a3, a4, a5⟩ | ⟨a1, -⟩ | ⟨a1, -⟩ | ⟨a1, -⟩ | ⟨a1, -⟩
      · rw [a1, if_pos rfl, if_pos rfl]
        have hc : ∃ v C', (zv (if nI T < C (7, 0, t, 0) 5 then some (1, C) else zb (some fr) fun v1 => if v1 = 0 then some (2, C) else some (1, C)) fun v1 M1 => if nI k = 0 then some (v1, M1) else zv (g_X2_numberFor M1 0 t v1) fun v2 M2 => some (v2, M2)) = some (v, C') := by
          rw [zb_some]
          have nf : ∀ v, (v = 1 ∨ v = 2) → ∃ w, g_X2_numberFor C 0 t v = some (w, C) := fun v hv => by
            unfold g_X2_numberFor
            rcases hv with rfl | rfl
            · exact ⟨_, by rw [if_pos rfl]⟩
            · exact ⟨_, by rw [if_neg (by decide), if_pos rfl]⟩
          obtain ⟨w1, n1⟩ := nf 1 (Or.inl rfl)
          obtain ⟨w2, n2⟩ := nf 2 (Or.inr rfl)
          (repeat' split) <;> simp only [zv_some, n1, n2] <;> (try split) <;> exact ⟨_, _, rfl⟩
        have hd : ∃ w, g_X11_whyOutside D (nI t) (nI k) = some w := by
          unfold g_X11_whyOutside
          rw [at_4 ht10, zb_some, at_1 ht10, q2d, zb_some, f2, zb_some, zb_some, zb_some]
          (repeat' split) <;> exact ⟨_, rfl⟩
        obtain ⟨v, C', e1⟩ := hc
        obtain ⟨w, e2⟩ := hd
        exact ⟨v, w, C', D, e1, by rw [e2, zb_some]⟩
      · obtain ⟨f', g', p', w, oc, fr', ov, wf, wg, wfg, wy, w2, w3, w1d, w2d, w9, w11, hw12, hoc, hfr', n1, n2, n3, n4, o1, o2, y1, y2, m1, m2, v1, v2, w7, ob, wfr, may⟩ := way_pair hR ht a1
        simp (decide := true) only [a1, ↓reduceIte, ob, zb_some]
        have hc : ∀ (rs : Option (Int32 × zx_Y)), (∃ v C', rs = some (v, C') ∧ R 0 S N O T B C' (D (26, 0, 0, 0))) → ∃ v C', (zv rs fun v1 M1 => if nI k = 0 then some (v1, M1) else zv (g_X2_numberFor M1 0 t v1) fun v2 M2 => some (v2, M2)) = some (v, C') := fun rs hrs => by
          obtain ⟨v, C', rfl, hR'⟩ := hrs
          obtain ⟨f', g', p', w, oc, fr', ov, wf, wg, wfg, wy, w2, w3, w1d, w2d, w9, w11, hw12, hoc, hfr', n1, n2, n3, n4, o1, o2, y1, y2, m1, m2, v1, v2, w7, ob, wfr, may⟩ := way_pair hR' ht a1
          obtain ⟨rv, C'', rv1, -⟩ := riv_def hR' ht a1
          have nf : ∃ z C3, g_X2_numberFor C' 0 t v = some (z, C3) := by
            unfold g_X2_numberFor
            rw [n1, n2, v1, rv1]
            simp only [zb_some, zv_some, o1]
            (repeat' split) <;> exact ⟨_, _, rfl⟩
          obtain ⟨z, C3, nf⟩ := nf
          rw [zv_some]
          split
          · exact ⟨_, _, rfl⟩
          · rw [nf, zv_some]; exact ⟨_, _, rfl⟩
        have hrs : ∃ v C', (if (if oc = -5 then (if nx f' g' p' = g' ∨ fr' = 1 then (if ov ≤ 0 then (8 : Int32) else 6) else 5) else 4) = 8 then zv (g_X2_rivalOf C 0 t) fun v3 M1 => if v3 = -5 then some ((if oc = -5 then (if nx f' g' p' = g' ∨ fr' = 1 then (if ov ≤ 0 then (8 : Int32) else 6) else 5) else 4), M1) else some (7, M1) else some ((if oc = -5 then (if nx f' g' p' = g' ∨ fr' = 1 then (if ov ≤ 0 then (8 : Int32) else 6) else 5) else 4), C)) = some (v, C') ∧ R 0 S N O T B C' (D (26, 0, 0, 0)) := by
          obtain ⟨rv, C'', rv1, rv2⟩ := riv_def hR ht a1
          rw [rv1, zv_some]
          generalize (if oc = -5 then (if nx f' g' p' = g' ∨ fr' = 1 then (if ov ≤ 0 then (8 : Int32) else 6) else 5) else 4) = z
          by_cases z1 : z = 8
          · rw [if_pos z1]
            by_cases z2 : rv = -5
            · exact ⟨_, _, by rw [if_pos z2], rv2⟩
            · exact ⟨_, _, by rw [if_neg z2], rv2⟩
          · exact ⟨_, _, by rw [if_neg z1], hR⟩
        obtain ⟨v, C', e1⟩ := hc _ hrs
        have hd : ∃ w D', g_X11_whyStanding D (nI t) (nI k) = some (w, D') := by
          obtain ⟨fv, D', fd⟩ := fa_def hR ht a1
          unfold g_X11_whyStanding
          simp only [at_11 ht10, at_2 ht10, zb_some, w11, n3, n4, o2, y2, v2, fd, zv_some]
          (repeat' split) <;> exact ⟨_, _, rfl⟩
        obtain ⟨w, D', e2⟩ := hd
        exact ⟨v, w, C', D', e1, by rw [e2, zv_some]⟩
      · simp (decide := true) only [a1, ↓reduceIte, zv_some]
        have nf : g_X2_numberFor C 0 t 0 = some (-5, C) := by
          unfold g_X2_numberFor
          simp
        rw [nf, zv_some]
        split <;> exact ⟨_, _, _, _, rfl, rfl⟩
      · simp (decide := true) only [a1, ↓reduceIte, zv_some, at_8 ht10, zb_some]
        have nf : ∃ z, g_X2_numberFor C 0 t 3 = some (z, C) := by
          unfold g_X2_numberFor
          exact ⟨_, by rw [if_neg (by decide), if_neg (by decide), if_pos rfl]⟩
        obtain ⟨z, nf⟩ := nf
        rw [nf, zv_some]
        split <;> exact ⟨_, _, _, _, rfl, rfl⟩
      · have a2 : ¬ D (26, 0, 0, 0) (75 + 40 * t) = 0 ∧ ¬ D (26, 0, 0, 0) (75 + 40 * t) = 1 ∧ ¬ D (26, 0, 0, 0) (75 + 40 * t) = 2 ∧ ¬ D (26, 0, 0, 0) (75 + 40 * t) = 3 := by rcases a1 with a1 | a1 <;> rw [a1] <;> decide
        rw [if_neg a2.1, if_neg a2.1, if_neg a2.2.1, if_neg a2.2.1, if_neg a2.2.2.1, if_neg a2.2.2.1, if_neg a2.2.2.2, if_neg a2.2.2.2, zv_some]
        have nf : g_X2_numberFor C 0 t 0 = some (-5, C) := by
          unfold g_X2_numberFor
          simp
        rw [nf, zv_some]
        split <;> exact ⟨_, _, _, _, rfl, rfl⟩
    · rw [show g_X11_isIn D x1 0 1 = some 0 from out_in (n := 2) (by omega) (by omega) h1, zb_some, if_pos rfl]
      refine ⟨-1, -1, C, D, ?_, rfl⟩
      rcases nI_cases (x := x1) (n := 2) (by omega) with q | q | q
      · exact absurd q h1
      · rw [if_pos q.1]
      · rw [if_neg q.1, if_neg (fun h => absurd (Int32.le_trans q.2 h) (by decide))]
  · rw [tw_0 hR.1.2.2.2.1.1 hN h0, isTr_0 hR.1.2.2.2.1.2 hN h0, zb_some, if_pos rfl]
    exact ⟨-1, -1, C, D, rfl, rfl⟩
end QV
