section QW
variable {S N O T B : Nat} {C D : zx_Y}
theorem sp_pair {l t : Nat} (hR : R l S N O T B C (D (26, 0, 0, 0))) (ht : t < N) (y : Int32) (kr : Int32 → Int32 → Option Int32) : ∃ v, g_X9_allSpent C l t = some v ∧ lg_X11_account__34 D (nI t) y kr 1000 0 0 = kr v 4 := by
  obtain ⟨hS, hN, -⟩ := RN hR
  obtain ⟨f, g, e', r, hw, -, ⟨p0, p1, p2, p3⟩, -⟩ := hR.2.2.2.2.2 t ht
  refine ⟨D (26, 0, 0, 0) (75 + 40 * t + 13) + D (26, 0, 0, 0) (75 + 40 * t + 14) + D (26, 0, 0, 0) (75 + 40 * t + 15) + D (26, 0, 0, 0) (75 + 40 * t + 16), ?_, ?_⟩
  · unfold g_X9_allSpent
    have h : ∀ kk : Int32 → Int32 → Option Int32, ∀ q w, lg_X9_allSpent_4 C l t kk (q + 5) w (nI 0) = kk (w + C (11, l, t, 0) 0 + C (11, l, t, 0) 1 + C (11, l, t, 0) 2 + C (11, l, t, 0) 3) (nI 4) := fun kk q w => by
      have s : ∀ k, k < 4 → ∀ q w, lg_X9_allSpent_4 C l t kk (q + 1) w (nI k) = lg_X9_allSpent_4 C l t kk q (w + C (11, l, t, 0) k) (nI (k + 1)) := fun k hk q w => by
        rw [lg_X9_allSpent_4.eq_2, if_neg (show ¬ (4 : Int32) ≤ nI k from nI_ge (b := 4) hk (by omega)), zi_n _ hk (by omega), nI_1]
      rw [s 0 (by omega), s 1 (by omega), s 2 (by omega), s 3 (by omega), lg_X9_allSpent_4.eq_2, if_pos (show (4 : Int32) ≤ nI 4 by decide)]
    have h := h (fun v1 v2 => some v1) 995 0
    rw [nI_0] at h
    rw [h, p0, p1, p2, p3]
    grind
  · have h : ∀ q w, lg_X11_account__34 D (nI t) y kr (q + 5) w (nI 0) = kr (w + D (26, 0, 0, 0) (75 + 40 * t + 13) + D (26, 0, 0, 0) (75 + 40 * t + 14) + D (26, 0, 0, 0) (75 + 40 * t + 15) + D (26, 0, 0, 0) (75 + 40 * t + 16)) (nI 4) := fun q w => by
      have s : ∀ k, k < 4 → ∀ q w, lg_X11_account__34 D (nI t) y kr (q + 1) w (nI k) = lg_X11_account__34 D (nI t) y kr q (w + D (26, 0, 0, 0) (75 + 40 * t + (13 + k))) (nI (k + 1)) := fun k hk q w => by
        rw [lg_X11_account__34.eq_2, if_neg (show ¬ (4 : Int32) ≤ nI k from nI_ge (b := 4) hk (by omega)), show (13 + nI k : Int32) = nI (13 + k) from nI_add 13 k, at_n (by omega) (by omega), zb_some, nI_1]
      rw [s 0 (by omega), s 1 (by omega), s 2 (by omega), s 3 (by omega), lg_X11_account__34.eq_2, if_pos (show (4 : Int32) ≤ nI 4 by decide)]
    have h := h 995 0
    rw [nI_0, Int32.zero_add] at h
    exact h
theorem nd_pair {l t : Nat} (hR : R l S N O T B C (D (26, 0, 0, 0))) (ht : t < N) : ∃ v, g_X2_minutesOfWay C l t = some v ∧ g_X11_needed D (nI t) = some v := by
  obtain ⟨hS, hN, -⟩ := RN hR
  have ht10 : t < 10 := by omega
  obtain ⟨f, g, e', r, hw, ⟨q1, q2, q2d, q3, q3d, q4, q5, q5d, q6, q6d, q7, q8, q9, q11, q14⟩, -⟩ := hR.2.2.2.2.2 t ht
  have mx : zmax (nI f) (nI g) = nI (max f g) := by
    unfold zmax
    by_cases c : f < g
    · rw [if_pos (nI_lt c (by omega)), Nat.max_eq_right (by omega)]
    · rw [if_neg (nI_nlt (by omega) (by omega)), Nat.max_eq_left (by omega)]
  have mn : zmin (nI f) (nI g) = nI (min f g) := by
    unfold zmin
    by_cases c : g < f
    · rw [if_pos (nI_lt c (by omega)), Nat.min_eq_right (by omega)]
    · rw [if_neg (nI_nlt (by omega) (by omega)), Nat.min_eq_left (by omega)]
  unfold g_X2_minutesOfWay g_X11_needed
  rw [q2, q3, at_1 ht10, at_2 ht10, zb_some, zb_some, q2d, q3d, mx, mn]
  refine loopA (F := lg_X2_minutesOfWay_30 C l t (nI (max f g)) (fun v1 v2 => some v1)) (G := lg_X11_needed_18 D (nI t) (fun v3 v4 => some v3)) (N := max f g) (kc := fun v1 _ => some v1) (kr := fun v1 _ => some v1) (fun q w => ⟨?_, ?_⟩) (fun b w hb => ?_) (max f g - min f g) (min f g) 1000 1000 0 (by omega) (by omega) (by omega)
  · rw [lg_X2_minutesOfWay_30.eq_2, if_pos (nI_le (Nat.le_refl _) (by omega))]
  · rw [lg_X11_needed_18.eq_2, at_1 ht10, at_2 ht10, zb_some, zb_some, q2d, q3d, mx, if_pos (nI_le (Nat.le_refl _) (by omega))]
  · have hb1 : b + 1 < S := by omega
    obtain ⟨⟨n, -, -, g0, g0d⟩, -⟩ := hR.2.2.1 b hb1
    refine ⟨w + (nI n + nI e'), fun q => ?_, fun q => ?_⟩
    · rw [lg_X2_minutesOfWay_30.eq_2, if_neg (nI_ge hb (by omega)), hbl_1 hR.1.2.2.1.1 hS hb1, zb_some, if_neg n10, zi_n _ (by omega) (by omega), g0, q6, nI_1]
    · rw [lg_X11_needed_18.eq_2, at_1 ht10, at_2 ht10, zb_some, zb_some, q2d, q3d, mx, if_neg (nI_ge hb (by omega)), show (2 + nI b : Int32) = nI (2 + b) from nI_add 2 b, zi_n _ (by omega) (by omega), at_5 ht10, zb_some, g0d, q6d, nI_1]
theorem op_account (hR : R 0 S N O T B C (D (26, 0, 0, 0))) (x0 x1 : Int32) : ∃ v, g_X10_account C x0 x1 = some v ∧ g_X11_account_ D x0 x1 = some v := by
  obtain ⟨hS, hN, -⟩ := RN hR
  unfold g_X10_account g_X11_account_
  by_cases h0 : ∃ t, t < N ∧ x0 = nI t
  · obtain ⟨t, ht, rfl⟩ := h0
    have ht10 : t < 10 := by omega
    rw [tw_1 hR.1.2.2.2.1.1 hN ht, isTr_1 hR.1.2.2.2.1.2 hN ht, zb_some, if_neg n10, at_0 ht10, zb_some]
    obtain ⟨f, g, e', r, hw, ⟨q1, -⟩, ⟨p0, p1, p2, p3⟩, -⟩ := hR.2.2.2.2.2 t ht
    rw [q1]
    by_cases h5 : D (26, 0, 0, 0) (75 + 40 * t) = 5
    · rw [if_pos h5, if_pos h5]
      exact ⟨_, rfl, rfl⟩
    · rw [if_neg h5, if_neg h5]
      by_cases h1 : ∃ k, k < 6 ∧ x1 = nI k
      · obtain ⟨k, hk, rfl⟩ := h1
        obtain ⟨sp, s1, s2⟩ := sp_pair hR ht (nI k) (fun v4 v5 => (if (4 : Int32) ≤ nI k then (if nI k = 4 then (some v4) else (zb (g_X11_needed D (nI t)) fun v6 => (some v6))) else (zb (g_X11_at D (nI t) (13 + nI k)) fun v7 => (some v7))))
        obtain ⟨nd, n1, n2⟩ := nd_pair hR ht
        rw [show g_X11_isIn D (nI k) 0 5 = some 1 from in_in (n := 6) (by omega) hk, zb_some, if_neg n10, s2, s1, n1, n2]
        have z13 : ∀ k, k < 4 → g_X11_at D (nI t) (13 + nI k) = some (D (26, 0, 0, 0) (75 + 40 * t + (13 + k))) := fun k hk => by rw [show (13 + nI k : Int32) = nI (13 + k) from nI_add 13 k, at_n ht10 (by omega)]
        have l4 : ∀ k, k < 4 → ¬ (4 : Int32) ≤ nI k := fun k hk => nI_ge (b := 4) hk (by omega)
        rw [p0, p1, p2, p3]
        rcases (show k = 0 ∨ k = 1 ∨ k = 2 ∨ k = 3 ∨ k = 4 ∨ k = 5 from by omega) with rfl | rfl | rfl | rfl | rfl | rfl
        · refine ⟨D (26, 0, 0, 0) (75 + 40 * t + 13), by simp [nI_0], ?_⟩
          rw [if_neg (l4 0 (by omega)), z13 0 (by omega), zb_some]
        · refine ⟨D (26, 0, 0, 0) (75 + 40 * t + 14), by simp [show nI 1 = (1 : Int32) from rfl], ?_⟩
          rw [if_neg (l4 1 (by omega)), z13 1 (by omega), zb_some]
        · refine ⟨D (26, 0, 0, 0) (75 + 40 * t + 15), by simp [show nI 2 = (2 : Int32) from rfl], ?_⟩
          rw [if_neg (l4 2 (by omega)), z13 2 (by omega), zb_some]
        · refine ⟨D (26, 0, 0, 0) (75 + 40 * t + 16), by simp [show nI 3 = (3 : Int32) from rfl], ?_⟩
          rw [if_neg (l4 3 (by omega)), z13 3 (by omega), zb_some]
        · exact ⟨sp, by simp [show nI 4 = (4 : Int32) from rfl, zb_some], by simp [show nI 4 = (4 : Int32) from rfl]⟩
        · refine ⟨nd, by simp [show nI 5 = (5 : Int32) from rfl, zb_some], ?_⟩
          rw [if_pos (show (4 : Int32) ≤ nI 5 by decide), if_neg (show ¬ nI 5 = 4 by decide), zb_some]
      · have hn := not_in (by omega) h1
        rw [show g_X11_isIn D x1 0 5 = some 0 from out_in (n := 6) (by omega) (by omega) h1, zb_some, if_pos rfl]
        refine ⟨-1, ?_, rfl⟩
        rw [if_neg (show ¬ x1 = 0 from hn 0 (by omega)), if_neg (show ¬ x1 = 1 from hn 1 (by omega)), if_neg (show ¬ x1 = 2 from hn 2 (by omega)), if_neg (show ¬ x1 = 3 from hn 3 (by omega)), if_neg (show ¬ x1 = 4 from hn 4 (by omega)), if_neg (show ¬ x1 = 5 from hn 5 (by omega))]
  · rw [tw_0 hR.1.2.2.2.1.1 hN h0, isTr_0 hR.1.2.2.2.1.2 hN h0, zb_some, if_pos rfl]
    exact ⟨-1, rfl, rfl⟩
end QW
/-- the plan of both sides -/
def RP (N : Nat) (C : zx_Y) (A : Nat → Int32) : Prop :=
  (C (22, 0, 0, 0) 0 = 0 ∧ A 476 = 0) ∨
  (C (22, 0, 0, 0) 0 = 1 ∧ ∃ F U, F < U ∧ U ≤ 10499 ∧ C (22, 0, 0, 0) 1 = nI F ∧ A 475 = nI F ∧ C (22, 0, 0, 0) 2 = nI U ∧ A 476 = nI U ∧ ∀ t k s, t < 10 → k < 2 → s < 8 → (t < N → C (24, 2 * t + k, 0, 0) s = A (477 + 16 * t + (8 * k + s)) ∧ (A (477 + 16 * t + (8 * k + s)) = -5 ∨ ∃ a, F < a ∧ a ≤ U ∧ A (477 + 16 * t + (8 * k + s)) = nI a)) ∧ (N ≤ t → C (24, 2 * t + k, 0, 0) s = -5))
theorem m5_le (a : Nat) (h : a < 2 ^ 31) : (-5 : Int32) ≤ nI a := by
  rw [Int32.le_iff_toInt_le, nI_toInt h]
  have : (-5 : Int32).toInt = -5 := by decide
  omega
theorem m5_nlt (a : Nat) (h : a < 2 ^ 31) : ¬ nI a < (-5 : Int32) := Int32.not_lt.mpr (m5_le a h)
theorem m5_nle (a : Nat) (h : a < 2 ^ 31) : ¬ nI a ≤ (-5 : Int32) := fun q => nI_m5 h (Int32.le_antisymm q (m5_le a h))
theorem m5_ne (a : Nat) (h : a < 2 ^ 31) : ¬ (-5 : Int32) = nI a := fun q => nI_m5 h q.symm
section QX
variable {S N O T B : Nat} {C D : zx_Y}
theorem hap_e {t k s : Nat} (ht : t < 10) (hk : k < 2) (hs : s < 8) : g_X11_happened D (nI t) (nI (8 * k + s)) = some (D (26, 0, 0, 0) (75 + 40 * t + 17 + (8 * k + s))) := by
  unfold g_X11_happened
  rw [at_arr ht (by omega), zb_some]
theorem min_e {l t k s : Nat} (hR : R l S N O T B C (D (26, 0, 0, 0))) (ht : t < N) (hk : k < 2) (hs : s < 8) : C (13, l, t, k) s = D (26, 0, 0, 0) (75 + 40 * t + 17 + (8 * k + s)) ∧ (D (26, 0, 0, 0) (75 + 40 * t + 17 + (8 * k + s)) = -5 ∨ ∃ a, a ≤ T ∧ D (26, 0, 0, 0) (75 + 40 * t + 17 + (8 * k + s)) = nI a) := by
  obtain ⟨f, g, e', r, hw, -, -, ha, -⟩ := hR.2.2.2.2.2 t ht
  rcases (show k = 0 ∨ k = 1 by omega) with rfl | rfl
  · rw [show 8 * 0 + s = s by omega]
    exact ⟨(ha s hs).1, (ha s hs).2.2.1⟩
  · rw [show 75 + 40 * t + 17 + (8 * 1 + s) = 75 + 40 * t + 25 + s by omega]
    exact ⟨(ha s hs).2.1, (ha s hs).2.2.2⟩
theorem op_timetable (hR : R 0 S N O T B C (D (26, 0, 0, 0))) (hP : RP N C (D (26, 0, 0, 0))) (x0 x1 x2 : Int32) : ∃ v, g_X10_timetable C x0 x1 x2 = some v ∧ g_X11_timetable D x0 x1 x2 = some v := by
  obtain ⟨hS, hN, -⟩ := RN hR
  unfold g_X10_timetable g_X11_timetable
  by_cases h0 : ∃ t, t < N ∧ x0 = nI t
  · obtain ⟨t, ht, rfl⟩ := h0
    have ht10 : t < 10 := by omega
    rw [tw_1 hR.1.2.2.2.1.1 hN ht, isTr_1 hR.1.2.2.2.1.2 hN ht, zb_some, if_neg n10]
    by_cases h1 : ∃ s, s < S ∧ x1 = nI s
    · obtain ⟨s, hs, rfl⟩ := h1
      rw [hst_1 hR.1.2.2.1.1 hS hs, isSt_1 hR.1.2.2.1.2 hS hs, zb_some, zb_some, if_neg n10, if_neg n10]
      by_cases h2 : ∃ k, k < 2 ∧ x2 = nI k
      · obtain ⟨k, hk, rfl⟩ := h2
        have ik : g_X10_isKind C (nI k) = some 1 := by
          unfold g_X10_isKind
          rcases (show k = 0 ∨ k = 1 by omega) with rfl | rfl
          · rw [if_pos nI_0]
          · rw [if_neg (show ¬ nI 1 = 0 by decide), if_pos (show nI 1 = 1 by decide)]
        obtain ⟨m1, m2⟩ := min_e hR ht hk (show s < 8 by omega)
        rw [ik, zb_some, if_neg n10, show g_X11_isIn D (nI k) 0 1 = some 1 from in_in (n := 2) (by omega) hk, zb_some, if_neg n10, zi_n _ hk (by omega), zi_n _ (show s < 8 by omega) (by omega), m1]
        rw [show (8 * nI k + nI s : Int32) = nI (8 * k + s) from by rw [show (8 : Int32) = nI 8 from rfl, pk_mul, nI_add], hap_e ht10 hk (by omega), zb_some]
        unfold g_X3_minuteFor
        rw [show (2 * nI t + nI k : Int32) = nI (2 * t + k) from by rw [show (2 : Int32) = nI 2 from rfl, pk_mul, nI_add], zi_n _ (show 2 * t + k < 20 by omega) (by omega), zi_n _ (show s < 8 by omega) (by omega)]
        rw [show (477 + 16 * nI t + nI (8 * k + s) : Int32) = nI (477 + 16 * t + (8 * k + s)) from by rw [show (477 : Int32) = nI 477 from rfl, show (16 : Int32) = nI 16 from rfl, pk_mul, nI_add, nI_add], zi_n _ (show 477 + 16 * t + (8 * k + s) < 640 by omega) (by omega), zb_some]
        rcases hP with ⟨a1, a2⟩ | ⟨a1, F, U, a2, a3, a4, a5, a6, a7, a8⟩
        · rw [a1, a2, if_pos rfl, if_pos (show (0 : Int32) ≤ 0 by decide), zb_some]
          split <;> exact ⟨_, rfl, rfl⟩
        · rw [a1, a7, if_neg n10, if_neg (show ¬ nI U ≤ 0 from nI_nle (by omega) (by omega)), zb_some, ((a8 t k s ht10 hk (by omega)).1 ht).1]
          split <;> exact ⟨_, rfl, rfl⟩
      · have hn := not_in (by omega) h2
        have ik : g_X10_isKind C x2 = some 0 := by
          unfold g_X10_isKind
          rw [if_neg (show ¬ x2 = 0 from hn 0 (by omega)), if_neg (show ¬ x2 = 1 from hn 1 (by omega))]
        rw [ik, zb_some, if_pos rfl, show g_X11_isIn D x2 0 1 = some 0 from out_in (n := 2) (by omega) (by omega) h2, zb_some, if_pos rfl]
        exact ⟨_, rfl, rfl⟩
    · rw [hst_0 hR.1.2.2.1.1 hS h1, isSt_0 hR.1.2.2.1.2 hS h1, zb_some, zb_some, if_pos rfl, if_pos rfl]
      exact ⟨_, rfl, rfl⟩
  · rw [tw_0 hR.1.2.2.2.1.1 hN h0, isTr_0 hR.1.2.2.2.1.2 hN h0, zb_some, if_pos rfl]
    exact ⟨-1, rfl, rfl⟩
/-- one place of the plan, on both sides -/
theorem dv_pair {F U T : Nat} {C D : zx_Y} {due h : Int32} (hF : F < U) (hU : U ≤ 10499) (hT : T ≤ 10499) (c1 : C (22, 0, 0, 0) 1 = nI F) (c2 : C (22, 0, 0, 0) 2 = nI U) (hd : due = -5 ∨ ∃ a, F < a ∧ a ≤ U ∧ due = nI a) (hh : h = -5 ∨ ∃ a, a ≤ T ∧ h = nI a) : ∃ v : Nat, (v = 0 ∨ v = 1) ∧ g_X3_deviates C due h (nI T) = some (nI v) ∧
    (v = 1 ↔ ((due ≠ -5 ∧ due ≤ nI (min T U) ∧ h ≠ due) ∨ (nI F < h ∧ h ≤ nI (min T U) ∧ h ≠ due))) := by
  refine ⟨if ((due ≠ -5 ∧ due ≤ nI T) ∨ (nI F < h ∧ h ≤ nI U)) ∧ due ≠ h then 1 else 0, by split <;> simp, ?_, ?_⟩
  · unfold g_X3_deviates
    rw [c1, c2]
    have e0 : nI 0 = 0 := nI_0
    have e1 : nI 1 = 1 := rfl
    have l1 : ∀ a b : Int32, a ≤ b ↔ ¬ b < a := fun a b => Int32.not_lt.symm
    simp only [l1]
    by_cases z1 : due = -5 <;> by_cases z2 : nI T < due <;> by_cases z3 : nI F < h <;> by_cases z4 : nI U < h <;> by_cases z5 : due = h <;> simp [z1, z2, z3, z4, z5, e0, e1] <;> simp_all
  · have key : (((due ≠ -5 ∧ due ≤ nI T) ∨ (nI F < h ∧ h ≤ nI U)) ∧ due ≠ h) ↔ ((due ≠ -5 ∧ due ≤ nI (min T U) ∧ h ≠ due) ∨ (nI F < h ∧ h ≤ nI (min T U) ∧ h ≠ due)) := by
      rcases hd with hd | ⟨a, a1, a2, hd⟩ <;> rcases hh with hh | ⟨b, b1, hh⟩ <;> subst hd <;> subst hh
      · simp
      · have := nI_m5 (a := b) (by omega)
        simp (disch := omega) only [nI_leI, nI_ltI, ne_eq, not_true, false_and, false_or, this, m5_ne, not_false_eq_true, and_true]
        omega
      · have n1 := nI_m5 (a := a) (by omega)
        have n2 := m5_ne a (by omega)
        have n3 : ¬ nI F < (-5 : Int32) := m5_nlt F (by omega)
        simp (disch := omega) only [nI_leI, nI_ltI, ne_eq, n1, n2, n3, not_false_eq_true, true_and, and_true, false_and, or_false]
        omega
      · have n1 := nI_m5 (a := a) (by omega)
        simp (disch := omega) only [nI_leI, nI_ltI, nI_eq, ne_eq, n1, not_false_eq_true, true_and]
        omega
    rw [← key]
    split
    · rename_i z
      exact ⟨fun _ => z, fun _ => rfl⟩
    · rename_i z
      exact ⟨fun q => absurd q (by decide), fun q => absurd q z⟩
end QX
