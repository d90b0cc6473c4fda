theorem Wy_b {f g p S : Nat} (h : Wy f g p) (hf : f < S) (hg : g < S) : p < S ∧ bk f g p + 1 < S ∧ nx f g p < S ∧ Aj f g p (nx f g p) ∧ (nx f g p = g ∨ Wy f g (nx f g p)) ∧ nx f g p ≠ p := by
  rcases h with ⟨c, h2, h3⟩ | ⟨c, h2, h3⟩
  · have e1 : nx f g p = p + 1 := if_pos c
    have e2 : bk f g p = p := if_pos c
    rw [e1, e2]
    unfold Wy Aj
    omega
  · have e1 : nx f g p = p - 1 := if_neg (by omega)
    have e2 : bk f g p = p - 1 := if_neg (by omega)
    rw [e1, e2]
    unfold Wy Aj
    omega
theorem sb_m1' {p : Nat} (h : 0 < p) : nI p - 1 = nI (p - 1) := by
  rw [show (1 : Int32) = nI 1 from rfl, pk_sub (by omega)]
theorem beh_1 {D : zx_Y} {t f g p : Nat} (ht : t < 10) (hf : f < 8) (hg : g < 8) (hw : Wy f g p) (h1 : D (26, 0, 0, 0) (75 + 40 * t + 1) = nI f) (h2 : D (26, 0, 0, 0) (75 + 40 * t + 2) = nI g) : g_X11_stationBehind D (nI t) (nI p) = some (nI (nx f g p)) ∧ g_X11_blockFrom D (nI t) (nI p) = some (nI (bk f g p)) := by
  unfold g_X11_stationBehind g_X11_blockFrom
  rw [up_1 ht hf hg h1 h2, zb_some, zb_some]
  unfold nx bk
  by_cases h : f < g
  · simp [h, nI_1]
  · have hp : 0 < p := by unfold Wy at hw; omega
    simp [h, sb_m1' hp]
theorem nxt_1 {C : zx_Y} {l t f g p : Nat} (hf : f < 8) (hg : g < 8) (hw : Wy f g p) (h1 : C (7, l, t, 0) 2 = nI f) (h2 : C (7, l, t, 0) 3 = nI g) (h9 : C (7, l, t, 0) 9 = nI p) : g_X9_nextStation C l t = some (nI (nx f g p)) ∧ g_X9_nextBlock C l t = some (nI (bk f g p)) := by
  unfold g_X9_nextStation g_X9_nextBlock
  rw [h1, h2, h9]
  unfold nx bk
  by_cases h : f < g
  · rw [if_neg (nI_ge h (by omega)), if_neg (nI_ge h (by omega)), if_pos h, if_pos h, nI_1]
    exact ⟨rfl, rfl⟩
  · have hp : 0 < p := by unfold Wy at hw; omega
    rw [if_pos (nI_le (by omega) (by omega)), if_pos (nI_le (by omega) (by omega)), if_neg h, if_neg h, sb_m1' hp]
    exact ⟨rfl, rfl⟩
/-- all of a train that stands in a station -/
theorem way_pair {l S N O T B : Nat} {C D : zx_Y} (hR : R l S N O T B C (D (26, 0, 0, 0))) {t : Nat} (ht : t < N) (h1 : D (26, 0, 0, 0) (75 + 40 * t) = 1) : ∃ (f g p w : Nat) (oc fr ov : Int32), f < S ∧ g < S ∧ f ≠ g ∧ Wy f g p ∧ C (7, l, t, 0) 2 = nI f ∧ C (7, l, t, 0) 3 = nI g ∧ D (26, 0, 0, 0) (75 + 40 * t + 1) = nI f ∧ D (26, 0, 0, 0) (75 + 40 * t + 2) = nI g ∧ C (7, l, t, 0) 9 = nI p ∧ D (26, 0, 0, 0) (75 + 40 * t + 11) = nI p ∧
    (1 ≤ w ∧ w ≤ 70000) ∧ (oc = -5 ∨ ∃ u, u < N ∧ oc = nI u) ∧ (fr = 0 ∨ fr = 1) ∧
    g_X9_nextStation C l t = some (nI (nx f g p)) ∧ g_X9_nextBlock C l t = some (nI (bk f g p)) ∧ g_X11_stationBehind D (nI t) (nI p) = some (nI (nx f g p)) ∧ g_X11_blockFrom D (nI t) (nI p) = some (nI (bk f g p)) ∧
    g_X2_occupant C l (nI (bk f g p)) = some oc ∧ g_X11_trainIn D (nI (bk f g p)) = some oc ∧ g_X2_hasFreeTrack C l (nI (nx f g p)) = some fr ∧ g_X11_hasTrack D (nI (nx f g p)) = some fr ∧
    g_X2_minutesFor C l t (nI (bk f g p)) = some (nI w) ∧ g_X11_minutesFor D (nI t) = some (nI w) ∧ g_X2_overHours C l t = some ov ∧ g_X11_overtime D (nI t) = some ov ∧
    C (7, l, t, 0) 7 = D (26, 0, 0, 0) (75 + 40 * t + 6) ∧
    g_X2_obstacleOf C l t = some (if oc = -5 then (if nx f g p = g ∨ fr = 1 then (if ov ≤ 0 then 8 else 6) else 5) else 4) ∧
    g_X11_isWayFree D (nI t) = some (if oc = -5 ∧ (nx f g p = g ∨ fr = 1) then 1 else 0) ∧
    g_X11_mayRun D (nI t) = some (if oc = -5 ∧ (nx f g p = g ∨ fr = 1) ∧ ov ≤ 0 then 1 else 0) := by
  have hN := hR.1.2.2.2.2.2.1
  obtain ⟨f, g, e, r, hw, ⟨q1, q2, q2d, q3, q3d, q4, q5, q5d, q6, q6d, q7, q8, q9, q11, q14⟩, -, -, -, hst⟩ := hR.2.2.2.2.2 t ht
  have ht10 : t < 10 := by omega
  rcases hst with ⟨a1, -⟩ | ⟨a1, a2, a3, p, a4, a5, a6⟩ | ⟨a1, -⟩ | ⟨a1, -⟩ | ⟨a1, -⟩
  · rw [h1] at a1; exact absurd a1 (by decide)
  · obtain ⟨b1, b2, b3, b4, b5, b6⟩ := Wy_b a5 hw.1 hw.2.1
    obtain ⟨oc, hoc, o1, o2⟩ := occ_pair hR (nI (bk f g p))
    obtain ⟨fr, hfr, f1, f2⟩ := free_pair hR b3
    obtain ⟨sl, hsl, s1, s2⟩ := slow_pair hR (nI (bk f g p))
    obtain ⟨⟨n, hn1, hn2, k1, k2⟩, -⟩ := hR.2.2.1 _ b2
    obtain ⟨c1, c2⟩ := nxt_1 (by omega) (by omega) a5 q2 q3 (q9.trans a4)
    obtain ⟨c3, c4⟩ := beh_1 ht10 (by omega) (by omega) a5 q2d q3d
    have m1 : g_X2_minutesFor C l t (nI (bk f g p)) = some (nI (n + e + sl)) := by
      unfold g_X2_minutesFor
      rw [hbl_1 hR.1.2.2.1.1 hN.1 b2, zb_some, if_neg (by decide), zi_n _ (by omega) (by omega), s1, zb_some, k1, q6, nI_add, nI_add]
    have m2 : g_X11_minutesFor D (nI t) = some (nI (n + e + sl)) := by
      unfold g_X11_minutesFor
      simp only [at_11 ht10, at_5 ht10, zb_some, a4, c4, show (2 : Int32) = nI 2 from rfl, nI_add]
      rw [zi_n _ (by omega) (by omega), s2, zb_some, k2, q6d, nI_add, nI_add]
    have v1 : g_X2_overHours C l t = some ((((nI T) - (D (26, 0, 0, 0) (75 + 40 * t + 9))) + nI (n + e + sl)) - (D (26, 0, 0, 0) (75 + 40 * t + 6))) := by
      unfold g_X2_overHours
      rw [c2, zb_some, m1, zb_some, hR.1.1.1, q14, q7]
    have v2 : g_X11_overtime D (nI t) = some ((((nI T) - (D (26, 0, 0, 0) (75 + 40 * t + 9))) + nI (n + e + sl)) - (D (26, 0, 0, 0) (75 + 40 * t + 6))) := by
      unfold g_X11_overtime
      rw [at_9 ht10, zb_some, m2, zb_some, at_6 ht10, zb_some, hR.1.1.2]
    have hne : (nI (nx f g p) = nI g) = (nx f g p = g) := by rw [nI_eq (by omega) (by omega)]
    have wf : g_X11_isWayFree D (nI t) = some (if oc = -5 ∧ (nx f g p = g ∨ fr = 1) then 1 else 0) := by
      unfold g_X11_isWayFree
      simp only [at_11 ht10, at_2 ht10, zb_some, a4, c3, c4, o2, f2, q3d, hne]
      rcases hfr with rfl | rfl <;> grind
    refine ⟨f, g, p, n + e + sl, oc, fr, _, hw.1, hw.2.1, hw.2.2.1, a5, q2, q3, q2d, q3d, q9.trans a4, a4, by omega, hoc, hfr, c1, c2, c3, c4, o1, o2, f1, f2, m1, m2, v1, v2, q7, ?_, wf, ?_⟩
    · unfold g_X2_obstacleOf
      simp only [c1, c2, zb_some, o1, f1, v1, q3, hne]
      rcases hfr with rfl | rfl <;> grind
    · unfold g_X11_mayRun
      simp only [at_0 ht10, zb_some, wf, v2, h1]
      grind
  · rw [h1] at a1; exact absurd a1 (by decide)
  · rw [h1] at a1; exact absurd a1 (by decide)
  · rw [h1] at a1; rcases a1 with a1 | a1 <;> exact absurd a1 (by decide)
theorem ah_pair {l S N O T B : Nat} {C D : zx_Y} (hR : R l S N O T B C (D (26, 0, 0, 0))) {t u : Nat} (ht : t < N) (hu : u < N) (h1 : D (26, 0, 0, 0) (75 + 40 * t) = 1) (h2 : D (26, 0, 0, 0) (75 + 40 * u) = 1) : ∃ b : Int32, (b = 0 ∨ b = 1) ∧ g_X2_isAhead C l t u = some b ∧ g_X11_isAhead D (nI t) (nI u) = some b := by
  have hN := hR.1.2.2.2.2.2.1
  have g1 : ∀ t, t < N → D (26, 0, 0, 0) (75 + 40 * t) = 1 → C (7, l, t, 0) 13 = D (26, 0, 0, 0) (75 + 40 * t + 12) ∧ C (7, l, t, 0) 4 = D (26, 0, 0, 0) (75 + 40 * t + 3) := fun t ht h1 => by
    obtain ⟨f, g, e, r, hw, ⟨q1, q2, q2d, q3, q3d, q4, q5, q5d, q6, q6d, q7, q8, q9, q11, q14⟩, -, -, -, hst⟩ := hR.2.2.2.2.2 t ht
    refine ⟨?_, q4⟩
    rcases hst with ⟨a1, -⟩ | ⟨a1, a2, a3, p, a4, a5, a6⟩ | ⟨a1, -⟩ | ⟨a1, -⟩ | ⟨a1, -⟩
    · rw [h1] at a1; exact absurd a1 (by decide)
    · exact a3
    · rw [h1] at a1; exact absurd a1 (by decide)
    · rw [h1] at a1; exact absurd a1 (by decide)
    · rw [h1] at a1; rcases a1 with a1 | a1 <;> exact absurd a1 (by decide)
  obtain ⟨i1, p1⟩ := g1 t ht h1
  obtain ⟨i2, p2⟩ := g1 u hu h2
  have e : g_X11_isAhead D (nI t) (nI u) = g_X2_isAhead C l t u := by
    unfold g_X2_isAhead g_X11_isAhead
    simp only [at_12 (show t < 10 by omega), at_12 (show u < 10 by omega), at_3 (show t < 10 by omega), at_3 (show u < 10 by omega), zb_some, i1, i2, p1, p2, hR.2.2.2.2.1 t (by omega), hR.2.2.2.2.1 u (by omega), hR.1.1.1, hR.1.1.2, hR.1.2.1.1]
  rw [e]
  unfold g_X2_isAhead
  (repeat' split) <;> first | exact ⟨0, Or.inl rfl, rfl, rfl⟩ | exact ⟨1, Or.inr rfl, rfl, rfl⟩
