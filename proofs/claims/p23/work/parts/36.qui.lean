section QT
variable {l S N O T B : Nat} {C D : zx_Y}
/-- one train: does something go on, as both sides see it -/
theorem qt_step (hR : R l S N O T B C (D (26, 0, 0, 0))) {t : Nat} (ht : t < N) : ∃ z : Bool, (∀ (kk : Int32 → Option Int32) q, lg_X2_isQuiet_2 C l kk (q + 1) (nI t) = if D (26, 0, 0, 0) (75 + 40 * t) = 2 ∨ D (26, 0, 0, 0) (75 + 40 * t) = 3 ∨ z = true then some 0 else lg_X2_isQuiet_2 C l kk q (nI (t + 1))) ∧
    (∀ (kk : Int32 → Int32 → Option Int32) q w, (w = 0 ∨ w = 1) → lg_X11_isStill_24 D kk (q + 1) w (nI t) = lg_X11_isStill_24 D kk q (if w = 1 ∧ z = false then 1 else 0) (nI (t + 1))) := by
  obtain ⟨hS, hN, e4, e27, n4, n27⟩ := RN hR
  have ht10 : t < 10 := by omega
  obtain ⟨f, g, e, r, hw, ⟨q1, q2, q2d, q3, q3d, q4, q5, q5d, q6, q6d, q7, q8, q9, q11, q14⟩, -, -, -, hst⟩ := hR.2.2.2.2.2 t ht
  have bc : ∀ (kk : Int32 → Option Int32) q, lg_X2_isQuiet_2 C l kk (q + 1) (nI t) = (if D (26, 0, 0, 0) (75 + 40 * t) = 2 then (some 0) else (if D (26, 0, 0, 0) (75 + 40 * t) = 3 then (some 0) else (if D (26, 0, 0, 0) (75 + 40 * t) = 0 then (if nI T < nI r then (some 0) else (zb (g_X2_hasFreeTrack C l (nI f)) fun v1 => (if v1 = 0 then (if D (26, 0, 0, 0) (75 + 40 * t) = 1 then (zb (g_X2_obstacleOf C l t) fun v2 => (if v2 = 8 then (some 0) else (zb (g_X2_isCrewAlone C l t v2) fun v3 => (if v3 = 0 then (lg_X2_isQuiet_2 C l kk q (nI (t + 1))) else (some 0))))) else (lg_X2_isQuiet_2 C l kk q (nI (t + 1)))) else (some 0)))) else (if D (26, 0, 0, 0) (75 + 40 * t) = 1 then (zb (g_X2_obstacleOf C l t) fun v4 => (if v4 = 8 then (some 0) else (zb (g_X2_isCrewAlone C l t v4) fun v5 => (if v5 = 0 then (lg_X2_isQuiet_2 C l kk q (nI (t + 1))) else (some 0))))) else (lg_X2_isQuiet_2 C l kk q (nI (t + 1))))))) := fun kk q => by
    rw [lg_X2_isQuiet_2.eq_2, if_neg (n4 t ht), zi_n _ ht10 (by omega), q1, hR.1.1.1, q5, q2, nI_1]
  have w01 : ∀ w : Int32, (w = 0 ∨ w = 1) → ∀ (a : Option Int32), (if w = 0 then a else a) = a := fun w _ a => by split <;> rfl
  rcases hst with ⟨a1, -⟩ | ⟨a1, -⟩ | ⟨a1, -⟩ | ⟨a1, -⟩ | ⟨a1, -⟩
  · obtain ⟨b, hb01, f1, f2⟩ := free_pair hR hw.1
    refine ⟨decide (T < r ∨ b = 1), fun kk q => ?_, fun kk q w h01 => ?_⟩
    · rw [bc, a1, f1, zb_some]
      by_cases c : T < r
      · rw [if_neg (by decide), if_neg (by decide), if_pos rfl, if_pos (nI_lt c (by omega)), if_pos (by simp [c])]
      · rw [if_neg (by decide), if_neg (by decide), if_pos rfl, if_neg (nI_nlt (by omega) (by have := hR.1.2.2.2.2.2.1; omega))]
        rcases hb01 with rfl | rfl
        · rw [if_pos rfl, if_neg (by decide), if_neg (by simp [c])]
        · rw [if_neg (by decide), if_pos (by simp)]
    · rw [lg_X11_isStill_24.eq_2, if_neg (n27 t ht)]
      simp only [↓bat_0 ht10, ↓bat_4 ht10, ↓bat_1 ht10, a1, if_true, hR.1.1.2, q5d, q2d, f2, zb_some]
      by_cases c : T < r
      · simp [nI_lt c (show r < 2 ^ 31 by omega), c, nI_1]
      · rw [if_neg (nI_nlt (by omega) (by have := hR.1.2.2.2.2.2.1; omega))]
        have may0 : g_X11_mayRun D (nI t) = some 0 := by
          unfold g_X11_mayRun
          rw [bat_0 ht10, a1, if_neg (by decide)]
        rcases hb01 with rfl | rfl
        · rcases h01 with rfl | rfl
          · simp [c, nI_1]
          · simp [c, nI_1, may0, zb_some]
        · rcases h01 with rfl | rfl
          · simp [nI_1]
          · simp [nI_1]
  · obtain ⟨f', g', p', w, oc, fr, ov, wf, wg, wfg, wy, w2, w3, w1d, w2d, w9, w11, hw12, hoc, hfr, n1, n2, n3, n4', o1, o2, f1, f2, m1, m2, v1, v2, w7, ob, wfr, may⟩ := way_pair hR ht a1
    have cr : ∀ x, g_X2_isCrewAlone C l t x = some (if x = 6 ∧ ¬ D (26, 0, 0, 0) (75 + 40 * t + 6) < nI w then 1 else 0) := fun x => by
      unfold g_X2_isCrewAlone
      rw [n2, zb_some, m1, zb_some, q7]
      grind
    refine ⟨decide ((oc = -5 ∧ (nx f' g' p' = g' ∨ fr = 1)) ∧ (ov ≤ 0 ∨ ¬ D (26, 0, 0, 0) (75 + 40 * t + 6) < nI w)), fun kk q => ?_, fun kk q w' h01 => ?_⟩
    · rw [bc, a1, ob]
      simp only [zb_some, cr]
      by_cases c1 : oc = -5 ∧ (nx f' g' p' = g' ∨ fr = 1)
      · by_cases c2 : ov ≤ 0
        · simp [c1, c2]
        · by_cases c3 : D (26, 0, 0, 0) (75 + 40 * t + 6) < nI w
          · simp [c1, c2, c3]
          · simp [c1, c2, c3]
      · have h8 : ¬ (if oc = -5 then (if nx f' g' p' = g' ∨ fr = 1 then (if ov ≤ 0 then (8 : Int32) else 6) else 5) else 4) = 8 := by grind
        have h6 : ¬ (if oc = -5 then (if nx f' g' p' = g' ∨ fr = 1 then (if ov ≤ 0 then (8 : Int32) else 6) else 5) else 4) = 6 := by grind
        simp [c1, h8, h6]
    · rw [lg_X11_isStill_24.eq_2, if_neg (n27 t ht)]
      simp only [↓bat_0 ht10, a1, wfr, zb_some, m2, ↓bat_6 ht10, may]
      by_cases c1 : oc = -5 ∧ (nx f' g' p' = g' ∨ fr = 1)
      · by_cases c2 : ov ≤ 0
        · have c4 : oc = -5 ∧ (nx f' g' p' = g' ∨ fr = 1) ∧ ov ≤ 0 := ⟨c1.1, c1.2, c2⟩
          by_cases c3 : D (26, 0, 0, 0) (75 + 40 * t + 6) < nI w
          · rcases h01 with rfl | rfl <;> simp [c1, c2, c3, nI_1]
          · rcases h01 with rfl | rfl <;> simp [c1, c2, c3, nI_1]
        · by_cases c3 : D (26, 0, 0, 0) (75 + 40 * t + 6) < nI w
          · rcases h01 with rfl | rfl <;> simp [c1, c2, c3, nI_1]
          · rcases h01 with rfl | rfl <;> simp [c1, c2, c3, nI_1]
      · have c4 : ¬ (oc = -5 ∧ (nx f' g' p' = g' ∨ fr = 1) ∧ ov ≤ 0) := fun q => c1 ⟨q.1, q.2.1⟩
        rcases h01 with rfl | rfl <;> simp [c1, c4, nI_1]
  · refine ⟨false, fun kk q => ?_, fun kk q w h01 => ?_⟩
    · rw [bc, a1]; simp
    · have may0 : g_X11_mayRun D (nI t) = some 0 := by
        unfold g_X11_mayRun
        rw [bat_0 ht10, a1, if_neg (by decide)]
      rw [lg_X11_isStill_24.eq_2, if_neg (n27 t ht)]
      simp only [↓bat_0 ht10, a1, may0, zb_some]
      rcases h01 with rfl | rfl <;> simp [nI_1]
  · refine ⟨false, fun kk q => ?_, fun kk q w h01 => ?_⟩
    · rw [bc, a1]; simp
    · have may0 : g_X11_mayRun D (nI t) = some 0 := by
        unfold g_X11_mayRun
        rw [bat_0 ht10, a1, if_neg (by decide)]
      rw [lg_X11_isStill_24.eq_2, if_neg (n27 t ht)]
      simp only [↓bat_0 ht10, a1, may0, zb_some]
      rcases h01 with rfl | rfl <;> simp [nI_1]
  · have a2 : ¬ D (26, 0, 0, 0) (75 + 40 * t) = 0 ∧ ¬ D (26, 0, 0, 0) (75 + 40 * t) = 1 ∧ ¬ D (26, 0, 0, 0) (75 + 40 * t) = 2 ∧ ¬ D (26, 0, 0, 0) (75 + 40 * t) = 3 := by rcases a1 with a1 | a1 <;> rw [a1] <;> decide
    refine ⟨false, fun kk q => ?_, fun kk q w h01 => ?_⟩
    · rw [bc]; simp [a2]
    · have may0 : g_X11_mayRun D (nI t) = some 0 := by
        unfold g_X11_mayRun
        rw [bat_0 ht10, if_neg a2.2.1]
      rw [lg_X11_isStill_24.eq_2, if_neg (n27 t ht)]
      simp only [↓bat_0 ht10, a2, may0, zb_some, if_false]
      rcases h01 with rfl | rfl <;> simp [nI_1]
theorem cntz (hR : R l S N O T B C (D (26, 0, 0, 0))) (x : Int32) : ∃ v, g_X11_counted D x = some v ∧ (v = 0 ↔ ∀ u, u < N → ¬ D (26, 0, 0, 0) (75 + 40 * u) = x) := by
  obtain ⟨hS, hN, e4, e27, n4, n27⟩ := RN hR
  have h : ∀ (k t q a : Nat), t + k = N → k < q → ∃ c, c ≤ a + k ∧ lg_X11_counted_4 D x (fun v1 _ => some v1) q (nI a) (nI t) = some (nI c) ∧ a ≤ c ∧ (c = a ↔ ∀ u, t ≤ u → u < N → ¬ D (26, 0, 0, 0) (75 + 40 * u) = x) := by
    intro k
    induction k with
    | zero =>
      intro t q a e h
      obtain ⟨q, rfl⟩ : ∃ q', q = q' + 1 := ⟨q - 1, by omega⟩
      have e : t = N := by omega
      subst e
      exact ⟨a, by omega, by rw [lg_X11_counted_4.eq_2, if_pos e27], by omega, ⟨fun _ u h1 h2 => absurd h1 (by omega), fun _ => rfl⟩⟩
    | succ k ih =>
      intro t q a e h
      obtain ⟨q, rfl⟩ : ∃ q', q = q' + 1 := ⟨q - 1, by omega⟩
      rw [lg_X11_counted_4.eq_2, if_neg (n27 t (by omega)), at_0 (by omega), zb_some, nI_1 t]
      by_cases c : D (26, 0, 0, 0) (75 + 40 * t) = x
      · obtain ⟨d, h1, h2, h3, h4⟩ := ih (t + 1) q (a + 1) (by omega) (by omega)
        rw [if_pos c, nI_1]
        exact ⟨d, by omega, h2, by omega, ⟨fun z => absurd z (by omega), fun z => absurd c (z t (by omega) (by omega))⟩⟩
      · obtain ⟨d, h1, h2, h3, h4⟩ := ih (t + 1) q a (by omega) (by omega)
        rw [if_neg c, Int32.add_zero]
        refine ⟨d, by omega, h2, by omega, h4.trans ⟨fun z u h5 h6 => ?_, fun z u h5 h6 => z u (by omega) h6⟩⟩
        by_cases e2 : u = t
        · rw [e2]; exact c
        · exact z u (by omega) h6
  obtain ⟨c, h1, h2, h3, h4⟩ := h N 0 1000 0 (by omega) (by omega)
  refine ⟨nI c, h2, ?_⟩
  rw [show (nI c = 0) = (c = 0) from by rw [← nI_0, nI_eq (by omega) (by omega)], h4]
  exact ⟨fun z u h => z u (by omega) h, fun z u _ h => z u h⟩
theorem quiet_pair (hR : R l S N O T B C (D (26, 0, 0, 0))) : ∃ v, (v = 0 ∨ v = 1) ∧ g_X2_isQuiet C l = some v ∧ g_X11_isStill D = some v := by
  obtain ⟨hS, hN, e4, e27, n4, n27⟩ := RN hR
  have h1 : ∀ t, ∃ z : Bool, t < N → (∀ (kk : Int32 → Option Int32) q, lg_X2_isQuiet_2 C l kk (q + 1) (nI t) = if D (26, 0, 0, 0) (75 + 40 * t) = 2 ∨ D (26, 0, 0, 0) (75 + 40 * t) = 3 ∨ z = true then some 0 else lg_X2_isQuiet_2 C l kk q (nI (t + 1))) ∧
    (∀ (kk : Int32 → Int32 → Option Int32) q w, (w = 0 ∨ w = 1) → lg_X11_isStill_24 D kk (q + 1) w (nI t) = lg_X11_isStill_24 D kk q (if w = 1 ∧ z = false then 1 else 0) (nI (t + 1))) := fun t => by
    by_cases ht : t < N
    · obtain ⟨z, h⟩ := qt_step hR ht
      exact ⟨z, fun _ => h⟩
    · exact ⟨false, fun h => absurd h ht⟩
  obtain ⟨z, hz⟩ := Classical.axiomOfChoice h1
  have cl : ∀ (k t q : Nat), t + k = N → k < q → ∃ b : Int32, (b = 0 ∨ b = 1) ∧ lg_X2_isQuiet_2 C l (fun _ => some 1) q (nI t) = some b ∧ (b = 1 ↔ ∀ u, t ≤ u → u < N → ¬ (D (26, 0, 0, 0) (75 + 40 * u) = 2 ∨ D (26, 0, 0, 0) (75 + 40 * u) = 3 ∨ z u = true)) := by
    intro k
    induction k with
    | zero =>
      intro t q e h
      obtain ⟨q, rfl⟩ : ∃ q', q = q' + 1 := ⟨q - 1, by omega⟩
      have e : t = N := by omega
      subst e
      exact ⟨1, Or.inr rfl, by rw [lg_X2_isQuiet_2.eq_2, if_pos e4], fun _ u h1 h2 => absurd h1 (by omega), fun _ => rfl⟩
    | succ k ih =>
      intro t q e h
      obtain ⟨q, rfl⟩ : ∃ q', q = q' + 1 := ⟨q - 1, by omega⟩
      rw [(hz t (by omega)).1]
      by_cases c : D (26, 0, 0, 0) (75 + 40 * t) = 2 ∨ D (26, 0, 0, 0) (75 + 40 * t) = 3 ∨ z t = true
      · exact ⟨0, Or.inl rfl, by rw [if_pos c], fun h => absurd h (by decide), fun h => absurd c (h t (by omega) (by omega))⟩
      · obtain ⟨b, g1, g2, g3⟩ := ih (t + 1) q (by omega) (by omega)
        refine ⟨b, g1, by rw [if_neg c]; exact g2, g3.trans ⟨fun h u h1 h2 => ?_, fun h u h1 h2 => h u (by omega) h2⟩⟩
        by_cases e2 : u = t
        · rw [e2]; exact c
        · exact h u (by omega) h2
  have cr : ∀ (kk : Int32 → Int32 → Option Int32) (k t q : Nat) (w : Int32), t + k = N → k < q → (w = 0 ∨ w = 1) → ∃ b : Int32, (b = 0 ∨ b = 1) ∧ lg_X11_isStill_24 D kk q w (nI t) = kk b (nI N) ∧ (b = 1 ↔ w = 1 ∧ ∀ u, t ≤ u → u < N → z u = false) := by
    intro kk k
    induction k with
    | zero =>
      intro t q w e h h01
      obtain ⟨q, rfl⟩ : ∃ q', q = q' + 1 := ⟨q - 1, by omega⟩
      have e : t = N := by omega
      subst e
      exact ⟨w, h01, by rw [lg_X11_isStill_24.eq_2, if_pos e27], fun h => ⟨h, fun u h1 h2 => absurd h1 (by omega)⟩, fun h => h.1⟩
    | succ k ih =>
      intro t q w e h h01
      obtain ⟨q, rfl⟩ : ∃ q', q = q' + 1 := ⟨q - 1, by omega⟩
      rw [(hz t (by omega)).2 kk q w h01]
      obtain ⟨b, g1, g2, g3⟩ := ih (t + 1) q (if w = 1 ∧ z t = false then 1 else 0) (by omega) (by omega) (by split <;> simp)
      refine ⟨b, g1, g2, g3.trans ⟨fun h => ?_, fun h => ⟨by rw [if_pos ⟨h.1, h.2 t (by omega) (by omega)⟩], fun u h1 h2 => h.2 u (by omega) h2⟩⟩⟩
      have h5 : w = 1 ∧ z t = false := by
        by_cases c : w = 1 ∧ z t = false
        · exact c
        · rw [if_neg c] at h; exact absurd h.1 (by decide)
      refine ⟨h5.1, fun u h1 h2 => ?_⟩
      by_cases e2 : u = t
      · rw [e2]; exact h5.2
      · exact h.2 u (by omega) h2
  obtain ⟨b, b1, b2, b3⟩ := cl N 0 1000 (by omega) (by omega)
  refine ⟨b, b1, b2, ?_⟩
  obtain ⟨v2, y1, y2⟩ := cntz hR 2
  obtain ⟨v3, y3, y4⟩ := cntz hR 3
  unfold g_X11_isStill
  rw [y1, zb_some]
  have fin : ∀ w : Int32, (w = 0 ∨ w = 1) → (w = 1 ↔ v2 = 0 ∧ v3 = 0) → lg_X11_isStill_24 D (fun v3 v4 => zo v3 (some v3)) 1000 w 0 = some b := fun w h01 hw => by
    obtain ⟨b', g1, g2, g3⟩ := cr (fun v3 v4 => zo v3 (some v3)) N 0 1000 w (by omega) (by omega) h01
    rw [nI_0] at g2
    rw [g2, zo_v g1]
    have e : b' = 1 ↔ b = 1 := by
      rw [g3, b3, hw, y2, y4]
      constructor
      · rintro ⟨⟨h1, h2⟩, h3⟩ u h4 h5
        have := h1 u h5
        have := h2 u h5
        have := h3 u h4 h5
        simp_all
      · intro h1
        refine ⟨⟨fun u h2 h3 => h1 u (by omega) h2 (Or.inl h3), fun u h2 h3 => h1 u (by omega) h2 (Or.inr (Or.inl h3))⟩, fun u h2 h3 => ?_⟩
        have := h1 u h2 h3
        simp_all
    rcases g1 with rfl | rfl <;> rcases b1 with rfl | rfl
    · rfl
    · exact absurd (e.mpr rfl) (by decide)
    · exact absurd (e.mp rfl) (by decide)
    · rfl
  by_cases c2 : v2 = 0
  · rw [if_pos c2, y3, zb_some]
    by_cases c3 : v3 = 0
    · rw [if_pos c3]
      exact fin 1 (Or.inr rfl) ⟨fun _ => ⟨c2, c3⟩, fun _ => rfl⟩
    · rw [if_neg c3]
      exact fin 0 (Or.inl rfl) ⟨fun h => absurd h (by decide), fun h => absurd h.2 c3⟩
  · rw [if_neg c2]
    exact fin 0 (Or.inl rfl) ⟨fun h => absurd h (by decide), fun h => absurd h.1 c2⟩
end QT
