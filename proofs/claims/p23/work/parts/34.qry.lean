/-- two counting loops over the trains, side by side -/
theorem loopA {α β : Type} {N : Nat} {F : Nat → Int32 → Int32 → Option α} {G : Nat → Int32 → Int32 → Option β} {kc : Int32 → Int32 → Option α} {kr : Int32 → Int32 → Option β} (h0 : ∀ q w, F (q + 1) w (nI N) = kc w (nI N) ∧ G (q + 1) w (nI N) = kr w (nI N)) (hs : ∀ t w, t < N → ∃ w', (∀ q, F (q + 1) w (nI t) = F q w' (nI (t + 1))) ∧ (∀ q, G (q + 1) w (nI t) = G q w' (nI (t + 1)))) : ∀ (k t q q' : Nat) (w : Int32), t + k = N → k < q → k < q' → ∃ v, F q w (nI t) = kc v (nI N) ∧ G q' w (nI t) = kr v (nI N)
  | _, _, 0, _, _, _, h, _ => absurd h (by omega)
  | _, _, _ + 1, 0, _, _, _, h => absurd h (by omega)
  | 0, t, q + 1, q' + 1, w, e, _, _ => by
    have e : t = N := by omega
    subst e
    exact ⟨w, (h0 q w).1, (h0 q' w).2⟩
  | k + 1, t, q + 1, q' + 1, w, e, _, _ => by
    obtain ⟨w', g2, g3⟩ := hs t w (by omega)
    obtain ⟨v, g5, g6⟩ := loopA h0 hs k (t + 1) q q' w' (by omega) (by omega) (by omega)
    exact ⟨v, (g2 q).trans g5, (g3 q').trans g6⟩
section QR
variable {l S N O T B : Nat} {C D : zx_Y}
theorem RN (hR : R l S N O T B C (D (26, 0, 0, 0))) : S ≤ 8 ∧ N ≤ 10 ∧ C (1, l, 0, 0) 4 ≤ nI N ∧ D (26, 0, 0, 0) 27 ≤ nI N ∧ (∀ t, t < N → ¬ C (1, l, 0, 0) 4 ≤ nI t) ∧ (∀ t, t < N → ¬ D (26, 0, 0, 0) 27 ≤ nI t) := by
  have h := hR.1.2.2.2.2.2.1
  refine ⟨h.1, h.2.2.1, ?_, ?_, fun t ht => ?_, fun t ht => ?_⟩
  · rw [hR.1.2.2.2.1.1]; exact nI_le (Nat.le_refl _) (by omega)
  · rw [hR.1.2.2.2.1.2]; exact nI_le (Nat.le_refl _) (by omega)
  · rw [hR.1.2.2.2.1.1]; exact nI_ge ht (by omega)
  · rw [hR.1.2.2.2.1.2]; exact nI_ge ht (by omega)
theorem cnt_pair (hR : R l S N O T B C (D (26, 0, 0, 0))) (x : Int32) : ∃ v, g_X2_trainsThatAre C l x = some v ∧ g_X11_counted D x = some v := by
  obtain ⟨hS, hN, e4, e27, n4, n27⟩ := RN hR
  refine loopA (F := lg_X2_trainsThatAre_4 C l x (fun v1 v2 => (some v1))) (G := lg_X11_counted_4 D x (fun v1 v2 => (some v1))) (N := N) (kc := fun v1 _ => some v1) (kr := fun v1 _ => some v1) (fun q w => ⟨by rw [lg_X2_trainsThatAre_4.eq_2, if_pos e4], by rw [lg_X11_counted_4.eq_2, if_pos e27]⟩) (fun t w ht => ?_) N 0 1000 1000 0 (by omega) (by omega) (by omega)
  obtain ⟨f, g, e', r, hw, ⟨q1, -⟩, -⟩ := hR.2.2.2.2.2 t ht
  refine ⟨if D (26, 0, 0, 0) (75 + 40 * t) = x then w + 1 else w, fun q => ?_, fun q => ?_⟩
  · rw [lg_X2_trainsThatAre_4.eq_2, if_neg (n4 t ht), zi_n _ (by omega) (by omega), q1, nI_1]
    split <;> rfl
  · rw [lg_X11_counted_4.eq_2, if_neg (n27 t ht), at_0 (by omega), zb_some, nI_1]
    split
    · rfl
    · rw [Int32.add_zero]
theorem tin_pair (hR : R l S N O T B C (D (26, 0, 0, 0))) (x y : Int32) (kr : Int32 → Int32 → Option Int32) : ∃ v, g_X2_trainsIn C l x = some v ∧ lg_X11_station_36 D x y kr 1000 0 0 = kr v (nI N) := by
  obtain ⟨hS, hN, e4, e27, n4, n27⟩ := RN hR
  refine loopA (F := lg_X2_trainsIn_4 C l x (fun v1 v2 => (some v1))) (G := lg_X11_station_36 D x y kr) (N := N) (kc := fun v1 _ => some v1) (kr := kr) (fun q w => ⟨by rw [lg_X2_trainsIn_4.eq_2, if_pos e4], by rw [lg_X11_station_36.eq_2, if_pos e27]⟩) (fun t w ht => ?_) N 0 1000 1000 0 (by omega) (by omega) (by omega)
  obtain ⟨f, g, e', r, hw, ⟨q1, q2, q2d, q3, q3d, q4, q5, q5d, q6, q6d, q7, q8, q9, q11, q14⟩, -⟩ := hR.2.2.2.2.2 t ht
  refine ⟨if (D (26, 0, 0, 0) (75 + 40 * t) = 1 ∨ D (26, 0, 0, 0) (75 + 40 * t) = 3) ∧ D (26, 0, 0, 0) (75 + 40 * t + 11) = x then w ||| (1 <<< (nI t &&& 31)) else w, fun q => ?_, fun q => ?_⟩
  · rw [lg_X2_trainsIn_4.eq_2, if_neg (n4 t ht), zi_n _ (by omega) (by omega)]
    unfold g_X9_isInStation
    rw [q1, zi_n _ (by omega) (by omega), q9, nI_1]
    by_cases c1 : D (26, 0, 0, 0) (75 + 40 * t) = 1
    · simp [c1, zb_some]
      split <;> rfl
    · by_cases c2 : D (26, 0, 0, 0) (75 + 40 * t) = 3
      · simp [c2, zb_some]
        split <;> rfl
      · simp [c1, c2, zb_some]
  · rw [lg_X11_station_36.eq_2, if_neg (n27 t ht), ins_1 (by omega), zb_some, nI_1]
    split
    · rw [if_neg (by decide)]
    · rw [if_pos rfl, Int32.or_zero]
theorem aw_pair (hR : R l S N O T B C (D (26, 0, 0, 0))) (y : Int32) (kr : Int32 → Int32 → Option (Int32 × zx_Y)) : ∃ v, g_X2_allWaiting C l = some v ∧ lg_X11_ahead_47 D y kr 1000 0 0 = kr v (nI N) := by
  obtain ⟨hS, hN, e4, e27, n4, n27⟩ := RN hR
  refine loopA (F := lg_X2_allWaiting_4 C l (fun v1 v2 => (some v1))) (G := lg_X11_ahead_47 D y kr) (N := N) (kc := fun v1 _ => some v1) (kr := kr) (fun q w => ⟨by rw [lg_X2_allWaiting_4.eq_2, if_pos e4], by rw [lg_X11_ahead_47.eq_2, if_pos e27]⟩) (fun t w ht => ?_) N 0 1000 1000 0 (by omega) (by omega) (by omega)
  obtain ⟨f, g, e', r, hw, -, ⟨p0, p1, p2, p3⟩, -⟩ := hR.2.2.2.2.2 t ht
  refine ⟨w + D (26, 0, 0, 0) (75 + 40 * t + 16), fun q => ?_, fun q => ?_⟩
  · rw [lg_X2_allWaiting_4.eq_2, if_neg (n4 t ht), zi_n _ (by omega) (by omega), p1, nI_1]
  · rw [lg_X11_ahead_47.eq_2, if_neg (n27 t ht), at_16 (by omega), zb_some, nI_1]
theorem stay_pair (hR : R l S N O T B C (D (26, 0, 0, 0))) : ∃ v, g_X2_longestStay C l = some v ∧ g_X11_longestStay D = some v := by
  obtain ⟨hS, hN, e4, e27, n4, n27⟩ := RN hR
  refine loopA (F := lg_X2_longestStay_4 C l (fun v1 v2 => (some v1))) (G := lg_X11_longestStay_4 D (fun v1 v2 => (some v1))) (N := N) (kc := fun v1 _ => some v1) (kr := fun v1 _ => some v1) (fun q w => ⟨by rw [lg_X2_longestStay_4.eq_2, if_pos e4], by rw [lg_X11_longestStay_4.eq_2, if_pos e27]⟩) (fun t w ht => ?_) N 0 1000 1000 0 (by omega) (by omega) (by omega)
  obtain ⟨f, g, e', r, hw, ⟨q1, -⟩, -, -, -, hst⟩ := hR.2.2.2.2.2 t ht
  refine ⟨if D (26, 0, 0, 0) (75 + 40 * t) = 1 ∨ D (26, 0, 0, 0) (75 + 40 * t) = 3 then zmax w (nI T - D (26, 0, 0, 0) (75 + 40 * t + 12)) else w, fun q => ?_, fun q => ?_⟩
  · rw [lg_X2_longestStay_4.eq_2, if_neg (n4 t ht), zi_n _ (by omega) (by omega)]
    unfold g_X9_isInStation
    rw [q1, zi_n _ (by omega) (by omega), nI_1, hR.1.1.1]
    rcases hst with ⟨a1, -⟩ | ⟨a1, a2, a3, -⟩ | ⟨a1, -⟩ | ⟨a1, a3, -⟩ | ⟨a1, -⟩
    · simp [a1, zb_some]
    · simp [a1, zb_some, a3]
    · simp [a1, zb_some]
    · simp [a1, zb_some, a3]
    · rcases a1 with a1 | a1 <;> simp [a1, zb_some]
  · rw [lg_X11_longestStay_4.eq_2, if_neg (n27 t ht), at_0 (by omega), at_12 (by omega), hR.1.1.2, nI_1]
    simp only [zb_some]
    grind
/-- when a train entered a block, and when it left it -/
theorem ent_pair (hR : R l S N O T B C (D (26, 0, 0, 0))) {t b : Nat} (ht : t < N) (hb : b + 1 < S) : ∃ v w : Int32, (v = -5 ∨ ∃ a, a ≤ T ∧ v = nI a) ∧ (w = -5 ∨ ∃ a, a ≤ T ∧ w = nI a) ∧ (∀ a d, v = nI d → w = nI a → d < 2 ^ 31 → a < 2 ^ 31 → d < a) ∧ g_X9_entered C l t (nI b) = some v ∧ g_X11_entered D (nI t) (nI b) = some v ∧
    g_X9_left C l t (nI b) = some (if w = -5 then 1000000 else w) ∧ g_X11_left D (nI t) (nI b) = some (if w = -5 then 100000 else w) := by
  obtain ⟨hS, hN, -⟩ := RN hR
  obtain ⟨f, g, e', r, hw, ⟨q1, q2, q2d, q3, q3d, q4, q5, q5d, q6, q6d, q7, q8, q9, q11, q14⟩, -, ha, hord, -⟩ := hR.2.2.2.2.2 t ht
  have ht10 : t < 10 := by omega
  have l8 : ∀ k : Nat, k < 8 → nI k < 8 := fun k hk => by rw [show (8 : Int32) = nI 8 from rfl]; exact nI_lt hk (by omega)
  by_cases c : f < g
  · refine ⟨D (26, 0, 0, 0) (75 + 40 * t + 25 + b), D (26, 0, 0, 0) (75 + 40 * t + 17 + (b + 1)), (ha b (by omega)).2.2.2, (ha (b + 1) (by omega)).2.2.1, fun a d h1 h2 h3 h4 => hord b (b + 1) (by omega) (by omega) (Or.inl ⟨c, rfl⟩) d a h3 h4 h1 h2, ?_, ?_, ?_, ?_⟩
    · unfold g_X9_entered
      rw [q2, q3, if_neg (nI_ge c (by omega)), if_neg (nI_pos (by omega)), if_pos (l8 b (by omega)), zi_n _ (by omega) (by omega), (ha b (by omega)).2.1]
    · unfold g_X11_entered
      rw [up_1 ht10 (by omega) (by omega) q2d q3d, zb_some, if_pos c, if_neg (by decide), at_dep ht10 (by omega), zb_some]
    · unfold g_X9_left
      rw [q2, q3, if_neg (nI_ge c (by omega)), nI_1, if_neg (nI_pos (by omega)), if_pos (l8 (b + 1) (by omega)), zi_n _ (by omega) (by omega), zi_n _ (by omega) (by omega), (ha (b + 1) (by omega)).1]
      split <;> rfl
    · unfold g_X11_left
      rw [up_1 ht10 (by omega) (by omega) q2d q3d, zb_some, if_pos c, if_neg (by decide), nI_1, at_arr ht10 (by omega), zb_some]
      split <;> rfl
  · refine ⟨D (26, 0, 0, 0) (75 + 40 * t + 25 + (b + 1)), D (26, 0, 0, 0) (75 + 40 * t + 17 + b), (ha (b + 1) (by omega)).2.2.2, (ha b (by omega)).2.2.1, fun a d h1 h2 h3 h4 => hord (b + 1) b (by omega) (by omega) (Or.inr ⟨by omega, rfl⟩) d a h3 h4 h1 h2, ?_, ?_, ?_, ?_⟩
    · unfold g_X9_entered
      rw [q2, q3, if_pos (nI_le (by omega) (by omega)), nI_1, if_neg (nI_pos (by omega)), if_pos (l8 (b + 1) (by omega)), zi_n _ (by omega) (by omega), (ha (b + 1) (by omega)).2.1]
    · unfold g_X11_entered
      rw [up_1 ht10 (by omega) (by omega) q2d q3d, zb_some, if_neg c, if_pos rfl, nI_1, at_dep ht10 (by omega), zb_some]
    · unfold g_X9_left
      rw [q2, q3, if_pos (nI_le (by omega) (by omega)), if_neg (nI_pos (by omega)), if_pos (l8 b (by omega)), zi_n _ (by omega) (by omega), zi_n _ (by omega) (by omega), (ha b (by omega)).1]
      split <;> rfl
    · unfold g_X11_left
      rw [up_1 ht10 (by omega) (by omega) q2d q3d, zb_some, if_neg c, if_pos rfl, at_arr ht10 (by omega), zb_some]
      split <;> rfl
theorem held_loop (hR : R l S N O T B C (D (26, 0, 0, 0))) {b m : Nat} (hb : b + 1 < S) (hm : m ≤ T) : ∀ (k t q q' : Nat), t + k = N → k < q → k < q' → ∃ v, lg_X2_holder_2 C l (nI b) (nI m) (fun _ => some (-5)) q (nI t) = some v ∧ lg_X11_held_41 D (nI b) (nI m) (fun _ => some (-5)) q' (nI t) = some v
  | _, _, 0, _, _, h, _ => absurd h (by omega)
  | _, _, _ + 1, 0, _, _, h => absurd h (by omega)
  | 0, t, q + 1, q' + 1, e, _, _ => by
    obtain ⟨hS, hN, e4, e27, n4, n27⟩ := RN hR
    have e : t = N := by omega
    subst e
    exact ⟨-5, by rw [lg_X2_holder_2.eq_2, if_pos e4], by rw [lg_X11_held_41.eq_2, if_pos e27]⟩
  | k + 1, t, q + 1, q' + 1, e, h1, h2 => by
    obtain ⟨hS, hN, e4, e27, n4, n27⟩ := RN hR
    have hT := hR.1.2.2.2.2.2.1.2.2.2.2
    obtain ⟨v, g1, g2⟩ := held_loop hR hb hm k (t + 1) q q' (by omega) (by omega) (by omega)
    obtain ⟨x, w, hx, hw, -, a1, a2, a3, a4⟩ := ent_pair hR (t := t) (by omega) hb
    rw [lg_X2_holder_2.eq_2, if_neg (n4 t (by omega)), zi_n _ (by omega) (by omega), a1, zb_some, zi_n _ (by omega) (by omega), a3, zb_some, nI_1, g1]
    rw [lg_X11_held_41.eq_2, if_neg (n27 t (by omega)), a2, zb_some, zb_some, a4, zb_some, nI_1, g2]
    have f1 : ¬ (1000000 : Int32) ≤ nI m := by rw [show (1000000 : Int32) = nI 1000000 from rfl]; exact nI_ge (by omega) (by omega)
    have f2 : ¬ (100000 : Int32) ≤ nI m := by rw [show (100000 : Int32) = nI 100000 from rfl]; exact nI_ge (by omega) (by omega)
    by_cases c : w = -5
    · rw [if_pos c, if_pos c, if_neg f1, if_neg f2]
      exact ⟨if x = -5 then v else if nI m < x then v else nI t, by grind, by grind⟩
    · rw [if_neg c, if_neg c]
      exact ⟨if x = -5 then v else if nI m < x then v else if w ≤ nI m then v else nI t, by grind, by grind⟩
end QR
