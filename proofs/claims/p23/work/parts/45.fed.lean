theorem op_refusal {C D : zx_Y} (hF : RF C D) (x0 : Int32) : ∃ v, g_X10_refusal C x0 = some v ∧ g_X11_refusal D x0 = some v := by
  unfold g_X10_refusal g_X4_numberAt g_X11_refusal
  by_cases h0 : ∃ k, k < 3 ∧ x0 = nI k
  · obtain ⟨k, hk, rfl⟩ := h0
    rw [if_neg (nI_pos (by omega)), if_pos (show nI k < 3 from nI_lt (b := 3) hk (by omega)), zi_n _ hk (by omega)]
    rcases hF with ⟨a1, a2, a3, a4⟩ | ⟨a1, a2, a3, a4⟩
    · rw [a1, if_pos rfl, zb_some, a2, a3, a4]
      refine ⟨-5, rfl, ?_⟩
      rcases (show k = 0 ∨ k = 1 ∨ k = 2 by omega) with rfl | rfl | rfl <;> decide
    · rw [a1, if_neg n10, zb_some]
      rcases (show k = 0 ∨ k = 1 ∨ k = 2 by omega) with rfl | rfl | rfl
      · exact ⟨_, rfl, by rw [if_pos nI_0, a2]⟩
      · exact ⟨_, rfl, by rw [if_neg (show ¬ nI 1 = 0 by decide), if_pos (show nI 1 = 1 by decide), a3]⟩
      · refine ⟨_, rfl, ?_⟩
        rw [if_neg (show ¬ nI 2 = 0 by decide), if_neg (show ¬ nI 2 = 1 by decide), if_pos (show nI 2 = 2 by decide), a4]
        split <;> rfl
  · have hn := not_in (by omega) h0
    rw [if_neg (show ¬ x0 = 0 from hn 0 (by omega)), if_neg (show ¬ x0 = 1 from hn 1 (by omega)), if_neg (show ¬ x0 = 2 from hn 2 (by omega))]
    refine ⟨-1, ?_, rfl⟩
    rcases nI_cases (x := x0) (n := 3) (by omega) with q | q | q
    · exact absurd q h0
    · rw [if_pos q.1, zb_some]
    · rw [if_neg q.1, if_neg (show ¬ x0 < 3 from Int32.not_lt.mpr q.2), zb_some]
theorem byt_1 {C D : zx_Y} {b : Nat} (h : b < 128) : g_X10_isByte C (nI b) = some 1 ∧ g_X11_isIn D (nI b) 0 127 = some 1 := by
  refine ⟨?_, in_in (n := 128) (by omega) h⟩
  unfold g_X10_isByte
  rw [if_neg (nI_pos (by omega)), if_neg (show ¬ 127 < nI b from nI_nlt (a := 127) (by omega) (by omega))]
theorem byt_0 {C D : zx_Y} {x : Int32} (h : ¬ ∃ b, b < 128 ∧ x = nI b) : g_X10_isByte C x = some 0 ∧ g_X11_isIn D x 0 127 = some 0 := by
  refine ⟨?_, out_in (n := 128) (by omega) (by omega) h⟩
  unfold g_X10_isByte
  rcases nI_cases (x := x) (n := 128) (by omega) with q | q | q
  · exact absurd q h
  · rw [if_pos q.1]
  · rw [if_neg q.1, if_pos (show 127 < x from Int32.lt_of_lt_of_le (show (127 : Int32) < nI 128 by decide) q.2)]
theorem isIn_ex {D : zx_Y} (x a b : Int32) : ∃ v, g_X11_isIn D x a b = some v := by
  unfold g_X11_isIn
  (repeat' split) <;> exact ⟨_, rfl⟩
/-- the tapes hold the same L bytes -/
def TL (L : Nat) (C D : zx_Y) : Prop := C (14, 0, 0, 0) 1 = nI L ∧ D (25, 0, 0, 0) 4 = nI L ∧ ∀ j, j < L → ∃ b, b < 128 ∧ C (15, 0, 0, 0) j = nI b ∧ D (28, 0, 0, 0) j = nI b
theorem app_e {C : zx_Y} {L : Nat} {v : Int32} (hL : L < 60) (h : C (14, 0, 0, 0) 1 = nI L) : g_X8_append C v = some (zx_up (zx_up C (15, 0, 0, 0) L v) (14, 0, 0, 0) 1 (nI (L + 1))) := by
  unfold g_X8_append
  rw [h, if_neg (nI_pos (by omega)), if_pos (show nI L < 60 from nI_lt (b := 60) hL (by omega)), zi_n _ hL (by omega), zl_def, zl_def, up_n (by omega), h, nI_1]
theorem app_T {C D : zx_Y} {L b : Nat} (hL : L < 60) (hb : b < 128) (h : TL L C D) : TL (L + 1) (zx_up (zx_up C (15, 0, 0, 0) L (nI b)) (14, 0, 0, 0) 1 (nI (L + 1))) (zx_up (zx_up D (28, 0, 0, 0) L (nI b)) (25, 0, 0, 0) 4 (nI (L + 1))) := by
  refine ⟨up_e (by omega), up_e (by omega), fun j hj => ?_⟩
  by_cases e : j = L
  · subst e
    exact ⟨b, hb, by simp (disch := omega) only [up_n, up_e], by simp (disch := omega) only [up_n, up_e]⟩
  · simp (disch := omega) only [up_n]
    exact h.2.2 j (by omega)
theorem fdl_0 {D : zx_Y} {n k : Nat} {x1 x2 x3 x4 x5 : Int32} {kk : Int32 → zx_Y → Option (Int32 × zx_Y)} {q : Nat} (hk : n = k) (hn : n ≤ 5) : lg_X11_feed_94 (nI n) x1 x2 x3 x4 x5 kk (q + 1) (nI k) D = kk (nI n) D := by
  subst hk
  rw [lg_X11_feed_94.eq_2, if_pos (nI_le (Nat.le_refl _) (by omega))]
theorem fdl_s {D : zx_Y} {n k L : Nat} {x x1 x2 x3 x4 x5 : Int32} {kk : Int32 → zx_Y → Option (Int32 × zx_Y)} {q : Nat} (hk : k < n) (hn : n ≤ 5) (hL : L < 60) (hx : (if k = 0 then x1 else if k = 1 then x2 else if k = 2 then x3 else if k = 3 then x4 else x5) = x) (h : D (25, 0, 0, 0) 4 = nI L) : lg_X11_feed_94 (nI n) x1 x2 x3 x4 x5 kk (q + 1) (nI k) D = lg_X11_feed_94 (nI n) x1 x2 x3 x4 x5 kk q (nI (k + 1)) (zx_up (zx_up D (28, 0, 0, 0) L x) (25, 0, 0, 0) 4 (nI (L + 1))) := by
  subst hx
  have e1 : nI 1 = (1 : Int32) := rfl
  have e2 : nI 2 = (2 : Int32) := rfl
  have e3 : nI 3 = (3 : Int32) := rfl
  have e4 : nI 4 = (4 : Int32) := rfl
  rw [lg_X11_feed_94.eq_2, if_neg (nI_ge hk (by omega)), h]
  simp (disch := omega) only [zi_n, zl_def, up_n, h, nI_1]
  rcases (show k = 0 ∨ k = 1 ∨ k = 2 ∨ k = 3 ∨ k = 4 by omega) with rfl | rfl | rfl | rfl | rfl
  · rw [if_pos nI_0]; rfl
  · rw [if_neg (show ¬ nI 1 = 0 by decide), if_pos e1]; rfl
  · rw [if_neg (show ¬ nI 2 = 0 by decide), if_neg (show ¬ nI 2 = 1 by decide), if_pos e2]; rfl
  · rw [if_neg (show ¬ nI 3 = 0 by decide), if_neg (show ¬ nI 3 = 1 by decide), if_neg (show ¬ nI 3 = 2 by decide), if_pos e3]; rfl
  · rw [if_neg (show ¬ nI 4 = 0 by decide), if_neg (show ¬ nI 4 = 1 by decide), if_neg (show ¬ nI 4 = 2 by decide), if_neg (show ¬ nI 4 = 3 by decide)]; rfl
theorem Op_feed {C D : zx_Y} (hI : II C D) (x0 x1 x2 x3 x4 x5 : Int32) : ∃ v C' D', g_X10_feed C x0 x1 x2 x3 x4 x5 = some (v, C') ∧ g_X11_feed D x0 x1 x2 x3 x4 x5 = some (v, D') ∧ II C' D' := by
  obtain ⟨S, N, O, T, hT, hR, hP, hV, hA, hF⟩ := id hI
  obtain ⟨hS, hN, -⟩ := RN hR
  have hbad : ∀ v : Option (Int32 × zx_Y), (if x0 < 1 then some ((-2 : Int32), C) else if (5 : Int32) < x0 then some (-2, C) else some (-2, C)) = some (-2, C) := fun _ => by (repeat' split) <;> rfl
  have hbad2 : (zb (g_X11_isIn D x0 1 5) fun v2 => (if v2 = 0 then (some ((-2 : Int32), D)) else (some (-2, D)))) = some (-2, D) := by
    obtain ⟨v, hv⟩ := isIn_ex (D := D) x0 1 5
    rw [hv, zb_some]
    split <;> rfl
  by_cases h1 : ∃ b, b < 128 ∧ x1 = nI b
  rotate_left
  · refine ⟨-2, C, D, ?_, ?_, hI⟩
    · unfold g_X10_feed
      rw [(byt_0 (C := C) (D := D) h1).1, zb_some, if_pos rfl, hbad none]
    · unfold g_X11_feed
      rw [(byt_0 (C := C) (D := D) h1).2, zb_some, if_pos rfl, hbad2]
  obtain ⟨b1, hb1, rfl⟩ := h1
  by_cases h2 : ∃ b, b < 128 ∧ x2 = nI b
  rotate_left
  · refine ⟨-2, C, D, ?_, ?_, hI⟩
    · unfold g_X10_feed
      rw [(byt_1 (C := C) (D := D) hb1).1, zb_some, if_neg n10, (byt_0 (C := C) (D := D) h2).1, zb_some, if_pos rfl, hbad none]
    · unfold g_X11_feed
      rw [(byt_1 (C := C) (D := D) hb1).2, zb_some, if_neg n10, (byt_0 (C := C) (D := D) h2).2, zb_some, if_pos rfl, hbad2]
  obtain ⟨b2, hb2, rfl⟩ := h2
  by_cases h3 : ∃ b, b < 128 ∧ x3 = nI b
  rotate_left
  · refine ⟨-2, C, D, ?_, ?_, hI⟩
    · unfold g_X10_feed
      rw [(byt_1 (C := C) (D := D) hb1).1, zb_some, if_neg n10, (byt_1 (C := C) (D := D) hb2).1, zb_some, if_neg n10, (byt_0 (C := C) (D := D) h3).1, zb_some, if_pos rfl, hbad none]
    · unfold g_X11_feed
      rw [(byt_1 (C := C) (D := D) hb1).2, zb_some, if_neg n10, (byt_1 (C := C) (D := D) hb2).2, zb_some, if_neg n10, (byt_0 (C := C) (D := D) h3).2, zb_some, if_pos rfl, hbad2]
  obtain ⟨b3, hb3, rfl⟩ := h3
  by_cases h4 : ∃ b, b < 128 ∧ x4 = nI b
  rotate_left
  · refine ⟨-2, C, D, ?_, ?_, hI⟩
    · unfold g_X10_feed
      rw [(byt_1 (C := C) (D := D) hb1).1, zb_some, if_neg n10, (byt_1 (C := C) (D := D) hb2).1, zb_some, if_neg n10, (byt_1 (C := C) (D := D) hb3).1, zb_some, if_neg n10, (byt_0 (C := C) (D := D) h4).1, zb_some, if_pos rfl, hbad none]
    · unfold g_X11_feed
      rw [(byt_1 (C := C) (D := D) hb1).2, zb_some, if_neg n10, (byt_1 (C := C) (D := D) hb2).2, zb_some, if_neg n10, (byt_1 (C := C) (D := D) hb3).2, zb_some, if_neg n10, (byt_0 (C := C) (D := D) h4).2, zb_some, if_pos rfl, hbad2]
  obtain ⟨b4, hb4, rfl⟩ := h4
  by_cases h5 : ∃ b, b < 128 ∧ x5 = nI b
  rotate_left
  · refine ⟨-2, C, D, ?_, ?_, hI⟩
    · unfold g_X10_feed
      rw [(byt_1 (C := C) (D := D) hb1).1, zb_some, if_neg n10, (byt_1 (C := C) (D := D) hb2).1, zb_some, if_neg n10, (byt_1 (C := C) (D := D) hb3).1, zb_some, if_neg n10, (byt_1 (C := C) (D := D) hb4).1, zb_some, if_neg n10, (byt_0 (C := C) (D := D) h5).1, zb_some, if_pos rfl, hbad none]
    · unfold g_X11_feed
      rw [(byt_1 (C := C) (D := D) hb1).2, zb_some, if_neg n10, (byt_1 (C := C) (D := D) hb2).2, zb_some, if_neg n10, (byt_1 (C := C) (D := D) hb3).2, zb_some, if_neg n10, (byt_1 (C := C) (D := D) hb4).2, zb_some, if_neg n10, (byt_0 (C := C) (D := D) h5).2, zb_some, if_pos rfl, hbad2]
  obtain ⟨b5, hb5, rfl⟩ := h5
  by_cases h0 : ∃ n, 1 ≤ n ∧ n ≤ 5 ∧ x0 = nI n
  rotate_left
  · have q : x0 < 1 ∨ (5 : Int32) < x0 := by
      rcases nI_cases (x := x0) (n := 6) (by omega) with ⟨k, hk, rfl⟩ | q | q
      · rcases Nat.eq_zero_or_pos k with rfl | hp
        · left; decide
        · exact absurd ⟨k, hp, by omega, rfl⟩ h0
      · left
        exact Int32.lt_of_lt_of_le q.1 (by decide)
      · right
        exact Int32.lt_of_lt_of_le (show (5 : Int32) < nI 6 by decide) q.2
    refine ⟨-2, C, D, ?_, ?_, hI⟩
    · unfold g_X10_feed
      rw [(byt_1 (C := C) (D := D) hb1).1, zb_some, if_neg n10, (byt_1 (C := C) (D := D) hb2).1, zb_some, if_neg n10, (byt_1 (C := C) (D := D) hb3).1, zb_some, if_neg n10, (byt_1 (C := C) (D := D) hb4).1, zb_some, if_neg n10, (byt_1 (C := C) (D := D) hb5).1, zb_some, if_neg n10]
      by_cases c : x0 < 1
      · rw [if_pos c]
      · rw [if_neg c, if_pos (q.resolve_left c)]
    · unfold g_X11_feed
      rw [(byt_1 (C := C) (D := D) hb1).2, zb_some, if_neg n10, (byt_1 (C := C) (D := D) hb2).2, zb_some, if_neg n10, (byt_1 (C := C) (D := D) hb3).2, zb_some, if_neg n10, (byt_1 (C := C) (D := D) hb4).2, zb_some, if_neg n10, (byt_1 (C := C) (D := D) hb5).2, zb_some, if_neg n10, isIn_0 q, zb_some, if_pos rfl]
  obtain ⟨n, hn1, hn5, rfl⟩ := h0
  obtain ⟨L, hL, t1, t2, t3⟩ := id hA
  have hT0 : TL L C D := ⟨t1, t2, t3⟩
  have i5 : g_X11_isIn D (nI n) 1 5 = some 1 := isIn_1 (nI_nlt (b := 1) hn1 (by omega)) (nI_nlt (a := 5) hn5 (by omega))
  have l1 : ¬ nI n < 1 := nI_nlt (b := 1) hn1 (by omega)
  have l5 : ¬ (5 : Int32) < nI n := nI_nlt (a := 5) hn5 (by omega)
  by_cases hf : L + n ≤ 60
  rotate_left
  · have hf2 : ¬ nI (L + n) ≤ 60 := nI_ge (a := 60) (by omega) (by omega)
    refine ⟨-4, C, D, ?_, ?_, hI⟩
    · unfold g_X10_feed
      rw [(byt_1 (C := C) (D := D) hb1).1, zb_some, if_neg n10, (byt_1 (C := C) (D := D) hb2).1, zb_some, if_neg n10, (byt_1 (C := C) (D := D) hb3).1, zb_some, if_neg n10, (byt_1 (C := C) (D := D) hb4).1, zb_some, if_neg n10, (byt_1 (C := C) (D := D) hb5).1, zb_some, if_neg n10, if_neg l1, if_neg l5, t1, nI_add, if_neg hf2]
    · unfold g_X11_feed
      rw [(byt_1 (C := C) (D := D) hb1).2, zb_some, if_neg n10, (byt_1 (C := C) (D := D) hb2).2, zb_some, if_neg n10, (byt_1 (C := C) (D := D) hb3).2, zb_some, if_neg n10, (byt_1 (C := C) (D := D) hb4).2, zb_some, if_neg n10, (byt_1 (C := C) (D := D) hb5).2, zb_some, if_neg n10, i5, zb_some, if_neg n10, t2, nI_add, if_neg hf2]
  have hf2 : nI (L + n) ≤ 60 := nI_le (b := 60) hf (by omega)
  have fin : ∀ C' D', TL (L + n) C' D' → g_X10_feed C (nI n) (nI b1) (nI b2) (nI b3) (nI b4) (nI b5) = some (nI (L + n), C') → g_X11_feed D (nI n) (nI b1) (nI b2) (nI b3) (nI b4) (nI b5) = some (nI (L + n), D') → ∃ v C' D', g_X10_feed C (nI n) (nI b1) (nI b2) (nI b3) (nI b4) (nI b5) = some (v, C') ∧ g_X11_feed D (nI n) (nI b1) (nI b2) (nI b3) (nI b4) (nI b5) = some (v, D') ∧ II C' D' := fun C' D' hT1 e1 e2 => by
    have fc := fun c j => fr_X10_feed (c := c) (j_ := j) e1
    have fd := fun c j => fr_X11_feed (c := c) (j_ := j) e2
    exact ⟨_, _, _, e1, e2, S, N, O, T, hT, (R_cong (l := 0) (m := 0) (Lq_zc (fun c j e => fc c j (by rw [e]; decide))) (fun j _ => fd (26, 0, 0, 0) j (by show (10 : Nat) ≠ _; decide) (by show (10 : Nat) ≠ _; decide)) hR), (RP_cong (fun c j e => fc c j (by rw [e]; decide)) (fun c j e => fd c j (by rw [e]; decide) (by rw [e]; decide)) hP), (RV_cong (fun c j e => fc c j (by rw [e]; decide)) (fun c j e => fc c j (by rw [e]; decide)) (fun c j e => fd c j (by rw [e]; decide) (by rw [e]; decide)) (fun c j e => fd c j (by rw [e]; decide) (by rw [e]; decide)) hV), ⟨L + n, hf, hT1⟩, (RF_cong (fun c j e => fc c j (by rw [e]; decide)) (fun c j e => fd c j (by rw [e]; decide) (by rw [e]; decide)) (fun c j e => fd c j (by rw [e]; decide) (by rw [e]; decide)) (fun c j e => fd c j (by rw [e]; decide) (by rw [e]; decide)) hF)⟩
  rcases (show n = 1 ∨ n = 2 ∨ n = 3 ∨ n = 4 ∨ n = 5 by omega) with rfl | rfl | rfl | rfl | rfl
  · have T0 := hT0
    have T1 := app_T (b := b1) (by omega) hb1 T0
    refine fin _ _ T1 ?_ ?_
    · unfold g_X10_feed
      rw [(byt_1 (C := C) (D := D) hb1).1, zb_some, if_neg n10, (byt_1 (C := C) (D := D) hb2).1, zb_some, if_neg n10, (byt_1 (C := C) (D := D) hb3).1, zb_some, if_neg n10, (byt_1 (C := C) (D := D) hb4).1, zb_some, if_neg n10, (byt_1 (C := C) (D := D) hb5).1, zb_some, if_neg n10, if_neg l1, if_neg l5, t1, nI_add, if_pos hf2]
      simp (decide := true) only [↓reduceIte]
      rw [app_e (L := L) (by omega) T0.1, zm_some, T1.1]
    · unfold g_X11_feed
      rw [(byt_1 (C := C) (D := D) hb1).2, zb_some, if_neg n10, (byt_1 (C := C) (D := D) hb2).2, zb_some, if_neg n10, (byt_1 (C := C) (D := D) hb3).2, zb_some, if_neg n10, (byt_1 (C := C) (D := D) hb4).2, zb_some, if_neg n10, (byt_1 (C := C) (D := D) hb5).2, zb_some, if_neg n10, i5, zb_some, if_neg n10, t2, nI_add, if_pos hf2, ← nI_0]
      rw [fdl_s (L := L) (x := nI b1) (by omega) (by omega) (by omega) rfl T0.2.1, fdl_0 rfl (by omega), T1.2.1]
  · have T0 := hT0
    have T1 := app_T (b := b1) (by omega) hb1 T0
    have T2 := app_T (b := b2) (by omega) hb2 T1
    refine fin _ _ T2 ?_ ?_
    · unfold g_X10_feed
      rw [(byt_1 (C := C) (D := D) hb1).1, zb_some, if_neg n10, (byt_1 (C := C) (D := D) hb2).1, zb_some, if_neg n10, (byt_1 (C := C) (D := D) hb3).1, zb_some, if_neg n10, (byt_1 (C := C) (D := D) hb4).1, zb_some, if_neg n10, (byt_1 (C := C) (D := D) hb5).1, zb_some, if_neg n10, if_neg l1, if_neg l5, t1, nI_add, if_pos hf2]
      simp (decide := true) only [↓reduceIte]
      rw [app_e (L := L) (by omega) T0.1, zm_some, app_e (L := L + 1) (by omega) T1.1, zm_some, T2.1]
    · unfold g_X11_feed
      rw [(byt_1 (C := C) (D := D) hb1).2, zb_some, if_neg n10, (byt_1 (C := C) (D := D) hb2).2, zb_some, if_neg n10, (byt_1 (C := C) (D := D) hb3).2, zb_some, if_neg n10, (byt_1 (C := C) (D := D) hb4).2, zb_some, if_neg n10, (byt_1 (C := C) (D := D) hb5).2, zb_some, if_neg n10, i5, zb_some, if_neg n10, t2, nI_add, if_pos hf2, ← nI_0]
      rw [fdl_s (L := L) (x := nI b1) (by omega) (by omega) (by omega) rfl T0.2.1, fdl_s (L := L + 1) (x := nI b2) (by omega) (by omega) (by omega) rfl T1.2.1, fdl_0 rfl (by omega), T2.2.1]
  · have T0 := hT0
    have T1 := app_T (b := b1) (by omega) hb1 T0
    have T2 := app_T (b := b2) (by omega) hb2 T1
    have T3 := app_T (b := b3) (by omega) hb3 T2
    refine fin _ _ T3 ?_ ?_
    · unfold g_X10_feed
      rw [(byt_1 (C := C) (D := D) hb1).1, zb_some, if_neg n10, (byt_1 (C := C) (D := D) hb2).1, zb_some, if_neg n10, (byt_1 (C := C) (D := D) hb3).1, zb_some, if_neg n10, (byt_1 (C := C) (D := D) hb4).1, zb_some, if_neg n10, (byt_1 (C := C) (D := D) hb5).1, zb_some, if_neg n10, if_neg l1, if_neg l5, t1, nI_add, if_pos hf2]
      simp (decide := true) only [↓reduceIte]
      rw [app_e (L := L) (by omega) T0.1, zm_some, app_e (L := L + 1) (by omega) T1.1, zm_some, app_e (L := L + 2) (by omega) T2.1, zm_some, T3.1]
    · unfold g_X11_feed
      rw [(byt_1 (C := C) (D := D) hb1).2, zb_some, if_neg n10, (byt_1 (C := C) (D := D) hb2).2, zb_some, if_neg n10, (byt_1 (C := C) (D := D) hb3).2, zb_some, if_neg n10, (byt_1 (C := C) (D := D) hb4).2, zb_some, if_neg n10, (byt_1 (C := C) (D := D) hb5).2, zb_some, if_neg n10, i5, zb_some, if_neg n10, t2, nI_add, if_pos hf2, ← nI_0]
      rw [fdl_s (L := L) (x := nI b1) (by omega) (by omega) (by omega) rfl T0.2.1, fdl_s (L := L + 1) (x := nI b2) (by omega) (by omega) (by omega) rfl T1.2.1, fdl_s (L := L + 2) (x := nI b3) (by omega) (by omega) (by omega) rfl T2.2.1, fdl_0 rfl (by omega), T3.2.1]
  · have T0 := hT0
    have T1 := app_T (b := b1) (by omega) hb1 T0
    have T2 := app_T (b := b2) (by omega) hb2 T1
    have T3 := app_T (b := b3) (by omega) hb3 T2
    have T4 := app_T (b := b4) (by omega) hb4 T3
    refine fin _ _ T4 ?_ ?_
    · unfold g_X10_feed
      rw [(byt_1 (C := C) (D := D) hb1).1, zb_some, if_neg n10, (byt_1 (C := C) (D := D) hb2).1, zb_some, if_neg n10, (byt_1 (C := C) (D := D) hb3).1, zb_some, if_neg n10, (byt_1 (C := C) (D := D) hb4).1, zb_some, if_neg n10, (byt_1 (C := C) (D := D) hb5).1, zb_some, if_neg n10, if_neg l1, if_neg l5, t1, nI_add, if_pos hf2]
      simp (decide := true) only [↓reduceIte]
      rw [app_e (L := L) (by omega) T0.1, zm_some, app_e (L := L + 1) (by omega) T1.1, zm_some, app_e (L := L + 2) (by omega) T2.1, zm_some, app_e (L := L + 3) (by omega) T3.1, zm_some, T4.1]
    · unfold g_X11_feed
      rw [(byt_1 (C := C) (D := D) hb1).2, zb_some, if_neg n10, (byt_1 (C := C) (D := D) hb2).2, zb_some, if_neg n10, (byt_1 (C := C) (D := D) hb3).2, zb_some, if_neg n10, (byt_1 (C := C) (D := D) hb4).2, zb_some, if_neg n10, (byt_1 (C := C) (D := D) hb5).2, zb_some, if_neg n10, i5, zb_some, if_neg n10, t2, nI_add, if_pos hf2, ← nI_0]
      rw [fdl_s (L := L) (x := nI b1) (by omega) (by omega) (by omega) rfl T0.2.1, fdl_s (L := L + 1) (x := nI b2) (by omega) (by omega) (by omega) rfl T1.2.1, fdl_s (L := L + 2) (x := nI b3) (by omega) (by omega) (by omega) rfl T2.2.1, fdl_s (L := L + 3) (x := nI b4) (by omega) (by omega) (by omega) rfl T3.2.1, fdl_0 rfl (by omega), T4.2.1]
  · have T0 := hT0
    have T1 := app_T (b := b1) (by omega) hb1 T0
    have T2 := app_T (b := b2) (by omega) hb2 T1
    have T3 := app_T (b := b3) (by omega) hb3 T2
    have T4 := app_T (b := b4) (by omega) hb4 T3
    have T5 := app_T (b := b5) (by omega) hb5 T4
    refine fin _ _ T5 ?_ ?_
    · unfold g_X10_feed
      rw [(byt_1 (C := C) (D := D) hb1).1, zb_some, if_neg n10, (byt_1 (C := C) (D := D) hb2).1, zb_some, if_neg n10, (byt_1 (C := C) (D := D) hb3).1, zb_some, if_neg n10, (byt_1 (C := C) (D := D) hb4).1, zb_some, if_neg n10, (byt_1 (C := C) (D := D) hb5).1, zb_some, if_neg n10, if_neg l1, if_neg l5, t1, nI_add, if_pos hf2]
      simp (decide := true) only [↓reduceIte]
      rw [app_e (L := L) (by omega) T0.1, zm_some, app_e (L := L + 1) (by omega) T1.1, zm_some, app_e (L := L + 2) (by omega) T2.1, zm_some, app_e (L := L + 3) (by omega) T3.1, zm_some, app_e (L := L + 4) (by omega) T4.1, zm_some, T5.1]
    · unfold g_X11_feed
      rw [(byt_1 (C := C) (D := D) hb1).2, zb_some, if_neg n10, (byt_1 (C := C) (D := D) hb2).2, zb_some, if_neg n10, (byt_1 (C := C) (D := D) hb3).2, zb_some, if_neg n10, (byt_1 (C := C) (D := D) hb4).2, zb_some, if_neg n10, (byt_1 (C := C) (D := D) hb5).2, zb_some, if_neg n10, i5, zb_some, if_neg n10, t2, nI_add, if_pos hf2, ← nI_0]
      rw [fdl_s (L := L) (x := nI b1) (by omega) (by omega) (by omega) rfl T0.2.1, fdl_s (L := L + 1) (x := nI b2) (by omega) (by omega) (by omega) rfl T1.2.1, fdl_s (L := L + 2) (x := nI b3) (by omega) (by omega) (by omega) rfl T2.2.1, fdl_s (L := L + 3) (x := nI b4) (by omega) (by omega) (by omega) rfl T3.2.1, fdl_s (L := L + 4) (x := nI b5) (by omega) (by omega) (by omega) rfl T4.2.1, fdl_0 rfl (by omega), T5.2.1]
