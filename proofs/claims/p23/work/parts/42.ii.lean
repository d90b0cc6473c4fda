theorem zc_1 {j : Nat} (h : j < 6) (l : Nat) : zc (1, l, 0, 0) j = 100 + l := by
  have e : Nat.beq j 11 = false := by
    cases q : Nat.beq j 11 with
    | false => rfl
    | true => exact absurd (Nat.eq_of_beq_eq_true q) (by omega)
  show (bif Nat.beq j 11 then 200 + l else 100 + l) = 100 + l
  rw [e]
  rfl
theorem Lq_zc {l : Nat} {C C' : zx_Y} (hc : ∀ h j, zc h j = 100 + l → C' h j = C h j) : Lq l l C' C :=
  ⟨fun j hj => hc _ _ (zc_1 hj l), fun s j _ _ => hc _ _ rfl, fun s j _ _ => hc _ _ rfl, fun s j _ _ => hc _ _ rfl, fun s j _ _ => hc _ _ rfl, fun s j _ _ => hc _ _ rfl, fun s k j _ _ _ => hc _ _ rfl⟩
/-- the snapshot of both sides -/
def RV (C D : zx_Y) : Prop := (C (0, 0, 0, 0) 7 = 0 ∧ D (25, 0, 0, 0) 18 = 0) ∨ (C (0, 0, 0, 0) 7 = 1 ∧ D (25, 0, 0, 0) 18 = 1 ∧ ∃ S N O T, T ≤ 9999 ∧ R 1 S N O T (T + 1) C (D (32, 0, 0, 0)))
/-- the tape -/
def RA (C D : zx_Y) : Prop := ∃ L, L ≤ 60 ∧ C (14, 0, 0, 0) 1 = nI L ∧ D (25, 0, 0, 0) 4 = nI L ∧ ∀ j, j < L → ∃ b, b < 128 ∧ C (15, 0, 0, 0) j = nI b ∧ D (28, 0, 0, 0) j = nI b
/-- the latest refusal -/
def RF (C D : zx_Y) : Prop := (C (19, 0, 0, 0) 0 = 0 ∧ D (25, 0, 0, 0) 12 = -5 ∧ D (25, 0, 0, 0) 13 = -5 ∧ D (25, 0, 0, 0) 14 = -5) ∨ (C (19, 0, 0, 0) 0 = 1 ∧ C (20, 0, 0, 0) 0 = D (25, 0, 0, 0) 12 ∧ C (20, 0, 0, 0) 1 = D (25, 0, 0, 0) 13 ∧ C (20, 0, 0, 0) 2 = if D (25, 0, 0, 0) 13 = 1 then -5 else D (25, 0, 0, 0) 14)
/-- all of both sides, ahead of a call -/
def II (C D : zx_Y) : Prop := ∃ S N O T, T ≤ 9999 ∧ R 0 S N O T (T + 1) C (D (26, 0, 0, 0)) ∧ RP N C (D (26, 0, 0, 0)) ∧ RV C D ∧ RA C D ∧ RF C D
theorem RV_cong {C C' D D' : zx_Y} (h5 : ∀ c j, zc c j = 5 → C' c j = C c j) (h1 : ∀ c j, zc c j = 101 → C' c j = C c j) (d1 : ∀ c j, zc c j = 38 → D' c j = D c j) (d2 : ∀ c j, zc c j = 16 → D' c j = D c j) (h : RV C D) : RV C' D' := by
  unfold RV at h ⊢
  rw [h5 (0, 0, 0, 0) 7 rfl, d1 (25, 0, 0, 0) 18 rfl]
  rcases h with h | ⟨h2, h3, S, N, O, T, hT, hR⟩
  · exact Or.inl h
  · exact Or.inr ⟨h2, h3, S, N, O, T, hT, R_cong (Lq_zc h1) (fun j _ => d2 (32, 0, 0, 0) j rfl) hR⟩
theorem RA_cong {C C' D D' : zx_Y} (h1 : ∀ c j, zc c j = 1 → C' c j = C c j) (d1 : ∀ c j, zc c j = 24 → D' c j = D c j) (d2 : ∀ c j, zc c j = 12 → D' c j = D c j) (h : RA C D) : RA C' D' := by
  obtain ⟨L, hL, e1, e2, hb⟩ := h
  refine ⟨L, hL, (h1 (14, 0, 0, 0) 1 rfl).trans e1, (d1 (25, 0, 0, 0) 4 rfl).trans e2, fun j hj => ?_⟩
  rw [h1 (15, 0, 0, 0) j rfl, d2 (28, 0, 0, 0) j rfl]
  exact hb j hj
theorem RF_cong {C C' D D' : zx_Y} (h1 : ∀ c j, zc c j = 2 → C' c j = C c j) (d1 : ∀ c j, zc c j = 32 → D' c j = D c j) (d2 : ∀ c j, zc c j = 33 → D' c j = D c j) (d3 : ∀ c j, zc c j = 34 → D' c j = D c j) (h : RF C D) : RF C' D' := by
  unfold RF at h ⊢
  rw [h1 (19, 0, 0, 0) 0 rfl, h1 (20, 0, 0, 0) 0 rfl, h1 (20, 0, 0, 0) 1 rfl, h1 (20, 0, 0, 0) 2 rfl, d1 (25, 0, 0, 0) 12 rfl, d2 (25, 0, 0, 0) 13 rfl, d3 (25, 0, 0, 0) 14 rfl]
  exact h
theorem RP_cong' {N : Nat} {C C' : zx_Y} {A A' : Nat → Int32} (h1 : ∀ c j, zc c j = 4 → C' c j = C c j) (d1 : ∀ j, 475 ≤ j → j < 640 → A' j = A j) (h : RP N C A) : RP N C' A' := by
  unfold RP at h ⊢
  rw [h1 (22, 0, 0, 0) 0 rfl, h1 (22, 0, 0, 0) 1 rfl, h1 (22, 0, 0, 0) 2 rfl, d1 475 (by omega) (by omega), d1 476 (by omega) (by omega)]
  rcases h with h | ⟨a1, F, U, a2, a3, a4, a5, a6, a7, a8⟩
  · exact Or.inl h
  · refine Or.inr ⟨a1, F, U, a2, a3, a4, a5, a6, a7, fun t k s ht hk hs => ?_⟩
    rw [h1 (24, 2 * t + k, 0, 0) s rfl, d1 _ (by omega) (by omega)]
    exact a8 t k s ht hk hs
theorem RP_cong {N : Nat} {C C' D D' : zx_Y} (h1 : ∀ c j, zc c j = 4 → C' c j = C c j) (d1 : ∀ c j, zc c j = 10 → D' c j = D c j) (h : RP N C (D (26, 0, 0, 0))) : RP N C' (D' (26, 0, 0, 0)) := RP_cong' h1 (fun j _ _ => d1 _ _ rfl) h
theorem II_cong {C C' D D' : zx_Y} (hc : ∀ c j, c.1 < 25 → C' c j = C c j) (hd : ∀ c j, 25 ≤ c.1 → (c.1 = 25 → j < 19) → D' c j = D c j) (h : II C D) : II C' D' := by
  obtain ⟨S, N, O, T, hT, hR, hP, hV, hA, hF⟩ := h
  have zr : ∀ c j, zc c j = 10 ∨ zc c j = 12 ∨ zc c j = 16 ∨ zc c j = 24 ∨ zc c j = 32 ∨ zc c j = 33 ∨ zc c j = 34 ∨ zc c j = 38 → D' c j = D c j := fun c j e => by
    by_cases z : D' c j = D c j
    · exact z
    · exfalso
      have z2 : c.1 < 25 ∨ (c.1 = 25 ∧ 19 ≤ j) := by
        by_cases y : c.1 < 25
        · exact Or.inl y
        · by_cases w : c.1 = 25 ∧ 19 ≤ j
          · exact Or.inr w
          · exact absurd (hd c j (by omega) (by omega)) z
      obtain ⟨k, r⟩ := c
      unfold zc at e
      rcases z2 with z2 | ⟨z2, z3⟩
      · simp only at z2 e
        have y : ∀ b : Bool, (bif b then 200 + r.1 else 100 + r.1) = 100 + r.1 ∨ (bif b then 200 + r.1 else 100 + r.1) = 200 + r.1 := fun b => by cases b <;> simp
        have y := y (Nat.beq j 11)
        split at e <;> omega
      · simp only at z2 e
        subst z2
        simp only at e
        omega
  have zk : ∀ c j, zc c j = 1 ∨ zc c j = 2 ∨ zc c j = 4 ∨ zc c j = 5 ∨ zc c j = 100 ∨ zc c j = 101 → c.1 < 25 ∨ (c.1 = 25 ∧ 19 ≤ j) := fun c j e => by
    by_cases z : c.1 < 25
    · exact Or.inl z
    · obtain ⟨k, r⟩ := c
      unfold zc at e
      simp only at z e ⊢
      split at e <;> omega
  have fx : ∀ c j, zc c j = 1 ∨ zc c j = 2 ∨ zc c j = 4 ∨ zc c j = 5 → C' c j = C c j := fun c j e => by
    rcases zk c j (by omega) with z | ⟨z1, z2⟩
    · exact hc c j z
    · obtain ⟨k, r⟩ := c
      simp only at z1
      subst z1
      have e : (20 + j = 1 ∨ 20 + j = 2 ∨ 20 + j = 4 ∨ 20 + j = 5) := e
      omega
  have lq : ∀ l, Lq l l C' C := fun l => ⟨fun j hj => hc _ _ (by simp), fun s j _ _ => hc _ _ (by simp), fun s j _ _ => hc _ _ (by simp), fun s j _ _ => hc _ _ (by simp), fun s j _ _ => hc _ _ (by simp), fun s j _ _ => hc _ _ (by simp), fun s k j _ _ _ => hc _ _ (by simp)⟩
  refine ⟨S, N, O, T, hT, R_cong (lq 0) (fun j _ => hd _ _ (by simp) (by simp)) hR, RP_cong (fun c j e => fx c j (by omega)) (fun c j e => zr c j (by omega)) hP, ?_, RA_cong (fun c j e => fx c j (by omega)) (fun c j e => zr c j (by omega)) (fun c j e => zr c j (by omega)) hA, RF_cong (fun c j e => fx c j (by omega)) (fun c j e => zr c j (by omega)) (fun c j e => zr c j (by omega)) (fun c j e => zr c j (by omega)) hF⟩
  unfold RV at hV ⊢
  rw [fx (0, 0, 0, 0) 7 (by right; right; right; rfl), zr (25, 0, 0, 0) 18 (by simp [zc])]
  rcases hV with h | ⟨h2, h3, S, N, O, T, hT, hR⟩
  · exact Or.inl h
  · exact Or.inr ⟨h2, h3, S, N, O, T, hT, R_cong (lq 1) (fun j _ => hd _ _ (by simp) (by simp)) hR⟩
theorem rel_R {l S N O T B m : Nat} {C D : zx_Y} (hR : R l S N O T B C (D (26, 0, 0, 0))) (hm : m ≤ 60) : R l S N O T B (zx_up C (1, l, 0, 0) 2 (nI m)) ((zx_up D (26, 0, 0, 0) 26 (nI m)) (26, 0, 0, 0)) := by
  have hR0 := hR
  obtain ⟨hb, hs, hk, ho, hn, hts⟩ := hR0
  obtain ⟨hS, hS1, hN, hO, hT⟩ := hb.2.2.2.2.2.1
  have h0 := hb.1.1
  have h0d := hb.1.2
  have h3 := hb.2.2.1.1
  have h1d := hb.2.2.1.2
  have h4 := hb.2.2.2.1.1
  have h27 := hb.2.2.2.1.2
  refine ⟨?_, ?_, ?_, ?_, fun t ht => ?_, fun t ht => ?_⟩
  · unfold Rb at hb ⊢
    simp (disch := omega) only [up_n, up_e]
    exact ⟨hb.1, ⟨hb.2.1.1, trivial⟩, hb.2.2.1, hb.2.2.2.1, hb.2.2.2.2.1, hb.2.2.2.2.2.1, m, hm, rfl⟩
  · exact (Rs_keep hS (fun s j => (by first | (simp (disch := omega) only [up_n, up_e]; done) | rfl)) (fun j h1 h2 h3 => (by first | (simp (disch := omega) only [up_n, up_e]; done) | rfl)) hs)
  · exact (Rk_keep hS (fun s j => (by first | (simp (disch := omega) only [up_n, up_e]; done) | rfl)) (fun j h1 => (by first | (simp (disch := omega) only [up_n, up_e]; done) | rfl)) hk)
  · intro i hi
    simp (disch := omega) only [up_n]
    exact ho i hi
  · simp (disch := omega) only [up_n]
    exact hn t ht
  · exact Rt_cong (by omega) hS (fun j hj => (by simp (disch := omega) only [up_n])) (fun j hj => (by simp (disch := omega) only [up_n])) (fun k s hk hs => (by simp (disch := omega) only [up_n])) (fun j h1 h2 => (by simp (disch := omega) only [up_n])) (hts t ht)
theorem Op_relief {C D : zx_Y} (hI : II C D) (x0 : Int32) : ∃ v C' D', g_X10_relief C x0 = some (v, C') ∧ g_X11_relief D x0 = some (v, D') ∧ II C' D' := by
  obtain ⟨S, N, O, T, hT, hR, hP, hV, hA, hF⟩ := id hI
  obtain ⟨hS, hN, -⟩ := RN hR
  by_cases h0 : ∃ m, m < 61 ∧ x0 = nI m
  · obtain ⟨m, hm, rfl⟩ := h0
    have e1 : g_X10_relief C (nI m) = some (C (1, 0, 0, 0) 2, zx_up C (1, 0, 0, 0) 2 (nI m)) := by
      unfold g_X10_relief
      rw [if_neg (nI_pos (by omega)), if_pos (show nI m ≤ 60 from nI_le (b := 60) (by omega) (by omega)), zl_def]
    have e2 : g_X11_relief D (nI m) = some (C (1, 0, 0, 0) 2, zx_up D (26, 0, 0, 0) 26 (nI m)) := by
      unfold g_X11_relief
      rw [show g_X11_isIn D (nI m) 0 60 = some 1 from in_in (n := 61) (by omega) hm, zb_some, if_neg n10, zl_def, hR.1.2.1.2]
    have fc := fun c j => fr_X10_relief (c := c) (j_ := j) e1
    have fd := fun c j => fr_X11_relief (c := c) (j_ := j) e2
    exact ⟨_, _, _, e1, e2, S, N, O, T, hT, rel_R hR (by omega), (RP_cong' (fun c j e => fc c j (by rw [e]; decide)) (fun j h1 h2 => by simp (disch := omega) only [up_n]) hP), (RV_cong (fun c j e => fc c j (by rw [e]; decide)) (fun c j e => fc c j (by rw [e]; decide)) (fun c j e => fd c j (by rw [e]; decide)) (fun c j e => fd c j (by rw [e]; decide)) hV), (RA_cong (fun c j e => fc c j (by rw [e]; decide)) (fun c j e => fd c j (by rw [e]; decide)) (fun c j e => fd c j (by rw [e]; decide)) hA), (RF_cong (fun c j e => fc c j (by rw [e]; decide)) (fun c j e => fd c j (by rw [e]; decide)) (fun c j e => fd c j (by rw [e]; decide)) (fun c j e => fd c j (by rw [e]; decide)) hF)⟩
  · refine ⟨-2, C, D, ?_, ?_, hI⟩
    · unfold g_X10_relief
      rcases nI_cases (x := x0) (n := 61) (by omega) with q | q | q
      · exact absurd q h0
      · rw [if_pos q.1]
      · rw [if_neg q.1, if_neg (fun h => absurd (Int32.le_trans q.2 h) (by decide))]
    · unfold g_X11_relief
      rw [show g_X11_isIn D x0 0 60 = some 0 from out_in (n := 61) (by omega) (by omega) h0, zb_some, if_pos rfl]
theorem can_R {l S N O T B t f g e r : Nat} {C D : zx_Y} (hR : R l S N O T B C (D (26, 0, 0, 0))) (ht : t < N) (a4 : D (26, 0, 0, 0) (75 + 40 * t + 9) = -5)
    (hw : f < S ∧ g < S ∧ f ≠ g ∧ e ≤ 9 ∧ r ≤ 9999) (hx : C (7, l, t, 0) 1 = D (26, 0, 0, 0) (75 + 40 * t) ∧ C (7, l, t, 0) 2 = nI f ∧ D (26, 0, 0, 0) (75 + 40 * t + 1) = nI f ∧ C (7, l, t, 0) 3 = nI g ∧ D (26, 0, 0, 0) (75 + 40 * t + 2) = nI g ∧ C (7, l, t, 0) 4 = D (26, 0, 0, 0) (75 + 40 * t + 3) ∧ C (7, l, t, 0) 5 = nI r ∧ D (26, 0, 0, 0) (75 + 40 * t + 4) = nI r ∧ C (7, l, t, 0) 6 = nI e ∧ D (26, 0, 0, 0) (75 + 40 * t + 5) = nI e ∧ C (7, l, t, 0) 7 = D (26, 0, 0, 0) (75 + 40 * t + 6) ∧ C (7, l, t, 0) 8 = D (26, 0, 0, 0) (75 + 40 * t + 10) ∧ C (7, l, t, 0) 9 = D (26, 0, 0, 0) (75 + 40 * t + 11) ∧ C (7, l, t, 0) 11 = D (26, 0, 0, 0) (75 + 40 * t + 7) ∧ C (7, l, t, 0) 14 = D (26, 0, 0, 0) (75 + 40 * t + 9)) (hp : C (11, l, t, 0) 0 = D (26, 0, 0, 0) (75 + 40 * t + 13) ∧ C (11, l, t, 0) 1 = D (26, 0, 0, 0) (75 + 40 * t + 16) ∧ C (11, l, t, 0) 2 = D (26, 0, 0, 0) (75 + 40 * t + 14) ∧ C (11, l, t, 0) 3 = D (26, 0, 0, 0) (75 + 40 * t + 15)) (ha : ∀ s, s < 8 → C (13, l, t, 0) s = D (26, 0, 0, 0) (75 + 40 * t + 17 + s) ∧ C (13, l, t, 1) s = D (26, 0, 0, 0) (75 + 40 * t + 25 + s) ∧ (D (26, 0, 0, 0) (75 + 40 * t + 17 + s) = -5 ∨ ∃ a, a ≤ T ∧ D (26, 0, 0, 0) (75 + 40 * t + 17 + s) = nI a) ∧ (D (26, 0, 0, 0) (75 + 40 * t + 25 + s) = -5 ∨ ∃ a, a ≤ T ∧ D (26, 0, 0, 0) (75 + 40 * t + 25 + s) = nI a)) (hord : ∀ p q, p < 8 → q < 8 → Aj f g p q → ∀ d a, d < 2 ^ 31 → a < 2 ^ 31 → D (26, 0, 0, 0) (75 + 40 * t + 25 + p) = nI d → D (26, 0, 0, 0) (75 + 40 * t + 17 + q) = nI a → d < a) : R l S N O T B (zx_up (zx_up (zx_up (zx_up (zx_up C (7, l, t, 0) 1 5) (7, l, t, 0) 11 (nI T)) (7, l, t, 0) 9 (-5)) (7, l, t, 0) 12 (-5)) (7, l, t, 0) 14 (-5)) ((zx_up (zx_up (zx_up (zx_up D (26, 0, 0, 0) (75 + 40 * t) 5) (26, 0, 0, 0) (75 + 40 * t + 11) (-5)) (26, 0, 0, 0) (75 + 40 * t + 7) (nI T)) (26, 0, 0, 0) (75 + 40 * t + 8) (-5)) (26, 0, 0, 0)) := by
  have hR0 := hR
  obtain ⟨hb, hs, hk, ho, hn, hts⟩ := hR0
  obtain ⟨hS, hS1, hN, hO, hT⟩ := hb.2.2.2.2.2.1
  have h0 := hb.1.1
  have h0d := hb.1.2
  have h3 := hb.2.2.1.1
  have h1d := hb.2.2.1.2
  have h4 := hb.2.2.2.1.1
  have h27 := hb.2.2.2.1.2
  obtain ⟨q1, q2, q2d, q3, q3d, q4, q5, q5d, q6, q6d, q7, q8, q9, q11, q14⟩ := hx
  obtain ⟨p0, p1, p2, p3⟩ := hp
  exact R_tr hR ht ⟨fun j hj => (by first | (simp (disch := omega) only [up_n, up_e]; done) | rfl), fun i j hi hj => (by first | (simp (disch := omega) only [up_n, up_e]; done) | rfl), fun u j hu => (by first | (simp (disch := omega) only [up_n, up_e]; done) | rfl), (by first | (simp (disch := omega) only [up_n, up_e]; done) | rfl), fun u j hu => (by first | (simp (disch := omega) only [up_n, up_e]; done) | rfl), fun u k s hu => (by first | (simp (disch := omega) only [up_n, up_e]; done) | rfl)⟩ (fun j hj hj2 => (by first | (simp (disch := omega) only [up_n, up_e]; done) | rfl)) (fun j hj hj2 hj3 => (by first | (simp (disch := omega) only [up_n, up_e]; done) | rfl)) (Rs_keep hS (fun s j => (by first | (simp (disch := omega) only [up_n, up_e]; done) | rfl)) (fun j h1 h2 h3 => (by first | (simp (disch := omega) only [up_n, up_e]; done) | rfl)) hs) (Rk_keep hS (fun s j => (by first | (simp (disch := omega) only [up_n, up_e]; done) | rfl)) (fun j h1 => (by first | (simp (disch := omega) only [up_n, up_e]; done) | rfl)) hk) ⟨f, g, e, r, hw, ⟨(by first | (simp (disch := omega) only [up_n, up_e]; done) | (simp (disch := omega) only [up_n, up_e]; trivial) | rfl), (by first | (simp (disch := omega) only [up_n, up_e]; done) | (simp (disch := omega) only [up_n, up_e]; exact q2) | exact q2), (by first | (simp (disch := omega) only [up_n, up_e]; done) | (simp (disch := omega) only [up_n, up_e]; exact q2d) | exact q2d), (by first | (simp (disch := omega) only [up_n, up_e]; done) | (simp (disch := omega) only [up_n, up_e]; exact q3) | exact q3), (by first | (simp (disch := omega) only [up_n, up_e]; done) | (simp (disch := omega) only [up_n, up_e]; exact q3d) | exact q3d), (by first | (simp (disch := omega) only [up_n, up_e]; done) | (simp (disch := omega) only [up_n, up_e]; exact q4) | exact q4), (by first | (simp (disch := omega) only [up_n, up_e]; done) | (simp (disch := omega) only [up_n, up_e]; exact q5) | exact q5), (by first | (simp (disch := omega) only [up_n, up_e]; done) | (simp (disch := omega) only [up_n, up_e]; exact q5d) | exact q5d), (by first | (simp (disch := omega) only [up_n, up_e]; done) | (simp (disch := omega) only [up_n, up_e]; exact q6) | exact q6), (by first | (simp (disch := omega) only [up_n, up_e]; done) | (simp (disch := omega) only [up_n, up_e]; exact q6d) | exact q6d), (by first | (simp (disch := omega) only [up_n, up_e]; done) | (simp (disch := omega) only [up_n, up_e]; exact q7) | exact q7), (by first | (simp (disch := omega) only [up_n, up_e]; done) | (simp (disch := omega) only [up_n, up_e]; exact q8) | exact q8), (by first | (simp (disch := omega) only [up_n, up_e]; done) | (simp (disch := omega) only [up_n, up_e]; trivial) | rfl), (by first | (simp (disch := omega) only [up_n, up_e]; done) | (simp (disch := omega) only [up_n, up_e]; trivial) | rfl), (by simp (disch := omega) only [up_n, up_e]; exact a4.symm)⟩, ⟨(by first | (simp (disch := omega) only [up_n, up_e]; done) | (simp (disch := omega) only [up_n, up_e]; exact p0) | exact p0), (by first | (simp (disch := omega) only [up_n, up_e]; done) | (simp (disch := omega) only [up_n, up_e]; exact p1) | exact p1), (by first | (simp (disch := omega) only [up_n, up_e]; done) | (simp (disch := omega) only [up_n, up_e]; exact p2) | exact p2), (by first | (simp (disch := omega) only [up_n, up_e]; done) | (simp (disch := omega) only [up_n, up_e]; exact p3) | exact p3)⟩, (fun s hs_ => by simp (disch := omega) only [up_n, up_e]; exact ha s hs_), (fun a_ b_ h1 h2 h3 d_ c_ h4 h5 => by simp (disch := omega) only [up_n, up_e]; exact hord a_ b_ h1 h2 h3 d_ c_ h4 h5), (Or.inr (Or.inr (Or.inr (Or.inr ⟨Or.inr (by first | (simp (disch := omega) only [up_n, up_e]; done) | (simp (disch := omega) only [up_n, up_e]; trivial) | rfl), (by first | (simp (disch := omega) only [up_n, up_e]; done) | (simp (disch := omega) only [up_n, up_e]; trivial) | rfl), (by first | (simp (disch := omega) only [up_n, up_e]; done) | (simp (disch := omega) only [up_n, up_e]; trivial) | rfl)⟩))))⟩
theorem Op_cancel {C D : zx_Y} (hI : II C D) (x0 : Int32) : ∃ v C' D', g_X10_cancel C x0 = some (v, C') ∧ g_X11_cancel D x0 = some (v, D') ∧ II C' D' := by
  obtain ⟨S, N, O, T, hT, hR, hP, hV, hA, hF⟩ := id hI
  obtain ⟨hS, hN, -⟩ := RN hR
  by_cases h0 : ∃ t, t < N ∧ x0 = nI t
  · obtain ⟨t, ht, rfl⟩ := h0
    have ht10 : t < 10 := by omega
    obtain ⟨f, g, e, r, hw, hx, hp, ha, hord, hst⟩ := hR.2.2.2.2.2 t ht
    have bc : g_X10_cancel C (nI t) = (if D (26, 0, 0, 0) (75 + 40 * t) = 5 then some (-1, C) else if D (26, 0, 0, 0) (75 + 40 * t) = 0 then some (1, (zx_up (zx_up (zx_up (zx_up (zx_up C (7, 0, t, 0) 1 5) (7, 0, t, 0) 11 (nI T)) (7, 0, t, 0) 9 (-5)) (7, 0, t, 0) 12 (-5)) (7, 0, t, 0) 14 (-5))) else some (0, C)) := by
      unfold g_X10_cancel
      rw [tw_1 hR.1.2.2.2.1.1 hN ht, hx.1, chg_e, zm_some, hR.1.1.1]
    have bd : g_X11_cancel D (nI t) = (if D (26, 0, 0, 0) (75 + 40 * t) = 5 then some (-1, D) else if D (26, 0, 0, 0) (75 + 40 * t) = 0 then some (1, (zx_up (zx_up (zx_up (zx_up D (26, 0, 0, 0) (75 + 40 * t) 5) (26, 0, 0, 0) (75 + 40 * t + 11) (-5)) (26, 0, 0, 0) (75 + 40 * t + 7) (nI T)) (26, 0, 0, 0) (75 + 40 * t + 8) (-5))) else some (0, D)) := by
      unfold g_X11_cancel
      rw [isTr_1 hR.1.2.2.2.1.2 hN ht, zb_some, if_neg n10, at_0 ht10, zb_some, zb_some, bec_e ht10 hR.1.1.2, zm_some]
    by_cases h5 : D (26, 0, 0, 0) (75 + 40 * t) = 5
    · exact ⟨-1, C, D, by rw [bc, if_pos h5], by rw [bd, if_pos h5], hI⟩
    · by_cases hz : D (26, 0, 0, 0) (75 + 40 * t) = 0
      · have e1 : g_X10_cancel C (nI t) = some (1, (zx_up (zx_up (zx_up (zx_up (zx_up C (7, 0, t, 0) 1 5) (7, 0, t, 0) 11 (nI T)) (7, 0, t, 0) 9 (-5)) (7, 0, t, 0) 12 (-5)) (7, 0, t, 0) 14 (-5))) := by rw [bc, if_neg h5, if_pos hz]
        have e2 : g_X11_cancel D (nI t) = some (1, (zx_up (zx_up (zx_up (zx_up D (26, 0, 0, 0) (75 + 40 * t) 5) (26, 0, 0, 0) (75 + 40 * t + 11) (-5)) (26, 0, 0, 0) (75 + 40 * t + 7) (nI T)) (26, 0, 0, 0) (75 + 40 * t + 8) (-5))) := by rw [bd, if_neg h5, if_pos hz]
        have a4 : D (26, 0, 0, 0) (75 + 40 * t + 9) = -5 := by
          rcases hst with ⟨a1, a2, a3, a4, a5⟩ | ⟨a1, -⟩ | ⟨a1, -⟩ | ⟨a1, -⟩ | ⟨a1, -⟩
          · exact a4
          · rw [hz] at a1; exact absurd a1 (by decide)
          · rw [hz] at a1; exact absurd a1 (by decide)
          · rw [hz] at a1; exact absurd a1 (by decide)
          · rw [hz] at a1; rcases a1 with a1 | a1 <;> exact absurd a1 (by decide)
        have fc := fun c j => fr_X10_cancel (c := c) (j_ := j) e1
        have fd := fun c j => fr_X11_cancel (c := c) (j_ := j) e2
        exact ⟨_, _, _, e1, e2, S, N, O, T, hT, can_R hR ht a4 hw hx hp ha hord, (RP_cong' (fun c j e => fc c j (by rw [e]; decide)) (fun j h1 h2 => by simp (disch := omega) only [up_n]) hP), (RV_cong (fun c j e => fc c j (by rw [e]; decide)) (fun c j e => fc c j (by rw [e]; decide)) (fun c j e => fd c j (by rw [e]; decide)) (fun c j e => fd c j (by rw [e]; decide)) hV), (RA_cong (fun c j e => fc c j (by rw [e]; decide)) (fun c j e => fd c j (by rw [e]; decide)) (fun c j e => fd c j (by rw [e]; decide)) hA), (RF_cong (fun c j e => fc c j (by rw [e]; decide)) (fun c j e => fd c j (by rw [e]; decide)) (fun c j e => fd c j (by rw [e]; decide)) (fun c j e => fd c j (by rw [e]; decide)) hF)⟩
      · exact ⟨0, C, D, by rw [bc, if_neg h5, if_neg hz], by rw [bd, if_neg h5, if_neg hz], hI⟩
  · refine ⟨-1, C, D, ?_, ?_, hI⟩
    · unfold g_X10_cancel
      rw [tw_0 hR.1.2.2.2.1.1 hN h0]
    · unfold g_X11_cancel
      rw [isTr_0 hR.1.2.2.2.1.2 hN h0, zb_some, if_pos rfl]
