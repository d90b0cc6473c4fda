section QL
/-- what a plan of the minutes behind T keeps of a minute, and whether it counts -/
def vl (T : Nat) (x : Int32) : Int32 := if x ≤ nI T then -5 else x
def ct (T : Nat) (x : Int32) : Nat := if x ≤ nI T then 0 else 1
theorem row_e {l t k T : Nat} {C0 : zx_Y} (ht : t < 10) (hk : k < 2) (hT : C0 (22, 0, 0, 0) 1 = nI T) : ∃ C', g_X3_takeRow C0 l t (nI t) (nI k) = some (nI (sm (fun s => ct T (C0 (13, l, t, k) s)) 8), C') ∧ (∀ h j, h ≠ (24, 2 * t + k, 0, 0) → C' h j = C0 h j) ∧ ∀ s, s < 8 → C' (24, 2 * t + k, 0, 0) s = vl T (C0 (13, l, t, k) s) := by
  have lp : ∀ (d s q : Nat) (C : zx_Y), s + d = 8 → d < q → (∀ h j, h ≠ (24, 2 * t + k, 0, 0) → C h j = C0 h j) → (∀ j, j < s → C (24, 2 * t + k, 0, 0) j = vl T (C0 (13, l, t, k) j)) → ∃ C', lg_X3_takeRow_18 l t (nI k) (2 * t + k) (fun v1 v2 M1 => some (v1, M1)) q (nI (sm (fun s => ct T (C0 (13, l, t, k) s)) s)) (nI s) C = some (nI (sm (fun s => ct T (C0 (13, l, t, k) s)) 8), C') ∧ (∀ h j, h ≠ (24, 2 * t + k, 0, 0) → C' h j = C0 h j) ∧ ∀ s, s < 8 → C' (24, 2 * t + k, 0, 0) s = vl T (C0 (13, l, t, k) s) := by
    intro d
    induction d with
    | zero =>
      intro s q C e h g1 g2
      obtain ⟨q, rfl⟩ : ∃ q', q = q' + 1 := ⟨q - 1, by omega⟩
      have e : s = 8 := by omega
      subst e
      exact ⟨C, by rw [lg_X3_takeRow_18.eq_2, if_pos (show (8 : Int32) ≤ nI 8 by decide)], g1, g2⟩
    | succ d ih =>
      intro s q C e h g1 g2
      obtain ⟨q, rfl⟩ : ∃ q', q = q' + 1 := ⟨q - 1, by omega⟩
      have hs : s < 8 := by omega
      have c1 : C (13, l, t, k) s = C0 (13, l, t, k) s := g1 _ _ (by simp)
      have c2 : C (22, 0, 0, 0) 1 = nI T := (g1 _ _ (by simp)).trans hT
      obtain ⟨C', a1, a2, a3⟩ := ih (s + 1) q (zx_up C (24, 2 * t + k, 0, 0) s (vl T (C0 (13, l, t, k) s))) (by omega) (by omega) (fun h j hh => (zx_up_h _ _ _ _ hh).trans (g1 h j hh)) (fun j hj => by
        by_cases z : j = s
        · subst z
          exact up_e (by omega)
        · rw [up_n (by omega)]
          exact g2 j (by omega))
      refine ⟨C', ?_, a2, a3⟩
      rw [← a1, lg_X3_takeRow_18.eq_2, if_neg (show ¬ (8 : Int32) ≤ nI s from nI_ge (b := 8) hs (by omega))]
      simp (disch := omega) only [zi_n, zl_def, c1, c2, nI_1]
      show _ = lg_X3_takeRow_18 l t (nI k) (2 * t + k) _ q (nI (sm (fun s => ct T (C0 (13, l, t, k) s)) s + ct T (C0 (13, l, t, k) s))) _ _
      unfold vl ct
      by_cases z : C0 (13, l, t, k) s ≤ nI T
      · simp only [if_pos z, Nat.add_zero]
      · simp only [if_neg z]
  obtain ⟨C', a1, a2, a3⟩ := lp 8 0 1000 C0 (by omega) (by omega) (fun _ _ _ => rfl) (fun j hj => absurd hj (by omega))
  refine ⟨C', ?_, a2, a3⟩
  unfold g_X3_takeRow
  rw [show (2 * nI t + nI k : Int32) = nI (2 * t + k) from by rw [show (2 : Int32) = nI 2 from rfl, pk_mul, nI_add], zi_n _ (by omega) (by omega)]
  rw [show nI (sm (fun s => ct T (C0 (13, l, t, k) s)) 0) = 0 from nI_0, nI_0] at a1
  exact a1
theorem row_n {t k : Nat} {C0 : zx_Y} (ht : t < 10) (hk : k < 2) : ∃ C', g_X3_takeRow_n C0 (nI t) (nI k) = some (0, C') ∧ (∀ h j, h ≠ (24, 2 * t + k, 0, 0) → C' h j = C0 h j) ∧ ∀ s, s < 8 → C' (24, 2 * t + k, 0, 0) s = -5 := by
  have lp : ∀ (d s q : Nat) (C : zx_Y), s + d = 8 → d < q → (∀ h j, h ≠ (24, 2 * t + k, 0, 0) → C h j = C0 h j) → (∀ j, j < s → C (24, 2 * t + k, 0, 0) j = -5) → ∃ C', lg_X3_takeRow_18_2 (nI k) (2 * t + k) (fun v1 v2 M1 => some (v1, M1)) q 0 (nI s) C = some (0, C') ∧ (∀ h j, h ≠ (24, 2 * t + k, 0, 0) → C' h j = C0 h j) ∧ ∀ s, s < 8 → C' (24, 2 * t + k, 0, 0) s = -5 := by
    intro d
    induction d with
    | zero =>
      intro s q C e h g1 g2
      obtain ⟨q, rfl⟩ : ∃ q', q = q' + 1 := ⟨q - 1, by omega⟩
      have e : s = 8 := by omega
      subst e
      exact ⟨C, by rw [lg_X3_takeRow_18_2.eq_2, if_pos (show (8 : Int32) ≤ nI 8 by decide)], g1, g2⟩
    | succ d ih =>
      intro s q C e h g1 g2
      obtain ⟨q, rfl⟩ : ∃ q', q = q' + 1 := ⟨q - 1, by omega⟩
      have hs : s < 8 := by omega
      obtain ⟨C', a1, a2, a3⟩ := ih (s + 1) q (zx_up C (24, 2 * t + k, 0, 0) s (-5)) (by omega) (by omega) (fun h j hh => (zx_up_h _ _ _ _ hh).trans (g1 h j hh)) (fun j hj => by
        by_cases z : j = s
        · subst z
          exact up_e (by omega)
        · rw [up_n (by omega)]
          exact g2 j (by omega))
      refine ⟨C', ?_, a2, a3⟩
      rw [← a1, lg_X3_takeRow_18_2.eq_2, if_neg (show ¬ (8 : Int32) ≤ nI s from nI_ge (b := 8) hs (by omega)), zi_n _ hs (by omega), zl_def, nI_1]
  obtain ⟨C', a1, a2, a3⟩ := lp 8 0 1000 C0 (by omega) (by omega) (fun _ _ _ => rfl) (fun j hj => absurd hj (by omega))
  refine ⟨C', ?_, a2, a3⟩
  unfold g_X3_takeRow_n
  rw [show (2 * nI t + nI k : Int32) = nI (2 * t + k) from by rw [show (2 : Int32) = nI 2 from rfl, pk_mul, nI_add], zi_n _ (by omega) (by omega)]
  rw [nI_0] at a1
  exact a1
/-- the class's plan -/
theorem mak_e {N T n : Nat} {C0 : zx_Y} (hN : N ≤ 10) (h4 : C0 (1, 2, 0, 0) 4 = nI N) : ∃ C', g_X3_make C0 2 (nI T) (nI n) = some (nI (sm (fun t => sm (fun s => ct T (C0 (13, 2, t, 0) s)) 8 + sm (fun s => ct T (C0 (13, 2, t, 1) s)) 8) N), C') ∧ C' (22, 0, 0, 0) 0 = 1 ∧ C' (22, 0, 0, 0) 1 = nI T ∧ C' (22, 0, 0, 0) 2 = nI (T + n) ∧ (∀ t k s, t < 10 → k < 2 → s < 8 → (t < N → C' (24, 2 * t + k, 0, 0) s = vl T (C0 (13, 2, t, k) s)) ∧ (N ≤ t → C' (24, 2 * t + k, 0, 0) s = -5)) := by
  have lp : ∀ (d i q : Nat) (C : zx_Y), i + d = 10 → d < q → (∀ h j, h.1 ≠ 24 → h.1 ≠ 22 → C h j = C0 h j) → C (22, 0, 0, 0) 0 = 1 → C (22, 0, 0, 0) 1 = nI T → C (22, 0, 0, 0) 2 = nI (T + n) → (∀ t k s, t < i → k < 2 → s < 8 → (t < N → C (24, 2 * t + k, 0, 0) s = vl T (C0 (13, 2, t, k) s)) ∧ (N ≤ t → C (24, 2 * t + k, 0, 0) s = -5)) → ∃ C', lg_X3_make_23 2 (fun v1 v2 M4 => some (v1, M4)) q (nI (sm (fun t => if t < N then sm (fun s => ct T (C0 (13, 2, t, 0) s)) 8 + sm (fun s => ct T (C0 (13, 2, t, 1) s)) 8 else 0) i)) (nI i) C = some (nI (sm (fun t => if t < N then sm (fun s => ct T (C0 (13, 2, t, 0) s)) 8 + sm (fun s => ct T (C0 (13, 2, t, 1) s)) 8 else 0) 10), C') ∧ C' (22, 0, 0, 0) 0 = 1 ∧ C' (22, 0, 0, 0) 1 = nI T ∧ C' (22, 0, 0, 0) 2 = nI (T + n) ∧ (∀ t k s, t < 10 → k < 2 → s < 8 → (t < N → C' (24, 2 * t + k, 0, 0) s = vl T (C0 (13, 2, t, k) s)) ∧ (N ≤ t → C' (24, 2 * t + k, 0, 0) s = -5)) := by
    intro d
    induction d with
    | zero =>
      intro i q C e h g0 g1 g2 g3 g4
      obtain ⟨q, rfl⟩ : ∃ q', q = q' + 1 := ⟨q - 1, by omega⟩
      have e : i = 10 := by omega
      subst e
      exact ⟨C, by rw [lg_X3_make_23.eq_2, if_pos (show (10 : Int32) ≤ nI 10 by decide)], g1, g2, g3, g4⟩
    | succ d ih =>
      intro i q C e h g0 g1 g2 g3 g4
      obtain ⟨q, rfl⟩ : ∃ q', q = q' + 1 := ⟨q - 1, by omega⟩
      have hi : i < 10 := by omega
      have c4 : C (1, 2, 0, 0) 4 = nI N := (g0 _ _ (by simp) (by simp)).trans h4
      by_cases z : i < N
      · obtain ⟨Ca, a1, a2, a3⟩ := row_e (l := 2) (C0 := C) hi (show 0 < 2 by omega) g2
        have a4 : Ca (22, 0, 0, 0) 1 = nI T := (a2 _ _ (by simp)).trans g2
        obtain ⟨Cb, b1, b2, b3⟩ := row_e (l := 2) (C0 := Ca) hi (show 1 < 2 by omega) a4
        have y0 : ∀ s, C (13, 2, i, 0) s = C0 (13, 2, i, 0) s := fun s => g0 _ _ (by simp) (by simp)
        have y1 : ∀ s, Ca (13, 2, i, 1) s = C0 (13, 2, i, 1) s := fun s => (a2 _ _ (by simp)).trans (g0 _ _ (by simp) (by simp))
        obtain ⟨C', r1, r2⟩ := ih (i + 1) q Cb (by omega) (by omega) (fun h j h1 h2 => by
            rw [b2 h j (fun q => h1 (by rw [q])), a2 h j (fun q => h1 (by rw [q]))]
            exact g0 h j h1 h2) (by rw [b2 _ _ (by simp), a2 _ _ (by simp)]; exact g1) (by rw [b2 _ _ (by simp), a2 _ _ (by simp)]; exact g2) (by rw [b2 _ _ (by simp), a2 _ _ (by simp)]; exact g3) (fun t k s ht hk hs => by
            by_cases w : t = i
            · subst w
              refine ⟨fun _ => ?_, fun w2 => absurd w2 (by omega)⟩
              rcases (show k = 0 ∨ k = 1 by omega) with rfl | rfl
              · rw [b2 _ _ (by simp), a3 s hs, y0]
              · rw [b3 s hs, y1]
            · rw [b2 _ _ (by simp; omega), a2 _ _ (by simp; omega)]
              exact g4 t k s (by omega) hk hs)
        refine ⟨C', ?_, r2⟩
        rw [← r1, lg_X3_make_23.eq_2, if_neg (show ¬ (10 : Int32) ≤ nI i from nI_ge (b := 10) hi (by omega)), tw_1 c4 hN z, show g_X3_takeRow C 2 i (nI i) 0 = _ from a1, zv_some, show g_X3_takeRow Ca 2 i (nI i) 1 = _ from b1, zv_some, nI_1, nI_add, nI_add]
        show _ = lg_X3_make_23 2 _ q (nI (sm (fun t => if t < N then sm (fun s => ct T (C0 (13, 2, t, 0) s)) 8 + sm (fun s => ct T (C0 (13, 2, t, 1) s)) 8 else 0) i + (if i < N then sm (fun s => ct T (C0 (13, 2, i, 0) s)) 8 + sm (fun s => ct T (C0 (13, 2, i, 1) s)) 8 else 0))) _ _
        rw [if_pos z]
        simp only [y0, y1]
      · obtain ⟨Ca, a1, a2, a3⟩ := row_n (C0 := C) hi (show 0 < 2 by omega)
        obtain ⟨Cb, b1, b2, b3⟩ := row_n (C0 := Ca) hi (show 1 < 2 by omega)
        obtain ⟨C', r1, r2⟩ := ih (i + 1) q Cb (by omega) (by omega) (fun h j h1 h2 => by
            rw [b2 h j (fun q => h1 (by rw [q])), a2 h j (fun q => h1 (by rw [q]))]
            exact g0 h j h1 h2) (by rw [b2 _ _ (by simp), a2 _ _ (by simp)]; exact g1) (by rw [b2 _ _ (by simp), a2 _ _ (by simp)]; exact g2) (by rw [b2 _ _ (by simp), a2 _ _ (by simp)]; exact g3) (fun t k s ht hk hs => by
            by_cases w : t = i
            · subst w
              refine ⟨fun w2 => absurd w2 z, fun _ => ?_⟩
              rcases (show k = 0 ∨ k = 1 by omega) with rfl | rfl
              · rw [b2 _ _ (by simp), a3 s hs]
              · rw [b3 s hs]
            · rw [b2 _ _ (by simp; omega), a2 _ _ (by simp; omega)]
              exact g4 t k s (by omega) hk hs)
        refine ⟨C', ?_, r2⟩
        rw [← r1, lg_X3_make_23.eq_2, if_neg (show ¬ (10 : Int32) ≤ nI i from nI_ge (b := 10) hi (by omega)), tw_0 c4 hN (fun ⟨s, h1, h2⟩ => z (by rw [nI_inj h2 (by omega) (by omega)]; exact h1)), show g_X3_takeRow_n C (nI i) 0 = _ from a1, zv_some, show g_X3_takeRow_n Ca (nI i) 1 = _ from b1, zv_some, nI_1]
        show _ = lg_X3_make_23 2 _ q (nI (sm (fun t => if t < N then sm (fun s => ct T (C0 (13, 2, t, 0) s)) 8 + sm (fun s => ct T (C0 (13, 2, t, 1) s)) 8 else 0) i + (if i < N then sm (fun s => ct T (C0 (13, 2, i, 0) s)) 8 + sm (fun s => ct T (C0 (13, 2, i, 1) s)) 8 else 0))) _ _
        rw [if_neg z, Int32.add_zero, Int32.add_zero]
        rfl
  obtain ⟨C', a1, a2⟩ := lp 10 0 1000 (zx_up (zx_up (zx_up C0 (22, 0, 0, 0) 0 1) (22, 0, 0, 0) 1 (nI T)) (22, 0, 0, 0) 2 (nI (T + n))) (by omega) (by omega) (fun h j h1 h2 => by rw [zx_up_h _ _ _ _ (fun q => h2 (by rw [q])), zx_up_h _ _ _ _ (fun q => h2 (by rw [q])), zx_up_h _ _ _ _ (fun q => h2 (by rw [q]))]) (by simp (disch := omega) only [up_n, up_e]) (by simp (disch := omega) only [up_n, up_e]) (up_e (by omega)) (fun t k s ht => absurd ht (by omega))
  refine ⟨C', ?_, a2⟩
  unfold g_X3_make
  rw [zl_def, zl_def, zl_def, nI_add]
  rw [show nI (sm (fun t => if t < N then sm (fun s => ct T (C0 (13, 2, t, 0) s)) 8 + sm (fun s => ct T (C0 (13, 2, t, 1) s)) 8 else 0) 0) = 0 from nI_0, nI_0, sm_zero (m := N) 10 hN (fun i h1 h2 => if_neg (by omega)), sm_congr (b := fun t => sm (fun s => ct T (C0 (13, 2, t, 0) s)) 8 + sm (fun s => ct T (C0 (13, 2, t, 1) s)) 8) N (fun i hi => if_pos hi)] at a1
  exact a1
/-- the reference's plan, laid into the row that is kept -/
theorem pln_e {N T n : Nat} {D0 : zx_Y} (hN : N ≤ 10) (hT : T < 2 ^ 31) (h27 : D0 (26, 0, 0, 0) 27 = nI N) (kk : Int32 → Int32 → zx_Y → Option (Int32 × zx_Y)) : ∃ D', lg_X11_plan_43 (nI n) (nI T) kk 1000 0 0 D0 = kk (nI (sm (fun t => sm (fun s => ct T (D0 (26, 0, 0, 0) (75 + 40 * t + 17 + s))) 16) N)) (nI N) D' ∧ (∀ h j, h ≠ (31, 0, 0, 0) → D' h j = D0 h j) ∧ (∀ j, (j < 477 ∨ 477 + 16 * N ≤ j) → D' (31, 0, 0, 0) j = D0 (31, 0, 0, 0) j) ∧ ∀ t s, t < N → s < 16 → D' (31, 0, 0, 0) (477 + 16 * t + s) = vl T (D0 (26, 0, 0, 0) (75 + 40 * t + 17 + s)) := by
  have inn : ∀ (t : Nat) (k2 : Int32 → Int32 → zx_Y → Option (Int32 × zx_Y)), t < N → ∀ (d s q a : Nat) (D : zx_Y), s + d = 16 → d < q → (∀ h j, h ≠ (31, 0, 0, 0) → D h j = D0 h j) → ∃ D', lg_X11_plan_58 (nI n) (nI T) (nI t) k2 q (nI (a + sm (fun s => ct T (D0 (26, 0, 0, 0) (75 + 40 * t + 17 + s))) s)) (nI s) D = k2 (nI (a + sm (fun s => ct T (D0 (26, 0, 0, 0) (75 + 40 * t + 17 + s))) 16)) (nI 16) D' ∧ (∀ h j, h ≠ (31, 0, 0, 0) → D' h j = D0 h j) ∧ ∀ j, D' (31, 0, 0, 0) j = if 477 + 16 * t + s ≤ j ∧ j < 477 + 16 * t + 16 then vl T (D0 (26, 0, 0, 0) (75 + 40 * t + 17 + (j - (477 + 16 * t)))) else D (31, 0, 0, 0) j := by
    intro t k2 ht d
    induction d with
    | zero =>
      intro s q a D e h g0
      obtain ⟨q, rfl⟩ : ∃ q', q = q' + 1 := ⟨q - 1, by omega⟩
      have e : s = 16 := by omega
      subst e
      exact ⟨D, by rw [lg_X11_plan_58.eq_2, if_pos (show (16 : Int32) ≤ nI 16 by decide)], g0, fun j => by rw [if_neg (by omega)]⟩
    | succ d ih =>
      intro s q a D e h g0
      obtain ⟨q, rfl⟩ : ∃ q', q = q' + 1 := ⟨q - 1, by omega⟩
      have hs : s < 16 := by omega
      have hp : g_X11_happened D (nI t) (nI s) = some (D0 (26, 0, 0, 0) (75 + 40 * t + 17 + s)) := by
        unfold g_X11_happened
        rw [at_arr (by omega) hs, zb_some, g0 _ _ (by simp)]
      have ix : (477 + 16 * nI t + nI s : Int32) = nI (477 + 16 * t + s) := by rw [show (477 : Int32) = nI 477 from rfl, show (16 : Int32) = nI 16 from rfl, pk_mul, nI_add, nI_add]
      obtain ⟨D', r1, r2, r3⟩ := ih (s + 1) q a (zx_up D (31, 0, 0, 0) (477 + 16 * t + s) (vl T (D0 (26, 0, 0, 0) (75 + 40 * t + 17 + s)))) (by omega) (by omega) (fun h j hh => (zx_up_h _ _ _ _ hh).trans (g0 h j hh))
      refine ⟨D', ?_, r2, fun j => ?_⟩
      · rw [← r1, lg_X11_plan_58.eq_2, if_neg (show ¬ (16 : Int32) ≤ nI s from nI_ge (b := 16) hs (by omega)), hp, zb_some, zb_some, ix, zi_n _ (by omega) (by omega), zi_n _ (by omega) (by omega), zl_def, zl_def, nI_1, Int32.add_zero]
        show _ = lg_X11_plan_58 (nI n) (nI T) (nI t) k2 q (nI (a + (sm (fun s => ct T (D0 (26, 0, 0, 0) (75 + 40 * t + 17 + s))) s + ct T (D0 (26, 0, 0, 0) (75 + 40 * t + 17 + s))))) _ _
        unfold vl
        by_cases z : D0 (26, 0, 0, 0) (75 + 40 * t + 17 + s) ≤ nI T
        · have y : ct T (D0 (26, 0, 0, 0) (75 + 40 * t + 17 + s)) = 0 := if_pos z
          rw [y, if_pos z, if_pos z]
          rfl
        · have y : ct T (D0 (26, 0, 0, 0) (75 + 40 * t + 17 + s)) = 1 := if_neg z
          have y5 : ¬ D0 (26, 0, 0, 0) (75 + 40 * t + 17 + s) = -5 := fun q5 => z (by rw [q5]; exact m5_le T hT)
          rw [y, if_neg z, if_neg z, if_neg y5, nI_1]
          rfl
      · rw [r3 j]
        by_cases w : j = 477 + 16 * t + s
        · subst w
          rw [if_neg (by omega), up_e (by omega), if_pos (by omega), show 477 + 16 * t + s - (477 + 16 * t) = s by omega]
        · rw [up_n (by omega)]
          by_cases w2 : 477 + 16 * t + (s + 1) ≤ j ∧ j < 477 + 16 * t + 16
          · rw [if_pos w2, if_pos (by omega)]
          · rw [if_neg w2, if_neg (by omega)]
  have out : ∀ (d t q : Nat) (D : zx_Y), t + d = N → d < q → (∀ h j, h ≠ (31, 0, 0, 0) → D h j = D0 h j) → ∃ D', lg_X11_plan_43 (nI n) (nI T) kk q (nI (sm (fun t => sm (fun s => ct T (D0 (26, 0, 0, 0) (75 + 40 * t + 17 + s))) 16) t)) (nI t) D = kk (nI (sm (fun t => sm (fun s => ct T (D0 (26, 0, 0, 0) (75 + 40 * t + 17 + s))) 16) N)) (nI N) D' ∧ (∀ h j, h ≠ (31, 0, 0, 0) → D' h j = D0 h j) ∧ (∀ j, (j < 477 + 16 * t ∨ 477 + 16 * N ≤ j) → D' (31, 0, 0, 0) j = D (31, 0, 0, 0) j) ∧ ∀ u s, t ≤ u → u < N → s < 16 → D' (31, 0, 0, 0) (477 + 16 * u + s) = vl T (D0 (26, 0, 0, 0) (75 + 40 * u + 17 + s)) := by
    intro d
    induction d with
    | zero =>
      intro t q D e h g0
      obtain ⟨q, rfl⟩ : ∃ q', q = q' + 1 := ⟨q - 1, by omega⟩
      have e : t = N := by omega
      subst e
      exact ⟨D, by rw [lg_X11_plan_43.eq_2, g0 _ _ (by simp), h27, if_pos (nI_le (Nat.le_refl _) (by omega))], g0, fun _ _ => rfl, fun u s h1 h2 => absurd h1 (by omega)⟩
    | succ d ih =>
      intro t q D e h g0
      obtain ⟨q, rfl⟩ : ∃ q', q = q' + 1 := ⟨q - 1, by omega⟩
      obtain ⟨D1, a1, a2, a3⟩ := inn t (fun v1 v2 M1 => lg_X11_plan_43 (nI n) (nI T) kk q v1 (nI (t + 1)) M1) (by omega) 16 0 1000 (sm (fun t => sm (fun s => ct T (D0 (26, 0, 0, 0) (75 + 40 * t + 17 + s))) 16) t) D (by omega) (by omega) g0
      obtain ⟨D', r1, r2, r3, r4⟩ := ih (t + 1) q D1 (by omega) (by omega) a2
      refine ⟨D', ?_, r2, fun j hj => ?_, fun u s h1 h2 h3 => ?_⟩
      · rw [lg_X11_plan_43.eq_2, g0 _ _ (by simp), h27, if_neg (nI_ge (by omega) (by omega)), nI_1]
        exact a1.trans r1
      · rw [r3 j (by omega), a3 j, if_neg (by omega)]
      · by_cases w : u = t
        · subst w
          rw [r3 _ (by omega), a3, if_pos (by omega), show 477 + 16 * u + s - (477 + 16 * u) = s by omega]
        · exact r4 u s (by omega) h2 h3
  obtain ⟨D', r1, r2, r3, r4⟩ := out N 0 1000 D0 (by omega) (by omega) (fun _ _ _ => rfl)
  rw [show nI (sm (fun t => sm (fun s => ct T (D0 (26, 0, 0, 0) (75 + 40 * t + 17 + s))) 16) 0) = 0 from nI_0, nI_0] at r1
  exact ⟨D', r1, r2, fun j hj => r3 j (by omega), fun t s h1 h2 => r4 t s (by omega) h1 h2⟩
theorem Op_plan {C D : zx_Y} (hI : II C D) (x0 : Int32) : ∃ v C' D', g_X10_plan C x0 = some (v, C') ∧ g_X11_plan D x0 = some (v, D') ∧ II C' D' := by
  obtain ⟨S, N, O, T, hT, hR, hP, hV, hA, hF⟩ := id hI
  obtain ⟨hS, hN, -⟩ := RN hR
  obtain ⟨x1e, x2e⟩ := ex_pair hR
  by_cases hz : S = 0
  · refine ⟨-3, C, D, ?_, ?_, hI⟩
    · unfold g_X10_plan
      rw [x1e, zb_some, if_pos hz, if_pos rfl]
    · unfold g_X11_plan
      rw [if_pos (x2e.mpr hz)]
  by_cases h0 : ∃ n, 1 ≤ n ∧ n ≤ 500 ∧ x0 = nI n
  rotate_left
  · obtain ⟨z1, z2⟩ := mins_0 (C := C) (D := D) h0
    refine ⟨-2, C, D, ?_, ?_, hI⟩
    · unfold g_X10_plan
      rw [x1e, zb_some, if_neg hz, if_neg n10, z1, zb_some, if_pos rfl]
    · unfold g_X11_plan
      rw [if_neg (fun h => hz (x2e.mp h)), z2, zb_some, if_pos rfl]
  obtain ⟨n, h1, h2, rfl⟩ := h0
  obtain ⟨C1, C2, D2, a1, a2, a3, a4, a5, a6⟩ := try_pair (B := 0) h2 hT hR
  have fc1 := fun c j => fr_X2_copyFrom (c := c) (j_ := j) a1
  have fc2 := fun c j => fr_X2_advance (c := c) (j_ := j) a2
  have t0 : C2 (1, 0, 0, 0) 0 = nI T := (fc2 _ _ (by decide) (by decide)).trans ((fc1 _ _ (by decide)).trans hR.1.1.1)
  obtain ⟨C3, m1, m2, m3, m4, m5⟩ := mak_e (T := T) (n := n) hN a4.1.2.2.2.1.1
  obtain ⟨D3, p1, p2, p3, p4⟩ := pln_e (T := T) (n := n) (D0 := D2) hN (by omega) a4.1.2.2.2.1.2 (fun v2 v3 M2 => (zl (zy_ck 31 26 640 M2) fun M3 => (zl (zx_up M3 (26, 0, 0, 0) 475 (nI T)) fun M4 => (zl (zx_up M4 (26, 0, 0, 0) 476 (nI (T + n))) fun M5 => (some (v2, M5))))))
  have e1 : g_X10_plan C (nI n) = some (nI (sm (fun t => sm (fun s => ct T (C2 (13, 2, t, 0) s)) 8 + sm (fun s => ct T (C2 (13, 2, t, 1) s)) 8) N), C3) := by
    unfold g_X10_plan
    rw [x1e, zb_some, if_neg hz, if_neg n10, mins_1 h1 h2, zb_some, if_neg n10, a1, zm_some, a2, zm_some, t0, m1, zv_some]
  have es : sm (fun t => sm (fun s => ct T (D2 (26, 0, 0, 0) (75 + 40 * t + 17 + s))) 16) N = sm (fun t => sm (fun s => ct T (C2 (13, 2, t, 0) s)) 8 + sm (fun s => ct T (C2 (13, 2, t, 1) s)) 8) N := sm_congr N fun t ht => by
    have y0 : ∀ s, s < 8 → C2 (13, 2, t, 0) s = D2 (26, 0, 0, 0) (75 + 40 * t + 17 + s) := fun s hs => by
      have := (min_e a4 ht (show 0 < 2 by omega) hs).1
      rw [show 8 * 0 + s = s by omega] at this
      exact this
    have y1 : ∀ s, s < 8 → C2 (13, 2, t, 1) s = D2 (26, 0, 0, 0) (75 + 40 * t + 17 + (8 + s)) := fun s hs => (min_e a4 ht (show 1 < 2 by omega) hs).1
    rw [sm_congr (a := fun s => ct T (C2 (13, 2, t, 0) s)) 8 (fun s hs => by rw [y0 s hs]), sm_congr (a := fun s => ct T (C2 (13, 2, t, 1) s)) 8 (fun s hs => by rw [y1 s hs])]
    simp [sm]
    omega
  have e2 : g_X11_plan D (nI n) = some (nI (sm (fun t => sm (fun s => ct T (C2 (13, 2, t, 0) s)) 8 + sm (fun s => ct T (C2 (13, 2, t, 1) s)) 8) N), zx_up (zx_up (zy_ck 31 26 640 D3) (26, 0, 0, 0) 475 (nI T)) (26, 0, 0, 0) 476 (nI (T + n))) := by
    unfold g_X11_plan
    rw [if_neg (fun h => hz (x2e.mp h)), mins_2 h1 h2, zb_some, if_neg n10, a3, zm_some, hR.1.1.2, nI_add, ← es]
    exact p1
  have fc := fun c j => fr_X10_plan (c := c) (j_ := j) e1
  have fd := fun c j => fr_X11_plan (c := c) (j_ := j) e2
  have d26 : ∀ j, j < 475 → (zx_up (zx_up (zy_ck 31 26 640 D3) (26, 0, 0, 0) 475 (nI T)) (26, 0, 0, 0) 476 (nI (T + n))) (26, 0, 0, 0) j = D (26, 0, 0, 0) j := fun j hj => by
    rw [up_n (by omega), up_n (by omega), ck_26 (by omega), p3 j (by omega), a6 j (by omega)]
  refine ⟨_, _, _, e1, e2, S, N, O, T, hT, (R_nz (fun j hj => d26 j hj) (R_cong (l := 0) (m := 0) (A := D (26, 0, 0, 0)) (Lq_zc (fun c j e => fc c j (by rw [e]; decide) (by rw [e]; decide) (by rw [e]; decide))) (fun _ _ => rfl) hR)), Or.inr ⟨m2, T, T + n, by omega, by omega, m3, ?_, m4, up_e (by omega), fun t k s ht hk hs => ?_⟩, (RV_cong (fun c j e => fc c j (by rw [e]; decide) (by rw [e]; decide) (by rw [e]; decide)) (fun c j e => fc c j (by rw [e]; decide) (by rw [e]; decide) (by rw [e]; decide)) (fun c j e => fd c j (by rw [e]; decide) (by rw [e]; decide) (by rw [e]; decide) (by rw [e]; decide)) (fun c j e => fd c j (by rw [e]; decide) (by rw [e]; decide) (by rw [e]; decide) (by rw [e]; decide)) hV), (RA_cong (fun c j e => fc c j (by rw [e]; decide) (by rw [e]; decide) (by rw [e]; decide)) (fun c j e => fd c j (by rw [e]; decide) (by rw [e]; decide) (by rw [e]; decide) (by rw [e]; decide)) (fun c j e => fd c j (by rw [e]; decide) (by rw [e]; decide) (by rw [e]; decide) (by rw [e]; decide)) hA), (RF_cong (fun c j e => fc c j (by rw [e]; decide) (by rw [e]; decide) (by rw [e]; decide)) (fun c j e => fd c j (by rw [e]; decide) (by rw [e]; decide) (by rw [e]; decide) (by rw [e]; decide)) (fun c j e => fd c j (by rw [e]; decide) (by rw [e]; decide) (by rw [e]; decide) (by rw [e]; decide)) (fun c j e => fd c j (by rw [e]; decide) (by rw [e]; decide) (by rw [e]; decide) (by rw [e]; decide)) hF)⟩
  · rw [up_n (by omega), up_e (by omega)]
  · obtain ⟨r1, r2⟩ := m5 t k s ht hk hs
    refine ⟨fun htN => ?_, r2⟩
    obtain ⟨y1, y2⟩ := min_e a4 htN hk hs
    rw [up_n (by omega), up_n (by omega), ck_26 (by omega), p4 t (8 * k + s) htN (by omega), r1 htN, y1]
    refine ⟨rfl, ?_⟩
    unfold vl
    by_cases z : D2 (26, 0, 0, 0) (75 + 40 * t + 17 + (8 * k + s)) ≤ nI T
    · exact Or.inl (if_pos z)
    · rw [if_neg z]
      rcases y2 with y2 | ⟨a, w1, w2⟩
      · exact Or.inl y2
      · right
        refine ⟨a, ?_, w1, w2⟩
        rw [w2, nI_leI (by omega) (by omega)] at z
        omega
end QL
