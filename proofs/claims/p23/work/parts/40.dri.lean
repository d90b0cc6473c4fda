theorem dr_e {α : Type} (due hap L F : Int32) (a b : α) : (if due = -5 then (if hap ≤ F then a else (if L < hap then a else (if hap = due then a else b))) else (if L < due then (if hap ≤ F then a else (if L < hap then a else (if hap = due then a else b))) else (if hap = due then (if hap ≤ F then a else (if L < hap then a else (if hap = due then a else b))) else (if hap ≤ F then b else (if L < hap then b else (if hap = due then b else b)))))) = (if ¬ ((due ≠ -5 ∧ due ≤ L ∧ hap ≠ due) ∨ (F < hap ∧ hap ≤ L ∧ hap ≠ due)) then a else b) := by
  have l1 : ∀ a b : Int32, a ≤ b ↔ ¬ b < a := fun a b => Int32.not_lt.symm
  simp only [l1]
  by_cases z1 : due = -5
  · subst z1
    by_cases z3 : F < hap <;> by_cases z4 : L < hap <;> by_cases z5 : hap = -5 <;> simp [z3, z4, z5] <;> (try (subst z5; simp [*]))
  · by_cases z2 : L < due <;> by_cases z3 : F < hap <;> by_cases z4 : L < hap <;> by_cases z5 : hap = due <;> simp [z1, z2, z3, z4, z5] <;> (try (subst z5; simp [*]))
section QD
variable {S N O T B : Nat} {C D : zx_Y}
theorem op_drift (hR : R 0 S N O T B C (D (26, 0, 0, 0))) (hP : RP N C (D (26, 0, 0, 0))) : ∃ v, g_X10_drift C = some v ∧ g_X11_drift D = some v := by
  obtain ⟨hS, hN, e4, e27, n4, n27⟩ := RN hR
  have hT := hR.1.2.2.2.2.2.1.2.2.2.2
  unfold g_X10_drift g_X11_drift
  rcases hP with ⟨a1, a2⟩ | ⟨a1, F, U, a2, a3, a4, a5, a6, a7, a8⟩
  · rw [a1, a2, if_pos rfl, if_pos rfl]
    exact ⟨_, rfl, rfl⟩
  · rw [a1, if_neg n10, a7, if_neg (nI_ne0 (by omega) (by omega)), hR.1.1.2]
    have mn : zmin (nI T) (nI U) = nI (min T U) := by
      unfold zmin
      by_cases c : U < T
      · rw [if_pos (nI_lt c (by omega)), Nat.min_eq_right (by omega)]
      · rw [if_neg (nI_nlt (by omega) (by omega)), Nat.min_eq_left (by omega)]
    rw [mn]
    have h1 : ∀ tks : Nat × Nat × Nat, ∃ v : Nat, tks.1 < N → tks.2.1 < 2 → tks.2.2 < 8 → (v = 0 ∨ v = 1) ∧ g_X3_deviates C (C (24, 2 * tks.1 + tks.2.1, 0, 0) tks.2.2) (C (13, 0, tks.1, tks.2.1) tks.2.2) (nI T) = some (nI v) ∧
        (v = 1 ↔ ((D (26, 0, 0, 0) (477 + 16 * tks.1 + (8 * tks.2.1 + tks.2.2)) ≠ -5 ∧ D (26, 0, 0, 0) (477 + 16 * tks.1 + (8 * tks.2.1 + tks.2.2)) ≤ nI (min T U) ∧ D (26, 0, 0, 0) (75 + 40 * tks.1 + 17 + (8 * tks.2.1 + tks.2.2)) ≠ D (26, 0, 0, 0) (477 + 16 * tks.1 + (8 * tks.2.1 + tks.2.2))) ∨ (nI F < D (26, 0, 0, 0) (75 + 40 * tks.1 + 17 + (8 * tks.2.1 + tks.2.2)) ∧ D (26, 0, 0, 0) (75 + 40 * tks.1 + 17 + (8 * tks.2.1 + tks.2.2)) ≤ nI (min T U) ∧ D (26, 0, 0, 0) (75 + 40 * tks.1 + 17 + (8 * tks.2.1 + tks.2.2)) ≠ D (26, 0, 0, 0) (477 + 16 * tks.1 + (8 * tks.2.1 + tks.2.2))))) := fun ⟨t, k, s⟩ => by
      by_cases ht : t < N ∧ k < 2 ∧ s < 8
      · obtain ⟨ht, hk, hs⟩ := ht
        obtain ⟨m1, m2⟩ := min_e hR ht hk hs
        obtain ⟨r1, r2⟩ := (a8 t k s (by omega) hk hs).1 ht
        obtain ⟨v, v1, v2, v3⟩ := dv_pair (D := D) a2 a3 hT a4 a6 r2 m2
        refine ⟨v, fun _ _ _ => ⟨v1, ?_, v3⟩⟩
        show g_X3_deviates C (C (24, 2 * t + k, 0, 0) s) (C (13, 0, t, k) s) (nI T) = _
        rw [r1, m1]
        exact v2
      · exact ⟨0, fun h1 h2 h3 => absurd ⟨h1, h2, h3⟩ ht⟩
    obtain ⟨dv, hdv⟩ := Classical.axiomOfChoice h1
    have ci : ∀ (t : Nat) (kk : Int32 → Int32 → Option Int32), t < N → ∀ (k s q a : Nat), s + k = 8 → k < q → lg_X3_deviations_15 C 0 (nI t) kk q (nI (a + sm (fun j => dv (t, 0, j) + dv (t, 1, j)) s)) (nI s) = kk (nI (a + sm (fun j => dv (t, 0, j) + dv (t, 1, j)) 8)) (nI 8) := by
      intro t kk ht k
      induction k with
      | zero =>
        intro s q a e h
        obtain ⟨q, rfl⟩ : ∃ q', q = q' + 1 := ⟨q - 1, by omega⟩
        have e : s = 8 := by omega
        subst e
        rw [lg_X3_deviations_15.eq_2, if_pos (show (8 : Int32) ≤ nI 8 by decide)]
      | succ k ih =>
        intro s q a e h
        obtain ⟨q, rfl⟩ : ∃ q', q = q' + 1 := ⟨q - 1, by omega⟩
        have hs : s < 8 := by omega
        obtain ⟨u1, u2, -⟩ := hdv (t, 0, s) ht (show (0 : Nat) < 2 by omega) hs
        obtain ⟨w1, w2, -⟩ := hdv (t, 1, s) ht (show (1 : Nat) < 2 by omega) hs
        have u2 : g_X3_deviates C (C (24, 2 * t + 0, 0, 0) s) (C (13, 0, t, 0) s) (nI T) = some (nI (dv (t, 0, s))) := u2
        have w2 : g_X3_deviates C (C (24, 2 * t + 1, 0, 0) s) (C (13, 0, t, 1) s) (nI T) = some (nI (dv (t, 1, s))) := w2
        rw [lg_X3_deviations_15.eq_2, if_neg (show ¬ (8 : Int32) ≤ nI s from nI_ge (b := 8) hs (by omega))]
        rw [show (2 * nI t + 0 : Int32) = nI (2 * t + 0) from by rw [show (2 : Int32) = nI 2 from rfl, pk_mul, Int32.add_zero]; rfl, show (2 * nI t + 1 : Int32) = nI (2 * t + 1) from by rw [show (2 : Int32) = nI 2 from rfl, pk_mul, nI_1]]
        simp (disch := omega) only [zi_n, hR.1.1.1, u2, w2, zb_some]
        rw [← ih (s + 1) q a (by omega) (by omega)]
        show _ = lg_X3_deviations_15 C 0 (nI t) kk q (nI (a + (sm (fun j => dv (t, 0, j) + dv (t, 1, j)) s + (dv (t, 0, s) + dv (t, 1, s))))) (nI (s + 1))
        simp only [nI_1]
        rcases u1 with u1 | u1 <;> rcases w1 with w1 | w1 <;> rw [u1, w1] <;> simp [nI_0, show nI 1 = (1 : Int32) from rfl] <;> rfl
    have co : ∀ (k t q : Nat), t + k = N → k < q → lg_X3_deviations_4 C 0 (fun v1 v2 => some v1) q (nI (sm (fun t => sm (fun j => dv (t, 0, j) + dv (t, 1, j)) 8) t)) (nI t) = some (nI (sm (fun t => sm (fun j => dv (t, 0, j) + dv (t, 1, j)) 8) N)) := by
      intro k
      induction k with
      | zero =>
        intro t q e h
        obtain ⟨q, rfl⟩ : ∃ q', q = q' + 1 := ⟨q - 1, by omega⟩
        have e : t = N := by omega
        subst e
        rw [lg_X3_deviations_4.eq_2, if_pos e4]
      | succ k ih =>
        intro t q e h
        obtain ⟨q, rfl⟩ : ∃ q', q = q' + 1 := ⟨q - 1, by omega⟩
        rw [lg_X3_deviations_4.eq_2, if_neg (n4 t (by omega)), nI_1]
        have h2 := ci t (fun v1 v2 => lg_X3_deviations_4 C 0 (fun v1 v2 => some v1) q v1 (nI (t + 1))) (by omega) 8 0 1000 (sm (fun t => sm (fun j => dv (t, 0, j) + dv (t, 1, j)) 8) t) (by omega) (by omega)
        refine h2.trans ?_
        exact ih (t + 1) q (by omega) (by omega)
    have ri : ∀ (t : Nat) (kk : Int32 → Int32 → Option Int32), t < N → ∀ (k s q a : Nat), s + k = 16 → k < q → lg_X11_drift_50 D (nI (min T U)) (nI t) kk q (nI (a + sm (fun j => dv (t, j / 8, j % 8)) s)) (nI s) = kk (nI (a + sm (fun j => dv (t, j / 8, j % 8)) 16)) (nI 16) := by
      intro t kk ht k
      induction k with
      | zero =>
        intro s q a e h
        obtain ⟨q, rfl⟩ : ∃ q', q = q' + 1 := ⟨q - 1, by omega⟩
        have e : s = 16 := by omega
        subst e
        rw [lg_X11_drift_50.eq_2, if_pos (show (16 : Int32) ≤ nI 16 by decide)]
      | succ k ih =>
        intro s q a e h
        obtain ⟨q, rfl⟩ : ∃ q', q = q' + 1 := ⟨q - 1, by omega⟩
        have hs : s < 16 := by omega
        obtain ⟨u1, -, u3⟩ := hdv (t, s / 8, s % 8) ht (show s / 8 < 2 by omega) (show s % 8 < 8 by omega)
        have es : 8 * (s / 8) + s % 8 = s := by omega
        simp only [es] at u3
        have hh : g_X11_happened D (nI t) (nI s) = some (D (26, 0, 0, 0) (75 + 40 * t + 17 + s)) := by
          have := hap_e (D := D) (t := t) (k := s / 8) (s := s % 8) (by omega) (by omega) (by omega)
          rw [es] at this
          exact this
        rw [lg_X11_drift_50.eq_2, if_neg (show ¬ (16 : Int32) ≤ nI s from nI_ge (b := 16) hs (by omega))]
        rw [show (477 + 16 * nI t + nI s : Int32) = nI (477 + 16 * t + s) from by rw [show (477 : Int32) = nI 477 from rfl, show (16 : Int32) = nI 16 from rfl, pk_mul, nI_add, nI_add], zi_n _ (show 477 + 16 * t + s < 640 by omega) (by omega), hh, zb_some, a5]
        rw [← ih (s + 1) q a (by omega) (by omega)]
        show _ = lg_X11_drift_50 D (nI (min T U)) (nI t) kk q (nI (a + (sm (fun j => dv (t, j / 8, j % 8)) s + dv (t, s / 8, s % 8)))) (nI (s + 1))
        simp only [nI_1, Int32.add_zero]
        generalize D (26, 0, 0, 0) (477 + 16 * t + s) = due at *
        generalize D (26, 0, 0, 0) (75 + 40 * t + 17 + s) = hap at *
        rw [dr_e]
        rcases u1 with u1 | u1
        · rw [if_pos (fun z => absurd (u3.mpr z) (by rw [u1]; decide)), u1]
          rfl
        · rw [if_neg (fun z => z (u3.mp u1)), u1]
          rfl
    have ro : ∀ (k t q : Nat), t + k = N → k < q → lg_X11_drift_36 D (nI (min T U)) (fun v1 v2 => some v1) q (nI (sm (fun t => sm (fun j => dv (t, j / 8, j % 8)) 16) t)) (nI t) = some (nI (sm (fun t => sm (fun j => dv (t, j / 8, j % 8)) 16) N)) := by
      intro k
      induction k with
      | zero =>
        intro t q e h
        obtain ⟨q, rfl⟩ : ∃ q', q = q' + 1 := ⟨q - 1, by omega⟩
        have e : t = N := by omega
        subst e
        rw [lg_X11_drift_36.eq_2, if_pos e27]
      | succ k ih =>
        intro t q e h
        obtain ⟨q, rfl⟩ : ∃ q', q = q' + 1 := ⟨q - 1, by omega⟩
        rw [lg_X11_drift_36.eq_2, if_neg (n27 t (by omega)), nI_1]
        have h2 := ri t (fun v1 v2 => lg_X11_drift_36 D (nI (min T U)) (fun v1 v2 => some v1) q v1 (nI (t + 1))) (by omega) 16 0 1000 (sm (fun t => sm (fun j => dv (t, j / 8, j % 8)) 16) t) (by omega) (by omega)
        refine h2.trans ?_
        exact ih (t + 1) q (by omega) (by omega)
    have es : sm (fun t => sm (fun j => dv (t, j / 8, j % 8)) 16) N = sm (fun t => sm (fun j => dv (t, 0, j) + dv (t, 1, j)) 8) N := sm_congr N fun t _ => by
      simp [sm]
      omega
    have c0 := co N 0 1000 (by omega) (by omega)
    have r0 := ro N 0 1000 (by omega) (by omega)
    rw [show nI (sm (fun t => sm (fun j => dv (t, 0, j) + dv (t, 1, j)) 8) 0) = 0 from nI_0, nI_0] at c0
    rw [show nI (sm (fun t => sm (fun j => dv (t, j / 8, j % 8)) 16) 0) = 0 from nI_0, nI_0, es] at r0
    refine ⟨_, ?_, r0⟩
    unfold g_X3_deviations
    rw [c0, zb_some]
end QD
