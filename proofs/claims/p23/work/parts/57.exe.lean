/-! execute -/
theorem Lq_lt {l : Nat} {C C' : zx_Y} (h : ∀ a b c d j, a < 14 → C' (a, b, c, d) j = C (a, b, c, d) j) : Lq l l C' C :=
  ⟨fun j _ => h _ _ _ _ _ (by omega), fun s j _ _ => h _ _ _ _ _ (by omega), fun s j _ _ => h _ _ _ _ _ (by omega), fun s j _ _ => h _ _ _ _ _ (by omega), fun s j _ _ => h _ _ _ _ _ (by omega), fun s j _ _ => h _ _ _ _ _ (by omega), fun s k j _ _ _ => h _ _ _ _ _ (by omega)⟩
/-- what is left to show of a call of execute -/
theorem ex_fin {C C' D D' : zx_Y} {v : Int32} (hI : II C D) (e1 : g_X10_execute C = some (v, C')) (e2 : g_X11_execute D = some (v, D')) (hn : ∃ S N O T, T ≤ 9999 ∧ R 0 S N O T (T + 1) C' (D' (26, 0, 0, 0)) ∧ RP N C' (D' (26, 0, 0, 0))) (hC : C' (14, 0, 0, 0) 1 = 0) (hD : D' (25, 0, 0, 0) 4 = 0) (hF : RF C' D') : ∃ v C' D', g_X10_execute C = some (v, C') ∧ g_X11_execute D = some (v, D') ∧ II C' D' := by
  obtain ⟨-, -, -, -, -, -, -, hV, -, -⟩ := hI
  obtain ⟨S, N, O, T, hT, hR, hP⟩ := hn
  have fc := fun c j => fr_X10_execute (c := c) (j_ := j) e1
  have fd := fun c j => fr_X11_execute (c := c) (j_ := j) e2
  exact ⟨v, C', D', e1, e2, S, N, O, T, hT, hR, hP, RV_cong (fun c j e => fc c j (by rw [e]; decide) (by rw [e]; decide) (by rw [e]; decide) (by rw [e]; decide) (by rw [e]; decide) (by rw [e]; decide)) (fun c j e => fc c j (by rw [e]; decide) (by rw [e]; decide) (by rw [e]; decide) (by rw [e]; decide) (by rw [e]; decide) (by rw [e]; decide)) (fun c j e => fd c j (by rw [e]; decide) (by rw [e]; decide) (by rw [e]; decide) (by rw [e]; decide) (by rw [e]; decide) (by rw [e]; decide) (by rw [e]; decide) (by rw [e]; decide) (by rw [e]; decide) (by rw [e]; decide) (by rw [e]; decide) (by rw [e]; decide) (by rw [e]; decide)) (fun c j e => fd c j (by rw [e]; decide) (by rw [e]; decide) (by rw [e]; decide) (by rw [e]; decide) (by rw [e]; decide) (by rw [e]; decide) (by rw [e]; decide) (by rw [e]; decide) (by rw [e]; decide) (by rw [e]; decide) (by rw [e]; decide) (by rw [e]; decide) (by rw [e]; decide)) hV, ⟨0, by omega, hC.trans nI_0.symm, hD.trans nI_0.symm, fun j hj => absurd hj (by omega)⟩, hF⟩
theorem ck_h {kf kt k : Nat} {M : zx_Y} {h : zx_H} {j : Nat} (q : h ≠ (kt, 0, 0, 0)) : zy_ck kf kt k M h j = M h j := if_neg fun e => q e.1
theorem ck_e {kf kt k : Nat} {M : zx_Y} {j : Nat} (q : j < k) : zy_ck kf kt k M (kt, 0, 0, 0) j = M (kf, 0, 0, 0) j := if_pos ⟨rfl, q⟩
theorem Op_execute {C D : zx_Y} (hI : II C D) : ∃ v C' D', g_X10_execute C = some (v, C') ∧ g_X11_execute D = some (v, D') ∧ II C' D' := by
  obtain ⟨S, N, O, T, hT, hR, hP, hV, ⟨L, hL, l1, l2, lb⟩, hF⟩ := id hI
  have hb : ∃ b : Nat → Nat, ∀ j, j < L → b j < 128 ∧ C (15, 0, 0, 0) j = nI (b j) ∧ D (28, 0, 0, 0) j = nI (b j) := by
    refine ⟨fun j => (C (15, 0, 0, 0) j).toNatClampNeg, fun j hj => ?_⟩
    obtain ⟨x, h1, h2, h3⟩ := lb j hj
    dsimp only
    rw [h2, nI_clamp (by omega)]
    exact ⟨h1, rfl, h3⟩
  obtain ⟨b, hb⟩ := hb
  generalize hM5 : zx_up (zx_up (zx_up (zx_up (zx_up (zx_up (zx_up (zx_up D (25, 0, 0, 0) 5 (nI L)) (25, 0, 0, 0) 4 0) (25, 0, 0, 0) 7 (-1)) (25, 0, 0, 0) 12 (-5)) (25, 0, 0, 0) 13 (-5)) (25, 0, 0, 0) 14 (-5)) (25, 0, 0, 0) 6 0) (25, 0, 0, 0) 8 0 = M5
  generalize hC2 : zx_up (zx_up C (14, 0, 0, 0) 4 0) (14, 0, 0, 0) 3 0 = C2
  have T1 : TP b L C2 := by
    subst hC2
    exact ⟨hL, (by simp (disch := omega) only [up_n]; exact l1), fun j hj => ⟨(hb j hj).1, by simp (disch := omega) only [up_n]; exact (hb j hj).2.1⟩⟩
  have T2 : TD b L M5 := by
    subst hM5
    exact ⟨hL, (by simp (disch := omega) only [up_n, up_e]), fun j hj => ⟨(hb j hj).1, by simp (disch := omega) only [up_n]; exact (hb j hj).2.2⟩⟩
  have row5 : M5 (26, 0, 0, 0) = D (26, 0, 0, 0) := funext fun j => by
    subst hM5
    simp (disch := omega) only [up_n]
  have k12 : M5 (25, 0, 0, 0) 12 = -5 := by
    subst hM5
    simp (disch := omega) only [up_n, up_e]
  have k4 : M5 (25, 0, 0, 0) 4 = 0 := by
    subst hM5
    simp (disch := omega) only [up_n, up_e]
  have k14 : M5 (25, 0, 0, 0) 14 = -5 := by
    subst hM5
    simp (disch := omega) only [up_n, up_e]
  have k13 : M5 (25, 0, 0, 0) 13 = -5 := by
    subst hM5
    simp (disch := omega) only [up_n, up_e]
  have tx := txt 20 0 0 1000 1000 C2 M5 (by omega) (by omega) (by omega) (by omega) (by omega) T1 (by subst hC2; exact (up_n (by omega)).trans ((up_e (by omega)).trans nI_0.symm)) T2 (by subst hM5; simp (disch := omega) only [up_n, up_e]; exact nI_0.symm) (by subst hM5; simp (disch := omega) only [up_n, up_e]) k13
  rw [nI_0] at tx
  have eC : g_X10_execute C = (zv (lg_X8_readText_12 (fun v1 M3 => some (0, M3)) 1000 0 C2) fun v1 M1 => (if v1 = 0 then (zb (g_X8_peek M1) fun v2 => (zm (g_X4_keep M1 (M1 (14, 0, 0, 0) 4) 0 v2) fun M2 => (zl (zx_up M2 (14, 0, 0, 0) 1 0) fun M3 => (some (((-100) - (M2 (14, 0, 0, 0) 4)), M3))))) else (zv (g_X10_carryOutCommands M1) fun v3 M4 => (zl (zx_up M4 (14, 0, 0, 0) 1 0) fun M5 => (some (v3, M5)))))) := by
    unfold g_X10_execute g_X8_readText
    rw [zl_def, zl_def, hC2]
  have eD : g_X11_execute D = (zm (lg_X11_go_12 0 (fun v1 M3 => kend M3) 1000 1 M5) fun M6 => (if (M6 (25, 0, 0, 0) 7) = (-1) then (zl (zy_ck 26 29 640 M6) fun M7 => (zm (g_X11_go M7 1) fun M8 => (if (M8 (25, 0, 0, 0) 13) = (-5) then (some (((M8 (25, 0, 0, 0) 8) + 1), M8)) else (zl (zy_ck 29 26 640 M8) fun M9 => (zl (zx_up M9 (25, 0, 0, 0) 12 (M9 (25, 0, 0, 0) 8)) fun M10 => (some (((-200) - (M10 (25, 0, 0, 0) 8)), M10))))))) else (zl (zx_up M6 (25, 0, 0, 0) 12 (M6 (25, 0, 0, 0) 7)) fun M11 => (if (M11 (25, 0, 0, 0) 5) ≤ (M11 (25, 0, 0, 0) 7) then (zm (g_X11_refuse M11 0 (-1)) fun M12 => (some (((-100) - (M12 (25, 0, 0, 0) 7)), M12))) else (zi (M11 (25, 0, 0, 0) 7) 60 fun k1 => (zm (g_X11_refuse M11 0 (M11 (28, 0, 0, 0) k1)) fun M13 => (some (((-100) - (M13 (25, 0, 0, 0) 7)), M13)))))))) := by
    unfold g_X11_execute g_X11_go
    rw [l2, zl_def, zl_def, zl_def, zl_def, rf_d, zm_some, zl_def, zl_def, hM5]
    rfl
  rcases tx with ⟨e, C', D', he, t1, t2, t3, t4, t5, t6⟩ | ⟨n, C', D', t1, t2, t3, t4, t5, t6, t7, t8⟩
  · -- an error of the text
    have T1' := TP_T T1 t3
    have T2' := TD_T T2 t6
    obtain ⟨pk, hpk⟩ : ∃ pk, g_X8_peek C' = some pk ∧ (if L ≤ e then pk = -1 else pk = D' (28, 0, 0, 0) e) := by
      by_cases q : e < L
      · exact ⟨nI (b e), pk_1 (i := 0) T1' Kp_r t2 q, by rw [if_neg (by omega)]; exact (T2'.2.2 e q).2.symm⟩
      · exact ⟨-1, pk_0 (i := 0) T1' Kp_r t2 (by omega), by rw [if_pos (by omega)]⟩
    rw [t1, zv_some, if_pos (show (0 : Int32) = 0 from rfl), hpk.1, zb_some, t2] at eC
    unfold g_X4_keep at eC
    rw [zl_def, zl_def, zl_def, zl_def, zm_some, zl_def] at eC
    have ne : ¬ nI e = -1 := nI_m1 (by omega)
    have q7 : (zx_up D' (25, 0, 0, 0) 12 (nI e)) (25, 0, 0, 0) 7 = nI e := (up_n (by omega)).trans t5
    have q5 : (zx_up D' (25, 0, 0, 0) 12 (nI e)) (25, 0, 0, 0) 5 = nI L := (up_n (by omega)).trans T2'.2.1
    have q28 : (zx_up D' (25, 0, 0, 0) 12 (nI e)) (28, 0, 0, 0) e = D' (28, 0, 0, 0) e := up_n (by omega)
    have eD2 : g_X11_execute D = some ((-100) - nI e, zx_up (zx_up (zx_up D' (25, 0, 0, 0) 12 (nI e)) (25, 0, 0, 0) 13 0) (25, 0, 0, 0) 14 pk) := by
      rw [eD, t4, zm_some, t5, if_neg ne, zl_def, q5, q7]
      by_cases q : L ≤ e
      · have z := hpk.2
        rw [if_pos q] at z
        rw [if_pos (nI_le q (by omega)), rf_d, zm_some, z]
        have q7' : (zx_up (zx_up (zx_up D' (25, 0, 0, 0) 12 (nI e)) (25, 0, 0, 0) 13 0) (25, 0, 0, 0) 14 (-1)) (25, 0, 0, 0) 7 = nI e := by
          simp (disch := omega) only [up_n]
          exact t5
        rw [q7']
      · have z := hpk.2
        rw [if_neg q] at z
        rw [if_neg (nI_ge (by omega) (by omega)), zi_n _ (by omega) (by omega), rf_d, zm_some, q28, z]
        have q7' : (zx_up (zx_up (zx_up D' (25, 0, 0, 0) 12 (nI e)) (25, 0, 0, 0) 13 0) (25, 0, 0, 0) 14 (D' (28, 0, 0, 0) e)) (25, 0, 0, 0) 7 = nI e := by
          simp (disch := omega) only [up_n]
          exact t5
        rw [q7']
    have p4 : (zx_up (zx_up (zx_up (zx_up C' (19, 0, 0, 0) 0 1) (20, 0, 0, 0) 0 (nI e)) (20, 0, 0, 0) 1 0) (20, 0, 0, 0) 2 pk) (14, 0, 0, 0) 4 = nI e := by
      simp (disch := omega) only [up_n]
      exact t2
    rw [p4] at eC
    have k1 : ∀ a b c d j, a ≠ 14 → a ≠ 17 → a ≠ 18 → C' (a, b, c, d) j = C (a, b, c, d) j := fun a b c d j z1 z2 z3 => by
      rw [t3 _ _ (fun m _ => ⟨by simp [z2], by simp [z3]⟩) (by simp [z1])]
      subst hC2
      simp (disch := omega) only [up_n]
    have rowD : (zx_up (zx_up (zx_up D' (25, 0, 0, 0) 12 (nI e)) (25, 0, 0, 0) 13 0) (25, 0, 0, 0) 14 pk) (26, 0, 0, 0) = D (26, 0, 0, 0) := funext fun j => by
      simp (disch := omega) only [up_n]
      rw [t6 _ _ (by simp) (by simp), row5]
    refine ex_fin hI eC eD2 ⟨S, N, O, T, hT, ?_, ?_⟩ (up_e (by omega)) ?_ ?_
    · rw [rowD]
      exact R_cong (Lq_lt fun a b c d j z => by simp (disch := omega) only [up_n]; exact k1 a b c d j (by omega) (by omega) (by omega)) (fun _ _ => rfl) hR
    · rw [rowD]
      unfold RP at hP ⊢
      have k22 : ∀ j, (zx_up (zx_up (zx_up (zx_up (zx_up C' (19, 0, 0, 0) 0 1) (20, 0, 0, 0) 0 (nI e)) (20, 0, 0, 0) 1 0) (20, 0, 0, 0) 2 pk) (14, 0, 0, 0) 1 0) (22, 0, 0, 0) j = C (22, 0, 0, 0) j := fun j => by
        simp (disch := omega) only [up_n]
        exact k1 _ _ _ _ _ (by omega) (by omega) (by omega)
      have k24 : ∀ a j, (zx_up (zx_up (zx_up (zx_up (zx_up C' (19, 0, 0, 0) 0 1) (20, 0, 0, 0) 0 (nI e)) (20, 0, 0, 0) 1 0) (20, 0, 0, 0) 2 pk) (14, 0, 0, 0) 1 0) (24, a, 0, 0) j = C (24, a, 0, 0) j := fun a j => by
        simp (disch := omega) only [up_n]
        exact k1 _ _ _ _ _ (by omega) (by omega) (by omega)
      simp only [k22, k24]
      exact hP
    · simp (disch := omega) only [up_n]
      rw [t6 _ _ (by simp) (by simp), k4]
    · unfold RF
      simp (disch := omega) only [up_n, up_e]
      exact Or.inr ⟨trivial, trivial, trivial, by rw [if_neg (show ¬ (0 : Int32) = 1 by decide)]⟩
  · -- the commands are carried out
    have hn1 : 1 ≤ n := by
      rcases n with _ | n
      · exact absurd t2 id
      · omega
    rw [show 0 + n = n by omega] at t3 t4
    have T2' := TD_T T2 t8
    rw [t1, zv_some, if_neg n10] at eC
    have k1 : ∀ a b c d j, a ≠ 14 → a ≠ 17 → a ≠ 18 → C' (a, b, c, d) j = C (a, b, c, d) j := fun a b c d j z1 z2 z3 => by
      rw [t5 _ _ (fun m _ => ⟨by simp [z2], by simp [z3]⟩) (by simp [z1])]
      subst hC2
      simp (disch := omega) only [up_n]
    have rowD : D' (26, 0, 0, 0) = D (26, 0, 0, 0) := funext fun j => by rw [t8 _ _ (by simp) (by simp), row5]
    have hR1 : R 0 S N O T (T + 1) C' (D (26, 0, 0, 0)) := R_cong (Lq_lt fun a b c d j z => k1 a b c d j (by omega) (by omega) (by omega)) (fun _ _ => rfl) hR
    obtain ⟨C3, c1, c2⟩ := cp_line (C := C') (l := 2) (m := 0) (by omega) (fun s hs => (hR1.2.1 s hs).1)
    have f3 : ∀ c j, zc c j ≠ 102 → C3 c j = C' c j := fun c j a => fr_X2_copyFrom c1 a
    have lq0 : Lq 0 0 C3 C' := Lq_zc fun h j e => f3 h j (by rw [e]; decide)
    have hR3 : R 0 S N O T (T + 1) C3 (D (26, 0, 0, 0)) := R_cong lq0 (fun _ _ => rfl) hR1
    have hP3 : RP N C3 (D (26, 0, 0, 0)) := by
      refine RP_cong' (C := C') (fun c j e => f3 c j (by rw [e]; decide)) (fun _ _ _ => rfl) ?_
      unfold RP at hP ⊢
      have k22 : ∀ j, C' (22, 0, 0, 0) j = C (22, 0, 0, 0) j := fun j => k1 _ _ _ _ _ (by omega) (by omega) (by omega)
      have k24 : ∀ a j, C' (24, a, 0, 0) j = C (24, a, 0, 0) j := fun a j => k1 _ _ _ _ _ (by omega) (by omega) (by omega)
      simp only [k22, k24]
      exact hP
    generalize hM7 : zx_up (zx_up (zy_ck 26 29 640 D') (25, 0, 0, 0) 6 0) (25, 0, 0, 0) 8 0 = M7
    have k7 : ∀ c j, c ≠ (29, 0, 0, 0) → ¬ (c = (25, 0, 0, 0) ∧ (j = 6 ∨ j = 8)) → M7 c j = D' c j := fun c j z1 z2 => by
      subst hM7
      rw [show zx_up (zx_up (zy_ck 26 29 640 D') (25, 0, 0, 0) 6 0) (25, 0, 0, 0) 8 0 c j = zx_up (zy_ck 26 29 640 D') (25, 0, 0, 0) 6 0 c j from if_neg fun e => z2 ⟨e.2, Or.inr e.1⟩, show zx_up (zy_ck 26 29 640 D') (25, 0, 0, 0) 6 0 c j = zy_ck 26 29 640 D' c j from if_neg fun e => z2 ⟨e.2, Or.inl e.1⟩]
      exact ck_h z1
    have row7 : M7 (26, 0, 0, 0) = D (26, 0, 0, 0) := funext fun j => (k7 _ _ (by simp) (by simp)).trans (by rw [rowD])
    have k29 : ∀ j, j < 640 → M7 (29, 0, 0, 0) j = D (26, 0, 0, 0) j := fun j hj => by
      subst hM7
      simp (disch := omega) only [up_n]
      rw [ck_e hj, rowD]
    rw [t6, zm_some, t7, if_pos (show (-1 : Int32) = -1 from rfl), zl_def] at eD
    have eG : g_X11_go (zy_ck 26 29 640 D') 1 = lg_X11_go_12 1 (fun _ M3 => some M3) 1000 1 M7 := by
      unfold g_X11_go
      rw [zl_def, zl_def, hM7]
      simp only [if_neg n10]
    rw [eG] at eD
    have cr := co (kk := fun v1 v2 M2 => (if v1 = 0 then (zl (zx_up M2 (19, 0, 0, 0) 0 0) fun M3 => (some ((M3 (14, 0, 0, 0) 3), M3))) else (zl (zx_up M2 (22, 0, 0, 0) 0 0) fun M4 => (zl (zx_up M4 (19, 0, 0, 0) 0 0) fun M5 => (some ((M5 (14, 0, 0, 0) 3), M5)))))) (b := b) (L := L) (T := T) n 0 0 1000 1000 S N O 0 C3 M7 (TX_k (fun a j => f3 _ _ (by show (1 : Nat) ≠ 102; decide)) (fun a j => f3 _ _ (by show (1 : Nat) ≠ 102; decide)) n 0 0 t2) (by rw [show 0 + n = n by omega, f3 _ _ (by show (1 : Nat) ≠ 102; decide)]; exact t3) (by omega) (by omega) (by omega) (by omega) ⟨T2'.1, (k7 _ _ (by simp) (by simp)).trans T2'.2.1, fun j hj => ⟨(T2'.2.2 j hj).1, (k7 _ _ (by simp) (by simp)).trans (T2'.2.2 j hj).2⟩⟩ (by subst hM7; simp (disch := omega) only [up_n, up_e]; exact nI_0.symm) ((k7 _ _ (by simp) (by simp)).trans t7) ((k7 _ _ (by simp) (by simp)).trans ((t8 _ _ (by simp) (by simp)).trans k13)) ((k7 _ _ (by simp) (by simp)).trans ((t8 _ _ (by simp) (by simp)).trans k14)) (by subst hM7; exact (up_e (by omega)).trans nI_0.symm) (row7.symm ▸ hR3) (Or.inl ⟨rfl, row7.symm ▸ hP3⟩)
    rw [nI_0, show 0 + n = n by omega] at cr
    unfold g_X10_carryOutCommands at eC
    rw [c1, zm_some] at eC
    have D4 : ∀ X, DK X M7 → X (25, 0, 0, 0) 4 = 0 := fun X h => (h _ _ (by decide) (by decide) (by decide) (by decide) (by decide) (by decide) (by decide) (by decide) (by decide)).trans ((k7 _ _ (by simp) (by simp)).trans ((t8 _ _ (by simp) (by simp)).trans k4))
    have D12 : ∀ X, DK X M7 → X (25, 0, 0, 0) 12 = -5 := fun X h => (h _ _ (by decide) (by decide) (by decide) (by decide) (by decide) (by decide) (by decide) (by decide) (by decide)).trans ((k7 _ _ (by simp) (by simp)).trans ((t8 _ _ (by simp) (by simp)).trans k12))
    rcases cr with ⟨v, X, Y, S', N', O', r1, r2, r3, r4, r5, r6, r7, r8, r9⟩ | ⟨j, r, m, X, Y, r1, r2, r3, r4, r5, r6, r7, r8, r9, r10, r11⟩
    · have X3 : X (14, 0, 0, 0) 3 = nI n := (r2 _ _ (by decide) (by decide)).trans ((f3 _ _ (by decide)).trans t3)
      rw [r3, zm_some, r5, if_pos (show (-5 : Int32) = -5 from rfl), r7] at eD
      rw [r1] at eC
      rcases r9 with ⟨z1, z2⟩ | ⟨z1, z2⟩
      · rw [z1, if_pos (show (0 : Int32) = 0 from rfl), zl_def, up_n (by omega), X3, zv_some, zl_def] at eC
        refine ex_fin hI eC eD ⟨S', N', O', T, hT, R_cong (Lq_lt fun a b c d j z => by simp (disch := omega) only [up_n]) (fun _ _ => rfl) r8, ?_⟩ (up_e (by omega)) (D4 _ r4) (Or.inl ⟨by simp (disch := omega) only [up_n, up_e], D12 _ r4, r5, r6⟩)
        unfold RP at z2 ⊢
        simp (disch := omega) only [up_n]
        exact z2
      · rw [z1, if_neg n10, zl_def, zl_def, up_n (by omega), up_n (by omega), X3, zv_some, zl_def] at eC
        refine ex_fin hI eC eD ⟨S', N', O', T, hT, R_cong (Lq_lt fun a b c d j z => by simp (disch := omega) only [up_n]) (fun _ _ => rfl) r8, ?_⟩ (up_e (by omega)) (D4 _ r4) (Or.inl ⟨by simp (disch := omega) only [up_n, up_e], D12 _ r4, r5, r6⟩)
        exact Or.inl ⟨by simp (disch := omega) only [up_n, up_e], z2⟩
    · have lq2 : Lq 2 2 X C3 := Lq_zc fun h j e => r2 h j (by rw [e]; decide) (by rw [e]; decide)
      have hR2 : R 2 S N O T (T + 1) X (D (26, 0, 0, 0)) := R_cong lq2 (fun _ _ => rfl) (R_cong c2 (fun _ _ => rfl) hR1)
      obtain ⟨X2, x1, x2⟩ := cp_line (C := X) (l := 0) (m := 2) (by omega) (fun s hs => (hR2.2.1 s hs).1)
      have fX : ∀ c j, zc c j ≠ 100 → X2 c j = X c j := fun c j a => fr_X2_copyFrom x1 a
      have hR4 : R 0 S N O T (T + 1) X2 (D (26, 0, 0, 0)) := R_cong x2 (fun _ _ => rfl) hR2
      have g0 : X2 (21, 0, 0, 0) 0 = r := (fX _ _ (by decide)).trans r3
      have g1 : X2 (21, 0, 0, 0) 1 = m := (fX _ _ (by decide)).trans r4
      rw [r1, x1, zm_some, g0, g1] at eC
      unfold g_X4_keep at eC
      rw [zl_def, zl_def, zl_def, zl_def, zm_some, zv_some, zl_def] at eC
      have y8 : (zy_ck 29 26 640 Y) (25, 0, 0, 0) 8 = nI j := (ck_h (by simp)).trans r10
      have n13 : ¬ Y (25, 0, 0, 0) 13 = -5 := by
        rw [r8]
        exact r7
      rw [r5, zm_some, if_neg n13, zl_def, y8, zl_def, up_n (by omega), y8] at eD
      have rowY : ∀ y, y < 640 → (zx_up (zy_ck 29 26 640 Y) (25, 0, 0, 0) 12 (nI j)) (26, 0, 0, 0) y = D (26, 0, 0, 0) y := fun y hj => by
        rw [up_n (by omega), ck_e hj, r6 _ _ (by show (13 : Nat) ≠ 26; decide) (by show (13 : Nat) ≠ 27; decide) (by show (13 : Nat) ≠ 28; decide) (by show (13 : Nat) ≠ 35; decide) (by show (13 : Nat) ≠ 31; decide) (by show (13 : Nat) ≠ 14; decide) (by show (13 : Nat) ≠ 10; decide) (by show (13 : Nat) ≠ 33; decide) (by show (13 : Nat) ≠ 34; decide)]
        exact k29 y hj
      refine ex_fin hI eC eD ⟨S, N, O, T, hT, R_cong (Lq_lt fun a b c d j z => by simp (disch := omega) only [up_n]) (fun j hj => rowY j (by omega)) hR4, ?_⟩ (up_e (by omega)) ((up_n (by omega)).trans ((ck_h (by simp)).trans (D4 _ r6))) ?_
      · refine RP_cong' (C := C3) (A := D (26, 0, 0, 0)) (fun c j e => ?_) (fun j h1 h2 => rowY j (by omega)) hP3
        have e2 : X2 c j = C3 c j := (fX c j (by rw [e]; decide)).trans (r2 c j (by rw [e]; decide) (by rw [e]; decide))
        rw [← e2]
        have q14 : c ≠ (14, 0, 0, 0) := fun z => by
          rw [z] at e
          exact absurd e (by show ¬ (1 : Nat) = 4; decide)
        have q19 : c ≠ (19, 0, 0, 0) := fun z => by
          rw [z] at e
          exact absurd e (by show ¬ (2 : Nat) = 4; decide)
        have q20 : c ≠ (20, 0, 0, 0) := fun z => by
          rw [z] at e
          exact absurd e (by show ¬ (2 : Nat) = 4; decide)
        rw [zx_up_h _ _ _ _ q14, zx_up_h _ _ _ _ q20, zx_up_h _ _ _ _ q20, zx_up_h _ _ _ _ q20, zx_up_h _ _ _ _ q19]
      · unfold RF
        have y13 : (zx_up (zy_ck 29 26 640 Y) (25, 0, 0, 0) 12 (nI j)) (25, 0, 0, 0) 13 = r := (up_n (by omega)).trans ((ck_h (by simp)).trans r8)
        have y14 : (zx_up (zy_ck 29 26 640 Y) (25, 0, 0, 0) 12 (nI j)) (25, 0, 0, 0) 14 = m := (up_n (by omega)).trans ((ck_h (by simp)).trans r9)
        rw [y13, y14]
        simp (disch := omega) only [up_n, up_e]
        refine Or.inr ⟨trivial, trivial, trivial, ?_⟩
        by_cases z : r = 1
        · rw [if_pos z]
          exact r11 z
        · rw [if_neg z]
