/-! commands are carried out one after another -/
theorem st_cmd {S N O T i k : Nat} {ns : List Nat} {C D : zx_Y} (hR : R 0 S N O T (T + 1) C (D (26, 0, 0, 0))) (hC : CP i k ns C) (d15 : D (25, 0, 0, 0) 15 = nI k) (dn : D (25, 0, 0, 0) 11 = nI ns.length) (dv : ∀ j, j < ns.length → D (30, 0, 0, 0) j = nI (ns.getD j 0)) : SR i k S N O T C D := by
  obtain ⟨c0, h⟩ := hC
  rcases h with ⟨rfl, h1, h2, h3, h4⟩ | ⟨rfl, x0, x1, x2, rfl, h1, h2, h3, h4, h5, h6⟩ | ⟨rfl, x0, x1, x2, x3, x4, x5, rfl, h1, h2, h3, h4, h5, h6, h7, h8, h9, h10, h11, h12⟩ | ⟨rfl, x0, x1, x2, x3, rfl, h1, h2, h3, h4, h5, h6, h7, h8⟩ | ⟨rfl, x0, rfl, h1, h2⟩
  · exact st_L (a := fun j => ns.getD j 0) hR h1 h2 c0 h4 h3 d15 dn dv
  · exact st_S hR c0 h4 h5 h6 h1 h2 h3 d15 (dv 0 (by simp)) (dv 1 (by simp)) (dv 2 (by simp))
  · exact st_T hR c0 h7 h8 h9 h10 h11 h12 h1 h2 h3 h4 h5 h6 d15 (dv 0 (by simp)) (dv 1 (by simp)) (dv 2 (by simp)) (dv 3 (by simp)) (dv 4 (by simp)) (dv 5 (by simp))
  · exact st_O hR c0 h5 h6 h7 h8 h1 h2 h3 h4 d15 (dv 0 (by simp)) (dv 1 (by simp)) (dv 2 (by simp)) (dv 3 (by simp))
  · exact st_W hR c0 h2 h1 d15 (dv 0 (by simp))
/-- the class has changed the line in use and the clerk alone -/
def CK (C' C : zx_Y) : Prop := ∀ c j, zc c j ≠ 100 → zc c j ≠ 3 → C' c j = C c j
/-- the reference has changed its line, its reading and its refusal alone -/
def DK (D' D : zx_Y) : Prop := ∀ c j, zc c j ≠ 26 → zc c j ≠ 27 → zc c j ≠ 28 → zc c j ≠ 35 → zc c j ≠ 31 → zc c j ≠ 14 → zc c j ≠ 10 → zc c j ≠ 33 → zc c j ≠ 34 → D' c j = D c j
theorem DK_t {D D' D'' : zx_Y} (h1 : DK D'' D') (h2 : DK D' D) : DK D'' D := fun c j a1 a2 a3 a4 a5 a6 a7 a8 a9 => (h1 c j a1 a2 a3 a4 a5 a6 a7 a8 a9).trans (h2 c j a1 a2 a3 a4 a5 a6 a7 a8 a9)
theorem DK_u {D D' : zx_Y} {f : Nat} {v : Int32} (hf : f = 6 ∨ f = 8) (h : DK D' D) : DK (zx_up D' (25, 0, 0, 0) f v) D := fun c j a1 a2 a3 a4 a5 a6 a7 a8 a9 => (show zx_up D' (25, 0, 0, 0) f v c j = D' c j from if_neg fun e => by
  rw [e.1, e.2] at a1 a3
  rcases hf with rfl | rfl
  · exact a1 rfl
  · exact a3 rfl).trans (h c j a1 a2 a3 a4 a5 a6 a7 a8 a9)
theorem TX_k {b : Nat → Nat} {L : Nat} {C C' : zx_Y} (h1 : ∀ i j, C' (17, i, 0, 0) j = C (17, i, 0, 0) j) (h2 : ∀ i j, C' (18, i, 0, 0) j = C (18, i, 0, 0) j) : ∀ (k i p : Nat), TX b L k i p C → TX b L k i p C'
  | 0, _, _, h => h
  | k + 1, i, p, ⟨p', ns, a1, a2, a3⟩ => ⟨p', ns, a1, CP_k (fun j => h1 i j) (fun j => h2 i j) a2, a3.imp id fun ⟨z1, z2, z3⟩ => ⟨z1, z2, TX_k h1 h2 k (i + 1) (p' + 1) z3⟩⟩
/-- the plan of both sides in the middle of a text: w tells whether a new line was made -/
def PW (w : Int32) (N : Nat) (C : zx_Y) (A : Nat → Int32) : Prop := (w = 0 ∧ RP N C A) ∨ (w = 1 ∧ A 476 = 0)
theorem co {b : Nat → Nat} {L T : Nat} {kk : Int32 → Int32 → zx_Y → Option (Int32 × zx_Y)} : ∀ (n i p q q' S N O : Nat) (w : Int32) (C D : zx_Y), TX b L n i p C → C (14, 0, 0, 0) 3 = nI (i + n) → i + n ≤ 20 → n < q → n + 2 < q' → p ≤ L → TD b L D → D (25, 0, 0, 0) 6 = nI p → D (25, 0, 0, 0) 7 = -1 → D (25, 0, 0, 0) 13 = -5 → D (25, 0, 0, 0) 14 = -5 → D (25, 0, 0, 0) 8 = nI i → R 0 S N O T (T + 1) C (D (26, 0, 0, 0)) → PW w N C (D (26, 0, 0, 0)) →
  (∃ v C' D' S' N' O', lg_X10_carryOutCommands_15 kk q w (nI i) C = kk v (nI (i + n)) C' ∧ CK C' C ∧ lg_X11_go_12 1 (fun _ M3 => some M3) q' 1 D = some D' ∧ DK D' D ∧ D' (25, 0, 0, 0) 13 = -5 ∧ D' (25, 0, 0, 0) 14 = -5 ∧ D' (25, 0, 0, 0) 8 + 1 = nI (i + n) ∧ R 0 S' N' O' T (T + 1) C' (D' (26, 0, 0, 0)) ∧ PW v N' C' (D' (26, 0, 0, 0))) ∨
  (∃ (j : Nat) (r m : Int32) (C' D' : zx_Y), lg_X10_carryOutCommands_15 kk q w (nI i) C = (zm (g_X2_copyFrom C' 0 2) fun M3 => (zm (g_X4_keep M3 (nI j) (M3 (21, 0, 0, 0) 0) (M3 (21, 0, 0, 0) 1)) fun M4 => (some (((-200) - nI j), M4)))) ∧ CK C' C ∧ C' (21, 0, 0, 0) 0 = r ∧ C' (21, 0, 0, 0) 1 = m ∧ lg_X11_go_12 1 (fun _ M3 => some M3) q' 1 D = some D' ∧ DK D' D ∧ ¬ r = -5 ∧ D' (25, 0, 0, 0) 13 = r ∧ D' (25, 0, 0, 0) 14 = m ∧ D' (25, 0, 0, 0) 8 = nI j ∧ (r = 1 → m = -5)) := by
  intro n
  induction n with
  | zero =>
    intro i p q q' S N O w C D h
    exact absurd h id
  | succ k ih =>
    intro i p q q' S N O w C D ⟨p', ns, es, hC, hnx⟩ h3 h20 hq hq' hp hT D6 D7 D13 D14 D8 hR hW
    have hL := hT.1
    obtain ⟨q, rfl⟩ : ∃ r, q = r + 1 := ⟨q - 1, by omega⟩
    obtain ⟨q', rfl⟩ : ∃ r, q' = r + 1 + 1 := ⟨q' - 2, by omega⟩
    have hpl := sC_lt es
    have hb := sC_b (b := b) hp
    obtain ⟨v, hv, hr⟩ := rC hT D6 D7 hp
    rw [es] at hr hb
    obtain ⟨D1, r1, rG⟩ := hr
    obtain ⟨hb1, hb2⟩ : p + 2 ≤ p' ∧ p' ≤ L := hb
    have hv := hv hpl
    have G1 := GT_G rG.1
    have DK1 : DK D1 D := fun c j a1 a2 a3 a4 a5 a6 a7 a8 a9 => fr_X11_readCommand r1 a4 a5 a1 a2 a6
    have row : D1 (26, 0, 0, 0) = D (26, 0, 0, 0) := funext fun j => G1 _ _ (by simp) (by simp)
    have D1_15 : D1 (25, 0, 0, 0) 15 = nI (b p) := (rG.1 _ _ (by simp) (by simp)).trans ((up_e (by omega)).trans hv)
    have D1_8 : D1 (25, 0, 0, 0) 8 = nI i := (rG.1 _ _ (by simp) (by simp)).trans ((up_n (by omega)).trans D8)
    have hS := st_cmd (i := i) (k := b p) (ns := ns) (D := D1) (row.symm ▸ hR) hC D1_15 rG.2.2.2.1 rG.2.2.2.2
    rw [lg_X10_carryOutCommands_15.eq_2, h3, if_neg (nI_ge (by omega) (by omega)), zi_n _ (by omega) (by omega), lg_X11_go_12.eq_2, if_neg n10, r1, zm_some, if_neg n10]
    rcases hS with ⟨r, m, g0, g1, g2, g3⟩ | ⟨g1, C', D', S', N', O', g2, g3, g4, g5, g6, g7⟩
    · rw [g1, zv_some, if_neg n10, g2, zm_some]
      have k13 : (zx_up (zx_up D1 (25, 0, 0, 0) 13 r) (25, 0, 0, 0) 14 m) (25, 0, 0, 0) 13 = r := (up_n (by omega)).trans (up_e (by omega))
      have k8 : (zx_up (zx_up D1 (25, 0, 0, 0) 13 r) (25, 0, 0, 0) 14 m) (25, 0, 0, 0) 8 = nI i := by
        simp (disch := omega) only [up_n]
        exact D1_8
      rw [k13, if_neg g0, zl_def, up_id (v := (zx_up (zx_up D1 (25, 0, 0, 0) 13 r) (25, 0, 0, 0) 14 m) (25, 0, 0, 0) 8 + 0) (by simp), go_0]
      refine Or.inr ⟨i, r, m, _, _, rfl, fun c j a1 a2 => ?_, (up_n (by omega)).trans (up_e (by omega)), up_e (by omega), rfl, fun c j a1 a2 a3 a4 a5 a6 a7 a8 a9 => ?_, g0, k13, up_e (by omega), k8, g3⟩
      · have q1 : c ≠ (21, 0, 0, 0) := fun e => a2 (by rw [e]; rfl)
        rw [zx_up_h _ _ _ _ q1, zx_up_h _ _ _ _ q1]
      · exact (show (zx_up (zx_up D1 (25, 0, 0, 0) 13 r) (25, 0, 0, 0) 14 m) c j = (zx_up D1 (25, 0, 0, 0) 13 r) c j from if_neg fun e => a9 (by rw [e.1, e.2]; rfl)).trans ((show (zx_up D1 (25, 0, 0, 0) 13 r) c j = D1 c j from if_neg fun e => a8 (by rw [e.1, e.2]; rfl)).trans (DK1 c j a1 a2 a3 a4 a5 a6 a7 a8 a9))
    · rw [g1, zv_some, if_pos (show (0 : Int32) = 0 from rfl), g2, zm_some, g3, zm_some]
      have CK1 : CK C' C := fun c j a1 a2 => fr_X0_carryOut g2 a1
      have fd : ∀ c j, zc c j ≠ 10 → zc c j ≠ 33 → zc c j ≠ 34 → D' c j = D1 c j := fun c j a1 a2 a3 => fr_X11_carryOut g3 a1 a2 a3
      have DK2 : DK D' D := DK_t (fun c j a1 a2 a3 a4 a5 a6 a7 a8 a9 => fd c j a7 a8 a9) DK1
      have C17 : C' (17, i, 0, 0) 0 = nI (b p) := (CK1 _ _ (by show (1 : Nat) ≠ 100; decide) (by show (1 : Nat) ≠ 3; decide)).trans hC.1
      have e13 : D' (25, 0, 0, 0) 13 = -5 := g4.trans ((G1 _ _ (by simp) (by simp)).trans D13)
      have e14 : D' (25, 0, 0, 0) 14 = -5 := g5.trans ((G1 _ _ (by simp) (by simp)).trans D14)
      have e8 : D' (25, 0, 0, 0) 8 = nI i := (fd _ _ (by show (28 : Nat) ≠ 10; decide) (by show (28 : Nat) ≠ 33; decide) (by show (28 : Nat) ≠ 34; decide)).trans D1_8
      have hT1 := TD_T hT G1
      have hT2 : TD b L D' := ⟨hT1.1, (fd _ _ (by show (25 : Nat) ≠ 10; decide) (by show (25 : Nat) ≠ 33; decide) (by show (25 : Nat) ≠ 34; decide)).trans hT1.2.1, fun j hj => ⟨(hT1.2.2 j hj).1, (fd _ _ (by show (12 : Nat) ≠ 10; decide) (by show (12 : Nat) ≠ 33; decide) (by show (12 : Nat) ≠ 34; decide)).trans (hT1.2.2 j hj).2⟩⟩
      have G2 : Gs D' p' ns D' := ⟨fun _ _ _ _ => rfl, (fd _ _ (by show (26 : Nat) ≠ 10; decide) (by show (26 : Nat) ≠ 33; decide) (by show (26 : Nat) ≠ 34; decide)).trans rG.2.1, (fd _ _ (by show (27 : Nat) ≠ 10; decide) (by show (27 : Nat) ≠ 33; decide) (by show (27 : Nat) ≠ 34; decide)).trans rG.2.2.1, (fd _ _ (by show (31 : Nat) ≠ 10; decide) (by show (31 : Nat) ≠ 33; decide) (by show (31 : Nat) ≠ 34; decide)).trans rG.2.2.2.1, fun j hj => (fd _ _ (by show (14 : Nat) ≠ 10; decide) (by show (14 : Nat) ≠ 33; decide) (by show (14 : Nat) ≠ 34; decide)).trans (rG.2.2.2.2 j hj)⟩
      have C3 : C' (14, 0, 0, 0) 3 = nI (i + (k + 1)) := (CK1 _ _ (by show (1 : Nat) ≠ 100; decide) (by show (1 : Nat) ≠ 3; decide)).trans h3
      obtain ⟨w2, hw2, ew2⟩ : ∃ w2, PW w2 N' C' (D' (26, 0, 0, 0)) ∧ (if C' (17, i, 0, 0) 0 = 76 then lg_X10_carryOutCommands_15 kk q 1 (nI i + 1) C' else lg_X10_carryOutCommands_15 kk q w (nI i + 1) C') = lg_X10_carryOutCommands_15 kk q w2 (nI (i + 1)) C' := by
        have hb128 := (hT.2.2 p hpl).1
        rw [nI_1, C17]
        rcases g7 with ⟨z1, z2⟩ | ⟨z1, z2, z3⟩
        · exact ⟨1, Or.inr ⟨rfl, z2⟩, by rw [if_pos (show nI (b p) = (76 : Int32) by rw [z1]; rfl)]⟩
        · refine ⟨w, ?_, by rw [if_neg (show ¬ nI (b p) = (76 : Int32) from fun e => z1 (nI_inj (b := 76) e (by omega) (by omega)))]⟩
          rcases hW with ⟨y1, y2⟩ | ⟨y1, y2⟩
          · exact Or.inl ⟨y1, z2 (row.symm ▸ y2)⟩
          · exact Or.inr ⟨y1, z3 (row.symm ▸ y2)⟩
      rw [ew2, e13, if_pos (show (-5 : Int32) = -5 from rfl)]
      rcases hnx with ⟨rfl, rfl⟩ | ⟨n1, n2, n3⟩
      · rw [gs_0 hT2 G2 (Nat.le_refl _) (show (59 : Int32) = nI 59 from rfl) (by omega) (fun z => Nat.lt_irrefl _ z.1), zv_some, if_pos (show (0 : Int32) = 0 from rfl), zl_def, up_id (v := D' (25, 0, 0, 0) 8 + 0) (by simp), go_0]
        obtain ⟨q, rfl⟩ : ∃ r, q = r + 1 := ⟨q - 1, by omega⟩
        refine Or.inl ⟨w2, C', D', S', N', O', ?_, CK1, rfl, DK2, e13, e14, by rw [e8, nI_1], g6, hw2⟩
        rw [lg_X10_carryOutCommands_15.eq_2, C3, if_pos (nI_le (by omega) (by omega))]
      · rw [gs_1 hT2 G2 (show (59 : Int32) = nI 59 from rfl) ⟨n1, n2⟩, zv_some, if_neg n10, zl_def, up_n (by omega), e8, nI_1]
        have DK3 : DK (zx_up (zx_up D' (25, 0, 0, 0) 6 (nI (p' + 1))) (25, 0, 0, 0) 8 (nI (i + 1))) D := DK_u (by omega) (DK_u (by omega) DK2)
        have row3 : (zx_up (zx_up D' (25, 0, 0, 0) 6 (nI (p' + 1))) (25, 0, 0, 0) 8 (nI (i + 1))) (26, 0, 0, 0) = D' (26, 0, 0, 0) := funext fun j => by simp (disch := omega) only [up_n]
        have ih2 := ih (i + 1) (p' + 1) q (q' + 1) S' N' O' w2 C' (zx_up (zx_up D' (25, 0, 0, 0) 6 (nI (p' + 1))) (25, 0, 0, 0) 8 (nI (i + 1))) (TX_k (fun a j => CK1 _ _ (by show (1 : Nat) ≠ 100; decide) (by show (1 : Nat) ≠ 3; decide)) (fun a j => CK1 _ _ (by show (1 : Nat) ≠ 100; decide) (by show (1 : Nat) ≠ 3; decide)) k (i + 1) (p' + 1) n3) (by rw [C3, show i + (k + 1) = i + 1 + k by omega]) (by omega) (by omega) (by omega) (by omega) ⟨hT2.1, by simp (disch := omega) only [up_n]; exact hT2.2.1, fun j hj => by simp (disch := omega) only [up_n]; exact hT2.2.2 j hj⟩ (by simp (disch := omega) only [up_n, up_e]) (by simp (disch := omega) only [up_n]; exact G2.2.2.1) (by simp (disch := omega) only [up_n]; exact e13) (by simp (disch := omega) only [up_n]; exact e14) (up_e (by omega)) (row3.symm ▸ g6) (row3.symm ▸ hw2)
        have CKt : ∀ {X : zx_Y}, CK X C' → CK X C := fun h c j a1 a2 => (h c j a1 a2).trans (CK1 c j a1 a2)
        have DKt : ∀ {X : zx_Y}, DK X (zx_up (zx_up D' (25, 0, 0, 0) 6 (nI (p' + 1))) (25, 0, 0, 0) 8 (nI (i + 1))) → DK X D := fun h => DK_t h DK3
        rcases ih2 with ⟨v', C'', D'', S'', N'', O'', f1, f2, f3, f4, f5, f6, f7, f8, f9⟩ | ⟨j, r, m, C'', D'', f1, f2, f3, f4, f5, f6, f7, f8, f9, f10, f11⟩
        · exact Or.inl ⟨v', C'', D'', S'', N'', O'', by rw [f1, show i + 1 + k = i + (k + 1) by omega], CKt f2, f3, DKt f4, f5, f6, by rw [f7, show i + 1 + k = i + (k + 1) by omega], f8, f9⟩
        · exact Or.inr ⟨j, r, m, C'', D'', f1, CKt f2, f3, f4, f5, DKt f6, f7, f8, f9, f10, f11⟩
