/-! whole commands, as the reference reads them -/
section DU
variable {b : Nat → Nat} {L p e c : Nat} {D0 D : zx_Y} {ns : List Nat} {x : Int32} {kk : zx_Y → Option zx_Y}
theorem RS_g (G : Gs D0 p ns D) : RS D0 (some D) (.inr (p, ns)) := ⟨D, rfl, G⟩
theorem RS_z (Z : Zs D0 e c D) : RS D0 (some D) (.inl e) := ⟨D, rfl, Z.1, Z.2.1⟩
theorem ll {ns : List Nat} {v n : Nat} (h : ns.length = n) : (ns ++ [v]).length = n + 1 := by rw [List.length_append, h]; rfl
theorem hh_z (T0 : TD b L D0) (Z : Zs D0 e c D) (hc : c < 8) (k0 : ∀ D', Zs D0 e (c + 1) D' → RS D0 (kk D') (.inl e)) : RS D0 (zm (zv (g_X11_goes D 104) fun v2 M3 => (if v2 = 0 then (zm (g_X11_keepNumber M3 480) fun M4 => (some M4)) else (zm (g_X11_readNumber M3) fun M5 => (some M5)))) kk) (.inl e) := by
  rw [gz_0 Z, zv_some, if_pos rfl, kn Z.2.2.2.1 hc, zm_some, zm_some]
  exact k0 _ (Zs_k Z)
theorem hh_g (T0 : TD b L D0) (G : Gs D0 p ns D) (hl : ns.length < 8) (hp : p ≤ L) (k1 : ∀ D' ns' p', Gs D0 p' ns' D' → RS D0 (kk D') (.inr (p', ns'))) (k0 : ∀ D' e, Zs D0 e (ns.length + 1) D' → RS D0 (kk D') (.inl e)) : RS D0 (zm (zv (g_X11_goes D 104) fun v2 M3 => (if v2 = 0 then (zm (g_X11_keepNumber M3 480) fun M4 => (some M4)) else (zm (g_X11_readNumber M3) fun M5 => (some M5)))) kk) (sH b L ns p) := by
  unfold sH
  have m : ∀ o : Option zx_Y, (zm o fun M => some M) = o := fun o => by cases o <;> rfl
  by_cases c9 : p < L ∧ b p = 104
  · rw [gs_1 T0 G (show (104 : Int32) = nI 104 from rfl) c9, zv_some, if_neg n10, if_pos c9, m]
    exact n_g T0 (Gs_6 G) hl c9.1 (fun D' v p' h1 h2 G' => k1 _ _ _ G') (fun D' Z => k0 _ _ Z)
  · rw [gs_0 T0 G hp (show (104 : Int32) = nI 104 from rfl) (by omega) c9, zv_some, if_pos rfl, if_neg c9, m, kn (c := ns.length) G.2.2.2.1 hl, zm_some]
    exact k1 _ _ _ (Gs_k (v := 480) G)
theorem rr_z (T0 : TD b L D0) (Z : Zs D0 e c D) (hc : c + 1 < 8) (k0 : ∀ D', Zs D0 e (c + 1 + 1) D' → RS D0 (kk D') (.inl e)) : RS D0 (zm (g_X11_readRest D) kk) (.inl e) := by
  unfold g_X11_readRest
  rw [gz_0 Z, zv_some, if_pos rfl, kn Z.2.2.2.1 (by omega), zm_some]
  exact hh_z T0 (Zs_k Z) hc k0
theorem zm_as (o : Option zx_Y) (f g : zx_Y → Option zx_Y) : zm (zm o f) g = zm o fun M => zm (f M) g := by cases o <;> rfl
theorem rr_g (T0 : TD b L D0) (G : Gs D0 p ns D) (hl : ns.length + 1 < 8) (hp : p ≤ L) (k1 : ∀ D' ns' p', Gs D0 p' ns' D' → RS D0 (kk D') (.inr (p', ns'))) (k0 : ∀ D' e, Zs D0 e (ns.length + 1 + 1) D' → RS D0 (kk D') (.inl e)) : RS D0 (zm (g_X11_readRest D) kk) (sX b L ns p) := by
  unfold g_X11_readRest sX
  by_cases c9 : p < L ∧ b p = 43
  · rw [gs_1 T0 G (show (43 : Int32) = nI 43 from rfl) c9, zv_some, if_neg n10, if_pos c9, zm_as]
    refine d_g T0 (show (57 : Int32) = nI 57 from rfl) (by omega) (Gs_6 G) (by omega) c9.1 (fun D' q G' => ?_) (fun D' Z => ?_)
    · exact hh_g T0 G' (by rw [ll rfl]; omega) q k1 (fun D' e Z => k0 D' e (by rw [ll rfl] at Z; exact Z))
    · exact hh_z T0 Z hl (fun D' Z => k0 _ _ Z)
  · rw [gs_0 T0 G hp (show (43 : Int32) = nI 43 from rfl) (by omega) c9, zv_some, if_pos rfl, if_neg c9, zm_as, kn (c := ns.length) G.2.2.2.1 (by omega), zm_some]
    have G2 := Gs_k (v := 0) G
    rw [nI_0] at G2
    exact hh_g T0 G2 (by rw [ll rfl]; omega) hp k1 (fun D' e Z => k0 D' e (by rw [ll rfl] at Z; exact Z))
theorem l_z (T0 : TD b L D0) (Z : Zs D0 e c D) (q : Nat) : RS D0 (lg_X11_readCommand_26 (fun M32 => some M32) (q + 1) D) (.inl e) := by
  rw [lg_X11_readCommand_26.eq_2]
  split
  · exact RS_z Z
  · rw [gz_0 Z, zv_some, if_pos rfl]
    exact RS_z Z
theorem l_g (T0 : TD b L D0) : ∀ (k : Nat) (ns : List Nat) (p q : Nat) (D : zx_Y), k + ns.length = 7 → k < q → p ≤ L → Gs D0 p ns D → RS D0 (lg_X11_readCommand_26 (fun M32 => some M32) q D) (sL b L k ns p)
  | 0, ns, p, q, D, e, h, hp, G => by
    obtain ⟨q, rfl⟩ : ∃ q', q = q' + 1 := ⟨q - 1, by omega⟩
    rw [lg_X11_readCommand_26.eq_2, G.2.2.2.1, if_pos (show (7 : Int32) ≤ nI ns.length from nI_le (a := 7) (b := ns.length) (by omega) (by omega))]
    exact RS_g G
  | k + 1, ns, p, q, D, e, h, hp, G => by
    obtain ⟨q, rfl⟩ : ∃ q', q = q' + 1 := ⟨q - 1, by omega⟩
    rw [lg_X11_readCommand_26.eq_2, G.2.2.2.1, if_neg (show ¬ (7 : Int32) ≤ nI ns.length from nI_ge (b := 7) (by omega) (by omega)), sL.eq_2]
    by_cases c9 : p < L ∧ b p = 44
    · rw [gs_1 T0 G (show (44 : Int32) = nI 44 from rfl) c9, zv_some, if_neg n10, if_pos c9]
      refine n_g T0 (Gs_6 G) (by omega) c9.1 (fun D' v p' h1 h2 G' => ?_) (fun D' Z => ?_)
      · exact l_g T0 k _ _ _ _ (by rw [ll rfl]; omega) (by omega) h2 G'
      · obtain ⟨q, rfl⟩ : ∃ q', q = q' + 1 := ⟨q - 1, by omega⟩
        exact l_z T0 Z q
    · rw [gs_0 T0 G hp (show (44 : Int32) = nI 44 from rfl) (by omega) c9, zv_some, if_pos rfl, if_neg c9]
      exact RS_g G
theorem rC (T0 : TD b L D) (A : D (25, 0, 0, 0) 6 = nI p) (A7 : D (25, 0, 0, 0) 7 = -1) (hp : p ≤ L) : ∃ v, (p < L → v = nI (b p)) ∧ RS (zx_up D (25, 0, 0, 0) 15 v) (g_X11_readCommand D) (sC b L p) := by
  have hL := T0.1
  have h0 : ∃ v, (p < L → v = nI (b p)) ∧ g_X11_sign D = some v := by
    unfold g_X11_sign
    rw [T0.2.1, A]
    by_cases q : p < L
    · exact ⟨_, fun _ => (T0.2.2 p q).2, by rw [if_neg (nI_ge q (by omega)), zi_n _ (by omega) (by omega)]⟩
    · exact ⟨-1, fun z => absurd z q, by rw [if_pos (nI_le (by omega) (by omega))]⟩
  obtain ⟨v, hv, h0⟩ := h0
  refine ⟨v, hv, ?_⟩
  unfold g_X11_readCommand
  rw [h0, zb_some, zl_def, zl_def]
  generalize hD0 : zx_up D (25, 0, 0, 0) 15 v = D0
  have T0 : TD b L D0 := by
    subst hD0
    exact ⟨T0.1, (up_n (by omega)).trans T0.2.1, fun j hj => ⟨(T0.2.2 j hj).1, (up_n (by omega)).trans (T0.2.2 j hj).2⟩⟩
  have G0 : Gs D0 p [] (zx_up D0 (25, 0, 0, 0) 11 0) := by
    subst hD0
    exact ⟨GD_25 (by omega) (fun _ _ _ _ => rfl), (by simp (disch := omega) only [up_n]; exact A), (by simp (disch := omega) only [up_n]; exact A7), up_e (by omega), fun j hj => absurd hj (by simp)⟩
  generalize zx_up D0 (25, 0, 0, 0) 11 0 = D1 at G0
  unfold sC
  by_cases cL : p < L ∧ b p = 76
  · rw [gs_1 T0 G0 (show (76 : Int32) = nI 76 from rfl) cL, zv_some, if_neg n10, if_pos cL]
    have G1 := Gs_6 (p' := p + 1) G0
    refine n_g T0 G1 (by simp) cL.1 (fun D' v p' h1 h2 G' => ?_) (fun D' Z => ?_)
    · exact l_g T0 6 _ _ _ _ (by simp) (by omega) h2 G'
    · exact l_z T0 Z 999
  rw [gs_0 T0 G0 hp (show (76 : Int32) = nI 76 from rfl) (by omega) cL, zv_some, if_pos rfl, if_neg cL]
  by_cases cS : p < L ∧ b p = 83
  · rw [gs_1 T0 G0 (show (83 : Int32) = nI 83 from rfl) cS, zv_some, if_neg n10, if_pos cS]
    have G1 := Gs_6 (p' := p + 1) G0
    unfold sS
    refine d_g T0 (show (55 : Int32) = nI 55 from rfl) (by omega) G1 (by rw [(show ([] : List Nat).length = 0 from rfl)]; omega) cS.1 (fun E1 q1 G1 => ?_) (fun E1 Y1 => ?_)
    rotate_left
    · rw [(show ([] : List Nat).length = 0 from rfl)] at Y1
      refine m_z T0 Y1 (fun E2 Y2 => ?_)
      refine d_z (x' := 0) T0 Y2 (by omega) (fun E3 Y3 => ?_)
      rw [gz_0 Y3, zv_some, if_pos rfl, kn Y3.2.2.2.1 (by omega), zm_some]
      exact RS_z (Zs_k Y3)
    refine m_g T0 (show (58 : Int32) = nI 58 from rfl) (by omega) G1 q1 (fun E5 q5 G5 => ?_) (fun E5 Y5 => ?_)
    rotate_left
    · rw [(ll (show ([] : List Nat).length = 0 from rfl))] at Y5
      refine d_z (x' := 0) T0 Y5 (by omega) (fun E6 Y6 => ?_)
      rw [gz_0 Y6, zv_some, if_pos rfl, kn Y6.2.2.2.1 (by omega), zm_some]
      exact RS_z (Zs_k Y6)
    refine d_g T0 (show (57 : Int32) = nI 57 from rfl) (by omega) G5 (by rw [(ll (show ([] : List Nat).length = 0 from rfl))]; omega) q5 (fun E8 q8 G8 => ?_) (fun E8 Y8 => ?_)
    rotate_left
    · rw [(ll (show ([] : List Nat).length = 0 from rfl))] at Y8
      rw [gz_0 Y8, zv_some, if_pos rfl, kn Y8.2.2.2.1 (by omega), zm_some]
      exact RS_z (Zs_k Y8)
    unfold sR
    by_cases c10 : p + 1 + 1 + 1 + 1 < L ∧ b (p + 1 + 1 + 1 + 1) = 114
    · rw [gs_1 T0 G8 (show (114 : Int32) = nI 114 from rfl) c10, zv_some, if_neg n10, kn (c := 2) (by rw [(Gs_6 (p' := p + 1 + 1 + 1 + 1 + 1) G8).2.2.2.1, (ll (ll (show ([] : List Nat).length = 0 from rfl)))]) (by omega), zm_some, if_pos c10]
      have G := Gs_k (v := 1) (Gs_6 (p' := p + 1 + 1 + 1 + 1 + 1) G8)
      rw [(ll (ll (show ([] : List Nat).length = 0 from rfl)))] at G
      exact RS_g G
    · rw [gs_0 T0 G8 q8 (show (114 : Int32) = nI 114 from rfl) (by omega) c10, zv_some, if_pos rfl, kn (c := 2) (by rw [G8.2.2.2.1, (ll (ll (show ([] : List Nat).length = 0 from rfl)))]) (by omega), zm_some, if_neg c10]
      have G := Gs_k (v := 0) G8
      rw [(ll (ll (show ([] : List Nat).length = 0 from rfl))), nI_0] at G
      exact RS_g G
  rw [gs_0 T0 G0 hp (show (83 : Int32) = nI 83 from rfl) (by omega) cS, zv_some, if_pos rfl, if_neg cS]
  by_cases cT : p < L ∧ b p = 84
  · rw [gs_1 T0 G0 (show (84 : Int32) = nI 84 from rfl) cT, zv_some, if_neg n10, if_pos cT]
    have G1 := Gs_6 (p' := p + 1) G0
    unfold sT
    refine d_g T0 (show (55 : Int32) = nI 55 from rfl) (by omega) G1 (by rw [(show ([] : List Nat).length = 0 from rfl)]; omega) cT.1 (fun E11 q11 G11 => ?_) (fun E11 Y11 => ?_)
    rotate_left
    · rw [(show ([] : List Nat).length = 0 from rfl)] at Y11
      refine m_z T0 Y11 (fun E12 Y12 => ?_)
      refine d_z (x' := 0) T0 Y12 (by omega) (fun E13 Y13 => ?_)
      refine m_z T0 Y13 (fun E14 Y14 => ?_)
      refine d_z (x' := 0) T0 Y14 (by omega) (fun E15 Y15 => ?_)
      refine m_z T0 Y15 (fun E16 Y16 => ?_)
      refine n_z Y16 (by omega) (fun E17 Y17 => ?_)
      exact rr_z T0 Y17 (by omega) (fun E18 Y18 => RS_z Y18)
    refine m_g T0 (show (62 : Int32) = nI 62 from rfl) (by omega) G11 q11 (fun E19 q19 G19 => ?_) (fun E19 Y19 => ?_)
    rotate_left
    · rw [(ll (show ([] : List Nat).length = 0 from rfl))] at Y19
      refine d_z (x' := 0) T0 Y19 (by omega) (fun E20 Y20 => ?_)
      refine m_z T0 Y20 (fun E21 Y21 => ?_)
      refine d_z (x' := 0) T0 Y21 (by omega) (fun E22 Y22 => ?_)
      refine m_z T0 Y22 (fun E23 Y23 => ?_)
      refine n_z Y23 (by omega) (fun E24 Y24 => ?_)
      exact rr_z T0 Y24 (by omega) (fun E25 Y25 => RS_z Y25)
    refine d_g T0 (show (55 : Int32) = nI 55 from rfl) (by omega) G19 (by rw [(ll (show ([] : List Nat).length = 0 from rfl))]; omega) q19 (fun E26 q26 G26 => ?_) (fun E26 Y26 => ?_)
    rotate_left
    · rw [(ll (show ([] : List Nat).length = 0 from rfl))] at Y26
      refine m_z T0 Y26 (fun E27 Y27 => ?_)
      refine d_z (x' := 0) T0 Y27 (by omega) (fun E28 Y28 => ?_)
      refine m_z T0 Y28 (fun E29 Y29 => ?_)
      refine n_z Y29 (by omega) (fun E30 Y30 => ?_)
      exact rr_z T0 Y30 (by omega) (fun E31 Y31 => RS_z Y31)
    refine m_g T0 (show (112 : Int32) = nI 112 from rfl) (by omega) G26 q26 (fun E32 q32 G32 => ?_) (fun E32 Y32 => ?_)
    rotate_left
    · rw [(ll (ll (show ([] : List Nat).length = 0 from rfl)))] at Y32
      refine d_z (x' := 0) T0 Y32 (by omega) (fun E33 Y33 => ?_)
      refine m_z T0 Y33 (fun E34 Y34 => ?_)
      refine n_z Y34 (by omega) (fun E35 Y35 => ?_)
      exact rr_z T0 Y35 (by omega) (fun E36 Y36 => RS_z Y36)
    refine d_g T0 (show (57 : Int32) = nI 57 from rfl) (by omega) G32 (by rw [(ll (ll (show ([] : List Nat).length = 0 from rfl)))]; omega) q32 (fun E37 q37 G37 => ?_) (fun E37 Y37 => ?_)
    rotate_left
    · rw [(ll (ll (show ([] : List Nat).length = 0 from rfl)))] at Y37
      refine m_z T0 Y37 (fun E38 Y38 => ?_)
      refine n_z Y38 (by omega) (fun E39 Y39 => ?_)
      exact rr_z T0 Y39 (by omega) (fun E40 Y40 => RS_z Y40)
    refine m_g T0 (show (64 : Int32) = nI 64 from rfl) (by omega) G37 q37 (fun E41 q41 G41 => ?_) (fun E41 Y41 => ?_)
    rotate_left
    · rw [(ll (ll (ll (show ([] : List Nat).length = 0 from rfl))))] at Y41
      refine n_z Y41 (by omega) (fun E42 Y42 => ?_)
      exact rr_z T0 Y42 (by omega) (fun E43 Y43 => RS_z Y43)
    refine n_g T0 G41 (by rw [(ll (ll (ll (show ([] : List Nat).length = 0 from rfl))))]; omega) q41 (fun E44 v44 p44 r44 q44 G44 => ?_) (fun E44 Y44 => ?_)
    rotate_left
    · rw [(ll (ll (ll (show ([] : List Nat).length = 0 from rfl))))] at Y44
      exact rr_z T0 Y44 (by omega) (fun E45 Y45 => RS_z Y45)
    exact rr_g T0 G44 (by rw [(ll (ll (ll (ll (show ([] : List Nat).length = 0 from rfl)))))]; omega) q44 (fun E46 ns46 p46 G46 => RS_g G46) (fun E46 e46 Y46 => RS_z Y46)
  rw [gs_0 T0 G0 hp (show (84 : Int32) = nI 84 from rfl) (by omega) cT, zv_some, if_pos rfl, if_neg cT]
  by_cases cO : p < L ∧ b p = 79
  · rw [gs_1 T0 G0 (show (79 : Int32) = nI 79 from rfl) cO, zv_some, if_neg n10, if_pos cO]
    have G1 := Gs_6 (p' := p + 1) G0
    unfold sO
    refine d_g T0 (show (55 : Int32) = nI 55 from rfl) (by omega) G1 (by rw [(show ([] : List Nat).length = 0 from rfl)]; omega) cO.1 (fun E47 q47 G47 => ?_) (fun E47 Y47 => ?_)
    rotate_left
    · rw [(show ([] : List Nat).length = 0 from rfl)] at Y47
      refine m_z T0 Y47 (fun E48 Y48 => ?_)
      refine n_z Y48 (by omega) (fun E49 Y49 => ?_)
      refine m_z T0 Y49 (fun E50 Y50 => ?_)
      refine n_z Y50 (by omega) (fun E51 Y51 => ?_)
      refine m_z T0 Y51 (fun E52 Y52 => ?_)
      refine n_z Y52 (by omega) (fun E53 Y53 => ?_)
      exact RS_z Y53
    refine m_g T0 (show (43 : Int32) = nI 43 from rfl) (by omega) G47 q47 (fun E55 q55 G55 => ?_) (fun E55 Y55 => ?_)
    rotate_left
    · rw [(ll (show ([] : List Nat).length = 0 from rfl))] at Y55
      refine n_z Y55 (by omega) (fun E56 Y56 => ?_)
      refine m_z T0 Y56 (fun E57 Y57 => ?_)
      refine n_z Y57 (by omega) (fun E58 Y58 => ?_)
      refine m_z T0 Y58 (fun E59 Y59 => ?_)
      refine n_z Y59 (by omega) (fun E60 Y60 => ?_)
      exact RS_z Y60
    refine n_g T0 G55 (by rw [(ll (show ([] : List Nat).length = 0 from rfl))]; omega) q55 (fun E62 v62 p62 r62 q62 G62 => ?_) (fun E62 Y62 => ?_)
    rotate_left
    · rw [(ll (show ([] : List Nat).length = 0 from rfl))] at Y62
      refine m_z T0 Y62 (fun E63 Y63 => ?_)
      refine n_z Y63 (by omega) (fun E64 Y64 => ?_)
      refine m_z T0 Y64 (fun E65 Y65 => ?_)
      refine n_z Y65 (by omega) (fun E66 Y66 => ?_)
      exact RS_z Y66
    refine m_g T0 (show (64 : Int32) = nI 64 from rfl) (by omega) G62 q62 (fun E68 q68 G68 => ?_) (fun E68 Y68 => ?_)
    rotate_left
    · rw [(ll (ll (show ([] : List Nat).length = 0 from rfl)))] at Y68
      refine n_z Y68 (by omega) (fun E69 Y69 => ?_)
      refine m_z T0 Y69 (fun E70 Y70 => ?_)
      refine n_z Y70 (by omega) (fun E71 Y71 => ?_)
      exact RS_z Y71
    refine n_g T0 G68 (by rw [(ll (ll (show ([] : List Nat).length = 0 from rfl)))]; omega) q68 (fun E73 v73 p73 r73 q73 G73 => ?_) (fun E73 Y73 => ?_)
    rotate_left
    · rw [(ll (ll (show ([] : List Nat).length = 0 from rfl)))] at Y73
      refine m_z T0 Y73 (fun E74 Y74 => ?_)
      refine n_z Y74 (by omega) (fun E75 Y75 => ?_)
      exact RS_z Y75
    refine m_g T0 (show (45 : Int32) = nI 45 from rfl) (by omega) G73 q73 (fun E77 q77 G77 => ?_) (fun E77 Y77 => ?_)
    rotate_left
    · rw [(ll (ll (ll (show ([] : List Nat).length = 0 from rfl))))] at Y77
      refine n_z Y77 (by omega) (fun E78 Y78 => ?_)
      exact RS_z Y78
    refine n_g T0 G77 (by rw [(ll (ll (ll (show ([] : List Nat).length = 0 from rfl))))]; omega) q77 (fun E80 v80 p80 r80 q80 G80 => ?_) (fun E80 Y80 => ?_)
    rotate_left
    · rw [(ll (ll (ll (show ([] : List Nat).length = 0 from rfl))))] at Y80
      exact RS_z Y80
    exact RS_g G80
  rw [gs_0 T0 G0 hp (show (79 : Int32) = nI 79 from rfl) (by omega) cO, zv_some, if_pos rfl, if_neg cO]
  by_cases cW : p < L ∧ b p = 87
  · rw [gs_1 T0 G0 (show (87 : Int32) = nI 87 from rfl) cW, zv_some, if_neg n10, if_pos cW]
    have G1 := Gs_6 (p' := p + 1) G0
    unfold sW
    refine n_g T0 G1 (by rw [(show ([] : List Nat).length = 0 from rfl)]; omega) cW.1 (fun E83 v83 p83 r83 q83 G83 => ?_) (fun E83 Y83 => ?_)
    rotate_left
    · rw [(show ([] : List Nat).length = 0 from rfl)] at Y83
      exact RS_z Y83
    exact RS_g G83
  rw [gs_0 T0 G0 hp (show (87 : Int32) = nI 87 from rfl) (by omega) cW, zv_some, if_pos rfl, if_neg cW]
  rw [fh_g G0, zm_some]
  exact RS_z (Zs_7 G0 (by omega))
end DU
