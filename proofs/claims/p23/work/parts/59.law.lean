/-! the law, op by op -/
set_option maxRecDepth 100000 in
set_option maxHeartbeats 4000000 in
theorem lo_0 {L i : Nat} {xs : Nat → Int32} {M : zx_Y} (hL : L ≤ 3584) (hi : i + 7 ≤ L) (hI : II M M) (hK : ∀ M', II M' M' → ∃ μ : zx_M, μ.2 ≤ 308 ∧ zx_E (L, xs) 11 zc_L_law (734, [some (.inr (some (33, 0, 0, 0))), some (.inr (some (0, 0, 0, 0))), some (.inr (some (25, 0, 0, 0))), some (.inl (nI i))], [], (zx_lay M', 308)) (some (.inl 1), μ)) : ∃ μ : zx_M, μ.2 ≤ 308 ∧ zx_E (L, xs) 11 zc_L_law (136, [some (.inr (some (33, 0, 0, 0))), some (.inr (some (0, 0, 0, 0))), some (.inr (some (25, 0, 0, 0))), some (.inl (nI i))], [], (zx_lay M, 308)) (some (.inl 1), μ) := by
  obtain ⟨v, w, C', D', h1, h2, h3, h4⟩ := lw_feed hI (xs (i + 1)) (xs (i + 2)) (xs (i + 3)) (xs (i + 4)) (xs (i + 5)) (xs (i + 6))
  obtain ⟨μ, hμ, hE⟩ := hK _ h3
  refine ⟨μ, hμ, ?_⟩
  refine zx_E.go 5 (s' := (141, [some (.inr (some (33, 0, 0, 0))), some (.inr (some (0, 0, 0, 0))), some (.inr (some (25, 0, 0, 0))), some (.inl (nI i))], [.inl (nI i + 1), .inr (some (33, 0, 0, 0)), .inr (some (0, 0, 0, 0))], (zx_lay M, 308))) rfl ?_
  refine zx_E.sld' (k := i + 1) (v := xs (i + 1)) rfl (nI_add i 1) (show i + 1 < L by omega) (by omega) rfl ?_
  show zx_E _ _ _ (142, [some (.inr (some (33, 0, 0, 0))), some (.inr (some (0, 0, 0, 0))), some (.inr (some (25, 0, 0, 0))), some (.inl (nI i))], [.inl (xs (i + 1)), .inr (some (0, 0, 0, 0))], (zx_lay M, 308)) _
  refine zx_E.go 4 (s' := (146, [some (.inr (some (33, 0, 0, 0))), some (.inr (some (0, 0, 0, 0))), some (.inr (some (25, 0, 0, 0))), some (.inl (nI i))], [.inl (nI i + 2), .inr (some (33, 0, 0, 0)), .inl (xs (i + 1)), .inr (some (0, 0, 0, 0))], (zx_lay M, 308))) rfl ?_
  refine zx_E.sld' (k := i + 2) (v := xs (i + 2)) rfl (nI_add i 2) (show i + 2 < L by omega) (by omega) rfl ?_
  show zx_E _ _ _ (147, [some (.inr (some (33, 0, 0, 0))), some (.inr (some (0, 0, 0, 0))), some (.inr (some (25, 0, 0, 0))), some (.inl (nI i))], [.inl (xs (i + 2)), .inl (xs (i + 1)), .inr (some (0, 0, 0, 0))], (zx_lay M, 308)) _
  refine zx_E.go 4 (s' := (151, [some (.inr (some (33, 0, 0, 0))), some (.inr (some (0, 0, 0, 0))), some (.inr (some (25, 0, 0, 0))), some (.inl (nI i))], [.inl (nI i + 3), .inr (some (33, 0, 0, 0)), .inl (xs (i + 2)), .inl (xs (i + 1)), .inr (some (0, 0, 0, 0))], (zx_lay M, 308))) rfl ?_
  refine zx_E.sld' (k := i + 3) (v := xs (i + 3)) rfl (nI_add i 3) (show i + 3 < L by omega) (by omega) rfl ?_
  show zx_E _ _ _ (152, [some (.inr (some (33, 0, 0, 0))), some (.inr (some (0, 0, 0, 0))), some (.inr (some (25, 0, 0, 0))), some (.inl (nI i))], [.inl (xs (i + 3)), .inl (xs (i + 2)), .inl (xs (i + 1)), .inr (some (0, 0, 0, 0))], (zx_lay M, 308)) _
  refine zx_E.go 4 (s' := (156, [some (.inr (some (33, 0, 0, 0))), some (.inr (some (0, 0, 0, 0))), some (.inr (some (25, 0, 0, 0))), some (.inl (nI i))], [.inl (nI i + 4), .inr (some (33, 0, 0, 0)), .inl (xs (i + 3)), .inl (xs (i + 2)), .inl (xs (i + 1)), .inr (some (0, 0, 0, 0))], (zx_lay M, 308))) rfl ?_
  refine zx_E.sld' (k := i + 4) (v := xs (i + 4)) rfl (nI_add i 4) (show i + 4 < L by omega) (by omega) rfl ?_
  show zx_E _ _ _ (157, [some (.inr (some (33, 0, 0, 0))), some (.inr (some (0, 0, 0, 0))), some (.inr (some (25, 0, 0, 0))), some (.inl (nI i))], [.inl (xs (i + 4)), .inl (xs (i + 3)), .inl (xs (i + 2)), .inl (xs (i + 1)), .inr (some (0, 0, 0, 0))], (zx_lay M, 308)) _
  refine zx_E.go 4 (s' := (161, [some (.inr (some (33, 0, 0, 0))), some (.inr (some (0, 0, 0, 0))), some (.inr (some (25, 0, 0, 0))), some (.inl (nI i))], [.inl (nI i + 5), .inr (some (33, 0, 0, 0)), .inl (xs (i + 4)), .inl (xs (i + 3)), .inl (xs (i + 2)), .inl (xs (i + 1)), .inr (some (0, 0, 0, 0))], (zx_lay M, 308))) rfl ?_
  refine zx_E.sld' (k := i + 5) (v := xs (i + 5)) rfl (nI_add i 5) (show i + 5 < L by omega) (by omega) rfl ?_
  show zx_E _ _ _ (162, [some (.inr (some (33, 0, 0, 0))), some (.inr (some (0, 0, 0, 0))), some (.inr (some (25, 0, 0, 0))), some (.inl (nI i))], [.inl (xs (i + 5)), .inl (xs (i + 4)), .inl (xs (i + 3)), .inl (xs (i + 2)), .inl (xs (i + 1)), .inr (some (0, 0, 0, 0))], (zx_lay M, 308)) _
  refine zx_E.go 4 (s' := (167, [some (.inr (some (33, 0, 0, 0))), some (.inr (some (0, 0, 0, 0))), some (.inr (some (25, 0, 0, 0))), some (.inl (nI i))], [.inl (nI i + 6), .inr (some (33, 0, 0, 0)), .inl (xs (i + 5)), .inl (xs (i + 4)), .inl (xs (i + 3)), .inl (xs (i + 2)), .inl (xs (i + 1)), .inr (some (0, 0, 0, 0))], (zx_lay M, 308))) rfl ?_
  refine zx_E.sld' (k := i + 6) (v := xs (i + 6)) rfl (nI_add i 6) (show i + 6 < L by omega) (by omega) rfl ?_
  show zx_E _ _ _ (168, [some (.inr (some (33, 0, 0, 0))), some (.inr (some (0, 0, 0, 0))), some (.inr (some (25, 0, 0, 0))), some (.inl (nI i))], [.inl (xs (i + 6)), .inl (xs (i + 5)), .inl (xs (i + 4)), .inl (xs (i + 3)), .inl (xs (i + 2)), .inl (xs (i + 1)), .inr (some (0, 0, 0, 0))], (zx_lay M, 308)) _
  refine zx_E.call1 (y := 94) (as := [.inr (some (0, 0, 0, 0)), .inl (xs (i + 1)), .inl (xs (i + 2)), .inl (xs (i + 3)), .inl (xs (i + 4)), .inl (xs (i + 5)), .inl (xs (i + 6))]) (rest := []) (v := .inl v) (μ' := (zx_lay C', 308)) rfl (zx_run_up (show 0 + 2 ≤ 11 by omega) (r_X10_feed (d := 0) h1)) ?_
  show zx_E _ _ _ (171, [some (.inr (some (33, 0, 0, 0))), some (.inr (some (0, 0, 0, 0))), some (.inr (some (25, 0, 0, 0))), some (.inl (nI i))], [.inl v], (zx_lay C', 308)) _
  refine zx_E.go 6 (s' := (177, [some (.inr (some (33, 0, 0, 0))), some (.inr (some (0, 0, 0, 0))), some (.inr (some (25, 0, 0, 0))), some (.inl (nI i))], [.inl (nI i + 1), .inr (some (33, 0, 0, 0)), .inr (some (25, 0, 0, 0))], (zx_lay C', 308))) rfl ?_
  refine zx_E.sld' (k := i + 1) (v := xs (i + 1)) rfl (nI_add i 1) (show i + 1 < L by omega) (by omega) rfl ?_
  show zx_E _ _ _ (178, [some (.inr (some (33, 0, 0, 0))), some (.inr (some (0, 0, 0, 0))), some (.inr (some (25, 0, 0, 0))), some (.inl (nI i))], [.inl (xs (i + 1)), .inr (some (25, 0, 0, 0))], (zx_lay C', 308)) _
  refine zx_E.go 4 (s' := (182, [some (.inr (some (33, 0, 0, 0))), some (.inr (some (0, 0, 0, 0))), some (.inr (some (25, 0, 0, 0))), some (.inl (nI i))], [.inl (nI i + 2), .inr (some (33, 0, 0, 0)), .inl (xs (i + 1)), .inr (some (25, 0, 0, 0))], (zx_lay C', 308))) rfl ?_
  refine zx_E.sld' (k := i + 2) (v := xs (i + 2)) rfl (nI_add i 2) (show i + 2 < L by omega) (by omega) rfl ?_
  show zx_E _ _ _ (183, [some (.inr (some (33, 0, 0, 0))), some (.inr (some (0, 0, 0, 0))), some (.inr (some (25, 0, 0, 0))), some (.inl (nI i))], [.inl (xs (i + 2)), .inl (xs (i + 1)), .inr (some (25, 0, 0, 0))], (zx_lay C', 308)) _
  refine zx_E.go 4 (s' := (187, [some (.inr (some (33, 0, 0, 0))), some (.inr (some (0, 0, 0, 0))), some (.inr (some (25, 0, 0, 0))), some (.inl (nI i))], [.inl (nI i + 3), .inr (some (33, 0, 0, 0)), .inl (xs (i + 2)), .inl (xs (i + 1)), .inr (some (25, 0, 0, 0))], (zx_lay C', 308))) rfl ?_
  refine zx_E.sld' (k := i + 3) (v := xs (i + 3)) rfl (nI_add i 3) (show i + 3 < L by omega) (by omega) rfl ?_
  show zx_E _ _ _ (188, [some (.inr (some (33, 0, 0, 0))), some (.inr (some (0, 0, 0, 0))), some (.inr (some (25, 0, 0, 0))), some (.inl (nI i))], [.inl (xs (i + 3)), .inl (xs (i + 2)), .inl (xs (i + 1)), .inr (some (25, 0, 0, 0))], (zx_lay C', 308)) _
  refine zx_E.go 4 (s' := (192, [some (.inr (some (33, 0, 0, 0))), some (.inr (some (0, 0, 0, 0))), some (.inr (some (25, 0, 0, 0))), some (.inl (nI i))], [.inl (nI i + 4), .inr (some (33, 0, 0, 0)), .inl (xs (i + 3)), .inl (xs (i + 2)), .inl (xs (i + 1)), .inr (some (25, 0, 0, 0))], (zx_lay C', 308))) rfl ?_
  refine zx_E.sld' (k := i + 4) (v := xs (i + 4)) rfl (nI_add i 4) (show i + 4 < L by omega) (by omega) rfl ?_
  show zx_E _ _ _ (193, [some (.inr (some (33, 0, 0, 0))), some (.inr (some (0, 0, 0, 0))), some (.inr (some (25, 0, 0, 0))), some (.inl (nI i))], [.inl (xs (i + 4)), .inl (xs (i + 3)), .inl (xs (i + 2)), .inl (xs (i + 1)), .inr (some (25, 0, 0, 0))], (zx_lay C', 308)) _
  refine zx_E.go 4 (s' := (197, [some (.inr (some (33, 0, 0, 0))), some (.inr (some (0, 0, 0, 0))), some (.inr (some (25, 0, 0, 0))), some (.inl (nI i))], [.inl (nI i + 5), .inr (some (33, 0, 0, 0)), .inl (xs (i + 4)), .inl (xs (i + 3)), .inl (xs (i + 2)), .inl (xs (i + 1)), .inr (some (25, 0, 0, 0))], (zx_lay C', 308))) rfl ?_
  refine zx_E.sld' (k := i + 5) (v := xs (i + 5)) rfl (nI_add i 5) (show i + 5 < L by omega) (by omega) rfl ?_
  show zx_E _ _ _ (198, [some (.inr (some (33, 0, 0, 0))), some (.inr (some (0, 0, 0, 0))), some (.inr (some (25, 0, 0, 0))), some (.inl (nI i))], [.inl (xs (i + 5)), .inl (xs (i + 4)), .inl (xs (i + 3)), .inl (xs (i + 2)), .inl (xs (i + 1)), .inr (some (25, 0, 0, 0))], (zx_lay C', 308)) _
  refine zx_E.go 4 (s' := (203, [some (.inr (some (33, 0, 0, 0))), some (.inr (some (0, 0, 0, 0))), some (.inr (some (25, 0, 0, 0))), some (.inl (nI i))], [.inl (nI i + 6), .inr (some (33, 0, 0, 0)), .inl (xs (i + 5)), .inl (xs (i + 4)), .inl (xs (i + 3)), .inl (xs (i + 2)), .inl (xs (i + 1)), .inr (some (25, 0, 0, 0))], (zx_lay C', 308))) rfl ?_
  refine zx_E.sld' (k := i + 6) (v := xs (i + 6)) rfl (nI_add i 6) (show i + 6 < L by omega) (by omega) rfl ?_
  show zx_E _ _ _ (204, [some (.inr (some (33, 0, 0, 0))), some (.inr (some (0, 0, 0, 0))), some (.inr (some (25, 0, 0, 0))), some (.inl (nI i))], [.inl (xs (i + 6)), .inl (xs (i + 5)), .inl (xs (i + 4)), .inl (xs (i + 3)), .inl (xs (i + 2)), .inl (xs (i + 1)), .inr (some (25, 0, 0, 0))], (zx_lay C', 308)) _
  refine zx_E.call1 (y := 151) (as := [.inr (some (25, 0, 0, 0)), .inl (xs (i + 1)), .inl (xs (i + 2)), .inl (xs (i + 3)), .inl (xs (i + 4)), .inl (xs (i + 5)), .inl (xs (i + 6))]) (rest := []) (v := .inl w) (μ' := (zx_lay D', 308)) rfl (zx_run_up (show 0 + 2 ≤ 11 by omega) (r_X11_feed (d := 0) h2)) ?_
  show zx_E _ _ _ (207, [some (.inr (some (33, 0, 0, 0))), some (.inr (some (0, 0, 0, 0))), some (.inr (some (25, 0, 0, 0))), some (.inl (nI i))], [.inl w], (zx_lay D', 308)) _
  refine zx_E.go 2 (s' := (734, [some (.inr (some (33, 0, 0, 0))), some (.inr (some (0, 0, 0, 0))), some (.inr (some (25, 0, 0, 0))), some (.inl (nI i))], [], (zx_lay D', 308))) rfl ?_
  exact hE
set_option maxRecDepth 100000 in
set_option maxHeartbeats 4000000 in
theorem lo_1 {L i : Nat} {xs : Nat → Int32} {M : zx_Y} (hL : L ≤ 3584) (hi : i + 7 ≤ L) (hI : II M M) (hK : ∀ M', II M' M' → ∃ μ : zx_M, μ.2 ≤ 308 ∧ zx_E (L, xs) 11 zc_L_law (734, [some (.inr (some (33, 0, 0, 0))), some (.inr (some (0, 0, 0, 0))), some (.inr (some (25, 0, 0, 0))), some (.inl (nI i))], [], (zx_lay M', 308)) (some (.inl 1), μ)) : ∃ μ : zx_M, μ.2 ≤ 308 ∧ zx_E (L, xs) 11 zc_L_law (211, [some (.inr (some (33, 0, 0, 0))), some (.inr (some (0, 0, 0, 0))), some (.inr (some (25, 0, 0, 0))), some (.inl (nI i))], [], (zx_lay M, 308)) (some (.inl 1), μ) := by
  obtain ⟨v, w, C', D', h1, h2, h3, h4⟩ := lw_execute hI 
  obtain ⟨μ, hμ, hE⟩ := hK _ h3
  refine ⟨μ, hμ, ?_⟩
  refine zx_E.go 1 (s' := (212, [some (.inr (some (33, 0, 0, 0))), some (.inr (some (0, 0, 0, 0))), some (.inr (some (25, 0, 0, 0))), some (.inl (nI i))], [.inr (some (0, 0, 0, 0))], (zx_lay M, 308))) rfl ?_
  refine zx_E.call1 (y := 95) (as := [.inr (some (0, 0, 0, 0))]) (rest := []) (v := .inl v) (μ' := (zx_lay C', 308)) rfl (zx_run_up (show 0 + 7 ≤ 11 by omega) (r_X10_execute (d := 0) h1)) ?_
  show zx_E _ _ _ (215, [some (.inr (some (33, 0, 0, 0))), some (.inr (some (0, 0, 0, 0))), some (.inr (some (25, 0, 0, 0))), some (.inl (nI i))], [.inl v], (zx_lay C', 308)) _
  refine zx_E.go 2 (s' := (217, [some (.inr (some (33, 0, 0, 0))), some (.inr (some (0, 0, 0, 0))), some (.inr (some (25, 0, 0, 0))), some (.inl (nI i))], [.inr (some (25, 0, 0, 0))], (zx_lay C', 308))) rfl ?_
  refine zx_E.call1 (y := 170) (as := [.inr (some (25, 0, 0, 0))]) (rest := []) (v := .inl w) (μ' := (zx_lay D', 308)) rfl (zx_run_up (show 0 + 8 ≤ 11 by omega) (r_X11_execute (d := 0) h2)) ?_
  show zx_E _ _ _ (220, [some (.inr (some (33, 0, 0, 0))), some (.inr (some (0, 0, 0, 0))), some (.inr (some (25, 0, 0, 0))), some (.inl (nI i))], [.inl w], (zx_lay D', 308)) _
  refine zx_E.go 2 (s' := (734, [some (.inr (some (33, 0, 0, 0))), some (.inr (some (0, 0, 0, 0))), some (.inr (some (25, 0, 0, 0))), some (.inl (nI i))], [], (zx_lay D', 308))) rfl ?_
  exact hE
set_option maxRecDepth 100000 in
set_option maxHeartbeats 4000000 in
theorem lo_2 {L i : Nat} {xs : Nat → Int32} {M : zx_Y} (hL : L ≤ 3584) (hi : i + 7 ≤ L) (hI : II M M) (hK : ∀ M', II M' M' → ∃ μ : zx_M, μ.2 ≤ 308 ∧ zx_E (L, xs) 11 zc_L_law (734, [some (.inr (some (33, 0, 0, 0))), some (.inr (some (0, 0, 0, 0))), some (.inr (some (25, 0, 0, 0))), some (.inl (nI i))], [], (zx_lay M', 308)) (some (.inl 1), μ)) : ∃ μ : zx_M, μ.2 ≤ 308 ∧ zx_E (L, xs) 11 zc_L_law (224, [some (.inr (some (33, 0, 0, 0))), some (.inr (some (0, 0, 0, 0))), some (.inr (some (25, 0, 0, 0))), some (.inl (nI i))], [], (zx_lay M, 308)) (some (.inl 1), μ) := by
  obtain ⟨v, w, C', D', h1, q1, h2, q2, h3, h4⟩ := lw_refusal hI (xs (i + 1))
  rw [q2, q1] at h3
  rw [q1] at h2
  obtain ⟨μ, hμ, hE⟩ := hK _ h3
  refine ⟨μ, hμ, ?_⟩
  refine zx_E.go 5 (s' := (229, [some (.inr (some (33, 0, 0, 0))), some (.inr (some (0, 0, 0, 0))), some (.inr (some (25, 0, 0, 0))), some (.inl (nI i))], [.inl (nI i + 1), .inr (some (33, 0, 0, 0)), .inr (some (0, 0, 0, 0))], (zx_lay M, 308))) rfl ?_
  refine zx_E.sld' (k := i + 1) (v := xs (i + 1)) rfl (nI_add i 1) (show i + 1 < L by omega) (by omega) rfl ?_
  show zx_E _ _ _ (230, [some (.inr (some (33, 0, 0, 0))), some (.inr (some (0, 0, 0, 0))), some (.inr (some (25, 0, 0, 0))), some (.inl (nI i))], [.inl (xs (i + 1)), .inr (some (0, 0, 0, 0))], (zx_lay M, 308)) _
  refine zx_E.call1 (y := 96) (as := [.inr (some (0, 0, 0, 0)), .inl (xs (i + 1))]) (rest := []) (v := .inl v) (μ' := (zx_lay M, 308)) rfl (zx_run_up (show 0 + 2 ≤ 11 by omega) (r_X10_refusal (d := 0) h1)) ?_
  show zx_E _ _ _ (233, [some (.inr (some (33, 0, 0, 0))), some (.inr (some (0, 0, 0, 0))), some (.inr (some (25, 0, 0, 0))), some (.inl (nI i))], [.inl v], (zx_lay M, 308)) _
  refine zx_E.go 6 (s' := (239, [some (.inr (some (33, 0, 0, 0))), some (.inr (some (0, 0, 0, 0))), some (.inr (some (25, 0, 0, 0))), some (.inl (nI i))], [.inl (nI i + 1), .inr (some (33, 0, 0, 0)), .inr (some (25, 0, 0, 0))], (zx_lay M, 308))) rfl ?_
  refine zx_E.sld' (k := i + 1) (v := xs (i + 1)) rfl (nI_add i 1) (show i + 1 < L by omega) (by omega) rfl ?_
  show zx_E _ _ _ (240, [some (.inr (some (33, 0, 0, 0))), some (.inr (some (0, 0, 0, 0))), some (.inr (some (25, 0, 0, 0))), some (.inl (nI i))], [.inl (xs (i + 1)), .inr (some (25, 0, 0, 0))], (zx_lay M, 308)) _
  refine zx_E.call1 (y := 172) (as := [.inr (some (25, 0, 0, 0)), .inl (xs (i + 1))]) (rest := []) (v := .inl w) (μ' := (zx_lay M, 308)) rfl (zx_run_up (show 0 + 1 ≤ 11 by omega) (r_X11_refusal (d := 0) h2)) ?_
  show zx_E _ _ _ (243, [some (.inr (some (33, 0, 0, 0))), some (.inr (some (0, 0, 0, 0))), some (.inr (some (25, 0, 0, 0))), some (.inl (nI i))], [.inl w], (zx_lay M, 308)) _
  refine zx_E.go 2 (s' := (734, [some (.inr (some (33, 0, 0, 0))), some (.inr (some (0, 0, 0, 0))), some (.inr (some (25, 0, 0, 0))), some (.inl (nI i))], [], (zx_lay M, 308))) rfl ?_
  exact hE
set_option maxRecDepth 100000 in
set_option maxHeartbeats 4000000 in
theorem lo_3 {L i : Nat} {xs : Nat → Int32} {M : zx_Y} (hL : L ≤ 3584) (hi : i + 7 ≤ L) (hI : II M M) (hK : ∀ M', II M' M' → ∃ μ : zx_M, μ.2 ≤ 308 ∧ zx_E (L, xs) 11 zc_L_law (734, [some (.inr (some (33, 0, 0, 0))), some (.inr (some (0, 0, 0, 0))), some (.inr (some (25, 0, 0, 0))), some (.inl (nI i))], [], (zx_lay M', 308)) (some (.inl 1), μ)) : ∃ μ : zx_M, μ.2 ≤ 308 ∧ zx_E (L, xs) 11 zc_L_law (247, [some (.inr (some (33, 0, 0, 0))), some (.inr (some (0, 0, 0, 0))), some (.inr (some (25, 0, 0, 0))), some (.inl (nI i))], [], (zx_lay M, 308)) (some (.inl 1), μ) := by
  obtain ⟨v, w, C', D', h1, h2, h3, h4⟩ := lw_relief hI (xs (i + 1))
  obtain ⟨μ, hμ, hE⟩ := hK _ h3
  refine ⟨μ, hμ, ?_⟩
  refine zx_E.go 5 (s' := (252, [some (.inr (some (33, 0, 0, 0))), some (.inr (some (0, 0, 0, 0))), some (.inr (some (25, 0, 0, 0))), some (.inl (nI i))], [.inl (nI i + 1), .inr (some (33, 0, 0, 0)), .inr (some (0, 0, 0, 0))], (zx_lay M, 308))) rfl ?_
  refine zx_E.sld' (k := i + 1) (v := xs (i + 1)) rfl (nI_add i 1) (show i + 1 < L by omega) (by omega) rfl ?_
  show zx_E _ _ _ (253, [some (.inr (some (33, 0, 0, 0))), some (.inr (some (0, 0, 0, 0))), some (.inr (some (25, 0, 0, 0))), some (.inl (nI i))], [.inl (xs (i + 1)), .inr (some (0, 0, 0, 0))], (zx_lay M, 308)) _
  refine zx_E.call1 (y := 97) (as := [.inr (some (0, 0, 0, 0)), .inl (xs (i + 1))]) (rest := []) (v := .inl v) (μ' := (zx_lay C', 308)) rfl (zx_run_up (show 0 + 1 ≤ 11 by omega) (r_X10_relief (d := 0) h1)) ?_
  show zx_E _ _ _ (256, [some (.inr (some (33, 0, 0, 0))), some (.inr (some (0, 0, 0, 0))), some (.inr (some (25, 0, 0, 0))), some (.inl (nI i))], [.inl v], (zx_lay C', 308)) _
  refine zx_E.go 6 (s' := (262, [some (.inr (some (33, 0, 0, 0))), some (.inr (some (0, 0, 0, 0))), some (.inr (some (25, 0, 0, 0))), some (.inl (nI i))], [.inl (nI i + 1), .inr (some (33, 0, 0, 0)), .inr (some (25, 0, 0, 0))], (zx_lay C', 308))) rfl ?_
  refine zx_E.sld' (k := i + 1) (v := xs (i + 1)) rfl (nI_add i 1) (show i + 1 < L by omega) (by omega) rfl ?_
  show zx_E _ _ _ (263, [some (.inr (some (33, 0, 0, 0))), some (.inr (some (0, 0, 0, 0))), some (.inr (some (25, 0, 0, 0))), some (.inl (nI i))], [.inl (xs (i + 1)), .inr (some (25, 0, 0, 0))], (zx_lay C', 308)) _
  refine zx_E.call1 (y := 173) (as := [.inr (some (25, 0, 0, 0)), .inl (xs (i + 1))]) (rest := []) (v := .inl w) (μ' := (zx_lay D', 308)) rfl (zx_run_up (show 0 + 2 ≤ 11 by omega) (r_X11_relief (d := 0) h2)) ?_
  show zx_E _ _ _ (266, [some (.inr (some (33, 0, 0, 0))), some (.inr (some (0, 0, 0, 0))), some (.inr (some (25, 0, 0, 0))), some (.inl (nI i))], [.inl w], (zx_lay D', 308)) _
  refine zx_E.go 2 (s' := (734, [some (.inr (some (33, 0, 0, 0))), some (.inr (some (0, 0, 0, 0))), some (.inr (some (25, 0, 0, 0))), some (.inl (nI i))], [], (zx_lay D', 308))) rfl ?_
  exact hE
set_option maxRecDepth 100000 in
set_option maxHeartbeats 4000000 in
theorem lo_4 {L i : Nat} {xs : Nat → Int32} {M : zx_Y} (hL : L ≤ 3584) (hi : i + 7 ≤ L) (hI : II M M) (hK : ∀ M', II M' M' → ∃ μ : zx_M, μ.2 ≤ 308 ∧ zx_E (L, xs) 11 zc_L_law (734, [some (.inr (some (33, 0, 0, 0))), some (.inr (some (0, 0, 0, 0))), some (.inr (some (25, 0, 0, 0))), some (.inl (nI i))], [], (zx_lay M', 308)) (some (.inl 1), μ)) : ∃ μ : zx_M, μ.2 ≤ 308 ∧ zx_E (L, xs) 11 zc_L_law (270, [some (.inr (some (33, 0, 0, 0))), some (.inr (some (0, 0, 0, 0))), some (.inr (some (25, 0, 0, 0))), some (.inl (nI i))], [], (zx_lay M, 308)) (some (.inl 1), μ) := by
  obtain ⟨v, w, C', D', h1, h2, h3, h4⟩ := lw_cancel hI (xs (i + 1))
  obtain ⟨μ, hμ, hE⟩ := hK _ h3
  refine ⟨μ, hμ, ?_⟩
  refine zx_E.go 5 (s' := (275, [some (.inr (some (33, 0, 0, 0))), some (.inr (some (0, 0, 0, 0))), some (.inr (some (25, 0, 0, 0))), some (.inl (nI i))], [.inl (nI i + 1), .inr (some (33, 0, 0, 0)), .inr (some (0, 0, 0, 0))], (zx_lay M, 308))) rfl ?_
  refine zx_E.sld' (k := i + 1) (v := xs (i + 1)) rfl (nI_add i 1) (show i + 1 < L by omega) (by omega) rfl ?_
  show zx_E _ _ _ (276, [some (.inr (some (33, 0, 0, 0))), some (.inr (some (0, 0, 0, 0))), some (.inr (some (25, 0, 0, 0))), some (.inl (nI i))], [.inl (xs (i + 1)), .inr (some (0, 0, 0, 0))], (zx_lay M, 308)) _
  refine zx_E.call1 (y := 98) (as := [.inr (some (0, 0, 0, 0)), .inl (xs (i + 1))]) (rest := []) (v := .inl v) (μ' := (zx_lay C', 308)) rfl (zx_run_up (show 0 + 2 ≤ 11 by omega) (r_X10_cancel (d := 0) h1)) ?_
  show zx_E _ _ _ (279, [some (.inr (some (33, 0, 0, 0))), some (.inr (some (0, 0, 0, 0))), some (.inr (some (25, 0, 0, 0))), some (.inl (nI i))], [.inl v], (zx_lay C', 308)) _
  refine zx_E.go 6 (s' := (285, [some (.inr (some (33, 0, 0, 0))), some (.inr (some (0, 0, 0, 0))), some (.inr (some (25, 0, 0, 0))), some (.inl (nI i))], [.inl (nI i + 1), .inr (some (33, 0, 0, 0)), .inr (some (25, 0, 0, 0))], (zx_lay C', 308))) rfl ?_
  refine zx_E.sld' (k := i + 1) (v := xs (i + 1)) rfl (nI_add i 1) (show i + 1 < L by omega) (by omega) rfl ?_
  show zx_E _ _ _ (286, [some (.inr (some (33, 0, 0, 0))), some (.inr (some (0, 0, 0, 0))), some (.inr (some (25, 0, 0, 0))), some (.inl (nI i))], [.inl (xs (i + 1)), .inr (some (25, 0, 0, 0))], (zx_lay C', 308)) _
  refine zx_E.call1 (y := 174) (as := [.inr (some (25, 0, 0, 0)), .inl (xs (i + 1))]) (rest := []) (v := .inl w) (μ' := (zx_lay D', 308)) rfl (zx_run_up (show 0 + 3 ≤ 11 by omega) (r_X11_cancel (d := 0) h2)) ?_
  show zx_E _ _ _ (289, [some (.inr (some (33, 0, 0, 0))), some (.inr (some (0, 0, 0, 0))), some (.inr (some (25, 0, 0, 0))), some (.inl (nI i))], [.inl w], (zx_lay D', 308)) _
  refine zx_E.go 2 (s' := (734, [some (.inr (some (33, 0, 0, 0))), some (.inr (some (0, 0, 0, 0))), some (.inr (some (25, 0, 0, 0))), some (.inl (nI i))], [], (zx_lay D', 308))) rfl ?_
  exact hE
set_option maxRecDepth 100000 in
set_option maxHeartbeats 4000000 in
theorem lo_5 {L i : Nat} {xs : Nat → Int32} {M : zx_Y} (hL : L ≤ 3584) (hi : i + 7 ≤ L) (hI : II M M) (hK : ∀ M', II M' M' → ∃ μ : zx_M, μ.2 ≤ 308 ∧ zx_E (L, xs) 11 zc_L_law (734, [some (.inr (some (33, 0, 0, 0))), some (.inr (some (0, 0, 0, 0))), some (.inr (some (25, 0, 0, 0))), some (.inl (nI i))], [], (zx_lay M', 308)) (some (.inl 1), μ)) : ∃ μ : zx_M, μ.2 ≤ 308 ∧ zx_E (L, xs) 11 zc_L_law (293, [some (.inr (some (33, 0, 0, 0))), some (.inr (some (0, 0, 0, 0))), some (.inr (some (25, 0, 0, 0))), some (.inl (nI i))], [], (zx_lay M, 308)) (some (.inl 1), μ) := by
  obtain ⟨v, w, C', D', h1, h2, h3, h4⟩ := lw_lift hI (xs (i + 1))
  obtain ⟨μ, hμ, hE⟩ := hK _ h3
  refine ⟨μ, hμ, ?_⟩
  refine zx_E.go 5 (s' := (298, [some (.inr (some (33, 0, 0, 0))), some (.inr (some (0, 0, 0, 0))), some (.inr (some (25, 0, 0, 0))), some (.inl (nI i))], [.inl (nI i + 1), .inr (some (33, 0, 0, 0)), .inr (some (0, 0, 0, 0))], (zx_lay M, 308))) rfl ?_
  refine zx_E.sld' (k := i + 1) (v := xs (i + 1)) rfl (nI_add i 1) (show i + 1 < L by omega) (by omega) rfl ?_
  show zx_E _ _ _ (299, [some (.inr (some (33, 0, 0, 0))), some (.inr (some (0, 0, 0, 0))), some (.inr (some (25, 0, 0, 0))), some (.inl (nI i))], [.inl (xs (i + 1)), .inr (some (0, 0, 0, 0))], (zx_lay M, 308)) _
  refine zx_E.call1 (y := 99) (as := [.inr (some (0, 0, 0, 0)), .inl (xs (i + 1))]) (rest := []) (v := .inl v) (μ' := (zx_lay C', 308)) rfl (zx_run_up (show 0 + 3 ≤ 11 by omega) (r_X10_lift (d := 0) h1)) ?_
  show zx_E _ _ _ (302, [some (.inr (some (33, 0, 0, 0))), some (.inr (some (0, 0, 0, 0))), some (.inr (some (25, 0, 0, 0))), some (.inl (nI i))], [.inl v], (zx_lay C', 308)) _
  refine zx_E.go 6 (s' := (308, [some (.inr (some (33, 0, 0, 0))), some (.inr (some (0, 0, 0, 0))), some (.inr (some (25, 0, 0, 0))), some (.inl (nI i))], [.inl (nI i + 1), .inr (some (33, 0, 0, 0)), .inr (some (25, 0, 0, 0))], (zx_lay C', 308))) rfl ?_
  refine zx_E.sld' (k := i + 1) (v := xs (i + 1)) rfl (nI_add i 1) (show i + 1 < L by omega) (by omega) rfl ?_
  show zx_E _ _ _ (309, [some (.inr (some (33, 0, 0, 0))), some (.inr (some (0, 0, 0, 0))), some (.inr (some (25, 0, 0, 0))), some (.inl (nI i))], [.inl (xs (i + 1)), .inr (some (25, 0, 0, 0))], (zx_lay C', 308)) _
  refine zx_E.call1 (y := 175) (as := [.inr (some (25, 0, 0, 0)), .inl (xs (i + 1))]) (rest := []) (v := .inl w) (μ' := (zx_lay D', 308)) rfl (zx_run_up (show 0 + 2 ≤ 11 by omega) (r_X11_lift (d := 0) h2)) ?_
  show zx_E _ _ _ (312, [some (.inr (some (33, 0, 0, 0))), some (.inr (some (0, 0, 0, 0))), some (.inr (some (25, 0, 0, 0))), some (.inl (nI i))], [.inl w], (zx_lay D', 308)) _
  refine zx_E.go 2 (s' := (734, [some (.inr (some (33, 0, 0, 0))), some (.inr (some (0, 0, 0, 0))), some (.inr (some (25, 0, 0, 0))), some (.inl (nI i))], [], (zx_lay D', 308))) rfl ?_
  exact hE
set_option maxRecDepth 100000 in
set_option maxHeartbeats 4000000 in
theorem lo_6 {L i : Nat} {xs : Nat → Int32} {M : zx_Y} (hL : L ≤ 3584) (hi : i + 7 ≤ L) (hI : II M M) (hK : ∀ M', II M' M' → ∃ μ : zx_M, μ.2 ≤ 308 ∧ zx_E (L, xs) 11 zc_L_law (734, [some (.inr (some (33, 0, 0, 0))), some (.inr (some (0, 0, 0, 0))), some (.inr (some (25, 0, 0, 0))), some (.inl (nI i))], [], (zx_lay M', 308)) (some (.inl 1), μ)) : ∃ μ : zx_M, μ.2 ≤ 308 ∧ zx_E (L, xs) 11 zc_L_law (316, [some (.inr (some (33, 0, 0, 0))), some (.inr (some (0, 0, 0, 0))), some (.inr (some (25, 0, 0, 0))), some (.inl (nI i))], [], (zx_lay M, 308)) (some (.inl 1), μ) := by
  obtain ⟨v, w, C', D', h1, h2, h3, h4⟩ := lw_pass hI (xs (i + 1))
  obtain ⟨μ, hμ, hE⟩ := hK _ h3
  refine ⟨μ, hμ, ?_⟩
  refine zx_E.go 5 (s' := (321, [some (.inr (some (33, 0, 0, 0))), some (.inr (some (0, 0, 0, 0))), some (.inr (some (25, 0, 0, 0))), some (.inl (nI i))], [.inl (nI i + 1), .inr (some (33, 0, 0, 0)), .inr (some (0, 0, 0, 0))], (zx_lay M, 308))) rfl ?_
  refine zx_E.sld' (k := i + 1) (v := xs (i + 1)) rfl (nI_add i 1) (show i + 1 < L by omega) (by omega) rfl ?_
  show zx_E _ _ _ (322, [some (.inr (some (33, 0, 0, 0))), some (.inr (some (0, 0, 0, 0))), some (.inr (some (25, 0, 0, 0))), some (.inl (nI i))], [.inl (xs (i + 1)), .inr (some (0, 0, 0, 0))], (zx_lay M, 308)) _
  refine zx_E.call1 (y := 100) (as := [.inr (some (0, 0, 0, 0)), .inl (xs (i + 1))]) (rest := []) (v := .inl v) (μ' := (zx_lay C', 308)) rfl (zx_run_up (show 0 + 7 ≤ 11 by omega) (r_X10_pass (d := 0) h1)) ?_
  show zx_E _ _ _ (325, [some (.inr (some (33, 0, 0, 0))), some (.inr (some (0, 0, 0, 0))), some (.inr (some (25, 0, 0, 0))), some (.inl (nI i))], [.inl v], (zx_lay C', 308)) _
  refine zx_E.go 6 (s' := (331, [some (.inr (some (33, 0, 0, 0))), some (.inr (some (0, 0, 0, 0))), some (.inr (some (25, 0, 0, 0))), some (.inl (nI i))], [.inl (nI i + 1), .inr (some (33, 0, 0, 0)), .inr (some (25, 0, 0, 0))], (zx_lay C', 308))) rfl ?_
  refine zx_E.sld' (k := i + 1) (v := xs (i + 1)) rfl (nI_add i 1) (show i + 1 < L by omega) (by omega) rfl ?_
  show zx_E _ _ _ (332, [some (.inr (some (33, 0, 0, 0))), some (.inr (some (0, 0, 0, 0))), some (.inr (some (25, 0, 0, 0))), some (.inl (nI i))], [.inl (xs (i + 1)), .inr (some (25, 0, 0, 0))], (zx_lay C', 308)) _
  refine zx_E.call1 (y := 150) (as := [.inr (some (25, 0, 0, 0)), .inl (xs (i + 1))]) (rest := []) (v := .inl w) (μ' := (zx_lay D', 308)) rfl (zx_run_up (show 0 + 9 ≤ 11 by omega) (r_X11_pass (d := 0) h2)) ?_
  show zx_E _ _ _ (335, [some (.inr (some (33, 0, 0, 0))), some (.inr (some (0, 0, 0, 0))), some (.inr (some (25, 0, 0, 0))), some (.inl (nI i))], [.inl w], (zx_lay D', 308)) _
  refine zx_E.go 2 (s' := (734, [some (.inr (some (33, 0, 0, 0))), some (.inr (some (0, 0, 0, 0))), some (.inr (some (25, 0, 0, 0))), some (.inl (nI i))], [], (zx_lay D', 308))) rfl ?_
  exact hE
set_option maxRecDepth 100000 in
set_option maxHeartbeats 4000000 in
theorem lo_7 {L i : Nat} {xs : Nat → Int32} {M : zx_Y} (hL : L ≤ 3584) (hi : i + 7 ≤ L) (hI : II M M) (hK : ∀ M', II M' M' → ∃ μ : zx_M, μ.2 ≤ 308 ∧ zx_E (L, xs) 11 zc_L_law (734, [some (.inr (some (33, 0, 0, 0))), some (.inr (some (0, 0, 0, 0))), some (.inr (some (25, 0, 0, 0))), some (.inl (nI i))], [], (zx_lay M', 308)) (some (.inl 1), μ)) : ∃ μ : zx_M, μ.2 ≤ 308 ∧ zx_E (L, xs) 11 zc_L_law (339, [some (.inr (some (33, 0, 0, 0))), some (.inr (some (0, 0, 0, 0))), some (.inr (some (25, 0, 0, 0))), some (.inl (nI i))], [], (zx_lay M, 308)) (some (.inl 1), μ) := by
  obtain ⟨v, w, C', D', h1, q1, h2, q2, h3, h4⟩ := lw_train hI (xs (i + 1)) (xs (i + 2))
  rw [q2, q1] at h3
  rw [q1] at h2
  obtain ⟨μ, hμ, hE⟩ := hK _ h3
  refine ⟨μ, hμ, ?_⟩
  refine zx_E.go 5 (s' := (344, [some (.inr (some (33, 0, 0, 0))), some (.inr (some (0, 0, 0, 0))), some (.inr (some (25, 0, 0, 0))), some (.inl (nI i))], [.inl (nI i + 1), .inr (some (33, 0, 0, 0)), .inr (some (0, 0, 0, 0))], (zx_lay M, 308))) rfl ?_
  refine zx_E.sld' (k := i + 1) (v := xs (i + 1)) rfl (nI_add i 1) (show i + 1 < L by omega) (by omega) rfl ?_
  show zx_E _ _ _ (345, [some (.inr (some (33, 0, 0, 0))), some (.inr (some (0, 0, 0, 0))), some (.inr (some (25, 0, 0, 0))), some (.inl (nI i))], [.inl (xs (i + 1)), .inr (some (0, 0, 0, 0))], (zx_lay M, 308)) _
  refine zx_E.go 4 (s' := (349, [some (.inr (some (33, 0, 0, 0))), some (.inr (some (0, 0, 0, 0))), some (.inr (some (25, 0, 0, 0))), some (.inl (nI i))], [.inl (nI i + 2), .inr (some (33, 0, 0, 0)), .inl (xs (i + 1)), .inr (some (0, 0, 0, 0))], (zx_lay M, 308))) rfl ?_
  refine zx_E.sld' (k := i + 2) (v := xs (i + 2)) rfl (nI_add i 2) (show i + 2 < L by omega) (by omega) rfl ?_
  show zx_E _ _ _ (350, [some (.inr (some (33, 0, 0, 0))), some (.inr (some (0, 0, 0, 0))), some (.inr (some (25, 0, 0, 0))), some (.inl (nI i))], [.inl (xs (i + 2)), .inl (xs (i + 1)), .inr (some (0, 0, 0, 0))], (zx_lay M, 308)) _
  refine zx_E.call1 (y := 101) (as := [.inr (some (0, 0, 0, 0)), .inl (xs (i + 1)), .inl (xs (i + 2))]) (rest := []) (v := .inl v) (μ' := (zx_lay M, 308)) rfl (zx_run_up (show 0 + 2 ≤ 11 by omega) (r_X10_train (d := 0) h1)) ?_
  show zx_E _ _ _ (353, [some (.inr (some (33, 0, 0, 0))), some (.inr (some (0, 0, 0, 0))), some (.inr (some (25, 0, 0, 0))), some (.inl (nI i))], [.inl v], (zx_lay M, 308)) _
  refine zx_E.go 6 (s' := (359, [some (.inr (some (33, 0, 0, 0))), some (.inr (some (0, 0, 0, 0))), some (.inr (some (25, 0, 0, 0))), some (.inl (nI i))], [.inl (nI i + 1), .inr (some (33, 0, 0, 0)), .inr (some (25, 0, 0, 0))], (zx_lay M, 308))) rfl ?_
  refine zx_E.sld' (k := i + 1) (v := xs (i + 1)) rfl (nI_add i 1) (show i + 1 < L by omega) (by omega) rfl ?_
  show zx_E _ _ _ (360, [some (.inr (some (33, 0, 0, 0))), some (.inr (some (0, 0, 0, 0))), some (.inr (some (25, 0, 0, 0))), some (.inl (nI i))], [.inl (xs (i + 1)), .inr (some (25, 0, 0, 0))], (zx_lay M, 308)) _
  refine zx_E.go 4 (s' := (364, [some (.inr (some (33, 0, 0, 0))), some (.inr (some (0, 0, 0, 0))), some (.inr (some (25, 0, 0, 0))), some (.inl (nI i))], [.inl (nI i + 2), .inr (some (33, 0, 0, 0)), .inl (xs (i + 1)), .inr (some (25, 0, 0, 0))], (zx_lay M, 308))) rfl ?_
  refine zx_E.sld' (k := i + 2) (v := xs (i + 2)) rfl (nI_add i 2) (show i + 2 < L by omega) (by omega) rfl ?_
  show zx_E _ _ _ (365, [some (.inr (some (33, 0, 0, 0))), some (.inr (some (0, 0, 0, 0))), some (.inr (some (25, 0, 0, 0))), some (.inl (nI i))], [.inl (xs (i + 2)), .inl (xs (i + 1)), .inr (some (25, 0, 0, 0))], (zx_lay M, 308)) _
  refine zx_E.call1 (y := 176) (as := [.inr (some (25, 0, 0, 0)), .inl (xs (i + 1)), .inl (xs (i + 2))]) (rest := []) (v := .inl w) (μ' := (zx_lay M, 308)) rfl (zx_run_up (show 0 + 3 ≤ 11 by omega) (r_X11_train (d := 0) h2)) ?_
  show zx_E _ _ _ (368, [some (.inr (some (33, 0, 0, 0))), some (.inr (some (0, 0, 0, 0))), some (.inr (some (25, 0, 0, 0))), some (.inl (nI i))], [.inl w], (zx_lay M, 308)) _
  refine zx_E.go 2 (s' := (734, [some (.inr (some (33, 0, 0, 0))), some (.inr (some (0, 0, 0, 0))), some (.inr (some (25, 0, 0, 0))), some (.inl (nI i))], [], (zx_lay M, 308))) rfl ?_
  exact hE
set_option maxRecDepth 100000 in
set_option maxHeartbeats 4000000 in
theorem lo_8 {L i : Nat} {xs : Nat → Int32} {M : zx_Y} (hL : L ≤ 3584) (hi : i + 7 ≤ L) (hI : II M M) (hK : ∀ M', II M' M' → ∃ μ : zx_M, μ.2 ≤ 308 ∧ zx_E (L, xs) 11 zc_L_law (734, [some (.inr (some (33, 0, 0, 0))), some (.inr (some (0, 0, 0, 0))), some (.inr (some (25, 0, 0, 0))), some (.inl (nI i))], [], (zx_lay M', 308)) (some (.inl 1), μ)) : ∃ μ : zx_M, μ.2 ≤ 308 ∧ zx_E (L, xs) 11 zc_L_law (372, [some (.inr (some (33, 0, 0, 0))), some (.inr (some (0, 0, 0, 0))), some (.inr (some (25, 0, 0, 0))), some (.inl (nI i))], [], (zx_lay M, 308)) (some (.inl 1), μ) := by
  obtain ⟨v, w, C', D', h1, q1, h2, q2, h3, h4⟩ := lw_station hI (xs (i + 1)) (xs (i + 2))
  rw [q2, q1] at h3
  rw [q1] at h2
  obtain ⟨μ, hμ, hE⟩ := hK _ h3
  refine ⟨μ, hμ, ?_⟩
  refine zx_E.go 5 (s' := (377, [some (.inr (some (33, 0, 0, 0))), some (.inr (some (0, 0, 0, 0))), some (.inr (some (25, 0, 0, 0))), some (.inl (nI i))], [.inl (nI i + 1), .inr (some (33, 0, 0, 0)), .inr (some (0, 0, 0, 0))], (zx_lay M, 308))) rfl ?_
  refine zx_E.sld' (k := i + 1) (v := xs (i + 1)) rfl (nI_add i 1) (show i + 1 < L by omega) (by omega) rfl ?_
  show zx_E _ _ _ (378, [some (.inr (some (33, 0, 0, 0))), some (.inr (some (0, 0, 0, 0))), some (.inr (some (25, 0, 0, 0))), some (.inl (nI i))], [.inl (xs (i + 1)), .inr (some (0, 0, 0, 0))], (zx_lay M, 308)) _
  refine zx_E.go 4 (s' := (382, [some (.inr (some (33, 0, 0, 0))), some (.inr (some (0, 0, 0, 0))), some (.inr (some (25, 0, 0, 0))), some (.inl (nI i))], [.inl (nI i + 2), .inr (some (33, 0, 0, 0)), .inl (xs (i + 1)), .inr (some (0, 0, 0, 0))], (zx_lay M, 308))) rfl ?_
  refine zx_E.sld' (k := i + 2) (v := xs (i + 2)) rfl (nI_add i 2) (show i + 2 < L by omega) (by omega) rfl ?_
  show zx_E _ _ _ (383, [some (.inr (some (33, 0, 0, 0))), some (.inr (some (0, 0, 0, 0))), some (.inr (some (25, 0, 0, 0))), some (.inl (nI i))], [.inl (xs (i + 2)), .inl (xs (i + 1)), .inr (some (0, 0, 0, 0))], (zx_lay M, 308)) _
  refine zx_E.call1 (y := 102) (as := [.inr (some (0, 0, 0, 0)), .inl (xs (i + 1)), .inl (xs (i + 2))]) (rest := []) (v := .inl v) (μ' := (zx_lay M, 308)) rfl (zx_run_up (show 0 + 3 ≤ 11 by omega) (r_X10_station (d := 0) h1)) ?_
  show zx_E _ _ _ (386, [some (.inr (some (33, 0, 0, 0))), some (.inr (some (0, 0, 0, 0))), some (.inr (some (25, 0, 0, 0))), some (.inl (nI i))], [.inl v], (zx_lay M, 308)) _
  refine zx_E.go 6 (s' := (392, [some (.inr (some (33, 0, 0, 0))), some (.inr (some (0, 0, 0, 0))), some (.inr (some (25, 0, 0, 0))), some (.inl (nI i))], [.inl (nI i + 1), .inr (some (33, 0, 0, 0)), .inr (some (25, 0, 0, 0))], (zx_lay M, 308))) rfl ?_
  refine zx_E.sld' (k := i + 1) (v := xs (i + 1)) rfl (nI_add i 1) (show i + 1 < L by omega) (by omega) rfl ?_
  show zx_E _ _ _ (393, [some (.inr (some (33, 0, 0, 0))), some (.inr (some (0, 0, 0, 0))), some (.inr (some (25, 0, 0, 0))), some (.inl (nI i))], [.inl (xs (i + 1)), .inr (some (25, 0, 0, 0))], (zx_lay M, 308)) _
  refine zx_E.go 4 (s' := (397, [some (.inr (some (33, 0, 0, 0))), some (.inr (some (0, 0, 0, 0))), some (.inr (some (25, 0, 0, 0))), some (.inl (nI i))], [.inl (nI i + 2), .inr (some (33, 0, 0, 0)), .inl (xs (i + 1)), .inr (some (25, 0, 0, 0))], (zx_lay M, 308))) rfl ?_
  refine zx_E.sld' (k := i + 2) (v := xs (i + 2)) rfl (nI_add i 2) (show i + 2 < L by omega) (by omega) rfl ?_
  show zx_E _ _ _ (398, [some (.inr (some (33, 0, 0, 0))), some (.inr (some (0, 0, 0, 0))), some (.inr (some (25, 0, 0, 0))), some (.inl (nI i))], [.inl (xs (i + 2)), .inl (xs (i + 1)), .inr (some (25, 0, 0, 0))], (zx_lay M, 308)) _
  refine zx_E.call1 (y := 177) (as := [.inr (some (25, 0, 0, 0)), .inl (xs (i + 1)), .inl (xs (i + 2))]) (rest := []) (v := .inl w) (μ' := (zx_lay M, 308)) rfl (zx_run_up (show 0 + 5 ≤ 11 by omega) (r_X11_station (d := 0) h2)) ?_
  show zx_E _ _ _ (401, [some (.inr (some (33, 0, 0, 0))), some (.inr (some (0, 0, 0, 0))), some (.inr (some (25, 0, 0, 0))), some (.inl (nI i))], [.inl w], (zx_lay M, 308)) _
  refine zx_E.go 2 (s' := (734, [some (.inr (some (33, 0, 0, 0))), some (.inr (some (0, 0, 0, 0))), some (.inr (some (25, 0, 0, 0))), some (.inl (nI i))], [], (zx_lay M, 308))) rfl ?_
  exact hE
set_option maxRecDepth 100000 in
set_option maxHeartbeats 4000000 in
theorem lo_9 {L i : Nat} {xs : Nat → Int32} {M : zx_Y} (hL : L ≤ 3584) (hi : i + 7 ≤ L) (hI : II M M) (hK : ∀ M', II M' M' → ∃ μ : zx_M, μ.2 ≤ 308 ∧ zx_E (L, xs) 11 zc_L_law (734, [some (.inr (some (33, 0, 0, 0))), some (.inr (some (0, 0, 0, 0))), some (.inr (some (25, 0, 0, 0))), some (.inl (nI i))], [], (zx_lay M', 308)) (some (.inl 1), μ)) : ∃ μ : zx_M, μ.2 ≤ 308 ∧ zx_E (L, xs) 11 zc_L_law (405, [some (.inr (some (33, 0, 0, 0))), some (.inr (some (0, 0, 0, 0))), some (.inr (some (25, 0, 0, 0))), some (.inl (nI i))], [], (zx_lay M, 308)) (some (.inl 1), μ) := by
  obtain ⟨v, w, C', D', h1, q1, h2, q2, h3, h4⟩ := lw_block hI (xs (i + 1)) (xs (i + 2))
  rw [q2, q1] at h3
  rw [q1] at h2
  obtain ⟨μ, hμ, hE⟩ := hK _ h3
  refine ⟨μ, hμ, ?_⟩
  refine zx_E.go 5 (s' := (410, [some (.inr (some (33, 0, 0, 0))), some (.inr (some (0, 0, 0, 0))), some (.inr (some (25, 0, 0, 0))), some (.inl (nI i))], [.inl (nI i + 1), .inr (some (33, 0, 0, 0)), .inr (some (0, 0, 0, 0))], (zx_lay M, 308))) rfl ?_
  refine zx_E.sld' (k := i + 1) (v := xs (i + 1)) rfl (nI_add i 1) (show i + 1 < L by omega) (by omega) rfl ?_
  show zx_E _ _ _ (411, [some (.inr (some (33, 0, 0, 0))), some (.inr (some (0, 0, 0, 0))), some (.inr (some (25, 0, 0, 0))), some (.inl (nI i))], [.inl (xs (i + 1)), .inr (some (0, 0, 0, 0))], (zx_lay M, 308)) _
  refine zx_E.go 4 (s' := (415, [some (.inr (some (33, 0, 0, 0))), some (.inr (some (0, 0, 0, 0))), some (.inr (some (25, 0, 0, 0))), some (.inl (nI i))], [.inl (nI i + 2), .inr (some (33, 0, 0, 0)), .inl (xs (i + 1)), .inr (some (0, 0, 0, 0))], (zx_lay M, 308))) rfl ?_
  refine zx_E.sld' (k := i + 2) (v := xs (i + 2)) rfl (nI_add i 2) (show i + 2 < L by omega) (by omega) rfl ?_
  show zx_E _ _ _ (416, [some (.inr (some (33, 0, 0, 0))), some (.inr (some (0, 0, 0, 0))), some (.inr (some (25, 0, 0, 0))), some (.inl (nI i))], [.inl (xs (i + 2)), .inl (xs (i + 1)), .inr (some (0, 0, 0, 0))], (zx_lay M, 308)) _
  refine zx_E.call1 (y := 103) (as := [.inr (some (0, 0, 0, 0)), .inl (xs (i + 1)), .inl (xs (i + 2))]) (rest := []) (v := .inl v) (μ' := (zx_lay M, 308)) rfl (zx_run_up (show 0 + 2 ≤ 11 by omega) (r_X10_block (d := 0) h1)) ?_
  show zx_E _ _ _ (419, [some (.inr (some (33, 0, 0, 0))), some (.inr (some (0, 0, 0, 0))), some (.inr (some (25, 0, 0, 0))), some (.inl (nI i))], [.inl v], (zx_lay M, 308)) _
  refine zx_E.go 6 (s' := (425, [some (.inr (some (33, 0, 0, 0))), some (.inr (some (0, 0, 0, 0))), some (.inr (some (25, 0, 0, 0))), some (.inl (nI i))], [.inl (nI i + 1), .inr (some (33, 0, 0, 0)), .inr (some (25, 0, 0, 0))], (zx_lay M, 308))) rfl ?_
  refine zx_E.sld' (k := i + 1) (v := xs (i + 1)) rfl (nI_add i 1) (show i + 1 < L by omega) (by omega) rfl ?_
  show zx_E _ _ _ (426, [some (.inr (some (33, 0, 0, 0))), some (.inr (some (0, 0, 0, 0))), some (.inr (some (25, 0, 0, 0))), some (.inl (nI i))], [.inl (xs (i + 1)), .inr (some (25, 0, 0, 0))], (zx_lay M, 308)) _
  refine zx_E.go 4 (s' := (430, [some (.inr (some (33, 0, 0, 0))), some (.inr (some (0, 0, 0, 0))), some (.inr (some (25, 0, 0, 0))), some (.inl (nI i))], [.inl (nI i + 2), .inr (some (33, 0, 0, 0)), .inl (xs (i + 1)), .inr (some (25, 0, 0, 0))], (zx_lay M, 308))) rfl ?_
  refine zx_E.sld' (k := i + 2) (v := xs (i + 2)) rfl (nI_add i 2) (show i + 2 < L by omega) (by omega) rfl ?_
  show zx_E _ _ _ (431, [some (.inr (some (33, 0, 0, 0))), some (.inr (some (0, 0, 0, 0))), some (.inr (some (25, 0, 0, 0))), some (.inl (nI i))], [.inl (xs (i + 2)), .inl (xs (i + 1)), .inr (some (25, 0, 0, 0))], (zx_lay M, 308)) _
  refine zx_E.call1 (y := 178) (as := [.inr (some (25, 0, 0, 0)), .inl (xs (i + 1)), .inl (xs (i + 2))]) (rest := []) (v := .inl w) (μ' := (zx_lay M, 308)) rfl (zx_run_up (show 0 + 3 ≤ 11 by omega) (r_X11_block (d := 0) h2)) ?_
  show zx_E _ _ _ (434, [some (.inr (some (33, 0, 0, 0))), some (.inr (some (0, 0, 0, 0))), some (.inr (some (25, 0, 0, 0))), some (.inl (nI i))], [.inl w], (zx_lay M, 308)) _
  refine zx_E.go 2 (s' := (734, [some (.inr (some (33, 0, 0, 0))), some (.inr (some (0, 0, 0, 0))), some (.inr (some (25, 0, 0, 0))), some (.inl (nI i))], [], (zx_lay M, 308))) rfl ?_
  exact hE
set_option maxRecDepth 100000 in
set_option maxHeartbeats 4000000 in
theorem lo_10 {L i : Nat} {xs : Nat → Int32} {M : zx_Y} (hL : L ≤ 3584) (hi : i + 7 ≤ L) (hI : II M M) (hK : ∀ M', II M' M' → ∃ μ : zx_M, μ.2 ≤ 308 ∧ zx_E (L, xs) 11 zc_L_law (734, [some (.inr (some (33, 0, 0, 0))), some (.inr (some (0, 0, 0, 0))), some (.inr (some (25, 0, 0, 0))), some (.inl (nI i))], [], (zx_lay M', 308)) (some (.inl 1), μ)) : ∃ μ : zx_M, μ.2 ≤ 308 ∧ zx_E (L, xs) 11 zc_L_law (438, [some (.inr (some (33, 0, 0, 0))), some (.inr (some (0, 0, 0, 0))), some (.inr (some (25, 0, 0, 0))), some (.inl (nI i))], [], (zx_lay M, 308)) (some (.inl 1), μ) := by
  obtain ⟨v, w, C', D', h1, h2, h3, h4⟩ := lw_why hI (xs (i + 1)) (xs (i + 2))
  obtain ⟨μ, hμ, hE⟩ := hK _ h3
  refine ⟨μ, hμ, ?_⟩
  refine zx_E.go 5 (s' := (443, [some (.inr (some (33, 0, 0, 0))), some (.inr (some (0, 0, 0, 0))), some (.inr (some (25, 0, 0, 0))), some (.inl (nI i))], [.inl (nI i + 1), .inr (some (33, 0, 0, 0)), .inr (some (0, 0, 0, 0))], (zx_lay M, 308))) rfl ?_
  refine zx_E.sld' (k := i + 1) (v := xs (i + 1)) rfl (nI_add i 1) (show i + 1 < L by omega) (by omega) rfl ?_
  show zx_E _ _ _ (444, [some (.inr (some (33, 0, 0, 0))), some (.inr (some (0, 0, 0, 0))), some (.inr (some (25, 0, 0, 0))), some (.inl (nI i))], [.inl (xs (i + 1)), .inr (some (0, 0, 0, 0))], (zx_lay M, 308)) _
  refine zx_E.go 4 (s' := (448, [some (.inr (some (33, 0, 0, 0))), some (.inr (some (0, 0, 0, 0))), some (.inr (some (25, 0, 0, 0))), some (.inl (nI i))], [.inl (nI i + 2), .inr (some (33, 0, 0, 0)), .inl (xs (i + 1)), .inr (some (0, 0, 0, 0))], (zx_lay M, 308))) rfl ?_
  refine zx_E.sld' (k := i + 2) (v := xs (i + 2)) rfl (nI_add i 2) (show i + 2 < L by omega) (by omega) rfl ?_
  show zx_E _ _ _ (449, [some (.inr (some (33, 0, 0, 0))), some (.inr (some (0, 0, 0, 0))), some (.inr (some (25, 0, 0, 0))), some (.inl (nI i))], [.inl (xs (i + 2)), .inl (xs (i + 1)), .inr (some (0, 0, 0, 0))], (zx_lay M, 308)) _
  refine zx_E.call1 (y := 104) (as := [.inr (some (0, 0, 0, 0)), .inl (xs (i + 1)), .inl (xs (i + 2))]) (rest := []) (v := .inl v) (μ' := (zx_lay C', 308)) rfl (zx_run_up (show 0 + 7 ≤ 11 by omega) (r_X10_why (d := 0) h1)) ?_
  show zx_E _ _ _ (452, [some (.inr (some (33, 0, 0, 0))), some (.inr (some (0, 0, 0, 0))), some (.inr (some (25, 0, 0, 0))), some (.inl (nI i))], [.inl v], (zx_lay C', 308)) _
  refine zx_E.go 6 (s' := (458, [some (.inr (some (33, 0, 0, 0))), some (.inr (some (0, 0, 0, 0))), some (.inr (some (25, 0, 0, 0))), some (.inl (nI i))], [.inl (nI i + 1), .inr (some (33, 0, 0, 0)), .inr (some (25, 0, 0, 0))], (zx_lay C', 308))) rfl ?_
  refine zx_E.sld' (k := i + 1) (v := xs (i + 1)) rfl (nI_add i 1) (show i + 1 < L by omega) (by omega) rfl ?_
  show zx_E _ _ _ (459, [some (.inr (some (33, 0, 0, 0))), some (.inr (some (0, 0, 0, 0))), some (.inr (some (25, 0, 0, 0))), some (.inl (nI i))], [.inl (xs (i + 1)), .inr (some (25, 0, 0, 0))], (zx_lay C', 308)) _
  refine zx_E.go 4 (s' := (463, [some (.inr (some (33, 0, 0, 0))), some (.inr (some (0, 0, 0, 0))), some (.inr (some (25, 0, 0, 0))), some (.inl (nI i))], [.inl (nI i + 2), .inr (some (33, 0, 0, 0)), .inl (xs (i + 1)), .inr (some (25, 0, 0, 0))], (zx_lay C', 308))) rfl ?_
  refine zx_E.sld' (k := i + 2) (v := xs (i + 2)) rfl (nI_add i 2) (show i + 2 < L by omega) (by omega) rfl ?_
  show zx_E _ _ _ (464, [some (.inr (some (33, 0, 0, 0))), some (.inr (some (0, 0, 0, 0))), some (.inr (some (25, 0, 0, 0))), some (.inl (nI i))], [.inl (xs (i + 2)), .inl (xs (i + 1)), .inr (some (25, 0, 0, 0))], (zx_lay C', 308)) _
  refine zx_E.call1 (y := 182) (as := [.inr (some (25, 0, 0, 0)), .inl (xs (i + 1)), .inl (xs (i + 2))]) (rest := []) (v := .inl w) (μ' := (zx_lay D', 308)) rfl (zx_run_up (show 0 + 10 ≤ 11 by omega) (r_X11_why (d := 0) h2)) ?_
  show zx_E _ _ _ (467, [some (.inr (some (33, 0, 0, 0))), some (.inr (some (0, 0, 0, 0))), some (.inr (some (25, 0, 0, 0))), some (.inl (nI i))], [.inl w], (zx_lay D', 308)) _
  refine zx_E.go 2 (s' := (734, [some (.inr (some (33, 0, 0, 0))), some (.inr (some (0, 0, 0, 0))), some (.inr (some (25, 0, 0, 0))), some (.inl (nI i))], [], (zx_lay D', 308))) rfl ?_
  exact hE
set_option maxRecDepth 100000 in
set_option maxHeartbeats 4000000 in
theorem lo_11 {L i : Nat} {xs : Nat → Int32} {M : zx_Y} (hL : L ≤ 3584) (hi : i + 7 ≤ L) (hI : II M M) (hK : ∀ M', II M' M' → ∃ μ : zx_M, μ.2 ≤ 308 ∧ zx_E (L, xs) 11 zc_L_law (734, [some (.inr (some (33, 0, 0, 0))), some (.inr (some (0, 0, 0, 0))), some (.inr (some (25, 0, 0, 0))), some (.inl (nI i))], [], (zx_lay M', 308)) (some (.inl 1), μ)) : ∃ μ : zx_M, μ.2 ≤ 308 ∧ zx_E (L, xs) 11 zc_L_law (471, [some (.inr (some (33, 0, 0, 0))), some (.inr (some (0, 0, 0, 0))), some (.inr (some (25, 0, 0, 0))), some (.inl (nI i))], [], (zx_lay M, 308)) (some (.inl 1), μ) := by
  obtain ⟨v, w, C', D', h1, h2, h3, h4⟩ := lw_order hI (xs (i + 1))
  obtain ⟨μ, hμ, hE⟩ := hK _ h3
  refine ⟨μ, hμ, ?_⟩
  refine zx_E.go 5 (s' := (476, [some (.inr (some (33, 0, 0, 0))), some (.inr (some (0, 0, 0, 0))), some (.inr (some (25, 0, 0, 0))), some (.inl (nI i))], [.inl (nI i + 1), .inr (some (33, 0, 0, 0)), .inr (some (0, 0, 0, 0))], (zx_lay M, 308))) rfl ?_
  refine zx_E.sld' (k := i + 1) (v := xs (i + 1)) rfl (nI_add i 1) (show i + 1 < L by omega) (by omega) rfl ?_
  show zx_E _ _ _ (477, [some (.inr (some (33, 0, 0, 0))), some (.inr (some (0, 0, 0, 0))), some (.inr (some (25, 0, 0, 0))), some (.inl (nI i))], [.inl (xs (i + 1)), .inr (some (0, 0, 0, 0))], (zx_lay M, 308)) _
  refine zx_E.call1 (y := 105) (as := [.inr (some (0, 0, 0, 0)), .inl (xs (i + 1))]) (rest := []) (v := .inl v) (μ' := (zx_lay C', 308)) rfl (zx_run_up (show 0 + 3 ≤ 11 by omega) (r_X10_order (d := 0) h1)) ?_
  show zx_E _ _ _ (480, [some (.inr (some (33, 0, 0, 0))), some (.inr (some (0, 0, 0, 0))), some (.inr (some (25, 0, 0, 0))), some (.inl (nI i))], [.inl v], (zx_lay C', 308)) _
  refine zx_E.go 6 (s' := (486, [some (.inr (some (33, 0, 0, 0))), some (.inr (some (0, 0, 0, 0))), some (.inr (some (25, 0, 0, 0))), some (.inl (nI i))], [.inl (nI i + 1), .inr (some (33, 0, 0, 0)), .inr (some (25, 0, 0, 0))], (zx_lay C', 308))) rfl ?_
  refine zx_E.sld' (k := i + 1) (v := xs (i + 1)) rfl (nI_add i 1) (show i + 1 < L by omega) (by omega) rfl ?_
  show zx_E _ _ _ (487, [some (.inr (some (33, 0, 0, 0))), some (.inr (some (0, 0, 0, 0))), some (.inr (some (25, 0, 0, 0))), some (.inl (nI i))], [.inl (xs (i + 1)), .inr (some (25, 0, 0, 0))], (zx_lay C', 308)) _
  refine zx_E.call1 (y := 142) (as := [.inr (some (25, 0, 0, 0)), .inl (xs (i + 1))]) (rest := []) (v := .inl w) (μ' := (zx_lay D', 308)) rfl (zx_run_up (show 0 + 4 ≤ 11 by omega) (r_X11_order (d := 0) h2)) ?_
  show zx_E _ _ _ (490, [some (.inr (some (33, 0, 0, 0))), some (.inr (some (0, 0, 0, 0))), some (.inr (some (25, 0, 0, 0))), some (.inl (nI i))], [.inl w], (zx_lay D', 308)) _
  refine zx_E.go 2 (s' := (734, [some (.inr (some (33, 0, 0, 0))), some (.inr (some (0, 0, 0, 0))), some (.inr (some (25, 0, 0, 0))), some (.inl (nI i))], [], (zx_lay D', 308))) rfl ?_
  exact hE
set_option maxRecDepth 100000 in
set_option maxHeartbeats 4000000 in
theorem lo_12 {L i : Nat} {xs : Nat → Int32} {M : zx_Y} (hL : L ≤ 3584) (hi : i + 7 ≤ L) (hI : II M M) (hK : ∀ M', II M' M' → ∃ μ : zx_M, μ.2 ≤ 308 ∧ zx_E (L, xs) 11 zc_L_law (734, [some (.inr (some (33, 0, 0, 0))), some (.inr (some (0, 0, 0, 0))), some (.inr (some (25, 0, 0, 0))), some (.inl (nI i))], [], (zx_lay M', 308)) (some (.inl 1), μ)) : ∃ μ : zx_M, μ.2 ≤ 308 ∧ zx_E (L, xs) 11 zc_L_law (494, [some (.inr (some (33, 0, 0, 0))), some (.inr (some (0, 0, 0, 0))), some (.inr (some (25, 0, 0, 0))), some (.inl (nI i))], [], (zx_lay M, 308)) (some (.inl 1), μ) := by
  obtain ⟨v, w, C', D', h1, h2, h3, h4⟩ := lw_plan hI (xs (i + 1))
  obtain ⟨μ, hμ, hE⟩ := hK _ h3
  refine ⟨μ, hμ, ?_⟩
  refine zx_E.go 5 (s' := (499, [some (.inr (some (33, 0, 0, 0))), some (.inr (some (0, 0, 0, 0))), some (.inr (some (25, 0, 0, 0))), some (.inl (nI i))], [.inl (nI i + 1), .inr (some (33, 0, 0, 0)), .inr (some (0, 0, 0, 0))], (zx_lay M, 308))) rfl ?_
  refine zx_E.sld' (k := i + 1) (v := xs (i + 1)) rfl (nI_add i 1) (show i + 1 < L by omega) (by omega) rfl ?_
  show zx_E _ _ _ (500, [some (.inr (some (33, 0, 0, 0))), some (.inr (some (0, 0, 0, 0))), some (.inr (some (25, 0, 0, 0))), some (.inl (nI i))], [.inl (xs (i + 1)), .inr (some (0, 0, 0, 0))], (zx_lay M, 308)) _
  refine zx_E.call1 (y := 106) (as := [.inr (some (0, 0, 0, 0)), .inl (xs (i + 1))]) (rest := []) (v := .inl v) (μ' := (zx_lay C', 308)) rfl (zx_run_up (show 0 + 7 ≤ 11 by omega) (r_X10_plan (d := 0) h1)) ?_
  show zx_E _ _ _ (503, [some (.inr (some (33, 0, 0, 0))), some (.inr (some (0, 0, 0, 0))), some (.inr (some (25, 0, 0, 0))), some (.inl (nI i))], [.inl v], (zx_lay C', 308)) _
  refine zx_E.go 6 (s' := (509, [some (.inr (some (33, 0, 0, 0))), some (.inr (some (0, 0, 0, 0))), some (.inr (some (25, 0, 0, 0))), some (.inl (nI i))], [.inl (nI i + 1), .inr (some (33, 0, 0, 0)), .inr (some (25, 0, 0, 0))], (zx_lay C', 308))) rfl ?_
  refine zx_E.sld' (k := i + 1) (v := xs (i + 1)) rfl (nI_add i 1) (show i + 1 < L by omega) (by omega) rfl ?_
  show zx_E _ _ _ (510, [some (.inr (some (33, 0, 0, 0))), some (.inr (some (0, 0, 0, 0))), some (.inr (some (25, 0, 0, 0))), some (.inl (nI i))], [.inl (xs (i + 1)), .inr (some (25, 0, 0, 0))], (zx_lay C', 308)) _
  refine zx_E.call1 (y := 185) (as := [.inr (some (25, 0, 0, 0)), .inl (xs (i + 1))]) (rest := []) (v := .inl w) (μ' := (zx_lay D', 308)) rfl (zx_run_up (show 0 + 10 ≤ 11 by omega) (r_X11_plan (d := 0) h2)) ?_
  show zx_E _ _ _ (513, [some (.inr (some (33, 0, 0, 0))), some (.inr (some (0, 0, 0, 0))), some (.inr (some (25, 0, 0, 0))), some (.inl (nI i))], [.inl w], (zx_lay D', 308)) _
  refine zx_E.go 2 (s' := (734, [some (.inr (some (33, 0, 0, 0))), some (.inr (some (0, 0, 0, 0))), some (.inr (some (25, 0, 0, 0))), some (.inl (nI i))], [], (zx_lay D', 308))) rfl ?_
  exact hE
set_option maxRecDepth 100000 in
set_option maxHeartbeats 4000000 in
theorem lo_13 {L i : Nat} {xs : Nat → Int32} {M : zx_Y} (hL : L ≤ 3584) (hi : i + 7 ≤ L) (hI : II M M) (hK : ∀ M', II M' M' → ∃ μ : zx_M, μ.2 ≤ 308 ∧ zx_E (L, xs) 11 zc_L_law (734, [some (.inr (some (33, 0, 0, 0))), some (.inr (some (0, 0, 0, 0))), some (.inr (some (25, 0, 0, 0))), some (.inl (nI i))], [], (zx_lay M', 308)) (some (.inl 1), μ)) : ∃ μ : zx_M, μ.2 ≤ 308 ∧ zx_E (L, xs) 11 zc_L_law (517, [some (.inr (some (33, 0, 0, 0))), some (.inr (some (0, 0, 0, 0))), some (.inr (some (25, 0, 0, 0))), some (.inl (nI i))], [], (zx_lay M, 308)) (some (.inl 1), μ) := by
  obtain ⟨v, w, C', D', h1, q1, h2, q2, h3, h4⟩ := lw_timetable hI (xs (i + 1)) (xs (i + 2)) (xs (i + 3))
  rw [q2, q1] at h3
  rw [q1] at h2
  obtain ⟨μ, hμ, hE⟩ := hK _ h3
  refine ⟨μ, hμ, ?_⟩
  refine zx_E.go 5 (s' := (522, [some (.inr (some (33, 0, 0, 0))), some (.inr (some (0, 0, 0, 0))), some (.inr (some (25, 0, 0, 0))), some (.inl (nI i))], [.inl (nI i + 1), .inr (some (33, 0, 0, 0)), .inr (some (0, 0, 0, 0))], (zx_lay M, 308))) rfl ?_
  refine zx_E.sld' (k := i + 1) (v := xs (i + 1)) rfl (nI_add i 1) (show i + 1 < L by omega) (by omega) rfl ?_
  show zx_E _ _ _ (523, [some (.inr (some (33, 0, 0, 0))), some (.inr (some (0, 0, 0, 0))), some (.inr (some (25, 0, 0, 0))), some (.inl (nI i))], [.inl (xs (i + 1)), .inr (some (0, 0, 0, 0))], (zx_lay M, 308)) _
  refine zx_E.go 4 (s' := (527, [some (.inr (some (33, 0, 0, 0))), some (.inr (some (0, 0, 0, 0))), some (.inr (some (25, 0, 0, 0))), some (.inl (nI i))], [.inl (nI i + 2), .inr (some (33, 0, 0, 0)), .inl (xs (i + 1)), .inr (some (0, 0, 0, 0))], (zx_lay M, 308))) rfl ?_
  refine zx_E.sld' (k := i + 2) (v := xs (i + 2)) rfl (nI_add i 2) (show i + 2 < L by omega) (by omega) rfl ?_
  show zx_E _ _ _ (528, [some (.inr (some (33, 0, 0, 0))), some (.inr (some (0, 0, 0, 0))), some (.inr (some (25, 0, 0, 0))), some (.inl (nI i))], [.inl (xs (i + 2)), .inl (xs (i + 1)), .inr (some (0, 0, 0, 0))], (zx_lay M, 308)) _
  refine zx_E.go 4 (s' := (532, [some (.inr (some (33, 0, 0, 0))), some (.inr (some (0, 0, 0, 0))), some (.inr (some (25, 0, 0, 0))), some (.inl (nI i))], [.inl (nI i + 3), .inr (some (33, 0, 0, 0)), .inl (xs (i + 2)), .inl (xs (i + 1)), .inr (some (0, 0, 0, 0))], (zx_lay M, 308))) rfl ?_
  refine zx_E.sld' (k := i + 3) (v := xs (i + 3)) rfl (nI_add i 3) (show i + 3 < L by omega) (by omega) rfl ?_
  show zx_E _ _ _ (533, [some (.inr (some (33, 0, 0, 0))), some (.inr (some (0, 0, 0, 0))), some (.inr (some (25, 0, 0, 0))), some (.inl (nI i))], [.inl (xs (i + 3)), .inl (xs (i + 2)), .inl (xs (i + 1)), .inr (some (0, 0, 0, 0))], (zx_lay M, 308)) _
  refine zx_E.call1 (y := 107) (as := [.inr (some (0, 0, 0, 0)), .inl (xs (i + 1)), .inl (xs (i + 2)), .inl (xs (i + 3))]) (rest := []) (v := .inl v) (μ' := (zx_lay M, 308)) rfl (zx_run_up (show 0 + 2 ≤ 11 by omega) (r_X10_timetable (d := 0) h1)) ?_
  show zx_E _ _ _ (536, [some (.inr (some (33, 0, 0, 0))), some (.inr (some (0, 0, 0, 0))), some (.inr (some (25, 0, 0, 0))), some (.inl (nI i))], [.inl v], (zx_lay M, 308)) _
  refine zx_E.go 6 (s' := (542, [some (.inr (some (33, 0, 0, 0))), some (.inr (some (0, 0, 0, 0))), some (.inr (some (25, 0, 0, 0))), some (.inl (nI i))], [.inl (nI i + 1), .inr (some (33, 0, 0, 0)), .inr (some (25, 0, 0, 0))], (zx_lay M, 308))) rfl ?_
  refine zx_E.sld' (k := i + 1) (v := xs (i + 1)) rfl (nI_add i 1) (show i + 1 < L by omega) (by omega) rfl ?_
  show zx_E _ _ _ (543, [some (.inr (some (33, 0, 0, 0))), some (.inr (some (0, 0, 0, 0))), some (.inr (some (25, 0, 0, 0))), some (.inl (nI i))], [.inl (xs (i + 1)), .inr (some (25, 0, 0, 0))], (zx_lay M, 308)) _
  refine zx_E.go 4 (s' := (547, [some (.inr (some (33, 0, 0, 0))), some (.inr (some (0, 0, 0, 0))), some (.inr (some (25, 0, 0, 0))), some (.inl (nI i))], [.inl (nI i + 2), .inr (some (33, 0, 0, 0)), .inl (xs (i + 1)), .inr (some (25, 0, 0, 0))], (zx_lay M, 308))) rfl ?_
  refine zx_E.sld' (k := i + 2) (v := xs (i + 2)) rfl (nI_add i 2) (show i + 2 < L by omega) (by omega) rfl ?_
  show zx_E _ _ _ (548, [some (.inr (some (33, 0, 0, 0))), some (.inr (some (0, 0, 0, 0))), some (.inr (some (25, 0, 0, 0))), some (.inl (nI i))], [.inl (xs (i + 2)), .inl (xs (i + 1)), .inr (some (25, 0, 0, 0))], (zx_lay M, 308)) _
  refine zx_E.go 4 (s' := (552, [some (.inr (some (33, 0, 0, 0))), some (.inr (some (0, 0, 0, 0))), some (.inr (some (25, 0, 0, 0))), some (.inl (nI i))], [.inl (nI i + 3), .inr (some (33, 0, 0, 0)), .inl (xs (i + 2)), .inl (xs (i + 1)), .inr (some (25, 0, 0, 0))], (zx_lay M, 308))) rfl ?_
  refine zx_E.sld' (k := i + 3) (v := xs (i + 3)) rfl (nI_add i 3) (show i + 3 < L by omega) (by omega) rfl ?_
  show zx_E _ _ _ (553, [some (.inr (some (33, 0, 0, 0))), some (.inr (some (0, 0, 0, 0))), some (.inr (some (25, 0, 0, 0))), some (.inl (nI i))], [.inl (xs (i + 3)), .inl (xs (i + 2)), .inl (xs (i + 1)), .inr (some (25, 0, 0, 0))], (zx_lay M, 308)) _
  refine zx_E.call1 (y := 186) (as := [.inr (some (25, 0, 0, 0)), .inl (xs (i + 1)), .inl (xs (i + 2)), .inl (xs (i + 3))]) (rest := []) (v := .inl w) (μ' := (zx_lay M, 308)) rfl (zx_run_up (show 0 + 3 ≤ 11 by omega) (r_X11_timetable (d := 0) h2)) ?_
  show zx_E _ _ _ (556, [some (.inr (some (33, 0, 0, 0))), some (.inr (some (0, 0, 0, 0))), some (.inr (some (25, 0, 0, 0))), some (.inl (nI i))], [.inl w], (zx_lay M, 308)) _
  refine zx_E.go 2 (s' := (734, [some (.inr (some (33, 0, 0, 0))), some (.inr (some (0, 0, 0, 0))), some (.inr (some (25, 0, 0, 0))), some (.inl (nI i))], [], (zx_lay M, 308))) rfl ?_
  exact hE
set_option maxRecDepth 100000 in
set_option maxHeartbeats 4000000 in
theorem lo_14 {L i : Nat} {xs : Nat → Int32} {M : zx_Y} (hL : L ≤ 3584) (hi : i + 7 ≤ L) (hI : II M M) (hK : ∀ M', II M' M' → ∃ μ : zx_M, μ.2 ≤ 308 ∧ zx_E (L, xs) 11 zc_L_law (734, [some (.inr (some (33, 0, 0, 0))), some (.inr (some (0, 0, 0, 0))), some (.inr (some (25, 0, 0, 0))), some (.inl (nI i))], [], (zx_lay M', 308)) (some (.inl 1), μ)) : ∃ μ : zx_M, μ.2 ≤ 308 ∧ zx_E (L, xs) 11 zc_L_law (560, [some (.inr (some (33, 0, 0, 0))), some (.inr (some (0, 0, 0, 0))), some (.inr (some (25, 0, 0, 0))), some (.inl (nI i))], [], (zx_lay M, 308)) (some (.inl 1), μ) := by
  obtain ⟨v, w, C', D', h1, q1, h2, q2, h3, h4⟩ := lw_drift hI 
  rw [q2, q1] at h3
  rw [q1] at h2
  obtain ⟨μ, hμ, hE⟩ := hK _ h3
  refine ⟨μ, hμ, ?_⟩
  refine zx_E.go 1 (s' := (561, [some (.inr (some (33, 0, 0, 0))), some (.inr (some (0, 0, 0, 0))), some (.inr (some (25, 0, 0, 0))), some (.inl (nI i))], [.inr (some (0, 0, 0, 0))], (zx_lay M, 308))) rfl ?_
  refine zx_E.call1 (y := 108) (as := [.inr (some (0, 0, 0, 0))]) (rest := []) (v := .inl v) (μ' := (zx_lay M, 308)) rfl (zx_run_up (show 0 + 3 ≤ 11 by omega) (r_X10_drift (d := 0) h1)) ?_
  show zx_E _ _ _ (564, [some (.inr (some (33, 0, 0, 0))), some (.inr (some (0, 0, 0, 0))), some (.inr (some (25, 0, 0, 0))), some (.inl (nI i))], [.inl v], (zx_lay M, 308)) _
  refine zx_E.go 2 (s' := (566, [some (.inr (some (33, 0, 0, 0))), some (.inr (some (0, 0, 0, 0))), some (.inr (some (25, 0, 0, 0))), some (.inl (nI i))], [.inr (some (25, 0, 0, 0))], (zx_lay M, 308))) rfl ?_
  refine zx_E.call1 (y := 187) (as := [.inr (some (25, 0, 0, 0))]) (rest := []) (v := .inl w) (μ' := (zx_lay M, 308)) rfl (zx_run_up (show 0 + 3 ≤ 11 by omega) (r_X11_drift (d := 0) h2)) ?_
  show zx_E _ _ _ (569, [some (.inr (some (33, 0, 0, 0))), some (.inr (some (0, 0, 0, 0))), some (.inr (some (25, 0, 0, 0))), some (.inl (nI i))], [.inl w], (zx_lay M, 308)) _
  refine zx_E.go 2 (s' := (734, [some (.inr (some (33, 0, 0, 0))), some (.inr (some (0, 0, 0, 0))), some (.inr (some (25, 0, 0, 0))), some (.inl (nI i))], [], (zx_lay M, 308))) rfl ?_
  exact hE
set_option maxRecDepth 100000 in
set_option maxHeartbeats 4000000 in
theorem lo_15 {L i : Nat} {xs : Nat → Int32} {M : zx_Y} (hL : L ≤ 3584) (hi : i + 7 ≤ L) (hI : II M M) (hK : ∀ M', II M' M' → ∃ μ : zx_M, μ.2 ≤ 308 ∧ zx_E (L, xs) 11 zc_L_law (734, [some (.inr (some (33, 0, 0, 0))), some (.inr (some (0, 0, 0, 0))), some (.inr (some (25, 0, 0, 0))), some (.inl (nI i))], [], (zx_lay M', 308)) (some (.inl 1), μ)) : ∃ μ : zx_M, μ.2 ≤ 308 ∧ zx_E (L, xs) 11 zc_L_law (573, [some (.inr (some (33, 0, 0, 0))), some (.inr (some (0, 0, 0, 0))), some (.inr (some (25, 0, 0, 0))), some (.inl (nI i))], [], (zx_lay M, 308)) (some (.inl 1), μ) := by
  obtain ⟨v, w, C', D', h1, h2, h3, h4⟩ := lw_ahead hI (xs (i + 1)) (xs (i + 2))
  obtain ⟨μ, hμ, hE⟩ := hK _ h3
  refine ⟨μ, hμ, ?_⟩
  refine zx_E.go 5 (s' := (578, [some (.inr (some (33, 0, 0, 0))), some (.inr (some (0, 0, 0, 0))), some (.inr (some (25, 0, 0, 0))), some (.inl (nI i))], [.inl (nI i + 1), .inr (some (33, 0, 0, 0)), .inr (some (0, 0, 0, 0))], (zx_lay M, 308))) rfl ?_
  refine zx_E.sld' (k := i + 1) (v := xs (i + 1)) rfl (nI_add i 1) (show i + 1 < L by omega) (by omega) rfl ?_
  show zx_E _ _ _ (579, [some (.inr (some (33, 0, 0, 0))), some (.inr (some (0, 0, 0, 0))), some (.inr (some (25, 0, 0, 0))), some (.inl (nI i))], [.inl (xs (i + 1)), .inr (some (0, 0, 0, 0))], (zx_lay M, 308)) _
  refine zx_E.go 4 (s' := (583, [some (.inr (some (33, 0, 0, 0))), some (.inr (some (0, 0, 0, 0))), some (.inr (some (25, 0, 0, 0))), some (.inl (nI i))], [.inl (nI i + 2), .inr (some (33, 0, 0, 0)), .inl (xs (i + 1)), .inr (some (0, 0, 0, 0))], (zx_lay M, 308))) rfl ?_
  refine zx_E.sld' (k := i + 2) (v := xs (i + 2)) rfl (nI_add i 2) (show i + 2 < L by omega) (by omega) rfl ?_
  show zx_E _ _ _ (584, [some (.inr (some (33, 0, 0, 0))), some (.inr (some (0, 0, 0, 0))), some (.inr (some (25, 0, 0, 0))), some (.inl (nI i))], [.inl (xs (i + 2)), .inl (xs (i + 1)), .inr (some (0, 0, 0, 0))], (zx_lay M, 308)) _
  refine zx_E.call1 (y := 109) (as := [.inr (some (0, 0, 0, 0)), .inl (xs (i + 1)), .inl (xs (i + 2))]) (rest := []) (v := .inl v) (μ' := (zx_lay C', 308)) rfl (zx_run_up (show 0 + 7 ≤ 11 by omega) (r_X10_ahead (d := 0) h1)) ?_
  show zx_E _ _ _ (587, [some (.inr (some (33, 0, 0, 0))), some (.inr (some (0, 0, 0, 0))), some (.inr (some (25, 0, 0, 0))), some (.inl (nI i))], [.inl v], (zx_lay C', 308)) _
  refine zx_E.go 6 (s' := (593, [some (.inr (some (33, 0, 0, 0))), some (.inr (some (0, 0, 0, 0))), some (.inr (some (25, 0, 0, 0))), some (.inl (nI i))], [.inl (nI i + 1), .inr (some (33, 0, 0, 0)), .inr (some (25, 0, 0, 0))], (zx_lay C', 308))) rfl ?_
  refine zx_E.sld' (k := i + 1) (v := xs (i + 1)) rfl (nI_add i 1) (show i + 1 < L by omega) (by omega) rfl ?_
  show zx_E _ _ _ (594, [some (.inr (some (33, 0, 0, 0))), some (.inr (some (0, 0, 0, 0))), some (.inr (some (25, 0, 0, 0))), some (.inl (nI i))], [.inl (xs (i + 1)), .inr (some (25, 0, 0, 0))], (zx_lay C', 308)) _
  refine zx_E.go 4 (s' := (598, [some (.inr (some (33, 0, 0, 0))), some (.inr (some (0, 0, 0, 0))), some (.inr (some (25, 0, 0, 0))), some (.inl (nI i))], [.inl (nI i + 2), .inr (some (33, 0, 0, 0)), .inl (xs (i + 1)), .inr (some (25, 0, 0, 0))], (zx_lay C', 308))) rfl ?_
  refine zx_E.sld' (k := i + 2) (v := xs (i + 2)) rfl (nI_add i 2) (show i + 2 < L by omega) (by omega) rfl ?_
  show zx_E _ _ _ (599, [some (.inr (some (33, 0, 0, 0))), some (.inr (some (0, 0, 0, 0))), some (.inr (some (25, 0, 0, 0))), some (.inl (nI i))], [.inl (xs (i + 2)), .inl (xs (i + 1)), .inr (some (25, 0, 0, 0))], (zx_lay C', 308)) _
  refine zx_E.call1 (y := 190) (as := [.inr (some (25, 0, 0, 0)), .inl (xs (i + 1)), .inl (xs (i + 2))]) (rest := []) (v := .inl w) (μ' := (zx_lay D', 308)) rfl (zx_run_up (show 0 + 10 ≤ 11 by omega) (r_X11_ahead (d := 0) h2)) ?_
  show zx_E _ _ _ (602, [some (.inr (some (33, 0, 0, 0))), some (.inr (some (0, 0, 0, 0))), some (.inr (some (25, 0, 0, 0))), some (.inl (nI i))], [.inl w], (zx_lay D', 308)) _
  refine zx_E.go 2 (s' := (734, [some (.inr (some (33, 0, 0, 0))), some (.inr (some (0, 0, 0, 0))), some (.inr (some (25, 0, 0, 0))), some (.inl (nI i))], [], (zx_lay D', 308))) rfl ?_
  exact hE
set_option maxRecDepth 100000 in
set_option maxHeartbeats 4000000 in
theorem lo_16 {L i : Nat} {xs : Nat → Int32} {M : zx_Y} (hL : L ≤ 3584) (hi : i + 7 ≤ L) (hI : II M M) (hK : ∀ M', II M' M' → ∃ μ : zx_M, μ.2 ≤ 308 ∧ zx_E (L, xs) 11 zc_L_law (734, [some (.inr (some (33, 0, 0, 0))), some (.inr (some (0, 0, 0, 0))), some (.inr (some (25, 0, 0, 0))), some (.inl (nI i))], [], (zx_lay M', 308)) (some (.inl 1), μ)) : ∃ μ : zx_M, μ.2 ≤ 308 ∧ zx_E (L, xs) 11 zc_L_law (606, [some (.inr (some (33, 0, 0, 0))), some (.inr (some (0, 0, 0, 0))), some (.inr (some (25, 0, 0, 0))), some (.inl (nI i))], [], (zx_lay M, 308)) (some (.inl 1), μ) := by
  obtain ⟨v, w, C', D', h1, q1, h2, q2, h3, h4⟩ := lw_held hI (xs (i + 1)) (xs (i + 2))
  rw [q2, q1] at h3
  rw [q1] at h2
  obtain ⟨μ, hμ, hE⟩ := hK _ h3
  refine ⟨μ, hμ, ?_⟩
  refine zx_E.go 5 (s' := (611, [some (.inr (some (33, 0, 0, 0))), some (.inr (some (0, 0, 0, 0))), some (.inr (some (25, 0, 0, 0))), some (.inl (nI i))], [.inl (nI i + 1), .inr (some (33, 0, 0, 0)), .inr (some (0, 0, 0, 0))], (zx_lay M, 308))) rfl ?_
  refine zx_E.sld' (k := i + 1) (v := xs (i + 1)) rfl (nI_add i 1) (show i + 1 < L by omega) (by omega) rfl ?_
  show zx_E _ _ _ (612, [some (.inr (some (33, 0, 0, 0))), some (.inr (some (0, 0, 0, 0))), some (.inr (some (25, 0, 0, 0))), some (.inl (nI i))], [.inl (xs (i + 1)), .inr (some (0, 0, 0, 0))], (zx_lay M, 308)) _
  refine zx_E.go 4 (s' := (616, [some (.inr (some (33, 0, 0, 0))), some (.inr (some (0, 0, 0, 0))), some (.inr (some (25, 0, 0, 0))), some (.inl (nI i))], [.inl (nI i + 2), .inr (some (33, 0, 0, 0)), .inl (xs (i + 1)), .inr (some (0, 0, 0, 0))], (zx_lay M, 308))) rfl ?_
  refine zx_E.sld' (k := i + 2) (v := xs (i + 2)) rfl (nI_add i 2) (show i + 2 < L by omega) (by omega) rfl ?_
  show zx_E _ _ _ (617, [some (.inr (some (33, 0, 0, 0))), some (.inr (some (0, 0, 0, 0))), some (.inr (some (25, 0, 0, 0))), some (.inl (nI i))], [.inl (xs (i + 2)), .inl (xs (i + 1)), .inr (some (0, 0, 0, 0))], (zx_lay M, 308)) _
  refine zx_E.call1 (y := 110) (as := [.inr (some (0, 0, 0, 0)), .inl (xs (i + 1)), .inl (xs (i + 2))]) (rest := []) (v := .inl v) (μ' := (zx_lay M, 308)) rfl (zx_run_up (show 0 + 3 ≤ 11 by omega) (r_X10_held (d := 0) h1)) ?_
  show zx_E _ _ _ (620, [some (.inr (some (33, 0, 0, 0))), some (.inr (some (0, 0, 0, 0))), some (.inr (some (25, 0, 0, 0))), some (.inl (nI i))], [.inl v], (zx_lay M, 308)) _
  refine zx_E.go 6 (s' := (626, [some (.inr (some (33, 0, 0, 0))), some (.inr (some (0, 0, 0, 0))), some (.inr (some (25, 0, 0, 0))), some (.inl (nI i))], [.inl (nI i + 1), .inr (some (33, 0, 0, 0)), .inr (some (25, 0, 0, 0))], (zx_lay M, 308))) rfl ?_
  refine zx_E.sld' (k := i + 1) (v := xs (i + 1)) rfl (nI_add i 1) (show i + 1 < L by omega) (by omega) rfl ?_
  show zx_E _ _ _ (627, [some (.inr (some (33, 0, 0, 0))), some (.inr (some (0, 0, 0, 0))), some (.inr (some (25, 0, 0, 0))), some (.inl (nI i))], [.inl (xs (i + 1)), .inr (some (25, 0, 0, 0))], (zx_lay M, 308)) _
  refine zx_E.go 4 (s' := (631, [some (.inr (some (33, 0, 0, 0))), some (.inr (some (0, 0, 0, 0))), some (.inr (some (25, 0, 0, 0))), some (.inl (nI i))], [.inl (nI i + 2), .inr (some (33, 0, 0, 0)), .inl (xs (i + 1)), .inr (some (25, 0, 0, 0))], (zx_lay M, 308))) rfl ?_
  refine zx_E.sld' (k := i + 2) (v := xs (i + 2)) rfl (nI_add i 2) (show i + 2 < L by omega) (by omega) rfl ?_
  show zx_E _ _ _ (632, [some (.inr (some (33, 0, 0, 0))), some (.inr (some (0, 0, 0, 0))), some (.inr (some (25, 0, 0, 0))), some (.inl (nI i))], [.inl (xs (i + 2)), .inl (xs (i + 1)), .inr (some (25, 0, 0, 0))], (zx_lay M, 308)) _
  refine zx_E.call1 (y := 193) (as := [.inr (some (25, 0, 0, 0)), .inl (xs (i + 1)), .inl (xs (i + 2))]) (rest := []) (v := .inl w) (μ' := (zx_lay M, 308)) rfl (zx_run_up (show 0 + 4 ≤ 11 by omega) (r_X11_held (d := 0) h2)) ?_
  show zx_E _ _ _ (635, [some (.inr (some (33, 0, 0, 0))), some (.inr (some (0, 0, 0, 0))), some (.inr (some (25, 0, 0, 0))), some (.inl (nI i))], [.inl w], (zx_lay M, 308)) _
  refine zx_E.go 2 (s' := (734, [some (.inr (some (33, 0, 0, 0))), some (.inr (some (0, 0, 0, 0))), some (.inr (some (25, 0, 0, 0))), some (.inl (nI i))], [], (zx_lay M, 308))) rfl ?_
  exact hE
set_option maxRecDepth 100000 in
set_option maxHeartbeats 4000000 in
theorem lo_17 {L i : Nat} {xs : Nat → Int32} {M : zx_Y} (hL : L ≤ 3584) (hi : i + 7 ≤ L) (hI : II M M) (hK : ∀ M', II M' M' → ∃ μ : zx_M, μ.2 ≤ 308 ∧ zx_E (L, xs) 11 zc_L_law (734, [some (.inr (some (33, 0, 0, 0))), some (.inr (some (0, 0, 0, 0))), some (.inr (some (25, 0, 0, 0))), some (.inl (nI i))], [], (zx_lay M', 308)) (some (.inl 1), μ)) : ∃ μ : zx_M, μ.2 ≤ 308 ∧ zx_E (L, xs) 11 zc_L_law (639, [some (.inr (some (33, 0, 0, 0))), some (.inr (some (0, 0, 0, 0))), some (.inr (some (25, 0, 0, 0))), some (.inl (nI i))], [], (zx_lay M, 308)) (some (.inl 1), μ) := by
  obtain ⟨v, w, C', D', h1, q1, h2, q2, h3, h4⟩ := lw_conflicts hI 
  rw [q2, q1] at h3
  rw [q1] at h2
  obtain ⟨μ, hμ, hE⟩ := hK _ h3
  refine ⟨μ, hμ, ?_⟩
  refine zx_E.go 1 (s' := (640, [some (.inr (some (33, 0, 0, 0))), some (.inr (some (0, 0, 0, 0))), some (.inr (some (25, 0, 0, 0))), some (.inl (nI i))], [.inr (some (0, 0, 0, 0))], (zx_lay M, 308))) rfl ?_
  refine zx_E.call1 (y := 111) (as := [.inr (some (0, 0, 0, 0))]) (rest := []) (v := .inl v) (μ' := (zx_lay M, 308)) rfl (zx_run_up (show 0 + 4 ≤ 11 by omega) (r_X10_conflicts (d := 0) h1)) ?_
  show zx_E _ _ _ (643, [some (.inr (some (33, 0, 0, 0))), some (.inr (some (0, 0, 0, 0))), some (.inr (some (25, 0, 0, 0))), some (.inl (nI i))], [.inl v], (zx_lay M, 308)) _
  refine zx_E.go 2 (s' := (645, [some (.inr (some (33, 0, 0, 0))), some (.inr (some (0, 0, 0, 0))), some (.inr (some (25, 0, 0, 0))), some (.inl (nI i))], [.inr (some (25, 0, 0, 0))], (zx_lay M, 308))) rfl ?_
  refine zx_E.call1 (y := 194) (as := [.inr (some (25, 0, 0, 0))]) (rest := []) (v := .inl w) (μ' := (zx_lay M, 308)) rfl (zx_run_up (show 0 + 4 ≤ 11 by omega) (r_X11_conflicts (d := 0) h2)) ?_
  show zx_E _ _ _ (648, [some (.inr (some (33, 0, 0, 0))), some (.inr (some (0, 0, 0, 0))), some (.inr (some (25, 0, 0, 0))), some (.inl (nI i))], [.inl w], (zx_lay M, 308)) _
  refine zx_E.go 2 (s' := (734, [some (.inr (some (33, 0, 0, 0))), some (.inr (some (0, 0, 0, 0))), some (.inr (some (25, 0, 0, 0))), some (.inl (nI i))], [], (zx_lay M, 308))) rfl ?_
  exact hE
set_option maxRecDepth 100000 in
set_option maxHeartbeats 4000000 in
theorem lo_18 {L i : Nat} {xs : Nat → Int32} {M : zx_Y} (hL : L ≤ 3584) (hi : i + 7 ≤ L) (hI : II M M) (hK : ∀ M', II M' M' → ∃ μ : zx_M, μ.2 ≤ 308 ∧ zx_E (L, xs) 11 zc_L_law (734, [some (.inr (some (33, 0, 0, 0))), some (.inr (some (0, 0, 0, 0))), some (.inr (some (25, 0, 0, 0))), some (.inl (nI i))], [], (zx_lay M', 308)) (some (.inl 1), μ)) : ∃ μ : zx_M, μ.2 ≤ 308 ∧ zx_E (L, xs) 11 zc_L_law (652, [some (.inr (some (33, 0, 0, 0))), some (.inr (some (0, 0, 0, 0))), some (.inr (some (25, 0, 0, 0))), some (.inl (nI i))], [], (zx_lay M, 308)) (some (.inl 1), μ) := by
  obtain ⟨v, w, C', D', h1, q1, h2, q2, h3, h4⟩ := lw_account hI (xs (i + 1)) (xs (i + 2))
  rw [q2, q1] at h3
  rw [q1] at h2
  obtain ⟨μ, hμ, hE⟩ := hK _ h3
  refine ⟨μ, hμ, ?_⟩
  refine zx_E.go 5 (s' := (657, [some (.inr (some (33, 0, 0, 0))), some (.inr (some (0, 0, 0, 0))), some (.inr (some (25, 0, 0, 0))), some (.inl (nI i))], [.inl (nI i + 1), .inr (some (33, 0, 0, 0)), .inr (some (0, 0, 0, 0))], (zx_lay M, 308))) rfl ?_
  refine zx_E.sld' (k := i + 1) (v := xs (i + 1)) rfl (nI_add i 1) (show i + 1 < L by omega) (by omega) rfl ?_
  show zx_E _ _ _ (658, [some (.inr (some (33, 0, 0, 0))), some (.inr (some (0, 0, 0, 0))), some (.inr (some (25, 0, 0, 0))), some (.inl (nI i))], [.inl (xs (i + 1)), .inr (some (0, 0, 0, 0))], (zx_lay M, 308)) _
  refine zx_E.go 4 (s' := (662, [some (.inr (some (33, 0, 0, 0))), some (.inr (some (0, 0, 0, 0))), some (.inr (some (25, 0, 0, 0))), some (.inl (nI i))], [.inl (nI i + 2), .inr (some (33, 0, 0, 0)), .inl (xs (i + 1)), .inr (some (0, 0, 0, 0))], (zx_lay M, 308))) rfl ?_
  refine zx_E.sld' (k := i + 2) (v := xs (i + 2)) rfl (nI_add i 2) (show i + 2 < L by omega) (by omega) rfl ?_
  show zx_E _ _ _ (663, [some (.inr (some (33, 0, 0, 0))), some (.inr (some (0, 0, 0, 0))), some (.inr (some (25, 0, 0, 0))), some (.inl (nI i))], [.inl (xs (i + 2)), .inl (xs (i + 1)), .inr (some (0, 0, 0, 0))], (zx_lay M, 308)) _
  refine zx_E.call1 (y := 112) (as := [.inr (some (0, 0, 0, 0)), .inl (xs (i + 1)), .inl (xs (i + 2))]) (rest := []) (v := .inl v) (μ' := (zx_lay M, 308)) rfl (zx_run_up (show 0 + 3 ≤ 11 by omega) (r_X10_account (d := 0) h1)) ?_
  show zx_E _ _ _ (666, [some (.inr (some (33, 0, 0, 0))), some (.inr (some (0, 0, 0, 0))), some (.inr (some (25, 0, 0, 0))), some (.inl (nI i))], [.inl v], (zx_lay M, 308)) _
  refine zx_E.go 6 (s' := (672, [some (.inr (some (33, 0, 0, 0))), some (.inr (some (0, 0, 0, 0))), some (.inr (some (25, 0, 0, 0))), some (.inl (nI i))], [.inl (nI i + 1), .inr (some (33, 0, 0, 0)), .inr (some (25, 0, 0, 0))], (zx_lay M, 308))) rfl ?_
  refine zx_E.sld' (k := i + 1) (v := xs (i + 1)) rfl (nI_add i 1) (show i + 1 < L by omega) (by omega) rfl ?_
  show zx_E _ _ _ (673, [some (.inr (some (33, 0, 0, 0))), some (.inr (some (0, 0, 0, 0))), some (.inr (some (25, 0, 0, 0))), some (.inl (nI i))], [.inl (xs (i + 1)), .inr (some (25, 0, 0, 0))], (zx_lay M, 308)) _
  refine zx_E.go 4 (s' := (677, [some (.inr (some (33, 0, 0, 0))), some (.inr (some (0, 0, 0, 0))), some (.inr (some (25, 0, 0, 0))), some (.inl (nI i))], [.inl (nI i + 2), .inr (some (33, 0, 0, 0)), .inl (xs (i + 1)), .inr (some (25, 0, 0, 0))], (zx_lay M, 308))) rfl ?_
  refine zx_E.sld' (k := i + 2) (v := xs (i + 2)) rfl (nI_add i 2) (show i + 2 < L by omega) (by omega) rfl ?_
  show zx_E _ _ _ (678, [some (.inr (some (33, 0, 0, 0))), some (.inr (some (0, 0, 0, 0))), some (.inr (some (25, 0, 0, 0))), some (.inl (nI i))], [.inl (xs (i + 2)), .inl (xs (i + 1)), .inr (some (25, 0, 0, 0))], (zx_lay M, 308)) _
  refine zx_E.call1 (y := 196) (as := [.inr (some (25, 0, 0, 0)), .inl (xs (i + 1)), .inl (xs (i + 2))]) (rest := []) (v := .inl w) (μ' := (zx_lay M, 308)) rfl (zx_run_up (show 0 + 3 ≤ 11 by omega) (r_X11_account_ (d := 0) h2)) ?_
  show zx_E _ _ _ (681, [some (.inr (some (33, 0, 0, 0))), some (.inr (some (0, 0, 0, 0))), some (.inr (some (25, 0, 0, 0))), some (.inl (nI i))], [.inl w], (zx_lay M, 308)) _
  refine zx_E.go 2 (s' := (734, [some (.inr (some (33, 0, 0, 0))), some (.inr (some (0, 0, 0, 0))), some (.inr (some (25, 0, 0, 0))), some (.inl (nI i))], [], (zx_lay M, 308))) rfl ?_
  exact hE
set_option maxRecDepth 100000 in
set_option maxHeartbeats 4000000 in
theorem lo_19 {L i : Nat} {xs : Nat → Int32} {M : zx_Y} (hL : L ≤ 3584) (hi : i + 7 ≤ L) (hI : II M M) (hK : ∀ M', II M' M' → ∃ μ : zx_M, μ.2 ≤ 308 ∧ zx_E (L, xs) 11 zc_L_law (734, [some (.inr (some (33, 0, 0, 0))), some (.inr (some (0, 0, 0, 0))), some (.inr (some (25, 0, 0, 0))), some (.inl (nI i))], [], (zx_lay M', 308)) (some (.inl 1), μ)) : ∃ μ : zx_M, μ.2 ≤ 308 ∧ zx_E (L, xs) 11 zc_L_law (685, [some (.inr (some (33, 0, 0, 0))), some (.inr (some (0, 0, 0, 0))), some (.inr (some (25, 0, 0, 0))), some (.inl (nI i))], [], (zx_lay M, 308)) (some (.inl 1), μ) := by
  obtain ⟨v, w, C', D', h1, h2, h3, h4⟩ := lw_image hI 
  obtain ⟨μ, hμ, hE⟩ := hK _ h3
  refine ⟨μ, hμ, ?_⟩
  refine zx_E.go 1 (s' := (686, [some (.inr (some (33, 0, 0, 0))), some (.inr (some (0, 0, 0, 0))), some (.inr (some (25, 0, 0, 0))), some (.inl (nI i))], [.inr (some (0, 0, 0, 0))], (zx_lay M, 308))) rfl ?_
  refine zx_E.call1 (y := 113) (as := [.inr (some (0, 0, 0, 0))]) (rest := []) (v := .inl v) (μ' := (zx_lay C', 308)) rfl (zx_run_up (show 0 + 3 ≤ 11 by omega) (r_X10_image (d := 0) h1)) ?_
  show zx_E _ _ _ (689, [some (.inr (some (33, 0, 0, 0))), some (.inr (some (0, 0, 0, 0))), some (.inr (some (25, 0, 0, 0))), some (.inl (nI i))], [.inl v], (zx_lay C', 308)) _
  refine zx_E.go 2 (s' := (691, [some (.inr (some (33, 0, 0, 0))), some (.inr (some (0, 0, 0, 0))), some (.inr (some (25, 0, 0, 0))), some (.inl (nI i))], [.inr (some (25, 0, 0, 0))], (zx_lay C', 308))) rfl ?_
  refine zx_E.call1 (y := 197) (as := [.inr (some (25, 0, 0, 0))]) (rest := []) (v := .inl w) (μ' := (zx_lay D', 308)) rfl (zx_run_up (show 0 + 2 ≤ 11 by omega) (r_X11_image (d := 0) h2)) ?_
  show zx_E _ _ _ (694, [some (.inr (some (33, 0, 0, 0))), some (.inr (some (0, 0, 0, 0))), some (.inr (some (25, 0, 0, 0))), some (.inl (nI i))], [.inl w], (zx_lay D', 308)) _
  refine zx_E.go 2 (s' := (734, [some (.inr (some (33, 0, 0, 0))), some (.inr (some (0, 0, 0, 0))), some (.inr (some (25, 0, 0, 0))), some (.inl (nI i))], [], (zx_lay D', 308))) rfl ?_
  exact hE
set_option maxRecDepth 100000 in
set_option maxHeartbeats 4000000 in
theorem lo_20 {L i : Nat} {xs : Nat → Int32} {M : zx_Y} (hL : L ≤ 3584) (hi : i + 7 ≤ L) (hI : II M M) (hK : ∀ M', II M' M' → ∃ μ : zx_M, μ.2 ≤ 308 ∧ zx_E (L, xs) 11 zc_L_law (734, [some (.inr (some (33, 0, 0, 0))), some (.inr (some (0, 0, 0, 0))), some (.inr (some (25, 0, 0, 0))), some (.inl (nI i))], [], (zx_lay M', 308)) (some (.inl 1), μ)) : ∃ μ : zx_M, μ.2 ≤ 308 ∧ zx_E (L, xs) 11 zc_L_law (698, [some (.inr (some (33, 0, 0, 0))), some (.inr (some (0, 0, 0, 0))), some (.inr (some (25, 0, 0, 0))), some (.inl (nI i))], [], (zx_lay M, 308)) (some (.inl 1), μ) := by
  obtain ⟨v, w, C', D', h1, h2, h3, h4⟩ := lw_undo hI 
  obtain ⟨μ, hμ, hE⟩ := hK _ h3
  refine ⟨μ, hμ, ?_⟩
  refine zx_E.go 1 (s' := (699, [some (.inr (some (33, 0, 0, 0))), some (.inr (some (0, 0, 0, 0))), some (.inr (some (25, 0, 0, 0))), some (.inl (nI i))], [.inr (some (0, 0, 0, 0))], (zx_lay M, 308))) rfl ?_
  refine zx_E.call1 (y := 114) (as := [.inr (some (0, 0, 0, 0))]) (rest := []) (v := .inl v) (μ' := (zx_lay C', 308)) rfl (zx_run_up (show 0 + 3 ≤ 11 by omega) (r_X10_undo (d := 0) h1)) ?_
  show zx_E _ _ _ (702, [some (.inr (some (33, 0, 0, 0))), some (.inr (some (0, 0, 0, 0))), some (.inr (some (25, 0, 0, 0))), some (.inl (nI i))], [.inl v], (zx_lay C', 308)) _
  refine zx_E.go 2 (s' := (704, [some (.inr (some (33, 0, 0, 0))), some (.inr (some (0, 0, 0, 0))), some (.inr (some (25, 0, 0, 0))), some (.inl (nI i))], [.inr (some (25, 0, 0, 0))], (zx_lay C', 308))) rfl ?_
  refine zx_E.call1 (y := 198) (as := [.inr (some (25, 0, 0, 0))]) (rest := []) (v := .inl w) (μ' := (zx_lay D', 308)) rfl (zx_run_up (show 0 + 2 ≤ 11 by omega) (r_X11_undo (d := 0) h2)) ?_
  show zx_E _ _ _ (707, [some (.inr (some (33, 0, 0, 0))), some (.inr (some (0, 0, 0, 0))), some (.inr (some (25, 0, 0, 0))), some (.inl (nI i))], [.inl w], (zx_lay D', 308)) _
  refine zx_E.go 2 (s' := (734, [some (.inr (some (33, 0, 0, 0))), some (.inr (some (0, 0, 0, 0))), some (.inr (some (25, 0, 0, 0))), some (.inl (nI i))], [], (zx_lay D', 308))) rfl ?_
  exact hE
set_option maxRecDepth 100000 in
set_option maxHeartbeats 4000000 in
theorem lo_21 {L i : Nat} {xs : Nat → Int32} {M : zx_Y} (hL : L ≤ 3584) (hi : i + 7 ≤ L) (hI : II M M) (hK : ∀ M', II M' M' → ∃ μ : zx_M, μ.2 ≤ 308 ∧ zx_E (L, xs) 11 zc_L_law (734, [some (.inr (some (33, 0, 0, 0))), some (.inr (some (0, 0, 0, 0))), some (.inr (some (25, 0, 0, 0))), some (.inl (nI i))], [], (zx_lay M', 308)) (some (.inl 1), μ)) : ∃ μ : zx_M, μ.2 ≤ 308 ∧ zx_E (L, xs) 11 zc_L_law (711, [some (.inr (some (33, 0, 0, 0))), some (.inr (some (0, 0, 0, 0))), some (.inr (some (25, 0, 0, 0))), some (.inl (nI i))], [], (zx_lay M, 308)) (some (.inl 1), μ) := by
  obtain ⟨v, w, C', D', h1, q1, h2, q2, h3, h4⟩ := lw_count hI (xs (i + 1))
  rw [q2, q1] at h3
  rw [q1] at h2
  obtain ⟨μ, hμ, hE⟩ := hK _ h3
  refine ⟨μ, hμ, ?_⟩
  refine zx_E.go 5 (s' := (716, [some (.inr (some (33, 0, 0, 0))), some (.inr (some (0, 0, 0, 0))), some (.inr (some (25, 0, 0, 0))), some (.inl (nI i))], [.inl (nI i + 1), .inr (some (33, 0, 0, 0)), .inr (some (0, 0, 0, 0))], (zx_lay M, 308))) rfl ?_
  refine zx_E.sld' (k := i + 1) (v := xs (i + 1)) rfl (nI_add i 1) (show i + 1 < L by omega) (by omega) rfl ?_
  show zx_E _ _ _ (717, [some (.inr (some (33, 0, 0, 0))), some (.inr (some (0, 0, 0, 0))), some (.inr (some (25, 0, 0, 0))), some (.inl (nI i))], [.inl (xs (i + 1)), .inr (some (0, 0, 0, 0))], (zx_lay M, 308)) _
  refine zx_E.call1 (y := 115) (as := [.inr (some (0, 0, 0, 0)), .inl (xs (i + 1))]) (rest := []) (v := .inl v) (μ' := (zx_lay M, 308)) rfl (zx_run_up (show 0 + 3 ≤ 11 by omega) (r_X10_count (d := 0) h1)) ?_
  show zx_E _ _ _ (720, [some (.inr (some (33, 0, 0, 0))), some (.inr (some (0, 0, 0, 0))), some (.inr (some (25, 0, 0, 0))), some (.inl (nI i))], [.inl v], (zx_lay M, 308)) _
  refine zx_E.go 5 (s' := (725, [some (.inr (some (33, 0, 0, 0))), some (.inr (some (0, 0, 0, 0))), some (.inr (some (25, 0, 0, 0))), some (.inl (nI i))], [.inl (nI i + 1), .inr (some (33, 0, 0, 0)), .inr (some (25, 0, 0, 0)), .inl v], (zx_lay M, 308))) rfl ?_
  refine zx_E.sld' (k := i + 1) (v := xs (i + 1)) rfl (nI_add i 1) (show i + 1 < L by omega) (by omega) rfl ?_
  show zx_E _ _ _ (726, [some (.inr (some (33, 0, 0, 0))), some (.inr (some (0, 0, 0, 0))), some (.inr (some (25, 0, 0, 0))), some (.inl (nI i))], [.inl (xs (i + 1)), .inr (some (25, 0, 0, 0)), .inl v], (zx_lay M, 308)) _
  refine zx_E.call1 (y := 200) (as := [.inr (some (25, 0, 0, 0)), .inl (xs (i + 1))]) (rest := [.inl v]) (v := .inl w) (μ' := (zx_lay M, 308)) rfl (zx_run_up (show 0 + 3 ≤ 11 by omega) (r_X11_count (d := 0) h2)) ?_
  show zx_E _ _ _ (729, [some (.inr (some (33, 0, 0, 0))), some (.inr (some (0, 0, 0, 0))), some (.inr (some (25, 0, 0, 0))), some (.inl (nI i))], [.inl w, .inl v], (zx_lay M, 308)) _
  refine zx_E.bt (zx_ic_eq rfl) (h4 trivial) ?_
  show zx_E _ _ _ (734, [some (.inr (some (33, 0, 0, 0))), some (.inr (some (0, 0, 0, 0))), some (.inr (some (25, 0, 0, 0))), some (.inl (nI i))], [], (zx_lay M, 308)) _
  exact hE
theorem sub7 {L i : Nat} (hL : L ≤ 3584) (hi : i ≤ L + 7) : (nI L - 7 < nI i) ↔ L < i + 7 := by
  by_cases h : 7 ≤ L
  · rw [show (nI L - 7 : Int32) = nI (L - 7) from pk_sub (b := 7) h, nI_ltI (by omega) (by omega)]
    omega
  · exact ⟨fun _ => by omega, fun _ => Int32.lt_of_lt_of_le (pk_sneg (b := 7) (by omega) (by omega)) (nI_pos' (by omega))⟩
set_option maxRecDepth 100000 in
set_option maxHeartbeats 4000000 in
theorem lw_loop {L : Nat} {xs : Nat → Int32} (hL : L ≤ 3584) : ∀ (k i : Nat) (M : zx_Y), L + 7 ≤ i + k → i ≤ L + 7 → II M M → ∃ μ : zx_M, μ.2 ≤ 308 ∧ zx_E (L, xs) 11 zc_L_law (18, [some (.inr (some (33, 0, 0, 0))), some (.inr (some (0, 0, 0, 0))), some (.inr (some (25, 0, 0, 0))), some (.inl (nI i))], [], (zx_lay M, 308)) (some (.inl 1), μ) := by
  intro k
  induction k with
  | zero =>
    intro i M h1 h2 hI
    refine ⟨(zx_lay M, 308), Nat.le_refl _, ?_⟩
    refine zx_E.go 5 (s' := (24, [some (.inr (some (33, 0, 0, 0))), some (.inr (some (0, 0, 0, 0))), some (.inr (some (25, 0, 0, 0))), some (.inl (nI i))], [.inl (nI L - 7), .inl (nI i)], (zx_lay M, 308))) rfl ?_
    refine zx_E.bt (zx_ic_gt rfl) ((sub7 hL (by omega)).mpr (by omega)) ?_
    show zx_E _ _ _ (740, [some (.inr (some (33, 0, 0, 0))), some (.inr (some (0, 0, 0, 0))), some (.inr (some (25, 0, 0, 0))), some (.inl (nI i))], [], (zx_lay M, 308)) _
    refine zx_E.go 1 (s' := (741, [some (.inr (some (33, 0, 0, 0))), some (.inr (some (0, 0, 0, 0))), some (.inr (some (25, 0, 0, 0))), some (.inl (nI i))], [.inl 1], (zx_lay M, 308))) rfl ?_
    exact zx_E.iret rfl (fun _ => Or.inr rfl) rfl
  | succ k ih =>
    intro i M h1 h2 hI
    by_cases hi : L < i + 7
    · refine ⟨(zx_lay M, 308), Nat.le_refl _, ?_⟩
      refine zx_E.go 5 (s' := (24, [some (.inr (some (33, 0, 0, 0))), some (.inr (some (0, 0, 0, 0))), some (.inr (some (25, 0, 0, 0))), some (.inl (nI i))], [.inl (nI L - 7), .inl (nI i)], (zx_lay M, 308))) rfl ?_
      refine zx_E.bt (zx_ic_gt rfl) ((sub7 hL (by omega)).mpr (by omega)) ?_
      show zx_E _ _ _ (740, [some (.inr (some (33, 0, 0, 0))), some (.inr (some (0, 0, 0, 0))), some (.inr (some (25, 0, 0, 0))), some (.inl (nI i))], [], (zx_lay M, 308)) _
      refine zx_E.go 1 (s' := (741, [some (.inr (some (33, 0, 0, 0))), some (.inr (some (0, 0, 0, 0))), some (.inr (some (25, 0, 0, 0))), some (.inl (nI i))], [.inl 1], (zx_lay M, 308))) rfl ?_
      exact zx_E.iret rfl (fun _ => Or.inr rfl) rfl
    · have hi : i + 7 ≤ L := by omega
      have hK : ∀ M', II M' M' → ∃ μ : zx_M, μ.2 ≤ 308 ∧ zx_E (L, xs) 11 zc_L_law (734, [some (.inr (some (33, 0, 0, 0))), some (.inr (some (0, 0, 0, 0))), some (.inr (some (25, 0, 0, 0))), some (.inl (nI i))], [], (zx_lay M', 308)) (some (.inl 1), μ) := fun M' hM => by
        obtain ⟨μ, hμ, hE⟩ := ih (i + 7) M' (by omega) (by omega) hM
        refine ⟨μ, hμ, ?_⟩
        rw [show nI (i + 7) = nI i + 7 from (nI_add i 7).symm] at hE
        refine zx_E.go 2 (s' := (18, [some (.inr (some (33, 0, 0, 0))), some (.inr (some (0, 0, 0, 0))), some (.inr (some (25, 0, 0, 0))), some (.inl (nI i + 7))], [], (zx_lay M', 308))) rfl ?_
        exact hE
      have hS : (∃ μ : zx_M, μ.2 ≤ 308 ∧ zx_E (L, xs) 11 zc_L_law (zx_pick (xs i &&& 31) 0 [136, 211, 224, 247, 270, 293, 316, 339, 372, 405, 438, 471, 494, 517, 560, 573, 606, 639, 652, 685, 698, 711] 734, [some (.inr (some (33, 0, 0, 0))), some (.inr (some (0, 0, 0, 0))), some (.inr (some (25, 0, 0, 0))), some (.inl (nI i))], [], (zx_lay M, 308)) (some (.inl 1), μ)) := by
        by_cases hk0 : (xs i &&& 31) = 0
        · obtain ⟨μ, hμ, hE⟩ := lo_0 hL hi hI hK
          refine ⟨μ, hμ, ?_⟩
          exact zx_E.pick (k' := 1) (by decide) (fun _ => hE) (fun hn => absurd hk0 hn)
        by_cases hk1 : (xs i &&& 31) = 1
        · obtain ⟨μ, hμ, hE⟩ := lo_1 hL hi hI hK
          refine ⟨μ, hμ, ?_⟩
          refine zx_E.pick (k' := 1) (by decide) (fun hn => absurd hn hk0) (fun _ => ?_)
          exact zx_E.pick (k' := 2) (by decide) (fun _ => hE) (fun hn => absurd hk1 hn)
        by_cases hk2 : (xs i &&& 31) = 2
        · obtain ⟨μ, hμ, hE⟩ := lo_2 hL hi hI hK
          refine ⟨μ, hμ, ?_⟩
          refine zx_E.pick (k' := 1) (by decide) (fun hn => absurd hn hk0) (fun _ => ?_)
          refine zx_E.pick (k' := 2) (by decide) (fun hn => absurd hn hk1) (fun _ => ?_)
          exact zx_E.pick (k' := 3) (by decide) (fun _ => hE) (fun hn => absurd hk2 hn)
        by_cases hk3 : (xs i &&& 31) = 3
        · obtain ⟨μ, hμ, hE⟩ := lo_3 hL hi hI hK
          refine ⟨μ, hμ, ?_⟩
          refine zx_E.pick (k' := 1) (by decide) (fun hn => absurd hn hk0) (fun _ => ?_)
          refine zx_E.pick (k' := 2) (by decide) (fun hn => absurd hn hk1) (fun _ => ?_)
          refine zx_E.pick (k' := 3) (by decide) (fun hn => absurd hn hk2) (fun _ => ?_)
          exact zx_E.pick (k' := 4) (by decide) (fun _ => hE) (fun hn => absurd hk3 hn)
        by_cases hk4 : (xs i &&& 31) = 4
        · obtain ⟨μ, hμ, hE⟩ := lo_4 hL hi hI hK
          refine ⟨μ, hμ, ?_⟩
          refine zx_E.pick (k' := 1) (by decide) (fun hn => absurd hn hk0) (fun _ => ?_)
          refine zx_E.pick (k' := 2) (by decide) (fun hn => absurd hn hk1) (fun _ => ?_)
          refine zx_E.pick (k' := 3) (by decide) (fun hn => absurd hn hk2) (fun _ => ?_)
          refine zx_E.pick (k' := 4) (by decide) (fun hn => absurd hn hk3) (fun _ => ?_)
          exact zx_E.pick (k' := 5) (by decide) (fun _ => hE) (fun hn => absurd hk4 hn)
        by_cases hk5 : (xs i &&& 31) = 5
        · obtain ⟨μ, hμ, hE⟩ := lo_5 hL hi hI hK
          refine ⟨μ, hμ, ?_⟩
          refine zx_E.pick (k' := 1) (by decide) (fun hn => absurd hn hk0) (fun _ => ?_)
          refine zx_E.pick (k' := 2) (by decide) (fun hn => absurd hn hk1) (fun _ => ?_)
          refine zx_E.pick (k' := 3) (by decide) (fun hn => absurd hn hk2) (fun _ => ?_)
          refine zx_E.pick (k' := 4) (by decide) (fun hn => absurd hn hk3) (fun _ => ?_)
          refine zx_E.pick (k' := 5) (by decide) (fun hn => absurd hn hk4) (fun _ => ?_)
          exact zx_E.pick (k' := 6) (by decide) (fun _ => hE) (fun hn => absurd hk5 hn)
        by_cases hk6 : (xs i &&& 31) = 6
        · obtain ⟨μ, hμ, hE⟩ := lo_6 hL hi hI hK
          refine ⟨μ, hμ, ?_⟩
          refine zx_E.pick (k' := 1) (by decide) (fun hn => absurd hn hk0) (fun _ => ?_)
          refine zx_E.pick (k' := 2) (by decide) (fun hn => absurd hn hk1) (fun _ => ?_)
          refine zx_E.pick (k' := 3) (by decide) (fun hn => absurd hn hk2) (fun _ => ?_)
          refine zx_E.pick (k' := 4) (by decide) (fun hn => absurd hn hk3) (fun _ => ?_)
          refine zx_E.pick (k' := 5) (by decide) (fun hn => absurd hn hk4) (fun _ => ?_)
          refine zx_E.pick (k' := 6) (by decide) (fun hn => absurd hn hk5) (fun _ => ?_)
          exact zx_E.pick (k' := 7) (by decide) (fun _ => hE) (fun hn => absurd hk6 hn)
        by_cases hk7 : (xs i &&& 31) = 7
        · obtain ⟨μ, hμ, hE⟩ := lo_7 hL hi hI hK
          refine ⟨μ, hμ, ?_⟩
          refine zx_E.pick (k' := 1) (by decide) (fun hn => absurd hn hk0) (fun _ => ?_)
          refine zx_E.pick (k' := 2) (by decide) (fun hn => absurd hn hk1) (fun _ => ?_)
          refine zx_E.pick (k' := 3) (by decide) (fun hn => absurd hn hk2) (fun _ => ?_)
          refine zx_E.pick (k' := 4) (by decide) (fun hn => absurd hn hk3) (fun _ => ?_)
          refine zx_E.pick (k' := 5) (by decide) (fun hn => absurd hn hk4) (fun _ => ?_)
          refine zx_E.pick (k' := 6) (by decide) (fun hn => absurd hn hk5) (fun _ => ?_)
          refine zx_E.pick (k' := 7) (by decide) (fun hn => absurd hn hk6) (fun _ => ?_)
          exact zx_E.pick (k' := 8) (by decide) (fun _ => hE) (fun hn => absurd hk7 hn)
        by_cases hk8 : (xs i &&& 31) = 8
        · obtain ⟨μ, hμ, hE⟩ := lo_8 hL hi hI hK
          refine ⟨μ, hμ, ?_⟩
          refine zx_E.pick (k' := 1) (by decide) (fun hn => absurd hn hk0) (fun _ => ?_)
          refine zx_E.pick (k' := 2) (by decide) (fun hn => absurd hn hk1) (fun _ => ?_)
          refine zx_E.pick (k' := 3) (by decide) (fun hn => absurd hn hk2) (fun _ => ?_)
          refine zx_E.pick (k' := 4) (by decide) (fun hn => absurd hn hk3) (fun _ => ?_)
          refine zx_E.pick (k' := 5) (by decide) (fun hn => absurd hn hk4) (fun _ => ?_)
          refine zx_E.pick (k' := 6) (by decide) (fun hn => absurd hn hk5) (fun _ => ?_)
          refine zx_E.pick (k' := 7) (by decide) (fun hn => absurd hn hk6) (fun _ => ?_)
          refine zx_E.pick (k' := 8) (by decide) (fun hn => absurd hn hk7) (fun _ => ?_)
          exact zx_E.pick (k' := 9) (by decide) (fun _ => hE) (fun hn => absurd hk8 hn)
        by_cases hk9 : (xs i &&& 31) = 9
        · obtain ⟨μ, hμ, hE⟩ := lo_9 hL hi hI hK
          refine ⟨μ, hμ, ?_⟩
          refine zx_E.pick (k' := 1) (by decide) (fun hn => absurd hn hk0) (fun _ => ?_)
          refine zx_E.pick (k' := 2) (by decide) (fun hn => absurd hn hk1) (fun _ => ?_)
          refine zx_E.pick (k' := 3) (by decide) (fun hn => absurd hn hk2) (fun _ => ?_)
          refine zx_E.pick (k' := 4) (by decide) (fun hn => absurd hn hk3) (fun _ => ?_)
          refine zx_E.pick (k' := 5) (by decide) (fun hn => absurd hn hk4) (fun _ => ?_)
          refine zx_E.pick (k' := 6) (by decide) (fun hn => absurd hn hk5) (fun _ => ?_)
          refine zx_E.pick (k' := 7) (by decide) (fun hn => absurd hn hk6) (fun _ => ?_)
          refine zx_E.pick (k' := 8) (by decide) (fun hn => absurd hn hk7) (fun _ => ?_)
          refine zx_E.pick (k' := 9) (by decide) (fun hn => absurd hn hk8) (fun _ => ?_)
          exact zx_E.pick (k' := 10) (by decide) (fun _ => hE) (fun hn => absurd hk9 hn)
        by_cases hk10 : (xs i &&& 31) = 10
        · obtain ⟨μ, hμ, hE⟩ := lo_10 hL hi hI hK
          refine ⟨μ, hμ, ?_⟩
          refine zx_E.pick (k' := 1) (by decide) (fun hn => absurd hn hk0) (fun _ => ?_)
          refine zx_E.pick (k' := 2) (by decide) (fun hn => absurd hn hk1) (fun _ => ?_)
          refine zx_E.pick (k' := 3) (by decide) (fun hn => absurd hn hk2) (fun _ => ?_)
          refine zx_E.pick (k' := 4) (by decide) (fun hn => absurd hn hk3) (fun _ => ?_)
          refine zx_E.pick (k' := 5) (by decide) (fun hn => absurd hn hk4) (fun _ => ?_)
          refine zx_E.pick (k' := 6) (by decide) (fun hn => absurd hn hk5) (fun _ => ?_)
          refine zx_E.pick (k' := 7) (by decide) (fun hn => absurd hn hk6) (fun _ => ?_)
          refine zx_E.pick (k' := 8) (by decide) (fun hn => absurd hn hk7) (fun _ => ?_)
          refine zx_E.pick (k' := 9) (by decide) (fun hn => absurd hn hk8) (fun _ => ?_)
          refine zx_E.pick (k' := 10) (by decide) (fun hn => absurd hn hk9) (fun _ => ?_)
          exact zx_E.pick (k' := 11) (by decide) (fun _ => hE) (fun hn => absurd hk10 hn)
        by_cases hk11 : (xs i &&& 31) = 11
        · obtain ⟨μ, hμ, hE⟩ := lo_11 hL hi hI hK
          refine ⟨μ, hμ, ?_⟩
          refine zx_E.pick (k' := 1) (by decide) (fun hn => absurd hn hk0) (fun _ => ?_)
          refine zx_E.pick (k' := 2) (by decide) (fun hn => absurd hn hk1) (fun _ => ?_)
          refine zx_E.pick (k' := 3) (by decide) (fun hn => absurd hn hk2) (fun _ => ?_)
          refine zx_E.pick (k' := 4) (by decide) (fun hn => absurd hn hk3) (fun _ => ?_)
          refine zx_E.pick (k' := 5) (by decide) (fun hn => absurd hn hk4) (fun _ => ?_)
          refine zx_E.pick (k' := 6) (by decide) (fun hn => absurd hn hk5) (fun _ => ?_)
          refine zx_E.pick (k' := 7) (by decide) (fun hn => absurd hn hk6) (fun _ => ?_)
          refine zx_E.pick (k' := 8) (by decide) (fun hn => absurd hn hk7) (fun _ => ?_)
          refine zx_E.pick (k' := 9) (by decide) (fun hn => absurd hn hk8) (fun _ => ?_)
          refine zx_E.pick (k' := 10) (by decide) (fun hn => absurd hn hk9) (fun _ => ?_)
          refine zx_E.pick (k' := 11) (by decide) (fun hn => absurd hn hk10) (fun _ => ?_)
          exact zx_E.pick (k' := 12) (by decide) (fun _ => hE) (fun hn => absurd hk11 hn)
        by_cases hk12 : (xs i &&& 31) = 12
        · obtain ⟨μ, hμ, hE⟩ := lo_12 hL hi hI hK
          refine ⟨μ, hμ, ?_⟩
          refine zx_E.pick (k' := 1) (by decide) (fun hn => absurd hn hk0) (fun _ => ?_)
          refine zx_E.pick (k' := 2) (by decide) (fun hn => absurd hn hk1) (fun _ => ?_)
          refine zx_E.pick (k' := 3) (by decide) (fun hn => absurd hn hk2) (fun _ => ?_)
          refine zx_E.pick (k' := 4) (by decide) (fun hn => absurd hn hk3) (fun _ => ?_)
          refine zx_E.pick (k' := 5) (by decide) (fun hn => absurd hn hk4) (fun _ => ?_)
          refine zx_E.pick (k' := 6) (by decide) (fun hn => absurd hn hk5) (fun _ => ?_)
          refine zx_E.pick (k' := 7) (by decide) (fun hn => absurd hn hk6) (fun _ => ?_)
          refine zx_E.pick (k' := 8) (by decide) (fun hn => absurd hn hk7) (fun _ => ?_)
          refine zx_E.pick (k' := 9) (by decide) (fun hn => absurd hn hk8) (fun _ => ?_)
          refine zx_E.pick (k' := 10) (by decide) (fun hn => absurd hn hk9) (fun _ => ?_)
          refine zx_E.pick (k' := 11) (by decide) (fun hn => absurd hn hk10) (fun _ => ?_)
          refine zx_E.pick (k' := 12) (by decide) (fun hn => absurd hn hk11) (fun _ => ?_)
          exact zx_E.pick (k' := 13) (by decide) (fun _ => hE) (fun hn => absurd hk12 hn)
        by_cases hk13 : (xs i &&& 31) = 13
        · obtain ⟨μ, hμ, hE⟩ := lo_13 hL hi hI hK
          refine ⟨μ, hμ, ?_⟩
          refine zx_E.pick (k' := 1) (by decide) (fun hn => absurd hn hk0) (fun _ => ?_)
          refine zx_E.pick (k' := 2) (by decide) (fun hn => absurd hn hk1) (fun _ => ?_)
          refine zx_E.pick (k' := 3) (by decide) (fun hn => absurd hn hk2) (fun _ => ?_)
          refine zx_E.pick (k' := 4) (by decide) (fun hn => absurd hn hk3) (fun _ => ?_)
          refine zx_E.pick (k' := 5) (by decide) (fun hn => absurd hn hk4) (fun _ => ?_)
          refine zx_E.pick (k' := 6) (by decide) (fun hn => absurd hn hk5) (fun _ => ?_)
          refine zx_E.pick (k' := 7) (by decide) (fun hn => absurd hn hk6) (fun _ => ?_)
          refine zx_E.pick (k' := 8) (by decide) (fun hn => absurd hn hk7) (fun _ => ?_)
          refine zx_E.pick (k' := 9) (by decide) (fun hn => absurd hn hk8) (fun _ => ?_)
          refine zx_E.pick (k' := 10) (by decide) (fun hn => absurd hn hk9) (fun _ => ?_)
          refine zx_E.pick (k' := 11) (by decide) (fun hn => absurd hn hk10) (fun _ => ?_)
          refine zx_E.pick (k' := 12) (by decide) (fun hn => absurd hn hk11) (fun _ => ?_)
          refine zx_E.pick (k' := 13) (by decide) (fun hn => absurd hn hk12) (fun _ => ?_)
          exact zx_E.pick (k' := 14) (by decide) (fun _ => hE) (fun hn => absurd hk13 hn)
        by_cases hk14 : (xs i &&& 31) = 14
        · obtain ⟨μ, hμ, hE⟩ := lo_14 hL hi hI hK
          refine ⟨μ, hμ, ?_⟩
          refine zx_E.pick (k' := 1) (by decide) (fun hn => absurd hn hk0) (fun _ => ?_)
          refine zx_E.pick (k' := 2) (by decide) (fun hn => absurd hn hk1) (fun _ => ?_)
          refine zx_E.pick (k' := 3) (by decide) (fun hn => absurd hn hk2) (fun _ => ?_)
          refine zx_E.pick (k' := 4) (by decide) (fun hn => absurd hn hk3) (fun _ => ?_)
          refine zx_E.pick (k' := 5) (by decide) (fun hn => absurd hn hk4) (fun _ => ?_)
          refine zx_E.pick (k' := 6) (by decide) (fun hn => absurd hn hk5) (fun _ => ?_)
          refine zx_E.pick (k' := 7) (by decide) (fun hn => absurd hn hk6) (fun _ => ?_)
          refine zx_E.pick (k' := 8) (by decide) (fun hn => absurd hn hk7) (fun _ => ?_)
          refine zx_E.pick (k' := 9) (by decide) (fun hn => absurd hn hk8) (fun _ => ?_)
          refine zx_E.pick (k' := 10) (by decide) (fun hn => absurd hn hk9) (fun _ => ?_)
          refine zx_E.pick (k' := 11) (by decide) (fun hn => absurd hn hk10) (fun _ => ?_)
          refine zx_E.pick (k' := 12) (by decide) (fun hn => absurd hn hk11) (fun _ => ?_)
          refine zx_E.pick (k' := 13) (by decide) (fun hn => absurd hn hk12) (fun _ => ?_)
          refine zx_E.pick (k' := 14) (by decide) (fun hn => absurd hn hk13) (fun _ => ?_)
          exact zx_E.pick (k' := 15) (by decide) (fun _ => hE) (fun hn => absurd hk14 hn)
        by_cases hk15 : (xs i &&& 31) = 15
        · obtain ⟨μ, hμ, hE⟩ := lo_15 hL hi hI hK
          refine ⟨μ, hμ, ?_⟩
          refine zx_E.pick (k' := 1) (by decide) (fun hn => absurd hn hk0) (fun _ => ?_)
          refine zx_E.pick (k' := 2) (by decide) (fun hn => absurd hn hk1) (fun _ => ?_)
          refine zx_E.pick (k' := 3) (by decide) (fun hn => absurd hn hk2) (fun _ => ?_)
          refine zx_E.pick (k' := 4) (by decide) (fun hn => absurd hn hk3) (fun _ => ?_)
          refine zx_E.pick (k' := 5) (by decide) (fun hn => absurd hn hk4) (fun _ => ?_)
          refine zx_E.pick (k' := 6) (by decide) (fun hn => absurd hn hk5) (fun _ => ?_)
          refine zx_E.pick (k' := 7) (by decide) (fun hn => absurd hn hk6) (fun _ => ?_)
          refine zx_E.pick (k' := 8) (by decide) (fun hn => absurd hn hk7) (fun _ => ?_)
          refine zx_E.pick (k' := 9) (by decide) (fun hn => absurd hn hk8) (fun _ => ?_)
          refine zx_E.pick (k' := 10) (by decide) (fun hn => absurd hn hk9) (fun _ => ?_)
          refine zx_E.pick (k' := 11) (by decide) (fun hn => absurd hn hk10) (fun _ => ?_)
          refine zx_E.pick (k' := 12) (by decide) (fun hn => absurd hn hk11) (fun _ => ?_)
          refine zx_E.pick (k' := 13) (by decide) (fun hn => absurd hn hk12) (fun _ => ?_)
          refine zx_E.pick (k' := 14) (by decide) (fun hn => absurd hn hk13) (fun _ => ?_)
          refine zx_E.pick (k' := 15) (by decide) (fun hn => absurd hn hk14) (fun _ => ?_)
          exact zx_E.pick (k' := 16) (by decide) (fun _ => hE) (fun hn => absurd hk15 hn)
        by_cases hk16 : (xs i &&& 31) = 16
        · obtain ⟨μ, hμ, hE⟩ := lo_16 hL hi hI hK
          refine ⟨μ, hμ, ?_⟩
          refine zx_E.pick (k' := 1) (by decide) (fun hn => absurd hn hk0) (fun _ => ?_)
          refine zx_E.pick (k' := 2) (by decide) (fun hn => absurd hn hk1) (fun _ => ?_)
          refine zx_E.pick (k' := 3) (by decide) (fun hn => absurd hn hk2) (fun _ => ?_)
          refine zx_E.pick (k' := 4) (by decide) (fun hn => absurd hn hk3) (fun _ => ?_)
          refine zx_E.pick (k' := 5) (by decide) (fun hn => absurd hn hk4) (fun _ => ?_)
          refine zx_E.pick (k' := 6) (by decide) (fun hn => absurd hn hk5) (fun _ => ?_)
          refine zx_E.pick (k' := 7) (by decide) (fun hn => absurd hn hk6) (fun _ => ?_)
          refine zx_E.pick (k' := 8) (by decide) (fun hn => absurd hn hk7) (fun _ => ?_)
          refine zx_E.pick (k' := 9) (by decide) (fun hn => absurd hn hk8) (fun _ => ?_)
          refine zx_E.pick (k' := 10) (by decide) (fun hn => absurd hn hk9) (fun _ => ?_)
          refine zx_E.pick (k' := 11) (by decide) (fun hn => absurd hn hk10) (fun _ => ?_)
          refine zx_E.pick (k' := 12) (by decide) (fun hn => absurd hn hk11) (fun _ => ?_)
          refine zx_E.pick (k' := 13) (by decide) (fun hn => absurd hn hk12) (fun _ => ?_)
          refine zx_E.pick (k' := 14) (by decide) (fun hn => absurd hn hk13) (fun _ => ?_)
          refine zx_E.pick (k' := 15) (by decide) (fun hn => absurd hn hk14) (fun _ => ?_)
          refine zx_E.pick (k' := 16) (by decide) (fun hn => absurd hn hk15) (fun _ => ?_)
          exact zx_E.pick (k' := 17) (by decide) (fun _ => hE) (fun hn => absurd hk16 hn)
        by_cases hk17 : (xs i &&& 31) = 17
        · obtain ⟨μ, hμ, hE⟩ := lo_17 hL hi hI hK
          refine ⟨μ, hμ, ?_⟩
          refine zx_E.pick (k' := 1) (by decide) (fun hn => absurd hn hk0) (fun _ => ?_)
          refine zx_E.pick (k' := 2) (by decide) (fun hn => absurd hn hk1) (fun _ => ?_)
          refine zx_E.pick (k' := 3) (by decide) (fun hn => absurd hn hk2) (fun _ => ?_)
          refine zx_E.pick (k' := 4) (by decide) (fun hn => absurd hn hk3) (fun _ => ?_)
          refine zx_E.pick (k' := 5) (by decide) (fun hn => absurd hn hk4) (fun _ => ?_)
          refine zx_E.pick (k' := 6) (by decide) (fun hn => absurd hn hk5) (fun _ => ?_)
          refine zx_E.pick (k' := 7) (by decide) (fun hn => absurd hn hk6) (fun _ => ?_)
          refine zx_E.pick (k' := 8) (by decide) (fun hn => absurd hn hk7) (fun _ => ?_)
          refine zx_E.pick (k' := 9) (by decide) (fun hn => absurd hn hk8) (fun _ => ?_)
          refine zx_E.pick (k' := 10) (by decide) (fun hn => absurd hn hk9) (fun _ => ?_)
          refine zx_E.pick (k' := 11) (by decide) (fun hn => absurd hn hk10) (fun _ => ?_)
          refine zx_E.pick (k' := 12) (by decide) (fun hn => absurd hn hk11) (fun _ => ?_)
          refine zx_E.pick (k' := 13) (by decide) (fun hn => absurd hn hk12) (fun _ => ?_)
          refine zx_E.pick (k' := 14) (by decide) (fun hn => absurd hn hk13) (fun _ => ?_)
          refine zx_E.pick (k' := 15) (by decide) (fun hn => absurd hn hk14) (fun _ => ?_)
          refine zx_E.pick (k' := 16) (by decide) (fun hn => absurd hn hk15) (fun _ => ?_)
          refine zx_E.pick (k' := 17) (by decide) (fun hn => absurd hn hk16) (fun _ => ?_)
          exact zx_E.pick (k' := 18) (by decide) (fun _ => hE) (fun hn => absurd hk17 hn)
        by_cases hk18 : (xs i &&& 31) = 18
        · obtain ⟨μ, hμ, hE⟩ := lo_18 hL hi hI hK
          refine ⟨μ, hμ, ?_⟩
          refine zx_E.pick (k' := 1) (by decide) (fun hn => absurd hn hk0) (fun _ => ?_)
          refine zx_E.pick (k' := 2) (by decide) (fun hn => absurd hn hk1) (fun _ => ?_)
          refine zx_E.pick (k' := 3) (by decide) (fun hn => absurd hn hk2) (fun _ => ?_)
          refine zx_E.pick (k' := 4) (by decide) (fun hn => absurd hn hk3) (fun _ => ?_)
          refine zx_E.pick (k' := 5) (by decide) (fun hn => absurd hn hk4) (fun _ => ?_)
          refine zx_E.pick (k' := 6) (by decide) (fun hn => absurd hn hk5) (fun _ => ?_)
          refine zx_E.pick (k' := 7) (by decide) (fun hn => absurd hn hk6) (fun _ => ?_)
          refine zx_E.pick (k' := 8) (by decide) (fun hn => absurd hn hk7) (fun _ => ?_)
          refine zx_E.pick (k' := 9) (by decide) (fun hn => absurd hn hk8) (fun _ => ?_)
          refine zx_E.pick (k' := 10) (by decide) (fun hn => absurd hn hk9) (fun _ => ?_)
          refine zx_E.pick (k' := 11) (by decide) (fun hn => absurd hn hk10) (fun _ => ?_)
          refine zx_E.pick (k' := 12) (by decide) (fun hn => absurd hn hk11) (fun _ => ?_)
          refine zx_E.pick (k' := 13) (by decide) (fun hn => absurd hn hk12) (fun _ => ?_)
          refine zx_E.pick (k' := 14) (by decide) (fun hn => absurd hn hk13) (fun _ => ?_)
          refine zx_E.pick (k' := 15) (by decide) (fun hn => absurd hn hk14) (fun _ => ?_)
          refine zx_E.pick (k' := 16) (by decide) (fun hn => absurd hn hk15) (fun _ => ?_)
          refine zx_E.pick (k' := 17) (by decide) (fun hn => absurd hn hk16) (fun _ => ?_)
          refine zx_E.pick (k' := 18) (by decide) (fun hn => absurd hn hk17) (fun _ => ?_)
          exact zx_E.pick (k' := 19) (by decide) (fun _ => hE) (fun hn => absurd hk18 hn)
        by_cases hk19 : (xs i &&& 31) = 19
        · obtain ⟨μ, hμ, hE⟩ := lo_19 hL hi hI hK
          refine ⟨μ, hμ, ?_⟩
          refine zx_E.pick (k' := 1) (by decide) (fun hn => absurd hn hk0) (fun _ => ?_)
          refine zx_E.pick (k' := 2) (by decide) (fun hn => absurd hn hk1) (fun _ => ?_)
          refine zx_E.pick (k' := 3) (by decide) (fun hn => absurd hn hk2) (fun _ => ?_)
          refine zx_E.pick (k' := 4) (by decide) (fun hn => absurd hn hk3) (fun _ => ?_)
          refine zx_E.pick (k' := 5) (by decide) (fun hn => absurd hn hk4) (fun _ => ?_)
          refine zx_E.pick (k' := 6) (by decide) (fun hn => absurd hn hk5) (fun _ => ?_)
          refine zx_E.pick (k' := 7) (by decide) (fun hn => absurd hn hk6) (fun _ => ?_)
          refine zx_E.pick (k' := 8) (by decide) (fun hn => absurd hn hk7) (fun _ => ?_)
          refine zx_E.pick (k' := 9) (by decide) (fun hn => absurd hn hk8) (fun _ => ?_)
          refine zx_E.pick (k' := 10) (by decide) (fun hn => absurd hn hk9) (fun _ => ?_)
          refine zx_E.pick (k' := 11) (by decide) (fun hn => absurd hn hk10) (fun _ => ?_)
          refine zx_E.pick (k' := 12) (by decide) (fun hn => absurd hn hk11) (fun _ => ?_)
          refine zx_E.pick (k' := 13) (by decide) (fun hn => absurd hn hk12) (fun _ => ?_)
          refine zx_E.pick (k' := 14) (by decide) (fun hn => absurd hn hk13) (fun _ => ?_)
          refine zx_E.pick (k' := 15) (by decide) (fun hn => absurd hn hk14) (fun _ => ?_)
          refine zx_E.pick (k' := 16) (by decide) (fun hn => absurd hn hk15) (fun _ => ?_)
          refine zx_E.pick (k' := 17) (by decide) (fun hn => absurd hn hk16) (fun _ => ?_)
          refine zx_E.pick (k' := 18) (by decide) (fun hn => absurd hn hk17) (fun _ => ?_)
          refine zx_E.pick (k' := 19) (by decide) (fun hn => absurd hn hk18) (fun _ => ?_)
          exact zx_E.pick (k' := 20) (by decide) (fun _ => hE) (fun hn => absurd hk19 hn)
        by_cases hk20 : (xs i &&& 31) = 20
        · obtain ⟨μ, hμ, hE⟩ := lo_20 hL hi hI hK
          refine ⟨μ, hμ, ?_⟩
          refine zx_E.pick (k' := 1) (by decide) (fun hn => absurd hn hk0) (fun _ => ?_)
          refine zx_E.pick (k' := 2) (by decide) (fun hn => absurd hn hk1) (fun _ => ?_)
          refine zx_E.pick (k' := 3) (by decide) (fun hn => absurd hn hk2) (fun _ => ?_)
          refine zx_E.pick (k' := 4) (by decide) (fun hn => absurd hn hk3) (fun _ => ?_)
          refine zx_E.pick (k' := 5) (by decide) (fun hn => absurd hn hk4) (fun _ => ?_)
          refine zx_E.pick (k' := 6) (by decide) (fun hn => absurd hn hk5) (fun _ => ?_)
          refine zx_E.pick (k' := 7) (by decide) (fun hn => absurd hn hk6) (fun _ => ?_)
          refine zx_E.pick (k' := 8) (by decide) (fun hn => absurd hn hk7) (fun _ => ?_)
          refine zx_E.pick (k' := 9) (by decide) (fun hn => absurd hn hk8) (fun _ => ?_)
          refine zx_E.pick (k' := 10) (by decide) (fun hn => absurd hn hk9) (fun _ => ?_)
          refine zx_E.pick (k' := 11) (by decide) (fun hn => absurd hn hk10) (fun _ => ?_)
          refine zx_E.pick (k' := 12) (by decide) (fun hn => absurd hn hk11) (fun _ => ?_)
          refine zx_E.pick (k' := 13) (by decide) (fun hn => absurd hn hk12) (fun _ => ?_)
          refine zx_E.pick (k' := 14) (by decide) (fun hn => absurd hn hk13) (fun _ => ?_)
          refine zx_E.pick (k' := 15) (by decide) (fun hn => absurd hn hk14) (fun _ => ?_)
          refine zx_E.pick (k' := 16) (by decide) (fun hn => absurd hn hk15) (fun _ => ?_)
          refine zx_E.pick (k' := 17) (by decide) (fun hn => absurd hn hk16) (fun _ => ?_)
          refine zx_E.pick (k' := 18) (by decide) (fun hn => absurd hn hk17) (fun _ => ?_)
          refine zx_E.pick (k' := 19) (by decide) (fun hn => absurd hn hk18) (fun _ => ?_)
          refine zx_E.pick (k' := 20) (by decide) (fun hn => absurd hn hk19) (fun _ => ?_)
          exact zx_E.pick (k' := 21) (by decide) (fun _ => hE) (fun hn => absurd hk20 hn)
        by_cases hk21 : (xs i &&& 31) = 21
        · obtain ⟨μ, hμ, hE⟩ := lo_21 hL hi hI hK
          refine ⟨μ, hμ, ?_⟩
          refine zx_E.pick (k' := 1) (by decide) (fun hn => absurd hn hk0) (fun _ => ?_)
          refine zx_E.pick (k' := 2) (by decide) (fun hn => absurd hn hk1) (fun _ => ?_)
          refine zx_E.pick (k' := 3) (by decide) (fun hn => absurd hn hk2) (fun _ => ?_)
          refine zx_E.pick (k' := 4) (by decide) (fun hn => absurd hn hk3) (fun _ => ?_)
          refine zx_E.pick (k' := 5) (by decide) (fun hn => absurd hn hk4) (fun _ => ?_)
          refine zx_E.pick (k' := 6) (by decide) (fun hn => absurd hn hk5) (fun _ => ?_)
          refine zx_E.pick (k' := 7) (by decide) (fun hn => absurd hn hk6) (fun _ => ?_)
          refine zx_E.pick (k' := 8) (by decide) (fun hn => absurd hn hk7) (fun _ => ?_)
          refine zx_E.pick (k' := 9) (by decide) (fun hn => absurd hn hk8) (fun _ => ?_)
          refine zx_E.pick (k' := 10) (by decide) (fun hn => absurd hn hk9) (fun _ => ?_)
          refine zx_E.pick (k' := 11) (by decide) (fun hn => absurd hn hk10) (fun _ => ?_)
          refine zx_E.pick (k' := 12) (by decide) (fun hn => absurd hn hk11) (fun _ => ?_)
          refine zx_E.pick (k' := 13) (by decide) (fun hn => absurd hn hk12) (fun _ => ?_)
          refine zx_E.pick (k' := 14) (by decide) (fun hn => absurd hn hk13) (fun _ => ?_)
          refine zx_E.pick (k' := 15) (by decide) (fun hn => absurd hn hk14) (fun _ => ?_)
          refine zx_E.pick (k' := 16) (by decide) (fun hn => absurd hn hk15) (fun _ => ?_)
          refine zx_E.pick (k' := 17) (by decide) (fun hn => absurd hn hk16) (fun _ => ?_)
          refine zx_E.pick (k' := 18) (by decide) (fun hn => absurd hn hk17) (fun _ => ?_)
          refine zx_E.pick (k' := 19) (by decide) (fun hn => absurd hn hk18) (fun _ => ?_)
          refine zx_E.pick (k' := 20) (by decide) (fun hn => absurd hn hk19) (fun _ => ?_)
          refine zx_E.pick (k' := 21) (by decide) (fun hn => absurd hn hk20) (fun _ => ?_)
          exact zx_E.pick (k' := 22) (by decide) (fun _ => hE) (fun hn => absurd hk21 hn)
        obtain ⟨μ, hμ, hE⟩ := hK M hI
        refine ⟨μ, hμ, ?_⟩
        refine zx_E.pick (k' := 1) (by decide) (fun hn => absurd hn hk0) (fun _ => ?_)
        refine zx_E.pick (k' := 2) (by decide) (fun hn => absurd hn hk1) (fun _ => ?_)
        refine zx_E.pick (k' := 3) (by decide) (fun hn => absurd hn hk2) (fun _ => ?_)
        refine zx_E.pick (k' := 4) (by decide) (fun hn => absurd hn hk3) (fun _ => ?_)
        refine zx_E.pick (k' := 5) (by decide) (fun hn => absurd hn hk4) (fun _ => ?_)
        refine zx_E.pick (k' := 6) (by decide) (fun hn => absurd hn hk5) (fun _ => ?_)
        refine zx_E.pick (k' := 7) (by decide) (fun hn => absurd hn hk6) (fun _ => ?_)
        refine zx_E.pick (k' := 8) (by decide) (fun hn => absurd hn hk7) (fun _ => ?_)
        refine zx_E.pick (k' := 9) (by decide) (fun hn => absurd hn hk8) (fun _ => ?_)
        refine zx_E.pick (k' := 10) (by decide) (fun hn => absurd hn hk9) (fun _ => ?_)
        refine zx_E.pick (k' := 11) (by decide) (fun hn => absurd hn hk10) (fun _ => ?_)
        refine zx_E.pick (k' := 12) (by decide) (fun hn => absurd hn hk11) (fun _ => ?_)
        refine zx_E.pick (k' := 13) (by decide) (fun hn => absurd hn hk12) (fun _ => ?_)
        refine zx_E.pick (k' := 14) (by decide) (fun hn => absurd hn hk13) (fun _ => ?_)
        refine zx_E.pick (k' := 15) (by decide) (fun hn => absurd hn hk14) (fun _ => ?_)
        refine zx_E.pick (k' := 16) (by decide) (fun hn => absurd hn hk15) (fun _ => ?_)
        refine zx_E.pick (k' := 17) (by decide) (fun hn => absurd hn hk16) (fun _ => ?_)
        refine zx_E.pick (k' := 18) (by decide) (fun hn => absurd hn hk17) (fun _ => ?_)
        refine zx_E.pick (k' := 19) (by decide) (fun hn => absurd hn hk18) (fun _ => ?_)
        refine zx_E.pick (k' := 20) (by decide) (fun hn => absurd hn hk19) (fun _ => ?_)
        refine zx_E.pick (k' := 21) (by decide) (fun hn => absurd hn hk20) (fun _ => ?_)
        refine zx_E.pick (k' := 22) (by decide) (fun hn => absurd hn hk21) (fun _ => ?_)
        exact hE
      obtain ⟨μ, hμ, hE⟩ := hS
      refine ⟨μ, hμ, ?_⟩
      refine zx_E.go 5 (s' := (24, [some (.inr (some (33, 0, 0, 0))), some (.inr (some (0, 0, 0, 0))), some (.inr (some (25, 0, 0, 0))), some (.inl (nI i))], [.inl (nI L - 7), .inl (nI i)], (zx_lay M, 308))) rfl ?_
      refine zx_E.bf (zx_ic_gt rfl) (fun h => by have := (sub7 hL (by omega)).mp h; omega) ?_
      show zx_E _ _ _ (27, [some (.inr (some (33, 0, 0, 0))), some (.inr (some (0, 0, 0, 0))), some (.inr (some (25, 0, 0, 0))), some (.inl (nI i))], [], (zx_lay M, 308)) _
      refine zx_E.go 2 (s' := (29, [some (.inr (some (33, 0, 0, 0))), some (.inr (some (0, 0, 0, 0))), some (.inr (some (25, 0, 0, 0))), some (.inl (nI i))], [.inl (nI i), .inr (some (33, 0, 0, 0))], (zx_lay M, 308))) rfl ?_
      refine zx_E.sld' (k := i) (v := xs i) rfl rfl (show i < L by omega) (by omega) rfl ?_
      show zx_E _ _ _ (30, [some (.inr (some (33, 0, 0, 0))), some (.inr (some (0, 0, 0, 0))), some (.inr (some (25, 0, 0, 0))), some (.inl (nI i))], [.inl (xs i)], (zx_lay M, 308)) _
      refine zx_E.go 2 (s' := (33, [some (.inr (some (33, 0, 0, 0))), some (.inr (some (0, 0, 0, 0))), some (.inr (some (25, 0, 0, 0))), some (.inl (nI i))], [.inl (xs i &&& 31)], (zx_lay M, 308))) rfl ?_
      exact zx_E.one rfl hE
theorem lw_all {L : Nat} {xs : Nat → Int32} (hL : L ≤ 3584) : zx_Law (L, xs) := by
  obtain ⟨μ, hμ, hE⟩ := lw_loop (xs := xs) hL (L + 7) 0 zM0 (by omega) (by omega) II_0
  rw [nI_0] at hE
  obtain ⟨n, hn⟩ := zx_E.eqv (μ := (fun _ _ => .inl 0, 0)) (ν := (zO [], 0)) ⟨rfl, fun k hk => absurd hk (Nat.not_lt_zero _)⟩ (p1_ctor _ hE)
  exact ⟨n, μ, hμ, hn⟩
