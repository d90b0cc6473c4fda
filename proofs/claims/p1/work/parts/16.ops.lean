set_option maxRecDepth 100000 in
set_option maxHeartbeats 4000000 in
theorem p1_op_1 {xs : Nat → Int32} {a0 a1 a2 a3 a4 a5 a6 : Int32} (e0 : xs 0 = a0) (e1 : xs 1 = a1) (e2 : xs 2 = a2) (e3 : xs 3 = a3) (e4 : xs 4 = a4) (e5 : xs 5 = a5) (e6 : xs 6 = a6) (hk : (a0 &&& 31) = 1) :
    ∃ μ : zx_M, μ.2 ≤ 308 ∧ zx_E (7, xs) 11 zc_L_law (18, [some (.inr (some (33, 0, 0, 0))), some (.inr (some (0, 0, 0, 0))), some (.inr (some (25, 0, 0, 0))), some (.inl 0)], [], (zx_lay zM0, 308)) (some (.inl 1), μ) := by
  refine ⟨(zx_lay (zx_up (zx_up (zx_up (zx_up (zx_up (zx_up (zx_up (zx_up (zx_up (zx_up (zx_up zM0 (17, 0, 0, 0) 0 (-1)) (19, 0, 0, 0) 0 1) (20, 0, 0, 0) 0 0) (20, 0, 0, 0) 1 0) (20, 0, 0, 0) 2 (-1)) (25, 0, 0, 0) 7 (-1)) (25, 0, 0, 0) 15 (-1)) (25, 0, 0, 0) 7 0) (25, 0, 0, 0) 12 0) (25, 0, 0, 0) 13 0) (25, 0, 0, 0) 14 (-1)), 308), Nat.le_refl _, ?_⟩
  refine zx_E.go 4 (s' := (23, [some (.inr (some (33, 0, 0, 0))), some (.inr (some (0, 0, 0, 0))), some (.inr (some (25, 0, 0, 0))), some (.inl 0)], [.inl 7, .inl 7, .inl 0], (zx_lay zM0, 308))) rfl ?_
  refine zx_E.go 1 (s' := (24, [some (.inr (some (33, 0, 0, 0))), some (.inr (some (0, 0, 0, 0))), some (.inr (some (25, 0, 0, 0))), some (.inl 0)], [.inl 0, .inl 0], (zx_lay zM0, 308))) rfl ?_
  refine zx_E.bf (c := 0 < 0) (s1 := (740, [some (.inr (some (33, 0, 0, 0))), some (.inr (some (0, 0, 0, 0))), some (.inr (some (25, 0, 0, 0))), some (.inl 0)], [], (zx_lay zM0, 308))) (s2 := (27, [some (.inr (some (33, 0, 0, 0))), some (.inr (some (0, 0, 0, 0))), some (.inr (some (25, 0, 0, 0))), some (.inl 0)], [], (zx_lay zM0, 308))) rfl (by decide) ?_
  refine zx_E.go 2 (s' := (29, [some (.inr (some (33, 0, 0, 0))), some (.inr (some (0, 0, 0, 0))), some (.inr (some (25, 0, 0, 0))), some (.inl 0)], [.inl 0, .inr (some (33, 0, 0, 0))], (zx_lay zM0, 308))) rfl ?_
  refine zx_E.sld' (k := 0) (v := a0) rfl rfl (by omega) (by decide) e0 ?_
  show zx_E _ _ _ (30, [some (.inr (some (33, 0, 0, 0))), some (.inr (some (0, 0, 0, 0))), some (.inr (some (25, 0, 0, 0))), some (.inl 0)], [.inl a0], (zx_lay zM0, 308)) _
  refine zx_E.go 2 (s' := (33, [some (.inr (some (33, 0, 0, 0))), some (.inr (some (0, 0, 0, 0))), some (.inr (some (25, 0, 0, 0))), some (.inl 0)], [.inl (a0 &&& 31)], (zx_lay zM0, 308))) rfl ?_
  refine zx_E.one (s' := (zx_pick (a0 &&& 31) 0 [136, 211, 224, 247, 270, 293, 316, 339, 372, 405, 438, 471, 494, 517, 560, 573, 606, 639, 652, 685, 698, 711] 734, [some (.inr (some (33, 0, 0, 0))), some (.inr (some (0, 0, 0, 0))), some (.inr (some (25, 0, 0, 0))), some (.inl 0)], [], (zx_lay zM0, 308))) rfl ?_
  refine zx_E.pick (k' := 1) (by decide) (fun hn => absurd hn (fun q => absurd (hk.symm.trans q) (by decide))) (fun _ => ?_)
  refine zx_E.pick (k' := 2) (by decide) (fun _ => ?_) (fun hn => absurd hk hn)
  refine zx_E.go 1 (s' := (212, [some (.inr (some (33, 0, 0, 0))), some (.inr (some (0, 0, 0, 0))), some (.inr (some (25, 0, 0, 0))), some (.inl 0)], [.inr (some (0, 0, 0, 0))], (zx_lay zM0, 308))) rfl ?_
  refine zx_E.call1 (y := 95) (as := [.inr (some (0, 0, 0, 0))]) (rest := []) (v := .inl (-100)) (μ' := (zx_lay (zx_up (zx_up (zx_up (zx_up (zx_up zM0 (17, 0, 0, 0) 0 (-1)) (19, 0, 0, 0) 0 1) (20, 0, 0, 0) 0 0) (20, 0, 0, 0) 1 0) (20, 0, 0, 0) 2 (-1)), 308)) rfl (zx_run_of zc_X10_execute [some (.inr (some (0, 0, 0, 0))), none] rfl rfl (by
    refine zx_E.go 2 (s' := (4, [some (.inr (some (0, 0, 0, 0))), none], [.inr (some (14, 0, 0, 0))], (zx_lay zM0, 308))) rfl ?_
    refine zx_E.call1 (y := 68) (as := [.inr (some (14, 0, 0, 0))]) (rest := []) (v := .inl 0) (μ' := (zx_lay (zx_up zM0 (17, 0, 0, 0) 0 (-1)), 308)) rfl (zx_run_of zc_X8_readText [some (.inr (some (14, 0, 0, 0))), none] rfl rfl (by
      refine zx_E.go 2 (s' := (2, [some (.inr (some (14, 0, 0, 0))), none], [.inl 0, .inr (some (14, 0, 0, 0))], (zx_lay zM0, 308))) rfl ?_
      refine zx_E.putS (h := (14, 0, 0, 0)) (b := 4) rfl rfl (fun h => absurd h (by decide)) rfl ?_
      show zx_E _ _ _ (5, [some (.inr (some (14, 0, 0, 0))), none], [], (zx_lay zM0, 308)) _
      refine zx_E.go 2 (s' := (7, [some (.inr (some (14, 0, 0, 0))), none], [.inl 0, .inr (some (14, 0, 0, 0))], (zx_lay zM0, 308))) rfl ?_
      refine zx_E.putS (h := (14, 0, 0, 0)) (b := 3) rfl rfl (fun h => absurd h (by decide)) rfl ?_
      show zx_E _ _ _ (10, [some (.inr (some (14, 0, 0, 0))), none], [], (zx_lay zM0, 308)) _
      refine zx_E.go 4 (s' := (15, [some (.inr (some (14, 0, 0, 0))), some (.inl 0)], [.inl 20, .inl 0], (zx_lay zM0, 308))) rfl ?_
      refine zx_E.bf (c := 20 ≤ 0) (s1 := (70, [some (.inr (some (14, 0, 0, 0))), some (.inl 0)], [], (zx_lay zM0, 308))) (s2 := (18, [some (.inr (some (14, 0, 0, 0))), some (.inl 0)], [], (zx_lay zM0, 308))) rfl (by decide) ?_
      refine zx_E.go 4 (s' := (24, [some (.inr (some (14, 0, 0, 0))), some (.inl 0)], [.inl 0, .inr (some (16, 0, 0, 0)), .inr (some (14, 0, 0, 0))], (zx_lay zM0, 308))) rfl ?_
      refine zx_E.aald (k := 0) (h := (16, 0, 0, 0)) (h' := (17, 0, 0, 0)) rfl rfl rfl (by decide) rfl ?_
      show zx_E _ _ _ (25, [some (.inr (some (14, 0, 0, 0))), some (.inl 0)], [.inr (some (17, 0, 0, 0)), .inr (some (14, 0, 0, 0))], (zx_lay zM0, 308)) _
      refine zx_E.call1 (y := 69) (as := [.inr (some (14, 0, 0, 0)), .inr (some (17, 0, 0, 0))]) (rest := []) (v := .inl 0) (μ' := (zx_lay (zx_up zM0 (17, 0, 0, 0) 0 (-1)), 308)) rfl (zx_run_of zc_X8_readCommand [some (.inr (some (14, 0, 0, 0))), some (.inr (some (17, 0, 0, 0)))] rfl rfl (by
        refine zx_E.go 2 (s' := (2, [some (.inr (some (14, 0, 0, 0))), some (.inr (some (17, 0, 0, 0)))], [.inr (some (14, 0, 0, 0)), .inr (some (17, 0, 0, 0))], (zx_lay zM0, 308))) rfl ?_
        refine zx_E.call1 (y := 75) (as := [.inr (some (14, 0, 0, 0))]) (rest := [.inr (some (17, 0, 0, 0))]) (v := .inl (-1)) (μ' := (zx_lay zM0, 308)) rfl (zx_run_of zc_X8_peek [some (.inr (some (14, 0, 0, 0)))] rfl rfl (by
          refine zx_E.go 2 (s' := (4, [some (.inr (some (14, 0, 0, 0)))], [.inl 0], (zx_lay zM0, 308))) rfl ?_
          refine zx_E.bf (c := 0 < 0) (s1 := (39, [some (.inr (some (14, 0, 0, 0)))], [], (zx_lay zM0, 308))) (s2 := (7, [some (.inr (some (14, 0, 0, 0)))], [], (zx_lay zM0, 308))) rfl (by decide) ?_
          refine zx_E.go 4 (s' := (15, [some (.inr (some (14, 0, 0, 0)))], [.inl 0, .inl 0], (zx_lay zM0, 308))) rfl ?_
          refine zx_E.bt (c := 0 ≤ 0) (s1 := (39, [some (.inr (some (14, 0, 0, 0)))], [], (zx_lay zM0, 308))) (s2 := (18, [some (.inr (some (14, 0, 0, 0)))], [], (zx_lay zM0, 308))) rfl (by decide) ?_
          refine zx_E.go 1 (s' := (40, [some (.inr (some (14, 0, 0, 0)))], [.inl (-1)], (zx_lay zM0, 308))) rfl ?_
          exact zx_E.iret rfl (fun h => absurd h (by decide)) rfl)) ?_
        show zx_E _ _ _ (5, [some (.inr (some (14, 0, 0, 0))), some (.inr (some (17, 0, 0, 0)))], [.inl (-1), .inr (some (17, 0, 0, 0))], (zx_lay zM0, 308)) _
        refine zx_E.put (h := (17, 0, 0, 0)) (b := 0) rfl rfl (fun h => absurd h (by decide)) ?_
        show zx_E _ _ _ (8, [some (.inr (some (14, 0, 0, 0))), some (.inr (some (17, 0, 0, 0)))], [], (zx_lay (zx_up zM0 (17, 0, 0, 0) 0 (-1)), 308)) _
        refine zx_E.go 2 (s' := (12, [some (.inr (some (14, 0, 0, 0))), some (.inr (some (17, 0, 0, 0)))], [.inl (-1)], (zx_lay (zx_up zM0 (17, 0, 0, 0) 0 (-1)), 308))) rfl ?_
        refine zx_E.one (s' := (156, [some (.inr (some (14, 0, 0, 0))), some (.inr (some (17, 0, 0, 0)))], [], (zx_lay (zx_up zM0 (17, 0, 0, 0) 0 (-1)), 308))) rfl ?_
        refine zx_E.go 1 (s' := (157, [some (.inr (some (14, 0, 0, 0))), some (.inr (some (17, 0, 0, 0)))], [.inl 0], (zx_lay (zx_up zM0 (17, 0, 0, 0) 0 (-1)), 308))) rfl ?_
        exact zx_E.iret rfl (fun _ => Or.inl rfl) rfl)) ?_
      show zx_E _ _ _ (28, [some (.inr (some (14, 0, 0, 0))), some (.inl 0)], [.inl 0], (zx_lay (zx_up zM0 (17, 0, 0, 0) 0 (-1)), 308)) _
      refine zx_E.bt (c := 0 = 0) (s1 := (31, [some (.inr (some (14, 0, 0, 0))), some (.inl 0)], [], (zx_lay (zx_up zM0 (17, 0, 0, 0) 0 (-1)), 308))) (s2 := (33, [some (.inr (some (14, 0, 0, 0))), some (.inl 0)], [], (zx_lay (zx_up zM0 (17, 0, 0, 0) 0 (-1)), 308))) rfl (by decide) ?_
      refine zx_E.go 1 (s' := (32, [some (.inr (some (14, 0, 0, 0))), some (.inl 0)], [.inl 0], (zx_lay (zx_up zM0 (17, 0, 0, 0) 0 (-1)), 308))) rfl ?_
      exact zx_E.iret rfl (fun _ => Or.inl rfl) rfl)) ?_
    show zx_E _ _ _ (7, [some (.inr (some (0, 0, 0, 0))), none], [.inl 0], (zx_lay (zx_up zM0 (17, 0, 0, 0) 0 (-1)), 308)) _
    refine zx_E.bt (c := 0 = 0) (s1 := (18, [some (.inr (some (0, 0, 0, 0))), none], [], (zx_lay (zx_up zM0 (17, 0, 0, 0) 0 (-1)), 308))) (s2 := (10, [some (.inr (some (0, 0, 0, 0))), none], [], (zx_lay (zx_up zM0 (17, 0, 0, 0) 0 (-1)), 308))) rfl (by decide) ?_
    refine zx_E.go 8 (s' := (34, [some (.inr (some (0, 0, 0, 0))), none], [.inr (some (14, 0, 0, 0)), .inl 0, .inl 0, .inr (some (19, 0, 0, 0))], (zx_lay (zx_up zM0 (17, 0, 0, 0) 0 (-1)), 308))) rfl ?_
    refine zx_E.call1 (y := 75) (as := [.inr (some (14, 0, 0, 0))]) (rest := [.inl 0, .inl 0, .inr (some (19, 0, 0, 0))]) (v := .inl (-1)) (μ' := (zx_lay (zx_up zM0 (17, 0, 0, 0) 0 (-1)), 308)) rfl (zx_run_of zc_X8_peek [some (.inr (some (14, 0, 0, 0)))] rfl rfl (by
      refine zx_E.go 2 (s' := (4, [some (.inr (some (14, 0, 0, 0)))], [.inl 0], (zx_lay (zx_up zM0 (17, 0, 0, 0) 0 (-1)), 308))) rfl ?_
      refine zx_E.bf (c := 0 < 0) (s1 := (39, [some (.inr (some (14, 0, 0, 0)))], [], (zx_lay (zx_up zM0 (17, 0, 0, 0) 0 (-1)), 308))) (s2 := (7, [some (.inr (some (14, 0, 0, 0)))], [], (zx_lay (zx_up zM0 (17, 0, 0, 0) 0 (-1)), 308))) rfl (by decide) ?_
      refine zx_E.go 4 (s' := (15, [some (.inr (some (14, 0, 0, 0)))], [.inl 0, .inl 0], (zx_lay (zx_up zM0 (17, 0, 0, 0) 0 (-1)), 308))) rfl ?_
      refine zx_E.bt (c := 0 ≤ 0) (s1 := (39, [some (.inr (some (14, 0, 0, 0)))], [], (zx_lay (zx_up zM0 (17, 0, 0, 0) 0 (-1)), 308))) (s2 := (18, [some (.inr (some (14, 0, 0, 0)))], [], (zx_lay (zx_up zM0 (17, 0, 0, 0) 0 (-1)), 308))) rfl (by decide) ?_
      refine zx_E.go 1 (s' := (40, [some (.inr (some (14, 0, 0, 0)))], [.inl (-1)], (zx_lay (zx_up zM0 (17, 0, 0, 0) 0 (-1)), 308))) rfl ?_
      exact zx_E.iret rfl (fun h => absurd h (by decide)) rfl)) ?_
    show zx_E _ _ _ (37, [some (.inr (some (0, 0, 0, 0))), none], [.inl (-1), .inl 0, .inl 0, .inr (some (19, 0, 0, 0))], (zx_lay (zx_up zM0 (17, 0, 0, 0) 0 (-1)), 308)) _
    refine zx_E.call0 (y := 58) (as := [.inr (some (19, 0, 0, 0)), .inl 0, .inl 0, .inl (-1)]) (rest := []) (μ' := (zx_lay (zx_up (zx_up (zx_up (zx_up (zx_up zM0 (17, 0, 0, 0) 0 (-1)) (19, 0, 0, 0) 0 1) (20, 0, 0, 0) 0 0) (20, 0, 0, 0) 1 0) (20, 0, 0, 0) 2 (-1)), 308)) rfl (zx_run_of zc_X4_keep [some (.inr (some (19, 0, 0, 0))), some (.inl 0), some (.inl 0), some (.inl (-1))] rfl rfl (by
      refine zx_E.go 2 (s' := (2, [some (.inr (some (19, 0, 0, 0))), some (.inl 0), some (.inl 0), some (.inl (-1))], [.inl 1, .inr (some (19, 0, 0, 0))], (zx_lay (zx_up zM0 (17, 0, 0, 0) 0 (-1)), 308))) rfl ?_
      refine zx_E.put (h := (19, 0, 0, 0)) (b := 0) rfl rfl (fun _ => Or.inr rfl) ?_
      show zx_E _ _ _ (5, [some (.inr (some (19, 0, 0, 0))), some (.inl 0), some (.inl 0), some (.inl (-1))], [], (zx_lay (zx_up (zx_up zM0 (17, 0, 0, 0) 0 (-1)) (19, 0, 0, 0) 0 1), 308)) _
      refine zx_E.go 4 (s' := (11, [some (.inr (some (19, 0, 0, 0))), some (.inl 0), some (.inl 0), some (.inl (-1))], [.inl 0, .inl 0, .inr (some (20, 0, 0, 0))], (zx_lay (zx_up (zx_up zM0 (17, 0, 0, 0) 0 (-1)) (19, 0, 0, 0) 0 1), 308))) rfl ?_
      refine zx_E.iast (k := 0) (h := (20, 0, 0, 0)) rfl rfl rfl (by decide) ?_
      show zx_E _ _ _ (12, [some (.inr (some (19, 0, 0, 0))), some (.inl 0), some (.inl 0), some (.inl (-1))], [], (zx_lay (zx_up (zx_up (zx_up zM0 (17, 0, 0, 0) 0 (-1)) (19, 0, 0, 0) 0 1) (20, 0, 0, 0) 0 0), 308)) _
      refine zx_E.go 4 (s' := (18, [some (.inr (some (19, 0, 0, 0))), some (.inl 0), some (.inl 0), some (.inl (-1))], [.inl 0, .inl 1, .inr (some (20, 0, 0, 0))], (zx_lay (zx_up (zx_up (zx_up zM0 (17, 0, 0, 0) 0 (-1)) (19, 0, 0, 0) 0 1) (20, 0, 0, 0) 0 0), 308))) rfl ?_
      refine zx_E.iast (k := 1) (h := (20, 0, 0, 0)) rfl rfl rfl (by decide) ?_
      show zx_E _ _ _ (19, [some (.inr (some (19, 0, 0, 0))), some (.inl 0), some (.inl 0), some (.inl (-1))], [], (zx_lay (zx_up (zx_up (zx_up (zx_up zM0 (17, 0, 0, 0) 0 (-1)) (19, 0, 0, 0) 0 1) (20, 0, 0, 0) 0 0) (20, 0, 0, 0) 1 0), 308)) _
      refine zx_E.go 4 (s' := (25, [some (.inr (some (19, 0, 0, 0))), some (.inl 0), some (.inl 0), some (.inl (-1))], [.inl (-1), .inl 2, .inr (some (20, 0, 0, 0))], (zx_lay (zx_up (zx_up (zx_up (zx_up zM0 (17, 0, 0, 0) 0 (-1)) (19, 0, 0, 0) 0 1) (20, 0, 0, 0) 0 0) (20, 0, 0, 0) 1 0), 308))) rfl ?_
      refine zx_E.iast (k := 2) (h := (20, 0, 0, 0)) rfl rfl rfl (by decide) ?_
      show zx_E _ _ _ (26, [some (.inr (some (19, 0, 0, 0))), some (.inl 0), some (.inl 0), some (.inl (-1))], [], (zx_lay (zx_up (zx_up (zx_up (zx_up (zx_up zM0 (17, 0, 0, 0) 0 (-1)) (19, 0, 0, 0) 0 1) (20, 0, 0, 0) 0 0) (20, 0, 0, 0) 1 0) (20, 0, 0, 0) 2 (-1)), 308)) _
      exact zx_E.ret rfl)) ?_
    show zx_E _ _ _ (40, [some (.inr (some (0, 0, 0, 0))), none], [], (zx_lay (zx_up (zx_up (zx_up (zx_up (zx_up zM0 (17, 0, 0, 0) 0 (-1)) (19, 0, 0, 0) 0 1) (20, 0, 0, 0) 0 0) (20, 0, 0, 0) 1 0) (20, 0, 0, 0) 2 (-1)), 308)) _
    refine zx_E.go 4 (s' := (49, [some (.inr (some (0, 0, 0, 0))), none], [.inl 0, .inl (-100)], (zx_lay (zx_up (zx_up (zx_up (zx_up (zx_up zM0 (17, 0, 0, 0) 0 (-1)) (19, 0, 0, 0) 0 1) (20, 0, 0, 0) 0 0) (20, 0, 0, 0) 1 0) (20, 0, 0, 0) 2 (-1)), 308))) rfl ?_
    refine zx_E.go 5 (s' := (56, [some (.inr (some (0, 0, 0, 0))), some (.inl (-100))], [.inl 0, .inr (some (14, 0, 0, 0))], (zx_lay (zx_up (zx_up (zx_up (zx_up (zx_up zM0 (17, 0, 0, 0) 0 (-1)) (19, 0, 0, 0) 0 1) (20, 0, 0, 0) 0 0) (20, 0, 0, 0) 1 0) (20, 0, 0, 0) 2 (-1)), 308))) rfl ?_
    refine zx_E.putS (h := (14, 0, 0, 0)) (b := 1) rfl rfl (fun h => absurd h (by decide)) rfl ?_
    show zx_E _ _ _ (59, [some (.inr (some (0, 0, 0, 0))), some (.inl (-100))], [], (zx_lay (zx_up (zx_up (zx_up (zx_up (zx_up zM0 (17, 0, 0, 0) 0 (-1)) (19, 0, 0, 0) 0 1) (20, 0, 0, 0) 0 0) (20, 0, 0, 0) 1 0) (20, 0, 0, 0) 2 (-1)), 308)) _
    refine zx_E.go 1 (s' := (60, [some (.inr (some (0, 0, 0, 0))), some (.inl (-100))], [.inl (-100)], (zx_lay (zx_up (zx_up (zx_up (zx_up (zx_up zM0 (17, 0, 0, 0) 0 (-1)) (19, 0, 0, 0) 0 1) (20, 0, 0, 0) 0 0) (20, 0, 0, 0) 1 0) (20, 0, 0, 0) 2 (-1)), 308))) rfl ?_
    exact zx_E.iret rfl (fun h => absurd h (by decide)) rfl)) ?_
  show zx_E _ _ _ (215, [some (.inr (some (33, 0, 0, 0))), some (.inr (some (0, 0, 0, 0))), some (.inr (some (25, 0, 0, 0))), some (.inl 0)], [.inl (-100)], (zx_lay (zx_up (zx_up (zx_up (zx_up (zx_up zM0 (17, 0, 0, 0) 0 (-1)) (19, 0, 0, 0) 0 1) (20, 0, 0, 0) 0 0) (20, 0, 0, 0) 1 0) (20, 0, 0, 0) 2 (-1)), 308)) _
  refine zx_E.go 1 (s' := (216, [some (.inr (some (33, 0, 0, 0))), some (.inr (some (0, 0, 0, 0))), some (.inr (some (25, 0, 0, 0))), some (.inl 0)], [.inr (some (25, 0, 0, 0)), .inl (-100)], (zx_lay (zx_up (zx_up (zx_up (zx_up (zx_up zM0 (17, 0, 0, 0) 0 (-1)) (19, 0, 0, 0) 0 1) (20, 0, 0, 0) 0 0) (20, 0, 0, 0) 1 0) (20, 0, 0, 0) 2 (-1)), 308))) rfl ?_
  refine zx_E.call1 (y := 170) (as := [.inr (some (25, 0, 0, 0))]) (rest := [.inl (-100)]) (v := .inl (-100)) (μ' := (zx_lay (zx_up (zx_up (zx_up (zx_up (zx_up (zx_up (zx_up (zx_up (zx_up (zx_up (zx_up zM0 (17, 0, 0, 0) 0 (-1)) (19, 0, 0, 0) 0 1) (20, 0, 0, 0) 0 0) (20, 0, 0, 0) 1 0) (20, 0, 0, 0) 2 (-1)) (25, 0, 0, 0) 7 (-1)) (25, 0, 0, 0) 15 (-1)) (25, 0, 0, 0) 7 0) (25, 0, 0, 0) 12 0) (25, 0, 0, 0) 13 0) (25, 0, 0, 0) 14 (-1)), 308)) rfl (zx_run_of zc_X11_execute [some (.inr (some (25, 0, 0, 0)))] rfl rfl (by
    refine zx_E.go 3 (s' := (5, [some (.inr (some (25, 0, 0, 0)))], [.inl 0, .inr (some (25, 0, 0, 0))], (zx_lay (zx_up (zx_up (zx_up (zx_up (zx_up zM0 (17, 0, 0, 0) 0 (-1)) (19, 0, 0, 0) 0 1) (20, 0, 0, 0) 0 0) (20, 0, 0, 0) 1 0) (20, 0, 0, 0) 2 (-1)), 308))) rfl ?_
    refine zx_E.putS (h := (25, 0, 0, 0)) (b := 5) rfl rfl (fun h => absurd h (by decide)) rfl ?_
    show zx_E _ _ _ (8, [some (.inr (some (25, 0, 0, 0)))], [], (zx_lay (zx_up (zx_up (zx_up (zx_up (zx_up zM0 (17, 0, 0, 0) 0 (-1)) (19, 0, 0, 0) 0 1) (20, 0, 0, 0) 0 0) (20, 0, 0, 0) 1 0) (20, 0, 0, 0) 2 (-1)), 308)) _
    refine zx_E.go 2 (s' := (10, [some (.inr (some (25, 0, 0, 0)))], [.inl 0, .inr (some (25, 0, 0, 0))], (zx_lay (zx_up (zx_up (zx_up (zx_up (zx_up zM0 (17, 0, 0, 0) 0 (-1)) (19, 0, 0, 0) 0 1) (20, 0, 0, 0) 0 0) (20, 0, 0, 0) 1 0) (20, 0, 0, 0) 2 (-1)), 308))) rfl ?_
    refine zx_E.putS (h := (25, 0, 0, 0)) (b := 4) rfl rfl (fun h => absurd h (by decide)) rfl ?_
    show zx_E _ _ _ (13, [some (.inr (some (25, 0, 0, 0)))], [], (zx_lay (zx_up (zx_up (zx_up (zx_up (zx_up zM0 (17, 0, 0, 0) 0 (-1)) (19, 0, 0, 0) 0 1) (20, 0, 0, 0) 0 0) (20, 0, 0, 0) 1 0) (20, 0, 0, 0) 2 (-1)), 308)) _
    refine zx_E.go 2 (s' := (15, [some (.inr (some (25, 0, 0, 0)))], [.inl (-1), .inr (some (25, 0, 0, 0))], (zx_lay (zx_up (zx_up (zx_up (zx_up (zx_up zM0 (17, 0, 0, 0) 0 (-1)) (19, 0, 0, 0) 0 1) (20, 0, 0, 0) 0 0) (20, 0, 0, 0) 1 0) (20, 0, 0, 0) 2 (-1)), 308))) rfl ?_
    refine zx_E.put (h := (25, 0, 0, 0)) (b := 7) rfl rfl (fun h => absurd h (by decide)) ?_
    show zx_E _ _ _ (18, [some (.inr (some (25, 0, 0, 0)))], [], (zx_lay (zx_up (zx_up (zx_up (zx_up (zx_up (zx_up zM0 (17, 0, 0, 0) 0 (-1)) (19, 0, 0, 0) 0 1) (20, 0, 0, 0) 0 0) (20, 0, 0, 0) 1 0) (20, 0, 0, 0) 2 (-1)) (25, 0, 0, 0) 7 (-1)), 308)) _
    refine zx_E.go 2 (s' := (21, [some (.inr (some (25, 0, 0, 0)))], [.inl (-5), .inr (some (25, 0, 0, 0))], (zx_lay (zx_up (zx_up (zx_up (zx_up (zx_up (zx_up zM0 (17, 0, 0, 0) 0 (-1)) (19, 0, 0, 0) 0 1) (20, 0, 0, 0) 0 0) (20, 0, 0, 0) 1 0) (20, 0, 0, 0) 2 (-1)) (25, 0, 0, 0) 7 (-1)), 308))) rfl ?_
    refine zx_E.putS (h := (25, 0, 0, 0)) (b := 12) rfl rfl (fun h => absurd h (by decide)) rfl ?_
    show zx_E _ _ _ (24, [some (.inr (some (25, 0, 0, 0)))], [], (zx_lay (zx_up (zx_up (zx_up (zx_up (zx_up (zx_up zM0 (17, 0, 0, 0) 0 (-1)) (19, 0, 0, 0) 0 1) (20, 0, 0, 0) 0 0) (20, 0, 0, 0) 1 0) (20, 0, 0, 0) 2 (-1)) (25, 0, 0, 0) 7 (-1)), 308)) _
    refine zx_E.go 3 (s' := (29, [some (.inr (some (25, 0, 0, 0)))], [.inl (-5), .inl (-5), .inr (some (25, 0, 0, 0))], (zx_lay (zx_up (zx_up (zx_up (zx_up (zx_up (zx_up zM0 (17, 0, 0, 0) 0 (-1)) (19, 0, 0, 0) 0 1) (20, 0, 0, 0) 0 0) (20, 0, 0, 0) 1 0) (20, 0, 0, 0) 2 (-1)) (25, 0, 0, 0) 7 (-1)), 308))) rfl ?_
    refine zx_E.call0 (y := 161) (as := [.inr (some (25, 0, 0, 0)), .inl (-5), .inl (-5)]) (rest := []) (μ' := (zx_lay (zx_up (zx_up (zx_up (zx_up (zx_up (zx_up zM0 (17, 0, 0, 0) 0 (-1)) (19, 0, 0, 0) 0 1) (20, 0, 0, 0) 0 0) (20, 0, 0, 0) 1 0) (20, 0, 0, 0) 2 (-1)) (25, 0, 0, 0) 7 (-1)), 308)) rfl (zx_run_of zc_X11_refuse [some (.inr (some (25, 0, 0, 0))), some (.inl (-5)), some (.inl (-5))] rfl rfl (by
      refine zx_E.go 2 (s' := (2, [some (.inr (some (25, 0, 0, 0))), some (.inl (-5)), some (.inl (-5))], [.inl (-5), .inr (some (25, 0, 0, 0))], (zx_lay (zx_up (zx_up (zx_up (zx_up (zx_up (zx_up zM0 (17, 0, 0, 0) 0 (-1)) (19, 0, 0, 0) 0 1) (20, 0, 0, 0) 0 0) (20, 0, 0, 0) 1 0) (20, 0, 0, 0) 2 (-1)) (25, 0, 0, 0) 7 (-1)), 308))) rfl ?_
      refine zx_E.putS (h := (25, 0, 0, 0)) (b := 13) rfl rfl (fun h => absurd h (by decide)) rfl ?_
      show zx_E _ _ _ (5, [some (.inr (some (25, 0, 0, 0))), some (.inl (-5)), some (.inl (-5))], [], (zx_lay (zx_up (zx_up (zx_up (zx_up (zx_up (zx_up zM0 (17, 0, 0, 0) 0 (-1)) (19, 0, 0, 0) 0 1) (20, 0, 0, 0) 0 0) (20, 0, 0, 0) 1 0) (20, 0, 0, 0) 2 (-1)) (25, 0, 0, 0) 7 (-1)), 308)) _
      refine zx_E.go 2 (s' := (7, [some (.inr (some (25, 0, 0, 0))), some (.inl (-5)), some (.inl (-5))], [.inl (-5), .inr (some (25, 0, 0, 0))], (zx_lay (zx_up (zx_up (zx_up (zx_up (zx_up (zx_up zM0 (17, 0, 0, 0) 0 (-1)) (19, 0, 0, 0) 0 1) (20, 0, 0, 0) 0 0) (20, 0, 0, 0) 1 0) (20, 0, 0, 0) 2 (-1)) (25, 0, 0, 0) 7 (-1)), 308))) rfl ?_
      refine zx_E.putS (h := (25, 0, 0, 0)) (b := 14) rfl rfl (fun h => absurd h (by decide)) rfl ?_
      show zx_E _ _ _ (10, [some (.inr (some (25, 0, 0, 0))), some (.inl (-5)), some (.inl (-5))], [], (zx_lay (zx_up (zx_up (zx_up (zx_up (zx_up (zx_up zM0 (17, 0, 0, 0) 0 (-1)) (19, 0, 0, 0) 0 1) (20, 0, 0, 0) 0 0) (20, 0, 0, 0) 1 0) (20, 0, 0, 0) 2 (-1)) (25, 0, 0, 0) 7 (-1)), 308)) _
      exact zx_E.ret rfl)) ?_
    show zx_E _ _ _ (32, [some (.inr (some (25, 0, 0, 0)))], [], (zx_lay (zx_up (zx_up (zx_up (zx_up (zx_up (zx_up zM0 (17, 0, 0, 0) 0 (-1)) (19, 0, 0, 0) 0 1) (20, 0, 0, 0) 0 0) (20, 0, 0, 0) 1 0) (20, 0, 0, 0) 2 (-1)) (25, 0, 0, 0) 7 (-1)), 308)) _
    refine zx_E.go 2 (s' := (34, [some (.inr (some (25, 0, 0, 0)))], [.inl 0, .inr (some (25, 0, 0, 0))], (zx_lay (zx_up (zx_up (zx_up (zx_up (zx_up (zx_up zM0 (17, 0, 0, 0) 0 (-1)) (19, 0, 0, 0) 0 1) (20, 0, 0, 0) 0 0) (20, 0, 0, 0) 1 0) (20, 0, 0, 0) 2 (-1)) (25, 0, 0, 0) 7 (-1)), 308))) rfl ?_
    refine zx_E.call0 (y := 169) (as := [.inr (some (25, 0, 0, 0)), .inl 0]) (rest := []) (μ' := (zx_lay (zx_up (zx_up (zx_up (zx_up (zx_up (zx_up (zx_up (zx_up zM0 (17, 0, 0, 0) 0 (-1)) (19, 0, 0, 0) 0 1) (20, 0, 0, 0) 0 0) (20, 0, 0, 0) 1 0) (20, 0, 0, 0) 2 (-1)) (25, 0, 0, 0) 7 (-1)) (25, 0, 0, 0) 15 (-1)) (25, 0, 0, 0) 7 0), 308)) rfl (zx_run_of zc_X11_go [some (.inr (some (25, 0, 0, 0))), some (.inl 0), none] rfl rfl (by
      refine zx_E.go 2 (s' := (2, [some (.inr (some (25, 0, 0, 0))), some (.inl 0), none], [.inl 0, .inr (some (25, 0, 0, 0))], (zx_lay (zx_up (zx_up (zx_up (zx_up (zx_up (zx_up zM0 (17, 0, 0, 0) 0 (-1)) (19, 0, 0, 0) 0 1) (20, 0, 0, 0) 0 0) (20, 0, 0, 0) 1 0) (20, 0, 0, 0) 2 (-1)) (25, 0, 0, 0) 7 (-1)), 308))) rfl ?_
      refine zx_E.putS (h := (25, 0, 0, 0)) (b := 6) rfl rfl (fun h => absurd h (by decide)) rfl ?_
      show zx_E _ _ _ (5, [some (.inr (some (25, 0, 0, 0))), some (.inl 0), none], [], (zx_lay (zx_up (zx_up (zx_up (zx_up (zx_up (zx_up zM0 (17, 0, 0, 0) 0 (-1)) (19, 0, 0, 0) 0 1) (20, 0, 0, 0) 0 0) (20, 0, 0, 0) 1 0) (20, 0, 0, 0) 2 (-1)) (25, 0, 0, 0) 7 (-1)), 308)) _
      refine zx_E.go 2 (s' := (7, [some (.inr (some (25, 0, 0, 0))), some (.inl 0), none], [.inl 0, .inr (some (25, 0, 0, 0))], (zx_lay (zx_up (zx_up (zx_up (zx_up (zx_up (zx_up zM0 (17, 0, 0, 0) 0 (-1)) (19, 0, 0, 0) 0 1) (20, 0, 0, 0) 0 0) (20, 0, 0, 0) 1 0) (20, 0, 0, 0) 2 (-1)) (25, 0, 0, 0) 7 (-1)), 308))) rfl ?_
      refine zx_E.putS (h := (25, 0, 0, 0)) (b := 8) rfl rfl (fun h => absurd h (by decide)) rfl ?_
      show zx_E _ _ _ (10, [some (.inr (some (25, 0, 0, 0))), some (.inl 0), none], [], (zx_lay (zx_up (zx_up (zx_up (zx_up (zx_up (zx_up zM0 (17, 0, 0, 0) 0 (-1)) (19, 0, 0, 0) 0 1) (20, 0, 0, 0) 0 0) (20, 0, 0, 0) 1 0) (20, 0, 0, 0) 2 (-1)) (25, 0, 0, 0) 7 (-1)), 308)) _
      refine zx_E.go 3 (s' := (13, [some (.inr (some (25, 0, 0, 0))), some (.inl 0), some (.inl 1)], [.inl 1], (zx_lay (zx_up (zx_up (zx_up (zx_up (zx_up (zx_up zM0 (17, 0, 0, 0) 0 (-1)) (19, 0, 0, 0) 0 1) (20, 0, 0, 0) 0 0) (20, 0, 0, 0) 1 0) (20, 0, 0, 0) 2 (-1)) (25, 0, 0, 0) 7 (-1)), 308))) rfl ?_
      refine zx_E.bf (c := 1 = 0) (s1 := (73, [some (.inr (some (25, 0, 0, 0))), some (.inl 0), some (.inl 1)], [], (zx_lay (zx_up (zx_up (zx_up (zx_up (zx_up (zx_up zM0 (17, 0, 0, 0) 0 (-1)) (19, 0, 0, 0) 0 1) (20, 0, 0, 0) 0 0) (20, 0, 0, 0) 1 0) (20, 0, 0, 0) 2 (-1)) (25, 0, 0, 0) 7 (-1)), 308))) (s2 := (16, [some (.inr (some (25, 0, 0, 0))), some (.inl 0), some (.inl 1)], [], (zx_lay (zx_up (zx_up (zx_up (zx_up (zx_up (zx_up zM0 (17, 0, 0, 0) 0 (-1)) (19, 0, 0, 0) 0 1) (20, 0, 0, 0) 0 0) (20, 0, 0, 0) 1 0) (20, 0, 0, 0) 2 (-1)) (25, 0, 0, 0) 7 (-1)), 308))) rfl (by decide) ?_
      refine zx_E.go 1 (s' := (17, [some (.inr (some (25, 0, 0, 0))), some (.inl 0), some (.inl 1)], [.inr (some (25, 0, 0, 0))], (zx_lay (zx_up (zx_up (zx_up (zx_up (zx_up (zx_up zM0 (17, 0, 0, 0) 0 (-1)) (19, 0, 0, 0) 0 1) (20, 0, 0, 0) 0 0) (20, 0, 0, 0) 1 0) (20, 0, 0, 0) 2 (-1)) (25, 0, 0, 0) 7 (-1)), 308))) rfl ?_
      refine zx_E.call0 (y := 159) (as := [.inr (some (25, 0, 0, 0))]) (rest := []) (μ' := (zx_lay (zx_up (zx_up (zx_up (zx_up (zx_up (zx_up (zx_up (zx_up zM0 (17, 0, 0, 0) 0 (-1)) (19, 0, 0, 0) 0 1) (20, 0, 0, 0) 0 0) (20, 0, 0, 0) 1 0) (20, 0, 0, 0) 2 (-1)) (25, 0, 0, 0) 7 (-1)) (25, 0, 0, 0) 15 (-1)) (25, 0, 0, 0) 7 0), 308)) rfl (zx_run_of zc_X11_readCommand [some (.inr (some (25, 0, 0, 0)))] rfl rfl (by
        refine zx_E.go 2 (s' := (2, [some (.inr (some (25, 0, 0, 0)))], [.inr (some (25, 0, 0, 0)), .inr (some (25, 0, 0, 0))], (zx_lay (zx_up (zx_up (zx_up (zx_up (zx_up (zx_up zM0 (17, 0, 0, 0) 0 (-1)) (19, 0, 0, 0) 0 1) (20, 0, 0, 0) 0 0) (20, 0, 0, 0) 1 0) (20, 0, 0, 0) 2 (-1)) (25, 0, 0, 0) 7 (-1)), 308))) rfl ?_
        refine zx_E.call1 (y := 152) (as := [.inr (some (25, 0, 0, 0))]) (rest := [.inr (some (25, 0, 0, 0))]) (v := .inl (-1)) (μ' := (zx_lay (zx_up (zx_up (zx_up (zx_up (zx_up (zx_up zM0 (17, 0, 0, 0) 0 (-1)) (19, 0, 0, 0) 0 1) (20, 0, 0, 0) 0 0) (20, 0, 0, 0) 1 0) (20, 0, 0, 0) 2 (-1)) (25, 0, 0, 0) 7 (-1)), 308)) rfl (zx_run_of zc_X11_sign [some (.inr (some (25, 0, 0, 0)))] rfl rfl (by
          refine zx_E.go 4 (s' := (8, [some (.inr (some (25, 0, 0, 0)))], [.inl 0, .inl 0], (zx_lay (zx_up (zx_up (zx_up (zx_up (zx_up (zx_up zM0 (17, 0, 0, 0) 0 (-1)) (19, 0, 0, 0) 0 1) (20, 0, 0, 0) 0 0) (20, 0, 0, 0) 1 0) (20, 0, 0, 0) 2 (-1)) (25, 0, 0, 0) 7 (-1)), 308))) rfl ?_
          refine zx_E.bt (c := 0 ≤ 0) (s1 := (23, [some (.inr (some (25, 0, 0, 0)))], [], (zx_lay (zx_up (zx_up (zx_up (zx_up (zx_up (zx_up zM0 (17, 0, 0, 0) 0 (-1)) (19, 0, 0, 0) 0 1) (20, 0, 0, 0) 0 0) (20, 0, 0, 0) 1 0) (20, 0, 0, 0) 2 (-1)) (25, 0, 0, 0) 7 (-1)), 308))) (s2 := (11, [some (.inr (some (25, 0, 0, 0)))], [], (zx_lay (zx_up (zx_up (zx_up (zx_up (zx_up (zx_up zM0 (17, 0, 0, 0) 0 (-1)) (19, 0, 0, 0) 0 1) (20, 0, 0, 0) 0 0) (20, 0, 0, 0) 1 0) (20, 0, 0, 0) 2 (-1)) (25, 0, 0, 0) 7 (-1)), 308))) rfl (by decide) ?_
          refine zx_E.go 1 (s' := (24, [some (.inr (some (25, 0, 0, 0)))], [.inl (-1)], (zx_lay (zx_up (zx_up (zx_up (zx_up (zx_up (zx_up zM0 (17, 0, 0, 0) 0 (-1)) (19, 0, 0, 0) 0 1) (20, 0, 0, 0) 0 0) (20, 0, 0, 0) 1 0) (20, 0, 0, 0) 2 (-1)) (25, 0, 0, 0) 7 (-1)), 308))) rfl ?_
          exact zx_E.iret rfl (fun h => absurd h (by decide)) rfl)) ?_
        show zx_E _ _ _ (5, [some (.inr (some (25, 0, 0, 0)))], [.inl (-1), .inr (some (25, 0, 0, 0))], (zx_lay (zx_up (zx_up (zx_up (zx_up (zx_up (zx_up zM0 (17, 0, 0, 0) 0 (-1)) (19, 0, 0, 0) 0 1) (20, 0, 0, 0) 0 0) (20, 0, 0, 0) 1 0) (20, 0, 0, 0) 2 (-1)) (25, 0, 0, 0) 7 (-1)), 308)) _
        refine zx_E.put (h := (25, 0, 0, 0)) (b := 15) rfl rfl (fun h => absurd h (by decide)) ?_
        show zx_E _ _ _ (8, [some (.inr (some (25, 0, 0, 0)))], [], (zx_lay (zx_up (zx_up (zx_up (zx_up (zx_up (zx_up (zx_up zM0 (17, 0, 0, 0) 0 (-1)) (19, 0, 0, 0) 0 1) (20, 0, 0, 0) 0 0) (20, 0, 0, 0) 1 0) (20, 0, 0, 0) 2 (-1)) (25, 0, 0, 0) 7 (-1)) (25, 0, 0, 0) 15 (-1)), 308)) _
        refine zx_E.go 2 (s' := (10, [some (.inr (some (25, 0, 0, 0)))], [.inl 0, .inr (some (25, 0, 0, 0))], (zx_lay (zx_up (zx_up (zx_up (zx_up (zx_up (zx_up (zx_up zM0 (17, 0, 0, 0) 0 (-1)) (19, 0, 0, 0) 0 1) (20, 0, 0, 0) 0 0) (20, 0, 0, 0) 1 0) (20, 0, 0, 0) 2 (-1)) (25, 0, 0, 0) 7 (-1)) (25, 0, 0, 0) 15 (-1)), 308))) rfl ?_
        refine zx_E.putS (h := (25, 0, 0, 0)) (b := 11) rfl rfl (fun h => absurd h (by decide)) rfl ?_
        show zx_E _ _ _ (13, [some (.inr (some (25, 0, 0, 0)))], [], (zx_lay (zx_up (zx_up (zx_up (zx_up (zx_up (zx_up (zx_up zM0 (17, 0, 0, 0) 0 (-1)) (19, 0, 0, 0) 0 1) (20, 0, 0, 0) 0 0) (20, 0, 0, 0) 1 0) (20, 0, 0, 0) 2 (-1)) (25, 0, 0, 0) 7 (-1)) (25, 0, 0, 0) 15 (-1)), 308)) _
        refine zx_E.go 2 (s' := (16, [some (.inr (some (25, 0, 0, 0)))], [.inl 76, .inr (some (25, 0, 0, 0))], (zx_lay (zx_up (zx_up (zx_up (zx_up (zx_up (zx_up (zx_up zM0 (17, 0, 0, 0) 0 (-1)) (19, 0, 0, 0) 0 1) (20, 0, 0, 0) 0 0) (20, 0, 0, 0) 1 0) (20, 0, 0, 0) 2 (-1)) (25, 0, 0, 0) 7 (-1)) (25, 0, 0, 0) 15 (-1)), 308))) rfl ?_
        refine zx_E.call1 (y := 154) (as := [.inr (some (25, 0, 0, 0)), .inl 76]) (rest := []) (v := .inl 0) (μ' := (zx_lay (zx_up (zx_up (zx_up (zx_up (zx_up (zx_up (zx_up zM0 (17, 0, 0, 0) 0 (-1)) (19, 0, 0, 0) 0 1) (20, 0, 0, 0) 0 0) (20, 0, 0, 0) 1 0) (20, 0, 0, 0) 2 (-1)) (25, 0, 0, 0) 7 (-1)) (25, 0, 0, 0) 15 (-1)), 308)) rfl (zx_run_of zc_X11_goes [some (.inr (some (25, 0, 0, 0))), some (.inl 76), none] rfl rfl (by
          refine zx_E.go 3 (s' := (5, [some (.inr (some (25, 0, 0, 0))), some (.inl 76), none], [.inl (-1), .inl (-1)], (zx_lay (zx_up (zx_up (zx_up (zx_up (zx_up (zx_up (zx_up zM0 (17, 0, 0, 0) 0 (-1)) (19, 0, 0, 0) 0 1) (20, 0, 0, 0) 0 0) (20, 0, 0, 0) 1 0) (20, 0, 0, 0) 2 (-1)) (25, 0, 0, 0) 7 (-1)) (25, 0, 0, 0) 15 (-1)), 308))) rfl ?_
          refine zx_E.bt (c := (-1) = (-1)) (s1 := (8, [some (.inr (some (25, 0, 0, 0))), some (.inl 76), none], [], (zx_lay (zx_up (zx_up (zx_up (zx_up (zx_up (zx_up (zx_up zM0 (17, 0, 0, 0) 0 (-1)) (19, 0, 0, 0) 0 1) (20, 0, 0, 0) 0 0) (20, 0, 0, 0) 1 0) (20, 0, 0, 0) 2 (-1)) (25, 0, 0, 0) 7 (-1)) (25, 0, 0, 0) 15 (-1)), 308))) (s2 := (20, [some (.inr (some (25, 0, 0, 0))), some (.inl 76), none], [], (zx_lay (zx_up (zx_up (zx_up (zx_up (zx_up (zx_up (zx_up zM0 (17, 0, 0, 0) 0 (-1)) (19, 0, 0, 0) 0 1) (20, 0, 0, 0) 0 0) (20, 0, 0, 0) 1 0) (20, 0, 0, 0) 2 (-1)) (25, 0, 0, 0) 7 (-1)) (25, 0, 0, 0) 15 (-1)), 308))) rfl (by decide) ?_
          refine zx_E.go 1 (s' := (9, [some (.inr (some (25, 0, 0, 0))), some (.inl 76), none], [.inr (some (25, 0, 0, 0))], (zx_lay (zx_up (zx_up (zx_up (zx_up (zx_up (zx_up (zx_up zM0 (17, 0, 0, 0) 0 (-1)) (19, 0, 0, 0) 0 1) (20, 0, 0, 0) 0 0) (20, 0, 0, 0) 1 0) (20, 0, 0, 0) 2 (-1)) (25, 0, 0, 0) 7 (-1)) (25, 0, 0, 0) 15 (-1)), 308))) rfl ?_
          refine zx_E.call1 (y := 152) (as := [.inr (some (25, 0, 0, 0))]) (rest := []) (v := .inl (-1)) (μ' := (zx_lay (zx_up (zx_up (zx_up (zx_up (zx_up (zx_up (zx_up zM0 (17, 0, 0, 0) 0 (-1)) (19, 0, 0, 0) 0 1) (20, 0, 0, 0) 0 0) (20, 0, 0, 0) 1 0) (20, 0, 0, 0) 2 (-1)) (25, 0, 0, 0) 7 (-1)) (25, 0, 0, 0) 15 (-1)), 308)) rfl (zx_run_of zc_X11_sign [some (.inr (some (25, 0, 0, 0)))] rfl rfl (by
            refine zx_E.go 4 (s' := (8, [some (.inr (some (25, 0, 0, 0)))], [.inl 0, .inl 0], (zx_lay (zx_up (zx_up (zx_up (zx_up (zx_up (zx_up (zx_up zM0 (17, 0, 0, 0) 0 (-1)) (19, 0, 0, 0) 0 1) (20, 0, 0, 0) 0 0) (20, 0, 0, 0) 1 0) (20, 0, 0, 0) 2 (-1)) (25, 0, 0, 0) 7 (-1)) (25, 0, 0, 0) 15 (-1)), 308))) rfl ?_
            refine zx_E.bt (c := 0 ≤ 0) (s1 := (23, [some (.inr (some (25, 0, 0, 0)))], [], (zx_lay (zx_up (zx_up (zx_up (zx_up (zx_up (zx_up (zx_up zM0 (17, 0, 0, 0) 0 (-1)) (19, 0, 0, 0) 0 1) (20, 0, 0, 0) 0 0) (20, 0, 0, 0) 1 0) (20, 0, 0, 0) 2 (-1)) (25, 0, 0, 0) 7 (-1)) (25, 0, 0, 0) 15 (-1)), 308))) (s2 := (11, [some (.inr (some (25, 0, 0, 0)))], [], (zx_lay (zx_up (zx_up (zx_up (zx_up (zx_up (zx_up (zx_up zM0 (17, 0, 0, 0) 0 (-1)) (19, 0, 0, 0) 0 1) (20, 0, 0, 0) 0 0) (20, 0, 0, 0) 1 0) (20, 0, 0, 0) 2 (-1)) (25, 0, 0, 0) 7 (-1)) (25, 0, 0, 0) 15 (-1)), 308))) rfl (by decide) ?_
            refine zx_E.go 1 (s' := (24, [some (.inr (some (25, 0, 0, 0)))], [.inl (-1)], (zx_lay (zx_up (zx_up (zx_up (zx_up (zx_up (zx_up (zx_up zM0 (17, 0, 0, 0) 0 (-1)) (19, 0, 0, 0) 0 1) (20, 0, 0, 0) 0 0) (20, 0, 0, 0) 1 0) (20, 0, 0, 0) 2 (-1)) (25, 0, 0, 0) 7 (-1)) (25, 0, 0, 0) 15 (-1)), 308))) rfl ?_
            exact zx_E.iret rfl (fun h => absurd h (by decide)) rfl)) ?_
          show zx_E _ _ _ (12, [some (.inr (some (25, 0, 0, 0))), some (.inl 76), none], [.inl (-1)], (zx_lay (zx_up (zx_up (zx_up (zx_up (zx_up (zx_up (zx_up zM0 (17, 0, 0, 0) 0 (-1)) (19, 0, 0, 0) 0 1) (20, 0, 0, 0) 0 0) (20, 0, 0, 0) 1 0) (20, 0, 0, 0) 2 (-1)) (25, 0, 0, 0) 7 (-1)) (25, 0, 0, 0) 15 (-1)), 308)) _
          refine zx_E.go 1 (s' := (13, [some (.inr (some (25, 0, 0, 0))), some (.inl 76), none], [.inl 76, .inl (-1)], (zx_lay (zx_up (zx_up (zx_up (zx_up (zx_up (zx_up (zx_up zM0 (17, 0, 0, 0) 0 (-1)) (19, 0, 0, 0) 0 1) (20, 0, 0, 0) 0 0) (20, 0, 0, 0) 1 0) (20, 0, 0, 0) 2 (-1)) (25, 0, 0, 0) 7 (-1)) (25, 0, 0, 0) 15 (-1)), 308))) rfl ?_
          refine zx_E.bf (c := (-1) = 76) (s1 := (16, [some (.inr (some (25, 0, 0, 0))), some (.inl 76), none], [], (zx_lay (zx_up (zx_up (zx_up (zx_up (zx_up (zx_up (zx_up zM0 (17, 0, 0, 0) 0 (-1)) (19, 0, 0, 0) 0 1) (20, 0, 0, 0) 0 0) (20, 0, 0, 0) 1 0) (20, 0, 0, 0) 2 (-1)) (25, 0, 0, 0) 7 (-1)) (25, 0, 0, 0) 15 (-1)), 308))) (s2 := (20, [some (.inr (some (25, 0, 0, 0))), some (.inl 76), none], [], (zx_lay (zx_up (zx_up (zx_up (zx_up (zx_up (zx_up (zx_up zM0 (17, 0, 0, 0) 0 (-1)) (19, 0, 0, 0) 0 1) (20, 0, 0, 0) 0 0) (20, 0, 0, 0) 1 0) (20, 0, 0, 0) 2 (-1)) (25, 0, 0, 0) 7 (-1)) (25, 0, 0, 0) 15 (-1)), 308))) rfl (by decide) ?_
          refine zx_E.go 6 (s' := (28, [some (.inr (some (25, 0, 0, 0))), some (.inl 76), some (.inl 0)], [.inl 0, .inl 0, .inr (some (25, 0, 0, 0))], (zx_lay (zx_up (zx_up (zx_up (zx_up (zx_up (zx_up (zx_up zM0 (17, 0, 0, 0) 0 (-1)) (19, 0, 0, 0) 0 1) (20, 0, 0, 0) 0 0) (20, 0, 0, 0) 1 0) (20, 0, 0, 0) 2 (-1)) (25, 0, 0, 0) 7 (-1)) (25, 0, 0, 0) 15 (-1)), 308))) rfl ?_
          refine zx_E.bt (c := 0 = 0) (s1 := (35, [some (.inr (some (25, 0, 0, 0))), some (.inl 76), some (.inl 0)], [.inl 0, .inr (some (25, 0, 0, 0))], (zx_lay (zx_up (zx_up (zx_up (zx_up (zx_up (zx_up (zx_up zM0 (17, 0, 0, 0) 0 (-1)) (19, 0, 0, 0) 0 1) (20, 0, 0, 0) 0 0) (20, 0, 0, 0) 1 0) (20, 0, 0, 0) 2 (-1)) (25, 0, 0, 0) 7 (-1)) (25, 0, 0, 0) 15 (-1)), 308))) (s2 := (31, [some (.inr (some (25, 0, 0, 0))), some (.inl 76), some (.inl 0)], [.inl 0, .inr (some (25, 0, 0, 0))], (zx_lay (zx_up (zx_up (zx_up (zx_up (zx_up (zx_up (zx_up zM0 (17, 0, 0, 0) 0 (-1)) (19, 0, 0, 0) 0 1) (20, 0, 0, 0) 0 0) (20, 0, 0, 0) 1 0) (20, 0, 0, 0) 2 (-1)) (25, 0, 0, 0) 7 (-1)) (25, 0, 0, 0) 15 (-1)), 308))) rfl (by decide) ?_
          refine zx_E.go 2 (s' := (37, [some (.inr (some (25, 0, 0, 0))), some (.inl 76), some (.inl 0)], [.inl 0, .inr (some (25, 0, 0, 0))], (zx_lay (zx_up (zx_up (zx_up (zx_up (zx_up (zx_up (zx_up zM0 (17, 0, 0, 0) 0 (-1)) (19, 0, 0, 0) 0 1) (20, 0, 0, 0) 0 0) (20, 0, 0, 0) 1 0) (20, 0, 0, 0) 2 (-1)) (25, 0, 0, 0) 7 (-1)) (25, 0, 0, 0) 15 (-1)), 308))) rfl ?_
          refine zx_E.putS (h := (25, 0, 0, 0)) (b := 6) rfl rfl (fun h => absurd h (by decide)) rfl ?_
          show zx_E _ _ _ (40, [some (.inr (some (25, 0, 0, 0))), some (.inl 76), some (.inl 0)], [], (zx_lay (zx_up (zx_up (zx_up (zx_up (zx_up (zx_up (zx_up zM0 (17, 0, 0, 0) 0 (-1)) (19, 0, 0, 0) 0 1) (20, 0, 0, 0) 0 0) (20, 0, 0, 0) 1 0) (20, 0, 0, 0) 2 (-1)) (25, 0, 0, 0) 7 (-1)) (25, 0, 0, 0) 15 (-1)), 308)) _
          refine zx_E.go 1 (s' := (41, [some (.inr (some (25, 0, 0, 0))), some (.inl 76), some (.inl 0)], [.inl 0], (zx_lay (zx_up (zx_up (zx_up (zx_up (zx_up (zx_up (zx_up zM0 (17, 0, 0, 0) 0 (-1)) (19, 0, 0, 0) 0 1) (20, 0, 0, 0) 0 0) (20, 0, 0, 0) 1 0) (20, 0, 0, 0) 2 (-1)) (25, 0, 0, 0) 7 (-1)) (25, 0, 0, 0) 15 (-1)), 308))) rfl ?_
          exact zx_E.iret rfl (fun _ => Or.inl rfl) rfl)) ?_
        show zx_E _ _ _ (19, [some (.inr (some (25, 0, 0, 0)))], [.inl 0], (zx_lay (zx_up (zx_up (zx_up (zx_up (zx_up (zx_up (zx_up zM0 (17, 0, 0, 0) 0 (-1)) (19, 0, 0, 0) 0 1) (20, 0, 0, 0) 0 0) (20, 0, 0, 0) 1 0) (20, 0, 0, 0) 2 (-1)) (25, 0, 0, 0) 7 (-1)) (25, 0, 0, 0) 15 (-1)), 308)) _
        refine zx_E.bt (c := 0 = 0) (s1 := (51, [some (.inr (some (25, 0, 0, 0)))], [], (zx_lay (zx_up (zx_up (zx_up (zx_up (zx_up (zx_up (zx_up zM0 (17, 0, 0, 0) 0 (-1)) (19, 0, 0, 0) 0 1) (20, 0, 0, 0) 0 0) (20, 0, 0, 0) 1 0) (20, 0, 0, 0) 2 (-1)) (25, 0, 0, 0) 7 (-1)) (25, 0, 0, 0) 15 (-1)), 308))) (s2 := (22, [some (.inr (some (25, 0, 0, 0)))], [], (zx_lay (zx_up (zx_up (zx_up (zx_up (zx_up (zx_up (zx_up zM0 (17, 0, 0, 0) 0 (-1)) (19, 0, 0, 0) 0 1) (20, 0, 0, 0) 0 0) (20, 0, 0, 0) 1 0) (20, 0, 0, 0) 2 (-1)) (25, 0, 0, 0) 7 (-1)) (25, 0, 0, 0) 15 (-1)), 308))) rfl (by decide) ?_
        refine zx_E.go 2 (s' := (54, [some (.inr (some (25, 0, 0, 0)))], [.inl 83, .inr (some (25, 0, 0, 0))], (zx_lay (zx_up (zx_up (zx_up (zx_up (zx_up (zx_up (zx_up zM0 (17, 0, 0, 0) 0 (-1)) (19, 0, 0, 0) 0 1) (20, 0, 0, 0) 0 0) (20, 0, 0, 0) 1 0) (20, 0, 0, 0) 2 (-1)) (25, 0, 0, 0) 7 (-1)) (25, 0, 0, 0) 15 (-1)), 308))) rfl ?_
        refine zx_E.call1 (y := 154) (as := [.inr (some (25, 0, 0, 0)), .inl 83]) (rest := []) (v := .inl 0) (μ' := (zx_lay (zx_up (zx_up (zx_up (zx_up (zx_up (zx_up (zx_up zM0 (17, 0, 0, 0) 0 (-1)) (19, 0, 0, 0) 0 1) (20, 0, 0, 0) 0 0) (20, 0, 0, 0) 1 0) (20, 0, 0, 0) 2 (-1)) (25, 0, 0, 0) 7 (-1)) (25, 0, 0, 0) 15 (-1)), 308)) rfl (zx_run_of zc_X11_goes [some (.inr (some (25, 0, 0, 0))), some (.inl 83), none] rfl rfl (by
          refine zx_E.go 3 (s' := (5, [some (.inr (some (25, 0, 0, 0))), some (.inl 83), none], [.inl (-1), .inl (-1)], (zx_lay (zx_up (zx_up (zx_up (zx_up (zx_up (zx_up (zx_up zM0 (17, 0, 0, 0) 0 (-1)) (19, 0, 0, 0) 0 1) (20, 0, 0, 0) 0 0) (20, 0, 0, 0) 1 0) (20, 0, 0, 0) 2 (-1)) (25, 0, 0, 0) 7 (-1)) (25, 0, 0, 0) 15 (-1)), 308))) rfl ?_
          refine zx_E.bt (c := (-1) = (-1)) (s1 := (8, [some (.inr (some (25, 0, 0, 0))), some (.inl 83), none], [], (zx_lay (zx_up (zx_up (zx_up (zx_up (zx_up (zx_up (zx_up zM0 (17, 0, 0, 0) 0 (-1)) (19, 0, 0, 0) 0 1) (20, 0, 0, 0) 0 0) (20, 0, 0, 0) 1 0) (20, 0, 0, 0) 2 (-1)) (25, 0, 0, 0) 7 (-1)) (25, 0, 0, 0) 15 (-1)), 308))) (s2 := (20, [some (.inr (some (25, 0, 0, 0))), some (.inl 83), none], [], (zx_lay (zx_up (zx_up (zx_up (zx_up (zx_up (zx_up (zx_up zM0 (17, 0, 0, 0) 0 (-1)) (19, 0, 0, 0) 0 1) (20, 0, 0, 0) 0 0) (20, 0, 0, 0) 1 0) (20, 0, 0, 0) 2 (-1)) (25, 0, 0, 0) 7 (-1)) (25, 0, 0, 0) 15 (-1)), 308))) rfl (by decide) ?_
          refine zx_E.go 1 (s' := (9, [some (.inr (some (25, 0, 0, 0))), some (.inl 83), none], [.inr (some (25, 0, 0, 0))], (zx_lay (zx_up (zx_up (zx_up (zx_up (zx_up (zx_up (zx_up zM0 (17, 0, 0, 0) 0 (-1)) (19, 0, 0, 0) 0 1) (20, 0, 0, 0) 0 0) (20, 0, 0, 0) 1 0) (20, 0, 0, 0) 2 (-1)) (25, 0, 0, 0) 7 (-1)) (25, 0, 0, 0) 15 (-1)), 308))) rfl ?_
          refine zx_E.call1 (y := 152) (as := [.inr (some (25, 0, 0, 0))]) (rest := []) (v := .inl (-1)) (μ' := (zx_lay (zx_up (zx_up (zx_up (zx_up (zx_up (zx_up (zx_up zM0 (17, 0, 0, 0) 0 (-1)) (19, 0, 0, 0) 0 1) (20, 0, 0, 0) 0 0) (20, 0, 0, 0) 1 0) (20, 0, 0, 0) 2 (-1)) (25, 0, 0, 0) 7 (-1)) (25, 0, 0, 0) 15 (-1)), 308)) rfl (zx_run_of zc_X11_sign [some (.inr (some (25, 0, 0, 0)))] rfl rfl (by
            refine zx_E.go 4 (s' := (8, [some (.inr (some (25, 0, 0, 0)))], [.inl 0, .inl 0], (zx_lay (zx_up (zx_up (zx_up (zx_up (zx_up (zx_up (zx_up zM0 (17, 0, 0, 0) 0 (-1)) (19, 0, 0, 0) 0 1) (20, 0, 0, 0) 0 0) (20, 0, 0, 0) 1 0) (20, 0, 0, 0) 2 (-1)) (25, 0, 0, 0) 7 (-1)) (25, 0, 0, 0) 15 (-1)), 308))) rfl ?_
            refine zx_E.bt (c := 0 ≤ 0) (s1 := (23, [some (.inr (some (25, 0, 0, 0)))], [], (zx_lay (zx_up (zx_up (zx_up (zx_up (zx_up (zx_up (zx_up zM0 (17, 0, 0, 0) 0 (-1)) (19, 0, 0, 0) 0 1) (20, 0, 0, 0) 0 0) (20, 0, 0, 0) 1 0) (20, 0, 0, 0) 2 (-1)) (25, 0, 0, 0) 7 (-1)) (25, 0, 0, 0) 15 (-1)), 308))) (s2 := (11, [some (.inr (some (25, 0, 0, 0)))], [], (zx_lay (zx_up (zx_up (zx_up (zx_up (zx_up (zx_up (zx_up zM0 (17, 0, 0, 0) 0 (-1)) (19, 0, 0, 0) 0 1) (20, 0, 0, 0) 0 0) (20, 0, 0, 0) 1 0) (20, 0, 0, 0) 2 (-1)) (25, 0, 0, 0) 7 (-1)) (25, 0, 0, 0) 15 (-1)), 308))) rfl (by decide) ?_
            refine zx_E.go 1 (s' := (24, [some (.inr (some (25, 0, 0, 0)))], [.inl (-1)], (zx_lay (zx_up (zx_up (zx_up (zx_up (zx_up (zx_up (zx_up zM0 (17, 0, 0, 0) 0 (-1)) (19, 0, 0, 0) 0 1) (20, 0, 0, 0) 0 0) (20, 0, 0, 0) 1 0) (20, 0, 0, 0) 2 (-1)) (25, 0, 0, 0) 7 (-1)) (25, 0, 0, 0) 15 (-1)), 308))) rfl ?_
            exact zx_E.iret rfl (fun h => absurd h (by decide)) rfl)) ?_
          show zx_E _ _ _ (12, [some (.inr (some (25, 0, 0, 0))), some (.inl 83), none], [.inl (-1)], (zx_lay (zx_up (zx_up (zx_up (zx_up (zx_up (zx_up (zx_up zM0 (17, 0, 0, 0) 0 (-1)) (19, 0, 0, 0) 0 1) (20, 0, 0, 0) 0 0) (20, 0, 0, 0) 1 0) (20, 0, 0, 0) 2 (-1)) (25, 0, 0, 0) 7 (-1)) (25, 0, 0, 0) 15 (-1)), 308)) _
          refine zx_E.go 1 (s' := (13, [some (.inr (some (25, 0, 0, 0))), some (.inl 83), none], [.inl 83, .inl (-1)], (zx_lay (zx_up (zx_up (zx_up (zx_up (zx_up (zx_up (zx_up zM0 (17, 0, 0, 0) 0 (-1)) (19, 0, 0, 0) 0 1) (20, 0, 0, 0) 0 0) (20, 0, 0, 0) 1 0) (20, 0, 0, 0) 2 (-1)) (25, 0, 0, 0) 7 (-1)) (25, 0, 0, 0) 15 (-1)), 308))) rfl ?_
          refine zx_E.bf (c := (-1) = 83) (s1 := (16, [some (.inr (some (25, 0, 0, 0))), some (.inl 83), none], [], (zx_lay (zx_up (zx_up (zx_up (zx_up (zx_up (zx_up (zx_up zM0 (17, 0, 0, 0) 0 (-1)) (19, 0, 0, 0) 0 1) (20, 0, 0, 0) 0 0) (20, 0, 0, 0) 1 0) (20, 0, 0, 0) 2 (-1)) (25, 0, 0, 0) 7 (-1)) (25, 0, 0, 0) 15 (-1)), 308))) (s2 := (20, [some (.inr (some (25, 0, 0, 0))), some (.inl 83), none], [], (zx_lay (zx_up (zx_up (zx_up (zx_up (zx_up (zx_up (zx_up zM0 (17, 0, 0, 0) 0 (-1)) (19, 0, 0, 0) 0 1) (20, 0, 0, 0) 0 0) (20, 0, 0, 0) 1 0) (20, 0, 0, 0) 2 (-1)) (25, 0, 0, 0) 7 (-1)) (25, 0, 0, 0) 15 (-1)), 308))) rfl (by decide) ?_
          refine zx_E.go 6 (s' := (28, [some (.inr (some (25, 0, 0, 0))), some (.inl 83), some (.inl 0)], [.inl 0, .inl 0, .inr (some (25, 0, 0, 0))], (zx_lay (zx_up (zx_up (zx_up (zx_up (zx_up (zx_up (zx_up zM0 (17, 0, 0, 0) 0 (-1)) (19, 0, 0, 0) 0 1) (20, 0, 0, 0) 0 0) (20, 0, 0, 0) 1 0) (20, 0, 0, 0) 2 (-1)) (25, 0, 0, 0) 7 (-1)) (25, 0, 0, 0) 15 (-1)), 308))) rfl ?_
          refine zx_E.bt (c := 0 = 0) (s1 := (35, [some (.inr (some (25, 0, 0, 0))), some (.inl 83), some (.inl 0)], [.inl 0, .inr (some (25, 0, 0, 0))], (zx_lay (zx_up (zx_up (zx_up (zx_up (zx_up (zx_up (zx_up zM0 (17, 0, 0, 0) 0 (-1)) (19, 0, 0, 0) 0 1) (20, 0, 0, 0) 0 0) (20, 0, 0, 0) 1 0) (20, 0, 0, 0) 2 (-1)) (25, 0, 0, 0) 7 (-1)) (25, 0, 0, 0) 15 (-1)), 308))) (s2 := (31, [some (.inr (some (25, 0, 0, 0))), some (.inl 83), some (.inl 0)], [.inl 0, .inr (some (25, 0, 0, 0))], (zx_lay (zx_up (zx_up (zx_up (zx_up (zx_up (zx_up (zx_up zM0 (17, 0, 0, 0) 0 (-1)) (19, 0, 0, 0) 0 1) (20, 0, 0, 0) 0 0) (20, 0, 0, 0) 1 0) (20, 0, 0, 0) 2 (-1)) (25, 0, 0, 0) 7 (-1)) (25, 0, 0, 0) 15 (-1)), 308))) rfl (by decide) ?_
          refine zx_E.go 2 (s' := (37, [some (.inr (some (25, 0, 0, 0))), some (.inl 83), some (.inl 0)], [.inl 0, .inr (some (25, 0, 0, 0))], (zx_lay (zx_up (zx_up (zx_up (zx_up (zx_up (zx_up (zx_up zM0 (17, 0, 0, 0) 0 (-1)) (19, 0, 0, 0) 0 1) (20, 0, 0, 0) 0 0) (20, 0, 0, 0) 1 0) (20, 0, 0, 0) 2 (-1)) (25, 0, 0, 0) 7 (-1)) (25, 0, 0, 0) 15 (-1)), 308))) rfl ?_
          refine zx_E.putS (h := (25, 0, 0, 0)) (b := 6) rfl rfl (fun h => absurd h (by decide)) rfl ?_
          show zx_E _ _ _ (40, [some (.inr (some (25, 0, 0, 0))), some (.inl 83), some (.inl 0)], [], (zx_lay (zx_up (zx_up (zx_up (zx_up (zx_up (zx_up (zx_up zM0 (17, 0, 0, 0) 0 (-1)) (19, 0, 0, 0) 0 1) (20, 0, 0, 0) 0 0) (20, 0, 0, 0) 1 0) (20, 0, 0, 0) 2 (-1)) (25, 0, 0, 0) 7 (-1)) (25, 0, 0, 0) 15 (-1)), 308)) _
          refine zx_E.go 1 (s' := (41, [some (.inr (some (25, 0, 0, 0))), some (.inl 83), some (.inl 0)], [.inl 0], (zx_lay (zx_up (zx_up (zx_up (zx_up (zx_up (zx_up (zx_up zM0 (17, 0, 0, 0) 0 (-1)) (19, 0, 0, 0) 0 1) (20, 0, 0, 0) 0 0) (20, 0, 0, 0) 1 0) (20, 0, 0, 0) 2 (-1)) (25, 0, 0, 0) 7 (-1)) (25, 0, 0, 0) 15 (-1)), 308))) rfl ?_
          exact zx_E.iret rfl (fun _ => Or.inl rfl) rfl)) ?_
        show zx_E _ _ _ (57, [some (.inr (some (25, 0, 0, 0)))], [.inl 0], (zx_lay (zx_up (zx_up (zx_up (zx_up (zx_up (zx_up (zx_up zM0 (17, 0, 0, 0) 0 (-1)) (19, 0, 0, 0) 0 1) (20, 0, 0, 0) 0 0) (20, 0, 0, 0) 1 0) (20, 0, 0, 0) 2 (-1)) (25, 0, 0, 0) 7 (-1)) (25, 0, 0, 0) 15 (-1)), 308)) _
        refine zx_E.bt (c := 0 = 0) (s1 := (99, [some (.inr (some (25, 0, 0, 0)))], [], (zx_lay (zx_up (zx_up (zx_up (zx_up (zx_up (zx_up (zx_up zM0 (17, 0, 0, 0) 0 (-1)) (19, 0, 0, 0) 0 1) (20, 0, 0, 0) 0 0) (20, 0, 0, 0) 1 0) (20, 0, 0, 0) 2 (-1)) (25, 0, 0, 0) 7 (-1)) (25, 0, 0, 0) 15 (-1)), 308))) (s2 := (60, [some (.inr (some (25, 0, 0, 0)))], [], (zx_lay (zx_up (zx_up (zx_up (zx_up (zx_up (zx_up (zx_up zM0 (17, 0, 0, 0) 0 (-1)) (19, 0, 0, 0) 0 1) (20, 0, 0, 0) 0 0) (20, 0, 0, 0) 1 0) (20, 0, 0, 0) 2 (-1)) (25, 0, 0, 0) 7 (-1)) (25, 0, 0, 0) 15 (-1)), 308))) rfl (by decide) ?_
        refine zx_E.go 2 (s' := (102, [some (.inr (some (25, 0, 0, 0)))], [.inl 84, .inr (some (25, 0, 0, 0))], (zx_lay (zx_up (zx_up (zx_up (zx_up (zx_up (zx_up (zx_up zM0 (17, 0, 0, 0) 0 (-1)) (19, 0, 0, 0) 0 1) (20, 0, 0, 0) 0 0) (20, 0, 0, 0) 1 0) (20, 0, 0, 0) 2 (-1)) (25, 0, 0, 0) 7 (-1)) (25, 0, 0, 0) 15 (-1)), 308))) rfl ?_
        refine zx_E.call1 (y := 154) (as := [.inr (some (25, 0, 0, 0)), .inl 84]) (rest := []) (v := .inl 0) (μ' := (zx_lay (zx_up (zx_up (zx_up (zx_up (zx_up (zx_up (zx_up zM0 (17, 0, 0, 0) 0 (-1)) (19, 0, 0, 0) 0 1) (20, 0, 0, 0) 0 0) (20, 0, 0, 0) 1 0) (20, 0, 0, 0) 2 (-1)) (25, 0, 0, 0) 7 (-1)) (25, 0, 0, 0) 15 (-1)), 308)) rfl (zx_run_of zc_X11_goes [some (.inr (some (25, 0, 0, 0))), some (.inl 84), none] rfl rfl (by
          refine zx_E.go 3 (s' := (5, [some (.inr (some (25, 0, 0, 0))), some (.inl 84), none], [.inl (-1), .inl (-1)], (zx_lay (zx_up (zx_up (zx_up (zx_up (zx_up (zx_up (zx_up zM0 (17, 0, 0, 0) 0 (-1)) (19, 0, 0, 0) 0 1) (20, 0, 0, 0) 0 0) (20, 0, 0, 0) 1 0) (20, 0, 0, 0) 2 (-1)) (25, 0, 0, 0) 7 (-1)) (25, 0, 0, 0) 15 (-1)), 308))) rfl ?_
          refine zx_E.bt (c := (-1) = (-1)) (s1 := (8, [some (.inr (some (25, 0, 0, 0))), some (.inl 84), none], [], (zx_lay (zx_up (zx_up (zx_up (zx_up (zx_up (zx_up (zx_up zM0 (17, 0, 0, 0) 0 (-1)) (19, 0, 0, 0) 0 1) (20, 0, 0, 0) 0 0) (20, 0, 0, 0) 1 0) (20, 0, 0, 0) 2 (-1)) (25, 0, 0, 0) 7 (-1)) (25, 0, 0, 0) 15 (-1)), 308))) (s2 := (20, [some (.inr (some (25, 0, 0, 0))), some (.inl 84), none], [], (zx_lay (zx_up (zx_up (zx_up (zx_up (zx_up (zx_up (zx_up zM0 (17, 0, 0, 0) 0 (-1)) (19, 0, 0, 0) 0 1) (20, 0, 0, 0) 0 0) (20, 0, 0, 0) 1 0) (20, 0, 0, 0) 2 (-1)) (25, 0, 0, 0) 7 (-1)) (25, 0, 0, 0) 15 (-1)), 308))) rfl (by decide) ?_
          refine zx_E.go 1 (s' := (9, [some (.inr (some (25, 0, 0, 0))), some (.inl 84), none], [.inr (some (25, 0, 0, 0))], (zx_lay (zx_up (zx_up (zx_up (zx_up (zx_up (zx_up (zx_up zM0 (17, 0, 0, 0) 0 (-1)) (19, 0, 0, 0) 0 1) (20, 0, 0, 0) 0 0) (20, 0, 0, 0) 1 0) (20, 0, 0, 0) 2 (-1)) (25, 0, 0, 0) 7 (-1)) (25, 0, 0, 0) 15 (-1)), 308))) rfl ?_
          refine zx_E.call1 (y := 152) (as := [.inr (some (25, 0, 0, 0))]) (rest := []) (v := .inl (-1)) (μ' := (zx_lay (zx_up (zx_up (zx_up (zx_up (zx_up (zx_up (zx_up zM0 (17, 0, 0, 0) 0 (-1)) (19, 0, 0, 0) 0 1) (20, 0, 0, 0) 0 0) (20, 0, 0, 0) 1 0) (20, 0, 0, 0) 2 (-1)) (25, 0, 0, 0) 7 (-1)) (25, 0, 0, 0) 15 (-1)), 308)) rfl (zx_run_of zc_X11_sign [some (.inr (some (25, 0, 0, 0)))] rfl rfl (by
            refine zx_E.go 4 (s' := (8, [some (.inr (some (25, 0, 0, 0)))], [.inl 0, .inl 0], (zx_lay (zx_up (zx_up (zx_up (zx_up (zx_up (zx_up (zx_up zM0 (17, 0, 0, 0) 0 (-1)) (19, 0, 0, 0) 0 1) (20, 0, 0, 0) 0 0) (20, 0, 0, 0) 1 0) (20, 0, 0, 0) 2 (-1)) (25, 0, 0, 0) 7 (-1)) (25, 0, 0, 0) 15 (-1)), 308))) rfl ?_
            refine zx_E.bt (c := 0 ≤ 0) (s1 := (23, [some (.inr (some (25, 0, 0, 0)))], [], (zx_lay (zx_up (zx_up (zx_up (zx_up (zx_up (zx_up (zx_up zM0 (17, 0, 0, 0) 0 (-1)) (19, 0, 0, 0) 0 1) (20, 0, 0, 0) 0 0) (20, 0, 0, 0) 1 0) (20, 0, 0, 0) 2 (-1)) (25, 0, 0, 0) 7 (-1)) (25, 0, 0, 0) 15 (-1)), 308))) (s2 := (11, [some (.inr (some (25, 0, 0, 0)))], [], (zx_lay (zx_up (zx_up (zx_up (zx_up (zx_up (zx_up (zx_up zM0 (17, 0, 0, 0) 0 (-1)) (19, 0, 0, 0) 0 1) (20, 0, 0, 0) 0 0) (20, 0, 0, 0) 1 0) (20, 0, 0, 0) 2 (-1)) (25, 0, 0, 0) 7 (-1)) (25, 0, 0, 0) 15 (-1)), 308))) rfl (by decide) ?_
            refine zx_E.go 1 (s' := (24, [some (.inr (some (25, 0, 0, 0)))], [.inl (-1)], (zx_lay (zx_up (zx_up (zx_up (zx_up (zx_up (zx_up (zx_up zM0 (17, 0, 0, 0) 0 (-1)) (19, 0, 0, 0) 0 1) (20, 0, 0, 0) 0 0) (20, 0, 0, 0) 1 0) (20, 0, 0, 0) 2 (-1)) (25, 0, 0, 0) 7 (-1)) (25, 0, 0, 0) 15 (-1)), 308))) rfl ?_
            exact zx_E.iret rfl (fun h => absurd h (by decide)) rfl)) ?_
          show zx_E _ _ _ (12, [some (.inr (some (25, 0, 0, 0))), some (.inl 84), none], [.inl (-1)], (zx_lay (zx_up (zx_up (zx_up (zx_up (zx_up (zx_up (zx_up zM0 (17, 0, 0, 0) 0 (-1)) (19, 0, 0, 0) 0 1) (20, 0, 0, 0) 0 0) (20, 0, 0, 0) 1 0) (20, 0, 0, 0) 2 (-1)) (25, 0, 0, 0) 7 (-1)) (25, 0, 0, 0) 15 (-1)), 308)) _
          refine zx_E.go 1 (s' := (13, [some (.inr (some (25, 0, 0, 0))), some (.inl 84), none], [.inl 84, .inl (-1)], (zx_lay (zx_up (zx_up (zx_up (zx_up (zx_up (zx_up (zx_up zM0 (17, 0, 0, 0) 0 (-1)) (19, 0, 0, 0) 0 1) (20, 0, 0, 0) 0 0) (20, 0, 0, 0) 1 0) (20, 0, 0, 0) 2 (-1)) (25, 0, 0, 0) 7 (-1)) (25, 0, 0, 0) 15 (-1)), 308))) rfl ?_
          refine zx_E.bf (c := (-1) = 84) (s1 := (16, [some (.inr (some (25, 0, 0, 0))), some (.inl 84), none], [], (zx_lay (zx_up (zx_up (zx_up (zx_up (zx_up (zx_up (zx_up zM0 (17, 0, 0, 0) 0 (-1)) (19, 0, 0, 0) 0 1) (20, 0, 0, 0) 0 0) (20, 0, 0, 0) 1 0) (20, 0, 0, 0) 2 (-1)) (25, 0, 0, 0) 7 (-1)) (25, 0, 0, 0) 15 (-1)), 308))) (s2 := (20, [some (.inr (some (25, 0, 0, 0))), some (.inl 84), none], [], (zx_lay (zx_up (zx_up (zx_up (zx_up (zx_up (zx_up (zx_up zM0 (17, 0, 0, 0) 0 (-1)) (19, 0, 0, 0) 0 1) (20, 0, 0, 0) 0 0) (20, 0, 0, 0) 1 0) (20, 0, 0, 0) 2 (-1)) (25, 0, 0, 0) 7 (-1)) (25, 0, 0, 0) 15 (-1)), 308))) rfl (by decide) ?_
          refine zx_E.go 6 (s' := (28, [some (.inr (some (25, 0, 0, 0))), some (.inl 84), some (.inl 0)], [.inl 0, .inl 0, .inr (some (25, 0, 0, 0))], (zx_lay (zx_up (zx_up (zx_up (zx_up (zx_up (zx_up (zx_up zM0 (17, 0, 0, 0) 0 (-1)) (19, 0, 0, 0) 0 1) (20, 0, 0, 0) 0 0) (20, 0, 0, 0) 1 0) (20, 0, 0, 0) 2 (-1)) (25, 0, 0, 0) 7 (-1)) (25, 0, 0, 0) 15 (-1)), 308))) rfl ?_
          refine zx_E.bt (c := 0 = 0) (s1 := (35, [some (.inr (some (25, 0, 0, 0))), some (.inl 84), some (.inl 0)], [.inl 0, .inr (some (25, 0, 0, 0))], (zx_lay (zx_up (zx_up (zx_up (zx_up (zx_up (zx_up (zx_up zM0 (17, 0, 0, 0) 0 (-1)) (19, 0, 0, 0) 0 1) (20, 0, 0, 0) 0 0) (20, 0, 0, 0) 1 0) (20, 0, 0, 0) 2 (-1)) (25, 0, 0, 0) 7 (-1)) (25, 0, 0, 0) 15 (-1)), 308))) (s2 := (31, [some (.inr (some (25, 0, 0, 0))), some (.inl 84), some (.inl 0)], [.inl 0, .inr (some (25, 0, 0, 0))], (zx_lay (zx_up (zx_up (zx_up (zx_up (zx_up (zx_up (zx_up zM0 (17, 0, 0, 0) 0 (-1)) (19, 0, 0, 0) 0 1) (20, 0, 0, 0) 0 0) (20, 0, 0, 0) 1 0) (20, 0, 0, 0) 2 (-1)) (25, 0, 0, 0) 7 (-1)) (25, 0, 0, 0) 15 (-1)), 308))) rfl (by decide) ?_
          refine zx_E.go 2 (s' := (37, [some (.inr (some (25, 0, 0, 0))), some (.inl 84), some (.inl 0)], [.inl 0, .inr (some (25, 0, 0, 0))], (zx_lay (zx_up (zx_up (zx_up (zx_up (zx_up (zx_up (zx_up zM0 (17, 0, 0, 0) 0 (-1)) (19, 0, 0, 0) 0 1) (20, 0, 0, 0) 0 0) (20, 0, 0, 0) 1 0) (20, 0, 0, 0) 2 (-1)) (25, 0, 0, 0) 7 (-1)) (25, 0, 0, 0) 15 (-1)), 308))) rfl ?_
          refine zx_E.putS (h := (25, 0, 0, 0)) (b := 6) rfl rfl (fun h => absurd h (by decide)) rfl ?_
          show zx_E _ _ _ (40, [some (.inr (some (25, 0, 0, 0))), some (.inl 84), some (.inl 0)], [], (zx_lay (zx_up (zx_up (zx_up (zx_up (zx_up (zx_up (zx_up zM0 (17, 0, 0, 0) 0 (-1)) (19, 0, 0, 0) 0 1) (20, 0, 0, 0) 0 0) (20, 0, 0, 0) 1 0) (20, 0, 0, 0) 2 (-1)) (25, 0, 0, 0) 7 (-1)) (25, 0, 0, 0) 15 (-1)), 308)) _
          refine zx_E.go 1 (s' := (41, [some (.inr (some (25, 0, 0, 0))), some (.inl 84), some (.inl 0)], [.inl 0], (zx_lay (zx_up (zx_up (zx_up (zx_up (zx_up (zx_up (zx_up zM0 (17, 0, 0, 0) 0 (-1)) (19, 0, 0, 0) 0 1) (20, 0, 0, 0) 0 0) (20, 0, 0, 0) 1 0) (20, 0, 0, 0) 2 (-1)) (25, 0, 0, 0) 7 (-1)) (25, 0, 0, 0) 15 (-1)), 308))) rfl ?_
          exact zx_E.iret rfl (fun _ => Or.inl rfl) rfl)) ?_
        show zx_E _ _ _ (105, [some (.inr (some (25, 0, 0, 0)))], [.inl 0], (zx_lay (zx_up (zx_up (zx_up (zx_up (zx_up (zx_up (zx_up zM0 (17, 0, 0, 0) 0 (-1)) (19, 0, 0, 0) 0 1) (20, 0, 0, 0) 0 0) (20, 0, 0, 0) 1 0) (20, 0, 0, 0) 2 (-1)) (25, 0, 0, 0) 7 (-1)) (25, 0, 0, 0) 15 (-1)), 308)) _
        refine zx_E.bt (c := 0 = 0) (s1 := (155, [some (.inr (some (25, 0, 0, 0)))], [], (zx_lay (zx_up (zx_up (zx_up (zx_up (zx_up (zx_up (zx_up zM0 (17, 0, 0, 0) 0 (-1)) (19, 0, 0, 0) 0 1) (20, 0, 0, 0) 0 0) (20, 0, 0, 0) 1 0) (20, 0, 0, 0) 2 (-1)) (25, 0, 0, 0) 7 (-1)) (25, 0, 0, 0) 15 (-1)), 308))) (s2 := (108, [some (.inr (some (25, 0, 0, 0)))], [], (zx_lay (zx_up (zx_up (zx_up (zx_up (zx_up (zx_up (zx_up zM0 (17, 0, 0, 0) 0 (-1)) (19, 0, 0, 0) 0 1) (20, 0, 0, 0) 0 0) (20, 0, 0, 0) 1 0) (20, 0, 0, 0) 2 (-1)) (25, 0, 0, 0) 7 (-1)) (25, 0, 0, 0) 15 (-1)), 308))) rfl (by decide) ?_
        refine zx_E.go 2 (s' := (158, [some (.inr (some (25, 0, 0, 0)))], [.inl 79, .inr (some (25, 0, 0, 0))], (zx_lay (zx_up (zx_up (zx_up (zx_up (zx_up (zx_up (zx_up zM0 (17, 0, 0, 0) 0 (-1)) (19, 0, 0, 0) 0 1) (20, 0, 0, 0) 0 0) (20, 0, 0, 0) 1 0) (20, 0, 0, 0) 2 (-1)) (25, 0, 0, 0) 7 (-1)) (25, 0, 0, 0) 15 (-1)), 308))) rfl ?_
        refine zx_E.call1 (y := 154) (as := [.inr (some (25, 0, 0, 0)), .inl 79]) (rest := []) (v := .inl 0) (μ' := (zx_lay (zx_up (zx_up (zx_up (zx_up (zx_up (zx_up (zx_up zM0 (17, 0, 0, 0) 0 (-1)) (19, 0, 0, 0) 0 1) (20, 0, 0, 0) 0 0) (20, 0, 0, 0) 1 0) (20, 0, 0, 0) 2 (-1)) (25, 0, 0, 0) 7 (-1)) (25, 0, 0, 0) 15 (-1)), 308)) rfl (zx_run_of zc_X11_goes [some (.inr (some (25, 0, 0, 0))), some (.inl 79), none] rfl rfl (by
          refine zx_E.go 3 (s' := (5, [some (.inr (some (25, 0, 0, 0))), some (.inl 79), none], [.inl (-1), .inl (-1)], (zx_lay (zx_up (zx_up (zx_up (zx_up (zx_up (zx_up (zx_up zM0 (17, 0, 0, 0) 0 (-1)) (19, 0, 0, 0) 0 1) (20, 0, 0, 0) 0 0) (20, 0, 0, 0) 1 0) (20, 0, 0, 0) 2 (-1)) (25, 0, 0, 0) 7 (-1)) (25, 0, 0, 0) 15 (-1)), 308))) rfl ?_
          refine zx_E.bt (c := (-1) = (-1)) (s1 := (8, [some (.inr (some (25, 0, 0, 0))), some (.inl 79), none], [], (zx_lay (zx_up (zx_up (zx_up (zx_up (zx_up (zx_up (zx_up zM0 (17, 0, 0, 0) 0 (-1)) (19, 0, 0, 0) 0 1) (20, 0, 0, 0) 0 0) (20, 0, 0, 0) 1 0) (20, 0, 0, 0) 2 (-1)) (25, 0, 0, 0) 7 (-1)) (25, 0, 0, 0) 15 (-1)), 308))) (s2 := (20, [some (.inr (some (25, 0, 0, 0))), some (.inl 79), none], [], (zx_lay (zx_up (zx_up (zx_up (zx_up (zx_up (zx_up (zx_up zM0 (17, 0, 0, 0) 0 (-1)) (19, 0, 0, 0) 0 1) (20, 0, 0, 0) 0 0) (20, 0, 0, 0) 1 0) (20, 0, 0, 0) 2 (-1)) (25, 0, 0, 0) 7 (-1)) (25, 0, 0, 0) 15 (-1)), 308))) rfl (by decide) ?_
          refine zx_E.go 1 (s' := (9, [some (.inr (some (25, 0, 0, 0))), some (.inl 79), none], [.inr (some (25, 0, 0, 0))], (zx_lay (zx_up (zx_up (zx_up (zx_up (zx_up (zx_up (zx_up zM0 (17, 0, 0, 0) 0 (-1)) (19, 0, 0, 0) 0 1) (20, 0, 0, 0) 0 0) (20, 0, 0, 0) 1 0) (20, 0, 0, 0) 2 (-1)) (25, 0, 0, 0) 7 (-1)) (25, 0, 0, 0) 15 (-1)), 308))) rfl ?_
          refine zx_E.call1 (y := 152) (as := [.inr (some (25, 0, 0, 0))]) (rest := []) (v := .inl (-1)) (μ' := (zx_lay (zx_up (zx_up (zx_up (zx_up (zx_up (zx_up (zx_up zM0 (17, 0, 0, 0) 0 (-1)) (19, 0, 0, 0) 0 1) (20, 0, 0, 0) 0 0) (20, 0, 0, 0) 1 0) (20, 0, 0, 0) 2 (-1)) (25, 0, 0, 0) 7 (-1)) (25, 0, 0, 0) 15 (-1)), 308)) rfl (zx_run_of zc_X11_sign [some (.inr (some (25, 0, 0, 0)))] rfl rfl (by
            refine zx_E.go 4 (s' := (8, [some (.inr (some (25, 0, 0, 0)))], [.inl 0, .inl 0], (zx_lay (zx_up (zx_up (zx_up (zx_up (zx_up (zx_up (zx_up zM0 (17, 0, 0, 0) 0 (-1)) (19, 0, 0, 0) 0 1) (20, 0, 0, 0) 0 0) (20, 0, 0, 0) 1 0) (20, 0, 0, 0) 2 (-1)) (25, 0, 0, 0) 7 (-1)) (25, 0, 0, 0) 15 (-1)), 308))) rfl ?_
            refine zx_E.bt (c := 0 ≤ 0) (s1 := (23, [some (.inr (some (25, 0, 0, 0)))], [], (zx_lay (zx_up (zx_up (zx_up (zx_up (zx_up (zx_up (zx_up zM0 (17, 0, 0, 0) 0 (-1)) (19, 0, 0, 0) 0 1) (20, 0, 0, 0) 0 0) (20, 0, 0, 0) 1 0) (20, 0, 0, 0) 2 (-1)) (25, 0, 0, 0) 7 (-1)) (25, 0, 0, 0) 15 (-1)), 308))) (s2 := (11, [some (.inr (some (25, 0, 0, 0)))], [], (zx_lay (zx_up (zx_up (zx_up (zx_up (zx_up (zx_up (zx_up zM0 (17, 0, 0, 0) 0 (-1)) (19, 0, 0, 0) 0 1) (20, 0, 0, 0) 0 0) (20, 0, 0, 0) 1 0) (20, 0, 0, 0) 2 (-1)) (25, 0, 0, 0) 7 (-1)) (25, 0, 0, 0) 15 (-1)), 308))) rfl (by decide) ?_
            refine zx_E.go 1 (s' := (24, [some (.inr (some (25, 0, 0, 0)))], [.inl (-1)], (zx_lay (zx_up (zx_up (zx_up (zx_up (zx_up (zx_up (zx_up zM0 (17, 0, 0, 0) 0 (-1)) (19, 0, 0, 0) 0 1) (20, 0, 0, 0) 0 0) (20, 0, 0, 0) 1 0) (20, 0, 0, 0) 2 (-1)) (25, 0, 0, 0) 7 (-1)) (25, 0, 0, 0) 15 (-1)), 308))) rfl ?_
            exact zx_E.iret rfl (fun h => absurd h (by decide)) rfl)) ?_
          show zx_E _ _ _ (12, [some (.inr (some (25, 0, 0, 0))), some (.inl 79), none], [.inl (-1)], (zx_lay (zx_up (zx_up (zx_up (zx_up (zx_up (zx_up (zx_up zM0 (17, 0, 0, 0) 0 (-1)) (19, 0, 0, 0) 0 1) (20, 0, 0, 0) 0 0) (20, 0, 0, 0) 1 0) (20, 0, 0, 0) 2 (-1)) (25, 0, 0, 0) 7 (-1)) (25, 0, 0, 0) 15 (-1)), 308)) _
          refine zx_E.go 1 (s' := (13, [some (.inr (some (25, 0, 0, 0))), some (.inl 79), none], [.inl 79, .inl (-1)], (zx_lay (zx_up (zx_up (zx_up (zx_up (zx_up (zx_up (zx_up zM0 (17, 0, 0, 0) 0 (-1)) (19, 0, 0, 0) 0 1) (20, 0, 0, 0) 0 0) (20, 0, 0, 0) 1 0) (20, 0, 0, 0) 2 (-1)) (25, 0, 0, 0) 7 (-1)) (25, 0, 0, 0) 15 (-1)), 308))) rfl ?_
          refine zx_E.bf (c := (-1) = 79) (s1 := (16, [some (.inr (some (25, 0, 0, 0))), some (.inl 79), none], [], (zx_lay (zx_up (zx_up (zx_up (zx_up (zx_up (zx_up (zx_up zM0 (17, 0, 0, 0) 0 (-1)) (19, 0, 0, 0) 0 1) (20, 0, 0, 0) 0 0) (20, 0, 0, 0) 1 0) (20, 0, 0, 0) 2 (-1)) (25, 0, 0, 0) 7 (-1)) (25, 0, 0, 0) 15 (-1)), 308))) (s2 := (20, [some (.inr (some (25, 0, 0, 0))), some (.inl 79), none], [], (zx_lay (zx_up (zx_up (zx_up (zx_up (zx_up (zx_up (zx_up zM0 (17, 0, 0, 0) 0 (-1)) (19, 0, 0, 0) 0 1) (20, 0, 0, 0) 0 0) (20, 0, 0, 0) 1 0) (20, 0, 0, 0) 2 (-1)) (25, 0, 0, 0) 7 (-1)) (25, 0, 0, 0) 15 (-1)), 308))) rfl (by decide) ?_
          refine zx_E.go 6 (s' := (28, [some (.inr (some (25, 0, 0, 0))), some (.inl 79), some (.inl 0)], [.inl 0, .inl 0, .inr (some (25, 0, 0, 0))], (zx_lay (zx_up (zx_up (zx_up (zx_up (zx_up (zx_up (zx_up zM0 (17, 0, 0, 0) 0 (-1)) (19, 0, 0, 0) 0 1) (20, 0, 0, 0) 0 0) (20, 0, 0, 0) 1 0) (20, 0, 0, 0) 2 (-1)) (25, 0, 0, 0) 7 (-1)) (25, 0, 0, 0) 15 (-1)), 308))) rfl ?_
          refine zx_E.bt (c := 0 = 0) (s1 := (35, [some (.inr (some (25, 0, 0, 0))), some (.inl 79), some (.inl 0)], [.inl 0, .inr (some (25, 0, 0, 0))], (zx_lay (zx_up (zx_up (zx_up (zx_up (zx_up (zx_up (zx_up zM0 (17, 0, 0, 0) 0 (-1)) (19, 0, 0, 0) 0 1) (20, 0, 0, 0) 0 0) (20, 0, 0, 0) 1 0) (20, 0, 0, 0) 2 (-1)) (25, 0, 0, 0) 7 (-1)) (25, 0, 0, 0) 15 (-1)), 308))) (s2 := (31, [some (.inr (some (25, 0, 0, 0))), some (.inl 79), some (.inl 0)], [.inl 0, .inr (some (25, 0, 0, 0))], (zx_lay (zx_up (zx_up (zx_up (zx_up (zx_up (zx_up (zx_up zM0 (17, 0, 0, 0) 0 (-1)) (19, 0, 0, 0) 0 1) (20, 0, 0, 0) 0 0) (20, 0, 0, 0) 1 0) (20, 0, 0, 0) 2 (-1)) (25, 0, 0, 0) 7 (-1)) (25, 0, 0, 0) 15 (-1)), 308))) rfl (by decide) ?_
          refine zx_E.go 2 (s' := (37, [some (.inr (some (25, 0, 0, 0))), some (.inl 79), some (.inl 0)], [.inl 0, .inr (some (25, 0, 0, 0))], (zx_lay (zx_up (zx_up (zx_up (zx_up (zx_up (zx_up (zx_up zM0 (17, 0, 0, 0) 0 (-1)) (19, 0, 0, 0) 0 1) (20, 0, 0, 0) 0 0) (20, 0, 0, 0) 1 0) (20, 0, 0, 0) 2 (-1)) (25, 0, 0, 0) 7 (-1)) (25, 0, 0, 0) 15 (-1)), 308))) rfl ?_
          refine zx_E.putS (h := (25, 0, 0, 0)) (b := 6) rfl rfl (fun h => absurd h (by decide)) rfl ?_
          show zx_E _ _ _ (40, [some (.inr (some (25, 0, 0, 0))), some (.inl 79), some (.inl 0)], [], (zx_lay (zx_up (zx_up (zx_up (zx_up (zx_up (zx_up (zx_up zM0 (17, 0, 0, 0) 0 (-1)) (19, 0, 0, 0) 0 1) (20, 0, 0, 0) 0 0) (20, 0, 0, 0) 1 0) (20, 0, 0, 0) 2 (-1)) (25, 0, 0, 0) 7 (-1)) (25, 0, 0, 0) 15 (-1)), 308)) _
          refine zx_E.go 1 (s' := (41, [some (.inr (some (25, 0, 0, 0))), some (.inl 79), some (.inl 0)], [.inl 0], (zx_lay (zx_up (zx_up (zx_up (zx_up (zx_up (zx_up (zx_up zM0 (17, 0, 0, 0) 0 (-1)) (19, 0, 0, 0) 0 1) (20, 0, 0, 0) 0 0) (20, 0, 0, 0) 1 0) (20, 0, 0, 0) 2 (-1)) (25, 0, 0, 0) 7 (-1)) (25, 0, 0, 0) 15 (-1)), 308))) rfl ?_
          exact zx_E.iret rfl (fun _ => Or.inl rfl) rfl)) ?_
        show zx_E _ _ _ (161, [some (.inr (some (25, 0, 0, 0)))], [.inl 0], (zx_lay (zx_up (zx_up (zx_up (zx_up (zx_up (zx_up (zx_up zM0 (17, 0, 0, 0) 0 (-1)) (19, 0, 0, 0) 0 1) (20, 0, 0, 0) 0 0) (20, 0, 0, 0) 1 0) (20, 0, 0, 0) 2 (-1)) (25, 0, 0, 0) 7 (-1)) (25, 0, 0, 0) 15 (-1)), 308)) _
        refine zx_E.bt (c := 0 = 0) (s1 := (203, [some (.inr (some (25, 0, 0, 0)))], [], (zx_lay (zx_up (zx_up (zx_up (zx_up (zx_up (zx_up (zx_up zM0 (17, 0, 0, 0) 0 (-1)) (19, 0, 0, 0) 0 1) (20, 0, 0, 0) 0 0) (20, 0, 0, 0) 1 0) (20, 0, 0, 0) 2 (-1)) (25, 0, 0, 0) 7 (-1)) (25, 0, 0, 0) 15 (-1)), 308))) (s2 := (164, [some (.inr (some (25, 0, 0, 0)))], [], (zx_lay (zx_up (zx_up (zx_up (zx_up (zx_up (zx_up (zx_up zM0 (17, 0, 0, 0) 0 (-1)) (19, 0, 0, 0) 0 1) (20, 0, 0, 0) 0 0) (20, 0, 0, 0) 1 0) (20, 0, 0, 0) 2 (-1)) (25, 0, 0, 0) 7 (-1)) (25, 0, 0, 0) 15 (-1)), 308))) rfl (by decide) ?_
        refine zx_E.go 2 (s' := (206, [some (.inr (some (25, 0, 0, 0)))], [.inl 87, .inr (some (25, 0, 0, 0))], (zx_lay (zx_up (zx_up (zx_up (zx_up (zx_up (zx_up (zx_up zM0 (17, 0, 0, 0) 0 (-1)) (19, 0, 0, 0) 0 1) (20, 0, 0, 0) 0 0) (20, 0, 0, 0) 1 0) (20, 0, 0, 0) 2 (-1)) (25, 0, 0, 0) 7 (-1)) (25, 0, 0, 0) 15 (-1)), 308))) rfl ?_
        refine zx_E.call1 (y := 154) (as := [.inr (some (25, 0, 0, 0)), .inl 87]) (rest := []) (v := .inl 0) (μ' := (zx_lay (zx_up (zx_up (zx_up (zx_up (zx_up (zx_up (zx_up zM0 (17, 0, 0, 0) 0 (-1)) (19, 0, 0, 0) 0 1) (20, 0, 0, 0) 0 0) (20, 0, 0, 0) 1 0) (20, 0, 0, 0) 2 (-1)) (25, 0, 0, 0) 7 (-1)) (25, 0, 0, 0) 15 (-1)), 308)) rfl (zx_run_of zc_X11_goes [some (.inr (some (25, 0, 0, 0))), some (.inl 87), none] rfl rfl (by
          refine zx_E.go 3 (s' := (5, [some (.inr (some (25, 0, 0, 0))), some (.inl 87), none], [.inl (-1), .inl (-1)], (zx_lay (zx_up (zx_up (zx_up (zx_up (zx_up (zx_up (zx_up zM0 (17, 0, 0, 0) 0 (-1)) (19, 0, 0, 0) 0 1) (20, 0, 0, 0) 0 0) (20, 0, 0, 0) 1 0) (20, 0, 0, 0) 2 (-1)) (25, 0, 0, 0) 7 (-1)) (25, 0, 0, 0) 15 (-1)), 308))) rfl ?_
          refine zx_E.bt (c := (-1) = (-1)) (s1 := (8, [some (.inr (some (25, 0, 0, 0))), some (.inl 87), none], [], (zx_lay (zx_up (zx_up (zx_up (zx_up (zx_up (zx_up (zx_up zM0 (17, 0, 0, 0) 0 (-1)) (19, 0, 0, 0) 0 1) (20, 0, 0, 0) 0 0) (20, 0, 0, 0) 1 0) (20, 0, 0, 0) 2 (-1)) (25, 0, 0, 0) 7 (-1)) (25, 0, 0, 0) 15 (-1)), 308))) (s2 := (20, [some (.inr (some (25, 0, 0, 0))), some (.inl 87), none], [], (zx_lay (zx_up (zx_up (zx_up (zx_up (zx_up (zx_up (zx_up zM0 (17, 0, 0, 0) 0 (-1)) (19, 0, 0, 0) 0 1) (20, 0, 0, 0) 0 0) (20, 0, 0, 0) 1 0) (20, 0, 0, 0) 2 (-1)) (25, 0, 0, 0) 7 (-1)) (25, 0, 0, 0) 15 (-1)), 308))) rfl (by decide) ?_
          refine zx_E.go 1 (s' := (9, [some (.inr (some (25, 0, 0, 0))), some (.inl 87), none], [.inr (some (25, 0, 0, 0))], (zx_lay (zx_up (zx_up (zx_up (zx_up (zx_up (zx_up (zx_up zM0 (17, 0, 0, 0) 0 (-1)) (19, 0, 0, 0) 0 1) (20, 0, 0, 0) 0 0) (20, 0, 0, 0) 1 0) (20, 0, 0, 0) 2 (-1)) (25, 0, 0, 0) 7 (-1)) (25, 0, 0, 0) 15 (-1)), 308))) rfl ?_
          refine zx_E.call1 (y := 152) (as := [.inr (some (25, 0, 0, 0))]) (rest := []) (v := .inl (-1)) (μ' := (zx_lay (zx_up (zx_up (zx_up (zx_up (zx_up (zx_up (zx_up zM0 (17, 0, 0, 0) 0 (-1)) (19, 0, 0, 0) 0 1) (20, 0, 0, 0) 0 0) (20, 0, 0, 0) 1 0) (20, 0, 0, 0) 2 (-1)) (25, 0, 0, 0) 7 (-1)) (25, 0, 0, 0) 15 (-1)), 308)) rfl (zx_run_of zc_X11_sign [some (.inr (some (25, 0, 0, 0)))] rfl rfl (by
            refine zx_E.go 4 (s' := (8, [some (.inr (some (25, 0, 0, 0)))], [.inl 0, .inl 0], (zx_lay (zx_up (zx_up (zx_up (zx_up (zx_up (zx_up (zx_up zM0 (17, 0, 0, 0) 0 (-1)) (19, 0, 0, 0) 0 1) (20, 0, 0, 0) 0 0) (20, 0, 0, 0) 1 0) (20, 0, 0, 0) 2 (-1)) (25, 0, 0, 0) 7 (-1)) (25, 0, 0, 0) 15 (-1)), 308))) rfl ?_
            refine zx_E.bt (c := 0 ≤ 0) (s1 := (23, [some (.inr (some (25, 0, 0, 0)))], [], (zx_lay (zx_up (zx_up (zx_up (zx_up (zx_up (zx_up (zx_up zM0 (17, 0, 0, 0) 0 (-1)) (19, 0, 0, 0) 0 1) (20, 0, 0, 0) 0 0) (20, 0, 0, 0) 1 0) (20, 0, 0, 0) 2 (-1)) (25, 0, 0, 0) 7 (-1)) (25, 0, 0, 0) 15 (-1)), 308))) (s2 := (11, [some (.inr (some (25, 0, 0, 0)))], [], (zx_lay (zx_up (zx_up (zx_up (zx_up (zx_up (zx_up (zx_up zM0 (17, 0, 0, 0) 0 (-1)) (19, 0, 0, 0) 0 1) (20, 0, 0, 0) 0 0) (20, 0, 0, 0) 1 0) (20, 0, 0, 0) 2 (-1)) (25, 0, 0, 0) 7 (-1)) (25, 0, 0, 0) 15 (-1)), 308))) rfl (by decide) ?_
            refine zx_E.go 1 (s' := (24, [some (.inr (some (25, 0, 0, 0)))], [.inl (-1)], (zx_lay (zx_up (zx_up (zx_up (zx_up (zx_up (zx_up (zx_up zM0 (17, 0, 0, 0) 0 (-1)) (19, 0, 0, 0) 0 1) (20, 0, 0, 0) 0 0) (20, 0, 0, 0) 1 0) (20, 0, 0, 0) 2 (-1)) (25, 0, 0, 0) 7 (-1)) (25, 0, 0, 0) 15 (-1)), 308))) rfl ?_
            exact zx_E.iret rfl (fun h => absurd h (by decide)) rfl)) ?_
          show zx_E _ _ _ (12, [some (.inr (some (25, 0, 0, 0))), some (.inl 87), none], [.inl (-1)], (zx_lay (zx_up (zx_up (zx_up (zx_up (zx_up (zx_up (zx_up zM0 (17, 0, 0, 0) 0 (-1)) (19, 0, 0, 0) 0 1) (20, 0, 0, 0) 0 0) (20, 0, 0, 0) 1 0) (20, 0, 0, 0) 2 (-1)) (25, 0, 0, 0) 7 (-1)) (25, 0, 0, 0) 15 (-1)), 308)) _
          refine zx_E.go 1 (s' := (13, [some (.inr (some (25, 0, 0, 0))), some (.inl 87), none], [.inl 87, .inl (-1)], (zx_lay (zx_up (zx_up (zx_up (zx_up (zx_up (zx_up (zx_up zM0 (17, 0, 0, 0) 0 (-1)) (19, 0, 0, 0) 0 1) (20, 0, 0, 0) 0 0) (20, 0, 0, 0) 1 0) (20, 0, 0, 0) 2 (-1)) (25, 0, 0, 0) 7 (-1)) (25, 0, 0, 0) 15 (-1)), 308))) rfl ?_
          refine zx_E.bf (c := (-1) = 87) (s1 := (16, [some (.inr (some (25, 0, 0, 0))), some (.inl 87), none], [], (zx_lay (zx_up (zx_up (zx_up (zx_up (zx_up (zx_up (zx_up zM0 (17, 0, 0, 0) 0 (-1)) (19, 0, 0, 0) 0 1) (20, 0, 0, 0) 0 0) (20, 0, 0, 0) 1 0) (20, 0, 0, 0) 2 (-1)) (25, 0, 0, 0) 7 (-1)) (25, 0, 0, 0) 15 (-1)), 308))) (s2 := (20, [some (.inr (some (25, 0, 0, 0))), some (.inl 87), none], [], (zx_lay (zx_up (zx_up (zx_up (zx_up (zx_up (zx_up (zx_up zM0 (17, 0, 0, 0) 0 (-1)) (19, 0, 0, 0) 0 1) (20, 0, 0, 0) 0 0) (20, 0, 0, 0) 1 0) (20, 0, 0, 0) 2 (-1)) (25, 0, 0, 0) 7 (-1)) (25, 0, 0, 0) 15 (-1)), 308))) rfl (by decide) ?_
          refine zx_E.go 6 (s' := (28, [some (.inr (some (25, 0, 0, 0))), some (.inl 87), some (.inl 0)], [.inl 0, .inl 0, .inr (some (25, 0, 0, 0))], (zx_lay (zx_up (zx_up (zx_up (zx_up (zx_up (zx_up (zx_up zM0 (17, 0, 0, 0) 0 (-1)) (19, 0, 0, 0) 0 1) (20, 0, 0, 0) 0 0) (20, 0, 0, 0) 1 0) (20, 0, 0, 0) 2 (-1)) (25, 0, 0, 0) 7 (-1)) (25, 0, 0, 0) 15 (-1)), 308))) rfl ?_
          refine zx_E.bt (c := 0 = 0) (s1 := (35, [some (.inr (some (25, 0, 0, 0))), some (.inl 87), some (.inl 0)], [.inl 0, .inr (some (25, 0, 0, 0))], (zx_lay (zx_up (zx_up (zx_up (zx_up (zx_up (zx_up (zx_up zM0 (17, 0, 0, 0) 0 (-1)) (19, 0, 0, 0) 0 1) (20, 0, 0, 0) 0 0) (20, 0, 0, 0) 1 0) (20, 0, 0, 0) 2 (-1)) (25, 0, 0, 0) 7 (-1)) (25, 0, 0, 0) 15 (-1)), 308))) (s2 := (31, [some (.inr (some (25, 0, 0, 0))), some (.inl 87), some (.inl 0)], [.inl 0, .inr (some (25, 0, 0, 0))], (zx_lay (zx_up (zx_up (zx_up (zx_up (zx_up (zx_up (zx_up zM0 (17, 0, 0, 0) 0 (-1)) (19, 0, 0, 0) 0 1) (20, 0, 0, 0) 0 0) (20, 0, 0, 0) 1 0) (20, 0, 0, 0) 2 (-1)) (25, 0, 0, 0) 7 (-1)) (25, 0, 0, 0) 15 (-1)), 308))) rfl (by decide) ?_
          refine zx_E.go 2 (s' := (37, [some (.inr (some (25, 0, 0, 0))), some (.inl 87), some (.inl 0)], [.inl 0, .inr (some (25, 0, 0, 0))], (zx_lay (zx_up (zx_up (zx_up (zx_up (zx_up (zx_up (zx_up zM0 (17, 0, 0, 0) 0 (-1)) (19, 0, 0, 0) 0 1) (20, 0, 0, 0) 0 0) (20, 0, 0, 0) 1 0) (20, 0, 0, 0) 2 (-1)) (25, 0, 0, 0) 7 (-1)) (25, 0, 0, 0) 15 (-1)), 308))) rfl ?_
          refine zx_E.putS (h := (25, 0, 0, 0)) (b := 6) rfl rfl (fun h => absurd h (by decide)) rfl ?_
          show zx_E _ _ _ (40, [some (.inr (some (25, 0, 0, 0))), some (.inl 87), some (.inl 0)], [], (zx_lay (zx_up (zx_up (zx_up (zx_up (zx_up (zx_up (zx_up zM0 (17, 0, 0, 0) 0 (-1)) (19, 0, 0, 0) 0 1) (20, 0, 0, 0) 0 0) (20, 0, 0, 0) 1 0) (20, 0, 0, 0) 2 (-1)) (25, 0, 0, 0) 7 (-1)) (25, 0, 0, 0) 15 (-1)), 308)) _
          refine zx_E.go 1 (s' := (41, [some (.inr (some (25, 0, 0, 0))), some (.inl 87), some (.inl 0)], [.inl 0], (zx_lay (zx_up (zx_up (zx_up (zx_up (zx_up (zx_up (zx_up zM0 (17, 0, 0, 0) 0 (-1)) (19, 0, 0, 0) 0 1) (20, 0, 0, 0) 0 0) (20, 0, 0, 0) 1 0) (20, 0, 0, 0) 2 (-1)) (25, 0, 0, 0) 7 (-1)) (25, 0, 0, 0) 15 (-1)), 308))) rfl ?_
          exact zx_E.iret rfl (fun _ => Or.inl rfl) rfl)) ?_
        show zx_E _ _ _ (209, [some (.inr (some (25, 0, 0, 0)))], [.inl 0], (zx_lay (zx_up (zx_up (zx_up (zx_up (zx_up (zx_up (zx_up zM0 (17, 0, 0, 0) 0 (-1)) (19, 0, 0, 0) 0 1) (20, 0, 0, 0) 0 0) (20, 0, 0, 0) 1 0) (20, 0, 0, 0) 2 (-1)) (25, 0, 0, 0) 7 (-1)) (25, 0, 0, 0) 15 (-1)), 308)) _
        refine zx_E.bt (c := 0 = 0) (s1 := (219, [some (.inr (some (25, 0, 0, 0)))], [], (zx_lay (zx_up (zx_up (zx_up (zx_up (zx_up (zx_up (zx_up zM0 (17, 0, 0, 0) 0 (-1)) (19, 0, 0, 0) 0 1) (20, 0, 0, 0) 0 0) (20, 0, 0, 0) 1 0) (20, 0, 0, 0) 2 (-1)) (25, 0, 0, 0) 7 (-1)) (25, 0, 0, 0) 15 (-1)), 308))) (s2 := (212, [some (.inr (some (25, 0, 0, 0)))], [], (zx_lay (zx_up (zx_up (zx_up (zx_up (zx_up (zx_up (zx_up zM0 (17, 0, 0, 0) 0 (-1)) (19, 0, 0, 0) 0 1) (20, 0, 0, 0) 0 0) (20, 0, 0, 0) 1 0) (20, 0, 0, 0) 2 (-1)) (25, 0, 0, 0) 7 (-1)) (25, 0, 0, 0) 15 (-1)), 308))) rfl (by decide) ?_
        refine zx_E.go 1 (s' := (220, [some (.inr (some (25, 0, 0, 0)))], [.inr (some (25, 0, 0, 0))], (zx_lay (zx_up (zx_up (zx_up (zx_up (zx_up (zx_up (zx_up zM0 (17, 0, 0, 0) 0 (-1)) (19, 0, 0, 0) 0 1) (20, 0, 0, 0) 0 0) (20, 0, 0, 0) 1 0) (20, 0, 0, 0) 2 (-1)) (25, 0, 0, 0) 7 (-1)) (25, 0, 0, 0) 15 (-1)), 308))) rfl ?_
        refine zx_E.call0 (y := 153) (as := [.inr (some (25, 0, 0, 0))]) (rest := []) (μ' := (zx_lay (zx_up (zx_up (zx_up (zx_up (zx_up (zx_up (zx_up (zx_up zM0 (17, 0, 0, 0) 0 (-1)) (19, 0, 0, 0) 0 1) (20, 0, 0, 0) 0 0) (20, 0, 0, 0) 1 0) (20, 0, 0, 0) 2 (-1)) (25, 0, 0, 0) 7 (-1)) (25, 0, 0, 0) 15 (-1)) (25, 0, 0, 0) 7 0), 308)) rfl (zx_run_of zc_X11_faultHere [some (.inr (some (25, 0, 0, 0)))] rfl rfl (by
          refine zx_E.go 4 (s' := (6, [some (.inr (some (25, 0, 0, 0)))], [.inl (-1), .inl (-1), .inr (some (25, 0, 0, 0))], (zx_lay (zx_up (zx_up (zx_up (zx_up (zx_up (zx_up (zx_up zM0 (17, 0, 0, 0) 0 (-1)) (19, 0, 0, 0) 0 1) (20, 0, 0, 0) 0 0) (20, 0, 0, 0) 1 0) (20, 0, 0, 0) 2 (-1)) (25, 0, 0, 0) 7 (-1)) (25, 0, 0, 0) 15 (-1)), 308))) rfl ?_
          refine zx_E.bt (c := (-1) = (-1)) (s1 := (9, [some (.inr (some (25, 0, 0, 0)))], [.inr (some (25, 0, 0, 0))], (zx_lay (zx_up (zx_up (zx_up (zx_up (zx_up (zx_up (zx_up zM0 (17, 0, 0, 0) 0 (-1)) (19, 0, 0, 0) 0 1) (20, 0, 0, 0) 0 0) (20, 0, 0, 0) 1 0) (20, 0, 0, 0) 2 (-1)) (25, 0, 0, 0) 7 (-1)) (25, 0, 0, 0) 15 (-1)), 308))) (s2 := (16, [some (.inr (some (25, 0, 0, 0)))], [.inr (some (25, 0, 0, 0))], (zx_lay (zx_up (zx_up (zx_up (zx_up (zx_up (zx_up (zx_up zM0 (17, 0, 0, 0) 0 (-1)) (19, 0, 0, 0) 0 1) (20, 0, 0, 0) 0 0) (20, 0, 0, 0) 1 0) (20, 0, 0, 0) 2 (-1)) (25, 0, 0, 0) 7 (-1)) (25, 0, 0, 0) 15 (-1)), 308))) rfl (by decide) ?_
          refine zx_E.go 3 (s' := (20, [some (.inr (some (25, 0, 0, 0)))], [.inl 0, .inr (some (25, 0, 0, 0))], (zx_lay (zx_up (zx_up (zx_up (zx_up (zx_up (zx_up (zx_up zM0 (17, 0, 0, 0) 0 (-1)) (19, 0, 0, 0) 0 1) (20, 0, 0, 0) 0 0) (20, 0, 0, 0) 1 0) (20, 0, 0, 0) 2 (-1)) (25, 0, 0, 0) 7 (-1)) (25, 0, 0, 0) 15 (-1)), 308))) rfl ?_
          refine zx_E.put (h := (25, 0, 0, 0)) (b := 7) rfl rfl (fun h => absurd h (by decide)) ?_
          show zx_E _ _ _ (23, [some (.inr (some (25, 0, 0, 0)))], [], (zx_lay (zx_up (zx_up (zx_up (zx_up (zx_up (zx_up (zx_up (zx_up zM0 (17, 0, 0, 0) 0 (-1)) (19, 0, 0, 0) 0 1) (20, 0, 0, 0) 0 0) (20, 0, 0, 0) 1 0) (20, 0, 0, 0) 2 (-1)) (25, 0, 0, 0) 7 (-1)) (25, 0, 0, 0) 15 (-1)) (25, 0, 0, 0) 7 0), 308)) _
          exact zx_E.ret rfl)) ?_
        show zx_E _ _ _ (223, [some (.inr (some (25, 0, 0, 0)))], [], (zx_lay (zx_up (zx_up (zx_up (zx_up (zx_up (zx_up (zx_up (zx_up zM0 (17, 0, 0, 0) 0 (-1)) (19, 0, 0, 0) 0 1) (20, 0, 0, 0) 0 0) (20, 0, 0, 0) 1 0) (20, 0, 0, 0) 2 (-1)) (25, 0, 0, 0) 7 (-1)) (25, 0, 0, 0) 15 (-1)) (25, 0, 0, 0) 7 0), 308)) _
        exact zx_E.ret rfl)) ?_
      show zx_E _ _ _ (20, [some (.inr (some (25, 0, 0, 0))), some (.inl 0), some (.inl 1)], [], (zx_lay (zx_up (zx_up (zx_up (zx_up (zx_up (zx_up (zx_up (zx_up zM0 (17, 0, 0, 0) 0 (-1)) (19, 0, 0, 0) 0 1) (20, 0, 0, 0) 0 0) (20, 0, 0, 0) 1 0) (20, 0, 0, 0) 2 (-1)) (25, 0, 0, 0) 7 (-1)) (25, 0, 0, 0) 15 (-1)) (25, 0, 0, 0) 7 0), 308)) _
      refine zx_E.go 1 (s' := (21, [some (.inr (some (25, 0, 0, 0))), some (.inl 0), some (.inl 1)], [.inl 0], (zx_lay (zx_up (zx_up (zx_up (zx_up (zx_up (zx_up (zx_up (zx_up zM0 (17, 0, 0, 0) 0 (-1)) (19, 0, 0, 0) 0 1) (20, 0, 0, 0) 0 0) (20, 0, 0, 0) 1 0) (20, 0, 0, 0) 2 (-1)) (25, 0, 0, 0) 7 (-1)) (25, 0, 0, 0) 15 (-1)) (25, 0, 0, 0) 7 0), 308))) rfl ?_
      refine zx_E.bt (c := 0 = 0) (s1 := (28, [some (.inr (some (25, 0, 0, 0))), some (.inl 0), some (.inl 1)], [], (zx_lay (zx_up (zx_up (zx_up (zx_up (zx_up (zx_up (zx_up (zx_up zM0 (17, 0, 0, 0) 0 (-1)) (19, 0, 0, 0) 0 1) (20, 0, 0, 0) 0 0) (20, 0, 0, 0) 1 0) (20, 0, 0, 0) 2 (-1)) (25, 0, 0, 0) 7 (-1)) (25, 0, 0, 0) 15 (-1)) (25, 0, 0, 0) 7 0), 308))) (s2 := (24, [some (.inr (some (25, 0, 0, 0))), some (.inl 0), some (.inl 1)], [], (zx_lay (zx_up (zx_up (zx_up (zx_up (zx_up (zx_up (zx_up (zx_up zM0 (17, 0, 0, 0) 0 (-1)) (19, 0, 0, 0) 0 1) (20, 0, 0, 0) 0 0) (20, 0, 0, 0) 1 0) (20, 0, 0, 0) 2 (-1)) (25, 0, 0, 0) 7 (-1)) (25, 0, 0, 0) 15 (-1)) (25, 0, 0, 0) 7 0), 308))) rfl (by decide) ?_
      refine zx_E.go 3 (s' := (34, [some (.inr (some (25, 0, 0, 0))), some (.inl 0), some (.inl 1)], [.inl (-5), .inl (-5)], (zx_lay (zx_up (zx_up (zx_up (zx_up (zx_up (zx_up (zx_up (zx_up zM0 (17, 0, 0, 0) 0 (-1)) (19, 0, 0, 0) 0 1) (20, 0, 0, 0) 0 0) (20, 0, 0, 0) 1 0) (20, 0, 0, 0) 2 (-1)) (25, 0, 0, 0) 7 (-1)) (25, 0, 0, 0) 15 (-1)) (25, 0, 0, 0) 7 0), 308))) rfl ?_
      refine zx_E.bt (c := (-5) = (-5)) (s1 := (37, [some (.inr (some (25, 0, 0, 0))), some (.inl 0), some (.inl 1)], [], (zx_lay (zx_up (zx_up (zx_up (zx_up (zx_up (zx_up (zx_up (zx_up zM0 (17, 0, 0, 0) 0 (-1)) (19, 0, 0, 0) 0 1) (20, 0, 0, 0) 0 0) (20, 0, 0, 0) 1 0) (20, 0, 0, 0) 2 (-1)) (25, 0, 0, 0) 7 (-1)) (25, 0, 0, 0) 15 (-1)) (25, 0, 0, 0) 7 0), 308))) (s2 := (50, [some (.inr (some (25, 0, 0, 0))), some (.inl 0), some (.inl 1)], [], (zx_lay (zx_up (zx_up (zx_up (zx_up (zx_up (zx_up (zx_up (zx_up zM0 (17, 0, 0, 0) 0 (-1)) (19, 0, 0, 0) 0 1) (20, 0, 0, 0) 0 0) (20, 0, 0, 0) 1 0) (20, 0, 0, 0) 2 (-1)) (25, 0, 0, 0) 7 (-1)) (25, 0, 0, 0) 15 (-1)) (25, 0, 0, 0) 7 0), 308))) rfl (by decide) ?_
      refine zx_E.go 2 (s' := (40, [some (.inr (some (25, 0, 0, 0))), some (.inl 0), some (.inl 1)], [.inl 59, .inr (some (25, 0, 0, 0))], (zx_lay (zx_up (zx_up (zx_up (zx_up (zx_up (zx_up (zx_up (zx_up zM0 (17, 0, 0, 0) 0 (-1)) (19, 0, 0, 0) 0 1) (20, 0, 0, 0) 0 0) (20, 0, 0, 0) 1 0) (20, 0, 0, 0) 2 (-1)) (25, 0, 0, 0) 7 (-1)) (25, 0, 0, 0) 15 (-1)) (25, 0, 0, 0) 7 0), 308))) rfl ?_
      refine zx_E.call1 (y := 154) (as := [.inr (some (25, 0, 0, 0)), .inl 59]) (rest := []) (v := .inl 0) (μ' := (zx_lay (zx_up (zx_up (zx_up (zx_up (zx_up (zx_up (zx_up (zx_up zM0 (17, 0, 0, 0) 0 (-1)) (19, 0, 0, 0) 0 1) (20, 0, 0, 0) 0 0) (20, 0, 0, 0) 1 0) (20, 0, 0, 0) 2 (-1)) (25, 0, 0, 0) 7 (-1)) (25, 0, 0, 0) 15 (-1)) (25, 0, 0, 0) 7 0), 308)) rfl (zx_run_of zc_X11_goes [some (.inr (some (25, 0, 0, 0))), some (.inl 59), none] rfl rfl (by
        refine zx_E.go 3 (s' := (5, [some (.inr (some (25, 0, 0, 0))), some (.inl 59), none], [.inl (-1), .inl 0], (zx_lay (zx_up (zx_up (zx_up (zx_up (zx_up (zx_up (zx_up (zx_up zM0 (17, 0, 0, 0) 0 (-1)) (19, 0, 0, 0) 0 1) (20, 0, 0, 0) 0 0) (20, 0, 0, 0) 1 0) (20, 0, 0, 0) 2 (-1)) (25, 0, 0, 0) 7 (-1)) (25, 0, 0, 0) 15 (-1)) (25, 0, 0, 0) 7 0), 308))) rfl ?_
        refine zx_E.bf (c := 0 = (-1)) (s1 := (8, [some (.inr (some (25, 0, 0, 0))), some (.inl 59), none], [], (zx_lay (zx_up (zx_up (zx_up (zx_up (zx_up (zx_up (zx_up (zx_up zM0 (17, 0, 0, 0) 0 (-1)) (19, 0, 0, 0) 0 1) (20, 0, 0, 0) 0 0) (20, 0, 0, 0) 1 0) (20, 0, 0, 0) 2 (-1)) (25, 0, 0, 0) 7 (-1)) (25, 0, 0, 0) 15 (-1)) (25, 0, 0, 0) 7 0), 308))) (s2 := (20, [some (.inr (some (25, 0, 0, 0))), some (.inl 59), none], [], (zx_lay (zx_up (zx_up (zx_up (zx_up (zx_up (zx_up (zx_up (zx_up zM0 (17, 0, 0, 0) 0 (-1)) (19, 0, 0, 0) 0 1) (20, 0, 0, 0) 0 0) (20, 0, 0, 0) 1 0) (20, 0, 0, 0) 2 (-1)) (25, 0, 0, 0) 7 (-1)) (25, 0, 0, 0) 15 (-1)) (25, 0, 0, 0) 7 0), 308))) rfl (by decide) ?_
        refine zx_E.go 6 (s' := (28, [some (.inr (some (25, 0, 0, 0))), some (.inl 59), some (.inl 0)], [.inl 0, .inl 0, .inr (some (25, 0, 0, 0))], (zx_lay (zx_up (zx_up (zx_up (zx_up (zx_up (zx_up (zx_up (zx_up zM0 (17, 0, 0, 0) 0 (-1)) (19, 0, 0, 0) 0 1) (20, 0, 0, 0) 0 0) (20, 0, 0, 0) 1 0) (20, 0, 0, 0) 2 (-1)) (25, 0, 0, 0) 7 (-1)) (25, 0, 0, 0) 15 (-1)) (25, 0, 0, 0) 7 0), 308))) rfl ?_
        refine zx_E.bt (c := 0 = 0) (s1 := (35, [some (.inr (some (25, 0, 0, 0))), some (.inl 59), some (.inl 0)], [.inl 0, .inr (some (25, 0, 0, 0))], (zx_lay (zx_up (zx_up (zx_up (zx_up (zx_up (zx_up (zx_up (zx_up zM0 (17, 0, 0, 0) 0 (-1)) (19, 0, 0, 0) 0 1) (20, 0, 0, 0) 0 0) (20, 0, 0, 0) 1 0) (20, 0, 0, 0) 2 (-1)) (25, 0, 0, 0) 7 (-1)) (25, 0, 0, 0) 15 (-1)) (25, 0, 0, 0) 7 0), 308))) (s2 := (31, [some (.inr (some (25, 0, 0, 0))), some (.inl 59), some (.inl 0)], [.inl 0, .inr (some (25, 0, 0, 0))], (zx_lay (zx_up (zx_up (zx_up (zx_up (zx_up (zx_up (zx_up (zx_up zM0 (17, 0, 0, 0) 0 (-1)) (19, 0, 0, 0) 0 1) (20, 0, 0, 0) 0 0) (20, 0, 0, 0) 1 0) (20, 0, 0, 0) 2 (-1)) (25, 0, 0, 0) 7 (-1)) (25, 0, 0, 0) 15 (-1)) (25, 0, 0, 0) 7 0), 308))) rfl (by decide) ?_
        refine zx_E.go 2 (s' := (37, [some (.inr (some (25, 0, 0, 0))), some (.inl 59), some (.inl 0)], [.inl 0, .inr (some (25, 0, 0, 0))], (zx_lay (zx_up (zx_up (zx_up (zx_up (zx_up (zx_up (zx_up (zx_up zM0 (17, 0, 0, 0) 0 (-1)) (19, 0, 0, 0) 0 1) (20, 0, 0, 0) 0 0) (20, 0, 0, 0) 1 0) (20, 0, 0, 0) 2 (-1)) (25, 0, 0, 0) 7 (-1)) (25, 0, 0, 0) 15 (-1)) (25, 0, 0, 0) 7 0), 308))) rfl ?_
        refine zx_E.putS (h := (25, 0, 0, 0)) (b := 6) rfl rfl (fun h => absurd h (by decide)) rfl ?_
        show zx_E _ _ _ (40, [some (.inr (some (25, 0, 0, 0))), some (.inl 59), some (.inl 0)], [], (zx_lay (zx_up (zx_up (zx_up (zx_up (zx_up (zx_up (zx_up (zx_up zM0 (17, 0, 0, 0) 0 (-1)) (19, 0, 0, 0) 0 1) (20, 0, 0, 0) 0 0) (20, 0, 0, 0) 1 0) (20, 0, 0, 0) 2 (-1)) (25, 0, 0, 0) 7 (-1)) (25, 0, 0, 0) 15 (-1)) (25, 0, 0, 0) 7 0), 308)) _
        refine zx_E.go 1 (s' := (41, [some (.inr (some (25, 0, 0, 0))), some (.inl 59), some (.inl 0)], [.inl 0], (zx_lay (zx_up (zx_up (zx_up (zx_up (zx_up (zx_up (zx_up (zx_up zM0 (17, 0, 0, 0) 0 (-1)) (19, 0, 0, 0) 0 1) (20, 0, 0, 0) 0 0) (20, 0, 0, 0) 1 0) (20, 0, 0, 0) 2 (-1)) (25, 0, 0, 0) 7 (-1)) (25, 0, 0, 0) 15 (-1)) (25, 0, 0, 0) 7 0), 308))) rfl ?_
        exact zx_E.iret rfl (fun _ => Or.inl rfl) rfl)) ?_
      show zx_E _ _ _ (43, [some (.inr (some (25, 0, 0, 0))), some (.inl 0), some (.inl 1)], [.inl 0], (zx_lay (zx_up (zx_up (zx_up (zx_up (zx_up (zx_up (zx_up (zx_up zM0 (17, 0, 0, 0) 0 (-1)) (19, 0, 0, 0) 0 1) (20, 0, 0, 0) 0 0) (20, 0, 0, 0) 1 0) (20, 0, 0, 0) 2 (-1)) (25, 0, 0, 0) 7 (-1)) (25, 0, 0, 0) 15 (-1)) (25, 0, 0, 0) 7 0), 308)) _
      refine zx_E.bt (c := 0 = 0) (s1 := (50, [some (.inr (some (25, 0, 0, 0))), some (.inl 0), some (.inl 1)], [], (zx_lay (zx_up (zx_up (zx_up (zx_up (zx_up (zx_up (zx_up (zx_up zM0 (17, 0, 0, 0) 0 (-1)) (19, 0, 0, 0) 0 1) (20, 0, 0, 0) 0 0) (20, 0, 0, 0) 1 0) (20, 0, 0, 0) 2 (-1)) (25, 0, 0, 0) 7 (-1)) (25, 0, 0, 0) 15 (-1)) (25, 0, 0, 0) 7 0), 308))) (s2 := (46, [some (.inr (some (25, 0, 0, 0))), some (.inl 0), some (.inl 1)], [], (zx_lay (zx_up (zx_up (zx_up (zx_up (zx_up (zx_up (zx_up (zx_up zM0 (17, 0, 0, 0) 0 (-1)) (19, 0, 0, 0) 0 1) (20, 0, 0, 0) 0 0) (20, 0, 0, 0) 1 0) (20, 0, 0, 0) 2 (-1)) (25, 0, 0, 0) 7 (-1)) (25, 0, 0, 0) 15 (-1)) (25, 0, 0, 0) 7 0), 308))) rfl (by decide) ?_
      refine zx_E.go 6 (s' := (58, [some (.inr (some (25, 0, 0, 0))), some (.inl 0), some (.inl 0)], [.inl 0, .inl 0, .inr (some (25, 0, 0, 0))], (zx_lay (zx_up (zx_up (zx_up (zx_up (zx_up (zx_up (zx_up (zx_up zM0 (17, 0, 0, 0) 0 (-1)) (19, 0, 0, 0) 0 1) (20, 0, 0, 0) 0 0) (20, 0, 0, 0) 1 0) (20, 0, 0, 0) 2 (-1)) (25, 0, 0, 0) 7 (-1)) (25, 0, 0, 0) 15 (-1)) (25, 0, 0, 0) 7 0), 308))) rfl ?_
      refine zx_E.bt (c := 0 = 0) (s1 := (65, [some (.inr (some (25, 0, 0, 0))), some (.inl 0), some (.inl 0)], [.inl 0, .inr (some (25, 0, 0, 0))], (zx_lay (zx_up (zx_up (zx_up (zx_up (zx_up (zx_up (zx_up (zx_up zM0 (17, 0, 0, 0) 0 (-1)) (19, 0, 0, 0) 0 1) (20, 0, 0, 0) 0 0) (20, 0, 0, 0) 1 0) (20, 0, 0, 0) 2 (-1)) (25, 0, 0, 0) 7 (-1)) (25, 0, 0, 0) 15 (-1)) (25, 0, 0, 0) 7 0), 308))) (s2 := (61, [some (.inr (some (25, 0, 0, 0))), some (.inl 0), some (.inl 0)], [.inl 0, .inr (some (25, 0, 0, 0))], (zx_lay (zx_up (zx_up (zx_up (zx_up (zx_up (zx_up (zx_up (zx_up zM0 (17, 0, 0, 0) 0 (-1)) (19, 0, 0, 0) 0 1) (20, 0, 0, 0) 0 0) (20, 0, 0, 0) 1 0) (20, 0, 0, 0) 2 (-1)) (25, 0, 0, 0) 7 (-1)) (25, 0, 0, 0) 15 (-1)) (25, 0, 0, 0) 7 0), 308))) rfl (by decide) ?_
      refine zx_E.go 2 (s' := (67, [some (.inr (some (25, 0, 0, 0))), some (.inl 0), some (.inl 0)], [.inl 0, .inr (some (25, 0, 0, 0))], (zx_lay (zx_up (zx_up (zx_up (zx_up (zx_up (zx_up (zx_up (zx_up zM0 (17, 0, 0, 0) 0 (-1)) (19, 0, 0, 0) 0 1) (20, 0, 0, 0) 0 0) (20, 0, 0, 0) 1 0) (20, 0, 0, 0) 2 (-1)) (25, 0, 0, 0) 7 (-1)) (25, 0, 0, 0) 15 (-1)) (25, 0, 0, 0) 7 0), 308))) rfl ?_
      refine zx_E.putS (h := (25, 0, 0, 0)) (b := 8) rfl rfl (fun h => absurd h (by decide)) rfl ?_
      show zx_E _ _ _ (70, [some (.inr (some (25, 0, 0, 0))), some (.inl 0), some (.inl 0)], [], (zx_lay (zx_up (zx_up (zx_up (zx_up (zx_up (zx_up (zx_up (zx_up zM0 (17, 0, 0, 0) 0 (-1)) (19, 0, 0, 0) 0 1) (20, 0, 0, 0) 0 0) (20, 0, 0, 0) 1 0) (20, 0, 0, 0) 2 (-1)) (25, 0, 0, 0) 7 (-1)) (25, 0, 0, 0) 15 (-1)) (25, 0, 0, 0) 7 0), 308)) _
      refine zx_E.go 2 (s' := (13, [some (.inr (some (25, 0, 0, 0))), some (.inl 0), some (.inl 0)], [.inl 0], (zx_lay (zx_up (zx_up (zx_up (zx_up (zx_up (zx_up (zx_up (zx_up zM0 (17, 0, 0, 0) 0 (-1)) (19, 0, 0, 0) 0 1) (20, 0, 0, 0) 0 0) (20, 0, 0, 0) 1 0) (20, 0, 0, 0) 2 (-1)) (25, 0, 0, 0) 7 (-1)) (25, 0, 0, 0) 15 (-1)) (25, 0, 0, 0) 7 0), 308))) rfl ?_
      refine zx_E.bt (c := 0 = 0) (s1 := (73, [some (.inr (some (25, 0, 0, 0))), some (.inl 0), some (.inl 0)], [], (zx_lay (zx_up (zx_up (zx_up (zx_up (zx_up (zx_up (zx_up (zx_up zM0 (17, 0, 0, 0) 0 (-1)) (19, 0, 0, 0) 0 1) (20, 0, 0, 0) 0 0) (20, 0, 0, 0) 1 0) (20, 0, 0, 0) 2 (-1)) (25, 0, 0, 0) 7 (-1)) (25, 0, 0, 0) 15 (-1)) (25, 0, 0, 0) 7 0), 308))) (s2 := (16, [some (.inr (some (25, 0, 0, 0))), some (.inl 0), some (.inl 0)], [], (zx_lay (zx_up (zx_up (zx_up (zx_up (zx_up (zx_up (zx_up (zx_up zM0 (17, 0, 0, 0) 0 (-1)) (19, 0, 0, 0) 0 1) (20, 0, 0, 0) 0 0) (20, 0, 0, 0) 1 0) (20, 0, 0, 0) 2 (-1)) (25, 0, 0, 0) 7 (-1)) (25, 0, 0, 0) 15 (-1)) (25, 0, 0, 0) 7 0), 308))) rfl (by decide) ?_
      refine zx_E.go 1 (s' := (74, [some (.inr (some (25, 0, 0, 0))), some (.inl 0), some (.inl 0)], [.inl 0], (zx_lay (zx_up (zx_up (zx_up (zx_up (zx_up (zx_up (zx_up (zx_up zM0 (17, 0, 0, 0) 0 (-1)) (19, 0, 0, 0) 0 1) (20, 0, 0, 0) 0 0) (20, 0, 0, 0) 1 0) (20, 0, 0, 0) 2 (-1)) (25, 0, 0, 0) 7 (-1)) (25, 0, 0, 0) 15 (-1)) (25, 0, 0, 0) 7 0), 308))) rfl ?_
      refine zx_E.bt (c := 0 = 0) (s1 := (77, [some (.inr (some (25, 0, 0, 0))), some (.inl 0), some (.inl 0)], [], (zx_lay (zx_up (zx_up (zx_up (zx_up (zx_up (zx_up (zx_up (zx_up zM0 (17, 0, 0, 0) 0 (-1)) (19, 0, 0, 0) 0 1) (20, 0, 0, 0) 0 0) (20, 0, 0, 0) 1 0) (20, 0, 0, 0) 2 (-1)) (25, 0, 0, 0) 7 (-1)) (25, 0, 0, 0) 15 (-1)) (25, 0, 0, 0) 7 0), 308))) (s2 := (92, [some (.inr (some (25, 0, 0, 0))), some (.inl 0), some (.inl 0)], [], (zx_lay (zx_up (zx_up (zx_up (zx_up (zx_up (zx_up (zx_up (zx_up zM0 (17, 0, 0, 0) 0 (-1)) (19, 0, 0, 0) 0 1) (20, 0, 0, 0) 0 0) (20, 0, 0, 0) 1 0) (20, 0, 0, 0) 2 (-1)) (25, 0, 0, 0) 7 (-1)) (25, 0, 0, 0) 15 (-1)) (25, 0, 0, 0) 7 0), 308))) rfl (by decide) ?_
      refine zx_E.go 4 (s' := (85, [some (.inr (some (25, 0, 0, 0))), some (.inl 0), some (.inl 0)], [.inl 0, .inl 0], (zx_lay (zx_up (zx_up (zx_up (zx_up (zx_up (zx_up (zx_up (zx_up zM0 (17, 0, 0, 0) 0 (-1)) (19, 0, 0, 0) 0 1) (20, 0, 0, 0) 0 0) (20, 0, 0, 0) 1 0) (20, 0, 0, 0) 2 (-1)) (25, 0, 0, 0) 7 (-1)) (25, 0, 0, 0) 15 (-1)) (25, 0, 0, 0) 7 0), 308))) rfl ?_
      refine zx_E.bt (c := 0 ≤ 0) (s1 := (92, [some (.inr (some (25, 0, 0, 0))), some (.inl 0), some (.inl 0)], [], (zx_lay (zx_up (zx_up (zx_up (zx_up (zx_up (zx_up (zx_up (zx_up zM0 (17, 0, 0, 0) 0 (-1)) (19, 0, 0, 0) 0 1) (20, 0, 0, 0) 0 0) (20, 0, 0, 0) 1 0) (20, 0, 0, 0) 2 (-1)) (25, 0, 0, 0) 7 (-1)) (25, 0, 0, 0) 15 (-1)) (25, 0, 0, 0) 7 0), 308))) (s2 := (88, [some (.inr (some (25, 0, 0, 0))), some (.inl 0), some (.inl 0)], [], (zx_lay (zx_up (zx_up (zx_up (zx_up (zx_up (zx_up (zx_up (zx_up zM0 (17, 0, 0, 0) 0 (-1)) (19, 0, 0, 0) 0 1) (20, 0, 0, 0) 0 0) (20, 0, 0, 0) 1 0) (20, 0, 0, 0) 2 (-1)) (25, 0, 0, 0) 7 (-1)) (25, 0, 0, 0) 15 (-1)) (25, 0, 0, 0) 7 0), 308))) rfl (by decide) ?_
      exact zx_E.ret rfl)) ?_
    show zx_E _ _ _ (37, [some (.inr (some (25, 0, 0, 0)))], [], (zx_lay (zx_up (zx_up (zx_up (zx_up (zx_up (zx_up (zx_up (zx_up zM0 (17, 0, 0, 0) 0 (-1)) (19, 0, 0, 0) 0 1) (20, 0, 0, 0) 0 0) (20, 0, 0, 0) 1 0) (20, 0, 0, 0) 2 (-1)) (25, 0, 0, 0) 7 (-1)) (25, 0, 0, 0) 15 (-1)) (25, 0, 0, 0) 7 0), 308)) _
    refine zx_E.go 3 (s' := (42, [some (.inr (some (25, 0, 0, 0)))], [.inl (-1), .inl 0], (zx_lay (zx_up (zx_up (zx_up (zx_up (zx_up (zx_up (zx_up (zx_up zM0 (17, 0, 0, 0) 0 (-1)) (19, 0, 0, 0) 0 1) (20, 0, 0, 0) 0 0) (20, 0, 0, 0) 1 0) (20, 0, 0, 0) 2 (-1)) (25, 0, 0, 0) 7 (-1)) (25, 0, 0, 0) 15 (-1)) (25, 0, 0, 0) 7 0), 308))) rfl ?_
    refine zx_E.bf (c := 0 = (-1)) (s1 := (90, [some (.inr (some (25, 0, 0, 0)))], [], (zx_lay (zx_up (zx_up (zx_up (zx_up (zx_up (zx_up (zx_up (zx_up zM0 (17, 0, 0, 0) 0 (-1)) (19, 0, 0, 0) 0 1) (20, 0, 0, 0) 0 0) (20, 0, 0, 0) 1 0) (20, 0, 0, 0) 2 (-1)) (25, 0, 0, 0) 7 (-1)) (25, 0, 0, 0) 15 (-1)) (25, 0, 0, 0) 7 0), 308))) (s2 := (45, [some (.inr (some (25, 0, 0, 0)))], [], (zx_lay (zx_up (zx_up (zx_up (zx_up (zx_up (zx_up (zx_up (zx_up zM0 (17, 0, 0, 0) 0 (-1)) (19, 0, 0, 0) 0 1) (20, 0, 0, 0) 0 0) (20, 0, 0, 0) 1 0) (20, 0, 0, 0) 2 (-1)) (25, 0, 0, 0) 7 (-1)) (25, 0, 0, 0) 15 (-1)) (25, 0, 0, 0) 7 0), 308))) rfl (by decide) ?_
    refine zx_E.go 3 (s' := (50, [some (.inr (some (25, 0, 0, 0)))], [.inl 0, .inr (some (25, 0, 0, 0))], (zx_lay (zx_up (zx_up (zx_up (zx_up (zx_up (zx_up (zx_up (zx_up zM0 (17, 0, 0, 0) 0 (-1)) (19, 0, 0, 0) 0 1) (20, 0, 0, 0) 0 0) (20, 0, 0, 0) 1 0) (20, 0, 0, 0) 2 (-1)) (25, 0, 0, 0) 7 (-1)) (25, 0, 0, 0) 15 (-1)) (25, 0, 0, 0) 7 0), 308))) rfl ?_
    refine zx_E.put (h := (25, 0, 0, 0)) (b := 12) rfl rfl (fun h => absurd h (by decide)) ?_
    show zx_E _ _ _ (53, [some (.inr (some (25, 0, 0, 0)))], [], (zx_lay (zx_up (zx_up (zx_up (zx_up (zx_up (zx_up (zx_up (zx_up (zx_up zM0 (17, 0, 0, 0) 0 (-1)) (19, 0, 0, 0) 0 1) (20, 0, 0, 0) 0 0) (20, 0, 0, 0) 1 0) (20, 0, 0, 0) 2 (-1)) (25, 0, 0, 0) 7 (-1)) (25, 0, 0, 0) 15 (-1)) (25, 0, 0, 0) 7 0) (25, 0, 0, 0) 12 0), 308)) _
    refine zx_E.go 6 (s' := (63, [some (.inr (some (25, 0, 0, 0)))], [.inl 0, .inl 0, .inl 0, .inr (some (25, 0, 0, 0))], (zx_lay (zx_up (zx_up (zx_up (zx_up (zx_up (zx_up (zx_up (zx_up (zx_up zM0 (17, 0, 0, 0) 0 (-1)) (19, 0, 0, 0) 0 1) (20, 0, 0, 0) 0 0) (20, 0, 0, 0) 1 0) (20, 0, 0, 0) 2 (-1)) (25, 0, 0, 0) 7 (-1)) (25, 0, 0, 0) 15 (-1)) (25, 0, 0, 0) 7 0) (25, 0, 0, 0) 12 0), 308))) rfl ?_
    refine zx_E.bt (c := 0 ≤ 0) (s1 := (78, [some (.inr (some (25, 0, 0, 0)))], [.inl 0, .inr (some (25, 0, 0, 0))], (zx_lay (zx_up (zx_up (zx_up (zx_up (zx_up (zx_up (zx_up (zx_up (zx_up zM0 (17, 0, 0, 0) 0 (-1)) (19, 0, 0, 0) 0 1) (20, 0, 0, 0) 0 0) (20, 0, 0, 0) 1 0) (20, 0, 0, 0) 2 (-1)) (25, 0, 0, 0) 7 (-1)) (25, 0, 0, 0) 15 (-1)) (25, 0, 0, 0) 7 0) (25, 0, 0, 0) 12 0), 308))) (s2 := (66, [some (.inr (some (25, 0, 0, 0)))], [.inl 0, .inr (some (25, 0, 0, 0))], (zx_lay (zx_up (zx_up (zx_up (zx_up (zx_up (zx_up (zx_up (zx_up (zx_up zM0 (17, 0, 0, 0) 0 (-1)) (19, 0, 0, 0) 0 1) (20, 0, 0, 0) 0 0) (20, 0, 0, 0) 1 0) (20, 0, 0, 0) 2 (-1)) (25, 0, 0, 0) 7 (-1)) (25, 0, 0, 0) 15 (-1)) (25, 0, 0, 0) 7 0) (25, 0, 0, 0) 12 0), 308))) rfl (by decide) ?_
    refine zx_E.go 1 (s' := (79, [some (.inr (some (25, 0, 0, 0)))], [.inl (-1), .inl 0, .inr (some (25, 0, 0, 0))], (zx_lay (zx_up (zx_up (zx_up (zx_up (zx_up (zx_up (zx_up (zx_up (zx_up zM0 (17, 0, 0, 0) 0 (-1)) (19, 0, 0, 0) 0 1) (20, 0, 0, 0) 0 0) (20, 0, 0, 0) 1 0) (20, 0, 0, 0) 2 (-1)) (25, 0, 0, 0) 7 (-1)) (25, 0, 0, 0) 15 (-1)) (25, 0, 0, 0) 7 0) (25, 0, 0, 0) 12 0), 308))) rfl ?_
    refine zx_E.call0 (y := 161) (as := [.inr (some (25, 0, 0, 0)), .inl 0, .inl (-1)]) (rest := []) (μ' := (zx_lay (zx_up (zx_up (zx_up (zx_up (zx_up (zx_up (zx_up (zx_up (zx_up (zx_up (zx_up zM0 (17, 0, 0, 0) 0 (-1)) (19, 0, 0, 0) 0 1) (20, 0, 0, 0) 0 0) (20, 0, 0, 0) 1 0) (20, 0, 0, 0) 2 (-1)) (25, 0, 0, 0) 7 (-1)) (25, 0, 0, 0) 15 (-1)) (25, 0, 0, 0) 7 0) (25, 0, 0, 0) 12 0) (25, 0, 0, 0) 13 0) (25, 0, 0, 0) 14 (-1)), 308)) rfl (zx_run_of zc_X11_refuse [some (.inr (some (25, 0, 0, 0))), some (.inl 0), some (.inl (-1))] rfl rfl (by
      refine zx_E.go 2 (s' := (2, [some (.inr (some (25, 0, 0, 0))), some (.inl 0), some (.inl (-1))], [.inl 0, .inr (some (25, 0, 0, 0))], (zx_lay (zx_up (zx_up (zx_up (zx_up (zx_up (zx_up (zx_up (zx_up (zx_up zM0 (17, 0, 0, 0) 0 (-1)) (19, 0, 0, 0) 0 1) (20, 0, 0, 0) 0 0) (20, 0, 0, 0) 1 0) (20, 0, 0, 0) 2 (-1)) (25, 0, 0, 0) 7 (-1)) (25, 0, 0, 0) 15 (-1)) (25, 0, 0, 0) 7 0) (25, 0, 0, 0) 12 0), 308))) rfl ?_
      refine zx_E.put (h := (25, 0, 0, 0)) (b := 13) rfl rfl (fun h => absurd h (by decide)) ?_
      show zx_E _ _ _ (5, [some (.inr (some (25, 0, 0, 0))), some (.inl 0), some (.inl (-1))], [], (zx_lay (zx_up (zx_up (zx_up (zx_up (zx_up (zx_up (zx_up (zx_up (zx_up (zx_up zM0 (17, 0, 0, 0) 0 (-1)) (19, 0, 0, 0) 0 1) (20, 0, 0, 0) 0 0) (20, 0, 0, 0) 1 0) (20, 0, 0, 0) 2 (-1)) (25, 0, 0, 0) 7 (-1)) (25, 0, 0, 0) 15 (-1)) (25, 0, 0, 0) 7 0) (25, 0, 0, 0) 12 0) (25, 0, 0, 0) 13 0), 308)) _
      refine zx_E.go 2 (s' := (7, [some (.inr (some (25, 0, 0, 0))), some (.inl 0), some (.inl (-1))], [.inl (-1), .inr (some (25, 0, 0, 0))], (zx_lay (zx_up (zx_up (zx_up (zx_up (zx_up (zx_up (zx_up (zx_up (zx_up (zx_up zM0 (17, 0, 0, 0) 0 (-1)) (19, 0, 0, 0) 0 1) (20, 0, 0, 0) 0 0) (20, 0, 0, 0) 1 0) (20, 0, 0, 0) 2 (-1)) (25, 0, 0, 0) 7 (-1)) (25, 0, 0, 0) 15 (-1)) (25, 0, 0, 0) 7 0) (25, 0, 0, 0) 12 0) (25, 0, 0, 0) 13 0), 308))) rfl ?_
      refine zx_E.put (h := (25, 0, 0, 0)) (b := 14) rfl rfl (fun h => absurd h (by decide)) ?_
      show zx_E _ _ _ (10, [some (.inr (some (25, 0, 0, 0))), some (.inl 0), some (.inl (-1))], [], (zx_lay (zx_up (zx_up (zx_up (zx_up (zx_up (zx_up (zx_up (zx_up (zx_up (zx_up (zx_up zM0 (17, 0, 0, 0) 0 (-1)) (19, 0, 0, 0) 0 1) (20, 0, 0, 0) 0 0) (20, 0, 0, 0) 1 0) (20, 0, 0, 0) 2 (-1)) (25, 0, 0, 0) 7 (-1)) (25, 0, 0, 0) 15 (-1)) (25, 0, 0, 0) 7 0) (25, 0, 0, 0) 12 0) (25, 0, 0, 0) 13 0) (25, 0, 0, 0) 14 (-1)), 308)) _
      exact zx_E.ret rfl)) ?_
    show zx_E _ _ _ (82, [some (.inr (some (25, 0, 0, 0)))], [], (zx_lay (zx_up (zx_up (zx_up (zx_up (zx_up (zx_up (zx_up (zx_up (zx_up (zx_up (zx_up zM0 (17, 0, 0, 0) 0 (-1)) (19, 0, 0, 0) 0 1) (20, 0, 0, 0) 0 0) (20, 0, 0, 0) 1 0) (20, 0, 0, 0) 2 (-1)) (25, 0, 0, 0) 7 (-1)) (25, 0, 0, 0) 15 (-1)) (25, 0, 0, 0) 7 0) (25, 0, 0, 0) 12 0) (25, 0, 0, 0) 13 0) (25, 0, 0, 0) 14 (-1)), 308)) _
    refine zx_E.go 3 (s' := (88, [some (.inr (some (25, 0, 0, 0)))], [.inl 0, .inl (-100)], (zx_lay (zx_up (zx_up (zx_up (zx_up (zx_up (zx_up (zx_up (zx_up (zx_up (zx_up (zx_up zM0 (17, 0, 0, 0) 0 (-1)) (19, 0, 0, 0) 0 1) (20, 0, 0, 0) 0 0) (20, 0, 0, 0) 1 0) (20, 0, 0, 0) 2 (-1)) (25, 0, 0, 0) 7 (-1)) (25, 0, 0, 0) 15 (-1)) (25, 0, 0, 0) 7 0) (25, 0, 0, 0) 12 0) (25, 0, 0, 0) 13 0) (25, 0, 0, 0) 14 (-1)), 308))) rfl ?_
    refine zx_E.go 1 (s' := (89, [some (.inr (some (25, 0, 0, 0)))], [.inl (-100)], (zx_lay (zx_up (zx_up (zx_up (zx_up (zx_up (zx_up (zx_up (zx_up (zx_up (zx_up (zx_up zM0 (17, 0, 0, 0) 0 (-1)) (19, 0, 0, 0) 0 1) (20, 0, 0, 0) 0 0) (20, 0, 0, 0) 1 0) (20, 0, 0, 0) 2 (-1)) (25, 0, 0, 0) 7 (-1)) (25, 0, 0, 0) 15 (-1)) (25, 0, 0, 0) 7 0) (25, 0, 0, 0) 12 0) (25, 0, 0, 0) 13 0) (25, 0, 0, 0) 14 (-1)), 308))) rfl ?_
    exact zx_E.iret rfl (fun h => absurd h (by decide)) rfl)) ?_
  show zx_E _ _ _ (219, [some (.inr (some (33, 0, 0, 0))), some (.inr (some (0, 0, 0, 0))), some (.inr (some (25, 0, 0, 0))), some (.inl 0)], [.inl (-100), .inl (-100)], (zx_lay (zx_up (zx_up (zx_up (zx_up (zx_up (zx_up (zx_up (zx_up (zx_up (zx_up (zx_up zM0 (17, 0, 0, 0) 0 (-1)) (19, 0, 0, 0) 0 1) (20, 0, 0, 0) 0 0) (20, 0, 0, 0) 1 0) (20, 0, 0, 0) 2 (-1)) (25, 0, 0, 0) 7 (-1)) (25, 0, 0, 0) 15 (-1)) (25, 0, 0, 0) 7 0) (25, 0, 0, 0) 12 0) (25, 0, 0, 0) 13 0) (25, 0, 0, 0) 14 (-1)), 308)) _
  refine zx_E.bt (c := (-100) = (-100)) (s1 := (734, [some (.inr (some (33, 0, 0, 0))), some (.inr (some (0, 0, 0, 0))), some (.inr (some (25, 0, 0, 0))), some (.inl 0)], [], (zx_lay (zx_up (zx_up (zx_up (zx_up (zx_up (zx_up (zx_up (zx_up (zx_up (zx_up (zx_up zM0 (17, 0, 0, 0) 0 (-1)) (19, 0, 0, 0) 0 1) (20, 0, 0, 0) 0 0) (20, 0, 0, 0) 1 0) (20, 0, 0, 0) 2 (-1)) (25, 0, 0, 0) 7 (-1)) (25, 0, 0, 0) 15 (-1)) (25, 0, 0, 0) 7 0) (25, 0, 0, 0) 12 0) (25, 0, 0, 0) 13 0) (25, 0, 0, 0) 14 (-1)), 308))) (s2 := (222, [some (.inr (some (33, 0, 0, 0))), some (.inr (some (0, 0, 0, 0))), some (.inr (some (25, 0, 0, 0))), some (.inl 0)], [], (zx_lay (zx_up (zx_up (zx_up (zx_up (zx_up (zx_up (zx_up (zx_up (zx_up (zx_up (zx_up zM0 (17, 0, 0, 0) 0 (-1)) (19, 0, 0, 0) 0 1) (20, 0, 0, 0) 0 0) (20, 0, 0, 0) 1 0) (20, 0, 0, 0) 2 (-1)) (25, 0, 0, 0) 7 (-1)) (25, 0, 0, 0) 15 (-1)) (25, 0, 0, 0) 7 0) (25, 0, 0, 0) 12 0) (25, 0, 0, 0) 13 0) (25, 0, 0, 0) 14 (-1)), 308))) rfl (by decide) ?_
  refine zx_E.go 6 (s' := (23, [some (.inr (some (33, 0, 0, 0))), some (.inr (some (0, 0, 0, 0))), some (.inr (some (25, 0, 0, 0))), some (.inl 7)], [.inl 7, .inl 7, .inl 7], (zx_lay (zx_up (zx_up (zx_up (zx_up (zx_up (zx_up (zx_up (zx_up (zx_up (zx_up (zx_up zM0 (17, 0, 0, 0) 0 (-1)) (19, 0, 0, 0) 0 1) (20, 0, 0, 0) 0 0) (20, 0, 0, 0) 1 0) (20, 0, 0, 0) 2 (-1)) (25, 0, 0, 0) 7 (-1)) (25, 0, 0, 0) 15 (-1)) (25, 0, 0, 0) 7 0) (25, 0, 0, 0) 12 0) (25, 0, 0, 0) 13 0) (25, 0, 0, 0) 14 (-1)), 308))) rfl ?_
  refine zx_E.go 1 (s' := (24, [some (.inr (some (33, 0, 0, 0))), some (.inr (some (0, 0, 0, 0))), some (.inr (some (25, 0, 0, 0))), some (.inl 7)], [.inl 0, .inl 7], (zx_lay (zx_up (zx_up (zx_up (zx_up (zx_up (zx_up (zx_up (zx_up (zx_up (zx_up (zx_up zM0 (17, 0, 0, 0) 0 (-1)) (19, 0, 0, 0) 0 1) (20, 0, 0, 0) 0 0) (20, 0, 0, 0) 1 0) (20, 0, 0, 0) 2 (-1)) (25, 0, 0, 0) 7 (-1)) (25, 0, 0, 0) 15 (-1)) (25, 0, 0, 0) 7 0) (25, 0, 0, 0) 12 0) (25, 0, 0, 0) 13 0) (25, 0, 0, 0) 14 (-1)), 308))) rfl ?_
  refine zx_E.bt (c := 0 < 7) (s1 := (740, [some (.inr (some (33, 0, 0, 0))), some (.inr (some (0, 0, 0, 0))), some (.inr (some (25, 0, 0, 0))), some (.inl 7)], [], (zx_lay (zx_up (zx_up (zx_up (zx_up (zx_up (zx_up (zx_up (zx_up (zx_up (zx_up (zx_up zM0 (17, 0, 0, 0) 0 (-1)) (19, 0, 0, 0) 0 1) (20, 0, 0, 0) 0 0) (20, 0, 0, 0) 1 0) (20, 0, 0, 0) 2 (-1)) (25, 0, 0, 0) 7 (-1)) (25, 0, 0, 0) 15 (-1)) (25, 0, 0, 0) 7 0) (25, 0, 0, 0) 12 0) (25, 0, 0, 0) 13 0) (25, 0, 0, 0) 14 (-1)), 308))) (s2 := (27, [some (.inr (some (33, 0, 0, 0))), some (.inr (some (0, 0, 0, 0))), some (.inr (some (25, 0, 0, 0))), some (.inl 7)], [], (zx_lay (zx_up (zx_up (zx_up (zx_up (zx_up (zx_up (zx_up (zx_up (zx_up (zx_up (zx_up zM0 (17, 0, 0, 0) 0 (-1)) (19, 0, 0, 0) 0 1) (20, 0, 0, 0) 0 0) (20, 0, 0, 0) 1 0) (20, 0, 0, 0) 2 (-1)) (25, 0, 0, 0) 7 (-1)) (25, 0, 0, 0) 15 (-1)) (25, 0, 0, 0) 7 0) (25, 0, 0, 0) 12 0) (25, 0, 0, 0) 13 0) (25, 0, 0, 0) 14 (-1)), 308))) rfl (by decide) ?_
  refine zx_E.go 1 (s' := (741, [some (.inr (some (33, 0, 0, 0))), some (.inr (some (0, 0, 0, 0))), some (.inr (some (25, 0, 0, 0))), some (.inl 7)], [.inl 1], (zx_lay (zx_up (zx_up (zx_up (zx_up (zx_up (zx_up (zx_up (zx_up (zx_up (zx_up (zx_up zM0 (17, 0, 0, 0) 0 (-1)) (19, 0, 0, 0) 0 1) (20, 0, 0, 0) 0 0) (20, 0, 0, 0) 1 0) (20, 0, 0, 0) 2 (-1)) (25, 0, 0, 0) 7 (-1)) (25, 0, 0, 0) 15 (-1)) (25, 0, 0, 0) 7 0) (25, 0, 0, 0) 12 0) (25, 0, 0, 0) 13 0) (25, 0, 0, 0) 14 (-1)), 308))) rfl ?_
  exact zx_E.iret rfl (fun _ => Or.inr rfl) rfl
set_option maxRecDepth 100000 in
set_option maxHeartbeats 4000000 in
theorem p1_op_2 {xs : Nat → Int32} {a0 a1 a2 a3 a4 a5 a6 : Int32} (e0 : xs 0 = a0) (e1 : xs 1 = a1) (e2 : xs 2 = a2) (e3 : xs 3 = a3) (e4 : xs 4 = a4) (e5 : xs 5 = a5) (e6 : xs 6 = a6) (hk : (a0 &&& 31) = 2) :
    ∃ μ : zx_M, μ.2 ≤ 308 ∧ zx_E (7, xs) 11 zc_L_law (18, [some (.inr (some (33, 0, 0, 0))), some (.inr (some (0, 0, 0, 0))), some (.inr (some (25, 0, 0, 0))), some (.inl 0)], [], (zx_lay zM0, 308)) (some (.inl 1), μ) := by
  by_cases h1 : a1 < 0
  · skip
    by_cases h2 : a1 = 0
    · subst h2
      exact absurd h1 (by decide)
    · skip
      by_cases h3 : a1 = 1
      · subst h3
        exact absurd h1 (by decide)
      · skip
        by_cases h4 : a1 = 2
        · subst h4
          exact absurd h1 (by decide)
        · skip
          refine ⟨(zx_lay zM0, 308), Nat.le_refl _, ?_⟩
          refine zx_E.go 4 (s' := (23, [some (.inr (some (33, 0, 0, 0))), some (.inr (some (0, 0, 0, 0))), some (.inr (some (25, 0, 0, 0))), some (.inl 0)], [.inl 7, .inl 7, .inl 0], (zx_lay zM0, 308))) rfl ?_
          refine zx_E.go 1 (s' := (24, [some (.inr (some (33, 0, 0, 0))), some (.inr (some (0, 0, 0, 0))), some (.inr (some (25, 0, 0, 0))), some (.inl 0)], [.inl 0, .inl 0], (zx_lay zM0, 308))) rfl ?_
          refine zx_E.bf (c := 0 < 0) (s1 := (740, [some (.inr (some (33, 0, 0, 0))), some (.inr (some (0, 0, 0, 0))), some (.inr (some (25, 0, 0, 0))), some (.inl 0)], [], (zx_lay zM0, 308))) (s2 := (27, [some (.inr (some (33, 0, 0, 0))), some (.inr (some (0, 0, 0, 0))), some (.inr (some (25, 0, 0, 0))), some (.inl 0)], [], (zx_lay zM0, 308))) rfl (by decide) ?_
          refine zx_E.go 2 (s' := (29, [some (.inr (some (33, 0, 0, 0))), some (.inr (some (0, 0, 0, 0))), some (.inr (some (25, 0, 0, 0))), some (.inl 0)], [.inl 0, .inr (some (33, 0, 0, 0))], (zx_lay zM0, 308))) rfl ?_
          refine zx_E.sld' (k := 0) (v := a0) rfl rfl (by omega) (by decide) e0 ?_
          show zx_E _ _ _ (30, [some (.inr (some (33, 0, 0, 0))), some (.inr (some (0, 0, 0, 0))), some (.inr (some (25, 0, 0, 0))), some (.inl 0)], [.inl a0], (zx_lay zM0, 308)) _
          refine zx_E.go 2 (s' := (33, [some (.inr (some (33, 0, 0, 0))), some (.inr (some (0, 0, 0, 0))), some (.inr (some (25, 0, 0, 0))), some (.inl 0)], [.inl (a0 &&& 31)], (zx_lay zM0, 308))) rfl ?_
          refine zx_E.one (s' := (zx_pick (a0 &&& 31) 0 [136, 211, 224, 247, 270, 293, 316, 339, 372, 405, 438, 471, 494, 517, 560, 573, 606, 639, 652, 685, 698, 711] 734, [some (.inr (some (33, 0, 0, 0))), some (.inr (some (0, 0, 0, 0))), some (.inr (some (25, 0, 0, 0))), some (.inl 0)], [], (zx_lay zM0, 308))) rfl ?_
          refine zx_E.pick (k' := 1) (by decide) (fun hn => absurd hn (fun q => absurd (hk.symm.trans q) (by decide))) (fun _ => ?_)
          refine zx_E.pick (k' := 2) (by decide) (fun hn => absurd hn (fun q => absurd (hk.symm.trans q) (by decide))) (fun _ => ?_)
          refine zx_E.pick (k' := 3) (by decide) (fun _ => ?_) (fun hn => absurd hk hn)
          refine zx_E.go 5 (s' := (229, [some (.inr (some (33, 0, 0, 0))), some (.inr (some (0, 0, 0, 0))), some (.inr (some (25, 0, 0, 0))), some (.inl 0)], [.inl 1, .inr (some (33, 0, 0, 0)), .inr (some (0, 0, 0, 0))], (zx_lay zM0, 308))) rfl ?_
          refine zx_E.sld' (k := 1) (v := a1) rfl rfl (by omega) (by decide) e1 ?_
          show zx_E _ _ _ (230, [some (.inr (some (33, 0, 0, 0))), some (.inr (some (0, 0, 0, 0))), some (.inr (some (25, 0, 0, 0))), some (.inl 0)], [.inl a1, .inr (some (0, 0, 0, 0))], (zx_lay zM0, 308)) _
          refine zx_E.call1 (y := 96) (as := [.inr (some (0, 0, 0, 0)), .inl a1]) (rest := []) (v := .inl (-1)) (μ' := (zx_lay zM0, 308)) rfl (zx_run_of zc_X10_refusal [some (.inr (some (0, 0, 0, 0))), some (.inl a1)] rfl rfl (by
            refine zx_E.go 3 (s' := (5, [some (.inr (some (0, 0, 0, 0))), some (.inl a1)], [.inl a1, .inr (some (19, 0, 0, 0))], (zx_lay zM0, 308))) rfl ?_
            refine zx_E.call1 (y := 59) (as := [.inr (some (19, 0, 0, 0)), .inl a1]) (rest := []) (v := .inl (-1)) (μ' := (zx_lay zM0, 308)) rfl (zx_run_of zc_X4_numberAt [some (.inr (some (19, 0, 0, 0))), some (.inl a1)] rfl rfl (by
              refine zx_E.go 1 (s' := (1, [some (.inr (some (19, 0, 0, 0))), some (.inl a1)], [.inl a1], (zx_lay zM0, 308))) rfl ?_
              refine zx_E.bt (c := a1 < 0) (s1 := (13, [some (.inr (some (19, 0, 0, 0))), some (.inl a1)], [], (zx_lay zM0, 308))) (s2 := (4, [some (.inr (some (19, 0, 0, 0))), some (.inl a1)], [], (zx_lay zM0, 308))) rfl h1 ?_
              refine zx_E.go 1 (s' := (14, [some (.inr (some (19, 0, 0, 0))), some (.inl a1)], [.inl (-1)], (zx_lay zM0, 308))) rfl ?_
              exact zx_E.iret rfl (fun h => absurd h (by decide)) rfl)) ?_
            show zx_E _ _ _ (8, [some (.inr (some (0, 0, 0, 0))), some (.inl a1)], [.inl (-1)], (zx_lay zM0, 308)) _
            exact zx_E.iret rfl (fun h => absurd h (by decide)) rfl)) ?_
          show zx_E _ _ _ (233, [some (.inr (some (33, 0, 0, 0))), some (.inr (some (0, 0, 0, 0))), some (.inr (some (25, 0, 0, 0))), some (.inl 0)], [.inl (-1)], (zx_lay zM0, 308)) _
          refine zx_E.go 5 (s' := (238, [some (.inr (some (33, 0, 0, 0))), some (.inr (some (0, 0, 0, 0))), some (.inr (some (25, 0, 0, 0))), some (.inl 0)], [.inl 1, .inr (some (33, 0, 0, 0)), .inr (some (25, 0, 0, 0)), .inl (-1)], (zx_lay zM0, 308))) rfl ?_
          refine zx_E.sld' (k := 1) (v := a1) rfl rfl (by omega) (by decide) e1 ?_
          show zx_E _ _ _ (239, [some (.inr (some (33, 0, 0, 0))), some (.inr (some (0, 0, 0, 0))), some (.inr (some (25, 0, 0, 0))), some (.inl 0)], [.inl a1, .inr (some (25, 0, 0, 0)), .inl (-1)], (zx_lay zM0, 308)) _
          refine zx_E.call1 (y := 172) (as := [.inr (some (25, 0, 0, 0)), .inl a1]) (rest := [.inl (-1)]) (v := .inl (-1)) (μ' := (zx_lay zM0, 308)) rfl (zx_run_of zc_X11_refusal [some (.inr (some (25, 0, 0, 0))), some (.inl a1)] rfl rfl (by
            refine zx_E.go 1 (s' := (1, [some (.inr (some (25, 0, 0, 0))), some (.inl a1)], [.inl a1], (zx_lay zM0, 308))) rfl ?_
            refine zx_E.bf (c := a1 = 0) (s1 := (4, [some (.inr (some (25, 0, 0, 0))), some (.inl a1)], [], (zx_lay zM0, 308))) (s2 := (11, [some (.inr (some (25, 0, 0, 0))), some (.inl a1)], [], (zx_lay zM0, 308))) rfl h2 ?_
            refine zx_E.go 2 (s' := (13, [some (.inr (some (25, 0, 0, 0))), some (.inl a1)], [.inl 1, .inl a1], (zx_lay zM0, 308))) rfl ?_
            refine zx_E.bf (c := a1 = 1) (s1 := (16, [some (.inr (some (25, 0, 0, 0))), some (.inl a1)], [], (zx_lay zM0, 308))) (s2 := (23, [some (.inr (some (25, 0, 0, 0))), some (.inl a1)], [], (zx_lay zM0, 308))) rfl h3 ?_
            refine zx_E.go 2 (s' := (25, [some (.inr (some (25, 0, 0, 0))), some (.inl a1)], [.inl 2, .inl a1], (zx_lay zM0, 308))) rfl ?_
            refine zx_E.bf (c := a1 = 2) (s1 := (28, [some (.inr (some (25, 0, 0, 0))), some (.inl a1)], [], (zx_lay zM0, 308))) (s2 := (48, [some (.inr (some (25, 0, 0, 0))), some (.inl a1)], [], (zx_lay zM0, 308))) rfl h4 ?_
            refine zx_E.go 1 (s' := (49, [some (.inr (some (25, 0, 0, 0))), some (.inl a1)], [.inl (-1)], (zx_lay zM0, 308))) rfl ?_
            exact zx_E.iret rfl (fun h => absurd h (by decide)) rfl)) ?_
          show zx_E _ _ _ (242, [some (.inr (some (33, 0, 0, 0))), some (.inr (some (0, 0, 0, 0))), some (.inr (some (25, 0, 0, 0))), some (.inl 0)], [.inl (-1), .inl (-1)], (zx_lay zM0, 308)) _
          refine zx_E.bt (c := (-1) = (-1)) (s1 := (734, [some (.inr (some (33, 0, 0, 0))), some (.inr (some (0, 0, 0, 0))), some (.inr (some (25, 0, 0, 0))), some (.inl 0)], [], (zx_lay zM0, 308))) (s2 := (245, [some (.inr (some (33, 0, 0, 0))), some (.inr (some (0, 0, 0, 0))), some (.inr (some (25, 0, 0, 0))), some (.inl 0)], [], (zx_lay zM0, 308))) rfl (by decide) ?_
          refine zx_E.go 6 (s' := (23, [some (.inr (some (33, 0, 0, 0))), some (.inr (some (0, 0, 0, 0))), some (.inr (some (25, 0, 0, 0))), some (.inl 7)], [.inl 7, .inl 7, .inl 7], (zx_lay zM0, 308))) rfl ?_
          refine zx_E.go 1 (s' := (24, [some (.inr (some (33, 0, 0, 0))), some (.inr (some (0, 0, 0, 0))), some (.inr (some (25, 0, 0, 0))), some (.inl 7)], [.inl 0, .inl 7], (zx_lay zM0, 308))) rfl ?_
          refine zx_E.bt (c := 0 < 7) (s1 := (740, [some (.inr (some (33, 0, 0, 0))), some (.inr (some (0, 0, 0, 0))), some (.inr (some (25, 0, 0, 0))), some (.inl 7)], [], (zx_lay zM0, 308))) (s2 := (27, [some (.inr (some (33, 0, 0, 0))), some (.inr (some (0, 0, 0, 0))), some (.inr (some (25, 0, 0, 0))), some (.inl 7)], [], (zx_lay zM0, 308))) rfl (by decide) ?_
          refine zx_E.go 1 (s' := (741, [some (.inr (some (33, 0, 0, 0))), some (.inr (some (0, 0, 0, 0))), some (.inr (some (25, 0, 0, 0))), some (.inl 7)], [.inl 1], (zx_lay zM0, 308))) rfl ?_
          exact zx_E.iret rfl (fun _ => Or.inr rfl) rfl
  · skip
    by_cases h5 : a1 < 3
    · skip
      rcases zx_02 h1 (Int32.not_le.mpr h5) with h | h | h
      · subst h
        refine ⟨(zx_lay zM0, 308), Nat.le_refl _, ?_⟩
        refine zx_E.go 4 (s' := (23, [some (.inr (some (33, 0, 0, 0))), some (.inr (some (0, 0, 0, 0))), some (.inr (some (25, 0, 0, 0))), some (.inl 0)], [.inl 7, .inl 7, .inl 0], (zx_lay zM0, 308))) rfl ?_
        refine zx_E.go 1 (s' := (24, [some (.inr (some (33, 0, 0, 0))), some (.inr (some (0, 0, 0, 0))), some (.inr (some (25, 0, 0, 0))), some (.inl 0)], [.inl 0, .inl 0], (zx_lay zM0, 308))) rfl ?_
        refine zx_E.bf (c := 0 < 0) (s1 := (740, [some (.inr (some (33, 0, 0, 0))), some (.inr (some (0, 0, 0, 0))), some (.inr (some (25, 0, 0, 0))), some (.inl 0)], [], (zx_lay zM0, 308))) (s2 := (27, [some (.inr (some (33, 0, 0, 0))), some (.inr (some (0, 0, 0, 0))), some (.inr (some (25, 0, 0, 0))), some (.inl 0)], [], (zx_lay zM0, 308))) rfl (by decide) ?_
        refine zx_E.go 2 (s' := (29, [some (.inr (some (33, 0, 0, 0))), some (.inr (some (0, 0, 0, 0))), some (.inr (some (25, 0, 0, 0))), some (.inl 0)], [.inl 0, .inr (some (33, 0, 0, 0))], (zx_lay zM0, 308))) rfl ?_
        refine zx_E.sld' (k := 0) (v := a0) rfl rfl (by omega) (by decide) e0 ?_
        show zx_E _ _ _ (30, [some (.inr (some (33, 0, 0, 0))), some (.inr (some (0, 0, 0, 0))), some (.inr (some (25, 0, 0, 0))), some (.inl 0)], [.inl a0], (zx_lay zM0, 308)) _
        refine zx_E.go 2 (s' := (33, [some (.inr (some (33, 0, 0, 0))), some (.inr (some (0, 0, 0, 0))), some (.inr (some (25, 0, 0, 0))), some (.inl 0)], [.inl (a0 &&& 31)], (zx_lay zM0, 308))) rfl ?_
        refine zx_E.one (s' := (zx_pick (a0 &&& 31) 0 [136, 211, 224, 247, 270, 293, 316, 339, 372, 405, 438, 471, 494, 517, 560, 573, 606, 639, 652, 685, 698, 711] 734, [some (.inr (some (33, 0, 0, 0))), some (.inr (some (0, 0, 0, 0))), some (.inr (some (25, 0, 0, 0))), some (.inl 0)], [], (zx_lay zM0, 308))) rfl ?_
        refine zx_E.pick (k' := 1) (by decide) (fun hn => absurd hn (fun q => absurd (hk.symm.trans q) (by decide))) (fun _ => ?_)
        refine zx_E.pick (k' := 2) (by decide) (fun hn => absurd hn (fun q => absurd (hk.symm.trans q) (by decide))) (fun _ => ?_)
        refine zx_E.pick (k' := 3) (by decide) (fun _ => ?_) (fun hn => absurd hk hn)
        refine zx_E.go 5 (s' := (229, [some (.inr (some (33, 0, 0, 0))), some (.inr (some (0, 0, 0, 0))), some (.inr (some (25, 0, 0, 0))), some (.inl 0)], [.inl 1, .inr (some (33, 0, 0, 0)), .inr (some (0, 0, 0, 0))], (zx_lay zM0, 308))) rfl ?_
        refine zx_E.sld' (k := 1) (v := 0) rfl rfl (by omega) (by decide) e1 ?_
        show zx_E _ _ _ (230, [some (.inr (some (33, 0, 0, 0))), some (.inr (some (0, 0, 0, 0))), some (.inr (some (25, 0, 0, 0))), some (.inl 0)], [.inl 0, .inr (some (0, 0, 0, 0))], (zx_lay zM0, 308)) _
        refine zx_E.call1 (y := 96) (as := [.inr (some (0, 0, 0, 0)), .inl 0]) (rest := []) (v := .inl (-5)) (μ' := (zx_lay zM0, 308)) rfl (zx_run_of zc_X10_refusal [some (.inr (some (0, 0, 0, 0))), some (.inl 0)] rfl rfl (by
          refine zx_E.go 3 (s' := (5, [some (.inr (some (0, 0, 0, 0))), some (.inl 0)], [.inl 0, .inr (some (19, 0, 0, 0))], (zx_lay zM0, 308))) rfl ?_
          refine zx_E.call1 (y := 59) (as := [.inr (some (19, 0, 0, 0)), .inl 0]) (rest := []) (v := .inl (-5)) (μ' := (zx_lay zM0, 308)) rfl (zx_run_of zc_X4_numberAt [some (.inr (some (19, 0, 0, 0))), some (.inl 0)] rfl rfl (by
            refine zx_E.go 1 (s' := (1, [some (.inr (some (19, 0, 0, 0))), some (.inl 0)], [.inl 0], (zx_lay zM0, 308))) rfl ?_
            refine zx_E.bf (c := 0 < 0) (s1 := (13, [some (.inr (some (19, 0, 0, 0))), some (.inl 0)], [], (zx_lay zM0, 308))) (s2 := (4, [some (.inr (some (19, 0, 0, 0))), some (.inl 0)], [], (zx_lay zM0, 308))) rfl (by decide) ?_
            refine zx_E.go 4 (s' := (10, [some (.inr (some (19, 0, 0, 0))), some (.inl 0)], [.inl 3, .inl 0], (zx_lay zM0, 308))) rfl ?_
            refine zx_E.bt (c := 0 < 3) (s1 := (15, [some (.inr (some (19, 0, 0, 0))), some (.inl 0)], [], (zx_lay zM0, 308))) (s2 := (13, [some (.inr (some (19, 0, 0, 0))), some (.inl 0)], [], (zx_lay zM0, 308))) rfl (by decide) ?_
            refine zx_E.go 2 (s' := (19, [some (.inr (some (19, 0, 0, 0))), some (.inl 0)], [.inl 0], (zx_lay zM0, 308))) rfl ?_
            refine zx_E.bt (c := 0 = 0) (s1 := (31, [some (.inr (some (19, 0, 0, 0))), some (.inl 0)], [], (zx_lay zM0, 308))) (s2 := (22, [some (.inr (some (19, 0, 0, 0))), some (.inl 0)], [], (zx_lay zM0, 308))) rfl (by decide) ?_
            refine zx_E.go 1 (s' := (33, [some (.inr (some (19, 0, 0, 0))), some (.inl 0)], [.inl (-5)], (zx_lay zM0, 308))) rfl ?_
            exact zx_E.iret rfl (fun h => absurd h (by decide)) rfl)) ?_
          show zx_E _ _ _ (8, [some (.inr (some (0, 0, 0, 0))), some (.inl 0)], [.inl (-5)], (zx_lay zM0, 308)) _
          exact zx_E.iret rfl (fun h => absurd h (by decide)) rfl)) ?_
        show zx_E _ _ _ (233, [some (.inr (some (33, 0, 0, 0))), some (.inr (some (0, 0, 0, 0))), some (.inr (some (25, 0, 0, 0))), some (.inl 0)], [.inl (-5)], (zx_lay zM0, 308)) _
        refine zx_E.go 5 (s' := (238, [some (.inr (some (33, 0, 0, 0))), some (.inr (some (0, 0, 0, 0))), some (.inr (some (25, 0, 0, 0))), some (.inl 0)], [.inl 1, .inr (some (33, 0, 0, 0)), .inr (some (25, 0, 0, 0)), .inl (-5)], (zx_lay zM0, 308))) rfl ?_
        refine zx_E.sld' (k := 1) (v := 0) rfl rfl (by omega) (by decide) e1 ?_
        show zx_E _ _ _ (239, [some (.inr (some (33, 0, 0, 0))), some (.inr (some (0, 0, 0, 0))), some (.inr (some (25, 0, 0, 0))), some (.inl 0)], [.inl 0, .inr (some (25, 0, 0, 0)), .inl (-5)], (zx_lay zM0, 308)) _
        refine zx_E.call1 (y := 172) (as := [.inr (some (25, 0, 0, 0)), .inl 0]) (rest := [.inl (-5)]) (v := .inl (-5)) (μ' := (zx_lay zM0, 308)) rfl (zx_run_of zc_X11_refusal [some (.inr (some (25, 0, 0, 0))), some (.inl 0)] rfl rfl (by
          refine zx_E.go 1 (s' := (1, [some (.inr (some (25, 0, 0, 0))), some (.inl 0)], [.inl 0], (zx_lay zM0, 308))) rfl ?_
          refine zx_E.bt (c := 0 = 0) (s1 := (4, [some (.inr (some (25, 0, 0, 0))), some (.inl 0)], [], (zx_lay zM0, 308))) (s2 := (11, [some (.inr (some (25, 0, 0, 0))), some (.inl 0)], [], (zx_lay zM0, 308))) rfl (by decide) ?_
          refine zx_E.go 3 (s' := (49, [some (.inr (some (25, 0, 0, 0))), some (.inl 0)], [.inl (-5)], (zx_lay zM0, 308))) rfl ?_
          exact zx_E.iret rfl (fun h => absurd h (by decide)) rfl)) ?_
        show zx_E _ _ _ (242, [some (.inr (some (33, 0, 0, 0))), some (.inr (some (0, 0, 0, 0))), some (.inr (some (25, 0, 0, 0))), some (.inl 0)], [.inl (-5), .inl (-5)], (zx_lay zM0, 308)) _
        refine zx_E.bt (c := (-5) = (-5)) (s1 := (734, [some (.inr (some (33, 0, 0, 0))), some (.inr (some (0, 0, 0, 0))), some (.inr (some (25, 0, 0, 0))), some (.inl 0)], [], (zx_lay zM0, 308))) (s2 := (245, [some (.inr (some (33, 0, 0, 0))), some (.inr (some (0, 0, 0, 0))), some (.inr (some (25, 0, 0, 0))), some (.inl 0)], [], (zx_lay zM0, 308))) rfl (by decide) ?_
        refine zx_E.go 6 (s' := (23, [some (.inr (some (33, 0, 0, 0))), some (.inr (some (0, 0, 0, 0))), some (.inr (some (25, 0, 0, 0))), some (.inl 7)], [.inl 7, .inl 7, .inl 7], (zx_lay zM0, 308))) rfl ?_
        refine zx_E.go 1 (s' := (24, [some (.inr (some (33, 0, 0, 0))), some (.inr (some (0, 0, 0, 0))), some (.inr (some (25, 0, 0, 0))), some (.inl 7)], [.inl 0, .inl 7], (zx_lay zM0, 308))) rfl ?_
        refine zx_E.bt (c := 0 < 7) (s1 := (740, [some (.inr (some (33, 0, 0, 0))), some (.inr (some (0, 0, 0, 0))), some (.inr (some (25, 0, 0, 0))), some (.inl 7)], [], (zx_lay zM0, 308))) (s2 := (27, [some (.inr (some (33, 0, 0, 0))), some (.inr (some (0, 0, 0, 0))), some (.inr (some (25, 0, 0, 0))), some (.inl 7)], [], (zx_lay zM0, 308))) rfl (by decide) ?_
        refine zx_E.go 1 (s' := (741, [some (.inr (some (33, 0, 0, 0))), some (.inr (some (0, 0, 0, 0))), some (.inr (some (25, 0, 0, 0))), some (.inl 7)], [.inl 1], (zx_lay zM0, 308))) rfl ?_
        exact zx_E.iret rfl (fun _ => Or.inr rfl) rfl
      · subst h
        refine ⟨(zx_lay zM0, 308), Nat.le_refl _, ?_⟩
        refine zx_E.go 4 (s' := (23, [some (.inr (some (33, 0, 0, 0))), some (.inr (some (0, 0, 0, 0))), some (.inr (some (25, 0, 0, 0))), some (.inl 0)], [.inl 7, .inl 7, .inl 0], (zx_lay zM0, 308))) rfl ?_
        refine zx_E.go 1 (s' := (24, [some (.inr (some (33, 0, 0, 0))), some (.inr (some (0, 0, 0, 0))), some (.inr (some (25, 0, 0, 0))), some (.inl 0)], [.inl 0, .inl 0], (zx_lay zM0, 308))) rfl ?_
        refine zx_E.bf (c := 0 < 0) (s1 := (740, [some (.inr (some (33, 0, 0, 0))), some (.inr (some (0, 0, 0, 0))), some (.inr (some (25, 0, 0, 0))), some (.inl 0)], [], (zx_lay zM0, 308))) (s2 := (27, [some (.inr (some (33, 0, 0, 0))), some (.inr (some (0, 0, 0, 0))), some (.inr (some (25, 0, 0, 0))), some (.inl 0)], [], (zx_lay zM0, 308))) rfl (by decide) ?_
        refine zx_E.go 2 (s' := (29, [some (.inr (some (33, 0, 0, 0))), some (.inr (some (0, 0, 0, 0))), some (.inr (some (25, 0, 0, 0))), some (.inl 0)], [.inl 0, .inr (some (33, 0, 0, 0))], (zx_lay zM0, 308))) rfl ?_
        refine zx_E.sld' (k := 0) (v := a0) rfl rfl (by omega) (by decide) e0 ?_
        show zx_E _ _ _ (30, [some (.inr (some (33, 0, 0, 0))), some (.inr (some (0, 0, 0, 0))), some (.inr (some (25, 0, 0, 0))), some (.inl 0)], [.inl a0], (zx_lay zM0, 308)) _
        refine zx_E.go 2 (s' := (33, [some (.inr (some (33, 0, 0, 0))), some (.inr (some (0, 0, 0, 0))), some (.inr (some (25, 0, 0, 0))), some (.inl 0)], [.inl (a0 &&& 31)], (zx_lay zM0, 308))) rfl ?_
        refine zx_E.one (s' := (zx_pick (a0 &&& 31) 0 [136, 211, 224, 247, 270, 293, 316, 339, 372, 405, 438, 471, 494, 517, 560, 573, 606, 639, 652, 685, 698, 711] 734, [some (.inr (some (33, 0, 0, 0))), some (.inr (some (0, 0, 0, 0))), some (.inr (some (25, 0, 0, 0))), some (.inl 0)], [], (zx_lay zM0, 308))) rfl ?_
        refine zx_E.pick (k' := 1) (by decide) (fun hn => absurd hn (fun q => absurd (hk.symm.trans q) (by decide))) (fun _ => ?_)
        refine zx_E.pick (k' := 2) (by decide) (fun hn => absurd hn (fun q => absurd (hk.symm.trans q) (by decide))) (fun _ => ?_)
        refine zx_E.pick (k' := 3) (by decide) (fun _ => ?_) (fun hn => absurd hk hn)
        refine zx_E.go 5 (s' := (229, [some (.inr (some (33, 0, 0, 0))), some (.inr (some (0, 0, 0, 0))), some (.inr (some (25, 0, 0, 0))), some (.inl 0)], [.inl 1, .inr (some (33, 0, 0, 0)), .inr (some (0, 0, 0, 0))], (zx_lay zM0, 308))) rfl ?_
        refine zx_E.sld' (k := 1) (v := 1) rfl rfl (by omega) (by decide) e1 ?_
        show zx_E _ _ _ (230, [some (.inr (some (33, 0, 0, 0))), some (.inr (some (0, 0, 0, 0))), some (.inr (some (25, 0, 0, 0))), some (.inl 0)], [.inl 1, .inr (some (0, 0, 0, 0))], (zx_lay zM0, 308)) _
        refine zx_E.call1 (y := 96) (as := [.inr (some (0, 0, 0, 0)), .inl 1]) (rest := []) (v := .inl (-5)) (μ' := (zx_lay zM0, 308)) rfl (zx_run_of zc_X10_refusal [some (.inr (some (0, 0, 0, 0))), some (.inl 1)] rfl rfl (by
          refine zx_E.go 3 (s' := (5, [some (.inr (some (0, 0, 0, 0))), some (.inl 1)], [.inl 1, .inr (some (19, 0, 0, 0))], (zx_lay zM0, 308))) rfl ?_
          refine zx_E.call1 (y := 59) (as := [.inr (some (19, 0, 0, 0)), .inl 1]) (rest := []) (v := .inl (-5)) (μ' := (zx_lay zM0, 308)) rfl (zx_run_of zc_X4_numberAt [some (.inr (some (19, 0, 0, 0))), some (.inl 1)] rfl rfl (by
            refine zx_E.go 1 (s' := (1, [some (.inr (some (19, 0, 0, 0))), some (.inl 1)], [.inl 1], (zx_lay zM0, 308))) rfl ?_
            refine zx_E.bf (c := 1 < 0) (s1 := (13, [some (.inr (some (19, 0, 0, 0))), some (.inl 1)], [], (zx_lay zM0, 308))) (s2 := (4, [some (.inr (some (19, 0, 0, 0))), some (.inl 1)], [], (zx_lay zM0, 308))) rfl (by decide) ?_
            refine zx_E.go 4 (s' := (10, [some (.inr (some (19, 0, 0, 0))), some (.inl 1)], [.inl 3, .inl 1], (zx_lay zM0, 308))) rfl ?_
            refine zx_E.bt (c := 1 < 3) (s1 := (15, [some (.inr (some (19, 0, 0, 0))), some (.inl 1)], [], (zx_lay zM0, 308))) (s2 := (13, [some (.inr (some (19, 0, 0, 0))), some (.inl 1)], [], (zx_lay zM0, 308))) rfl (by decide) ?_
            refine zx_E.go 2 (s' := (19, [some (.inr (some (19, 0, 0, 0))), some (.inl 1)], [.inl 0], (zx_lay zM0, 308))) rfl ?_
            refine zx_E.bt (c := 0 = 0) (s1 := (31, [some (.inr (some (19, 0, 0, 0))), some (.inl 1)], [], (zx_lay zM0, 308))) (s2 := (22, [some (.inr (some (19, 0, 0, 0))), some (.inl 1)], [], (zx_lay zM0, 308))) rfl (by decide) ?_
            refine zx_E.go 1 (s' := (33, [some (.inr (some (19, 0, 0, 0))), some (.inl 1)], [.inl (-5)], (zx_lay zM0, 308))) rfl ?_
            exact zx_E.iret rfl (fun h => absurd h (by decide)) rfl)) ?_
          show zx_E _ _ _ (8, [some (.inr (some (0, 0, 0, 0))), some (.inl 1)], [.inl (-5)], (zx_lay zM0, 308)) _
          exact zx_E.iret rfl (fun h => absurd h (by decide)) rfl)) ?_
        show zx_E _ _ _ (233, [some (.inr (some (33, 0, 0, 0))), some (.inr (some (0, 0, 0, 0))), some (.inr (some (25, 0, 0, 0))), some (.inl 0)], [.inl (-5)], (zx_lay zM0, 308)) _
        refine zx_E.go 5 (s' := (238, [some (.inr (some (33, 0, 0, 0))), some (.inr (some (0, 0, 0, 0))), some (.inr (some (25, 0, 0, 0))), some (.inl 0)], [.inl 1, .inr (some (33, 0, 0, 0)), .inr (some (25, 0, 0, 0)), .inl (-5)], (zx_lay zM0, 308))) rfl ?_
        refine zx_E.sld' (k := 1) (v := 1) rfl rfl (by omega) (by decide) e1 ?_
        show zx_E _ _ _ (239, [some (.inr (some (33, 0, 0, 0))), some (.inr (some (0, 0, 0, 0))), some (.inr (some (25, 0, 0, 0))), some (.inl 0)], [.inl 1, .inr (some (25, 0, 0, 0)), .inl (-5)], (zx_lay zM0, 308)) _
        refine zx_E.call1 (y := 172) (as := [.inr (some (25, 0, 0, 0)), .inl 1]) (rest := [.inl (-5)]) (v := .inl (-5)) (μ' := (zx_lay zM0, 308)) rfl (zx_run_of zc_X11_refusal [some (.inr (some (25, 0, 0, 0))), some (.inl 1)] rfl rfl (by
          refine zx_E.go 1 (s' := (1, [some (.inr (some (25, 0, 0, 0))), some (.inl 1)], [.inl 1], (zx_lay zM0, 308))) rfl ?_
          refine zx_E.bf (c := 1 = 0) (s1 := (4, [some (.inr (some (25, 0, 0, 0))), some (.inl 1)], [], (zx_lay zM0, 308))) (s2 := (11, [some (.inr (some (25, 0, 0, 0))), some (.inl 1)], [], (zx_lay zM0, 308))) rfl (by decide) ?_
          refine zx_E.go 2 (s' := (13, [some (.inr (some (25, 0, 0, 0))), some (.inl 1)], [.inl 1, .inl 1], (zx_lay zM0, 308))) rfl ?_
          refine zx_E.bt (c := 1 = 1) (s1 := (16, [some (.inr (some (25, 0, 0, 0))), some (.inl 1)], [], (zx_lay zM0, 308))) (s2 := (23, [some (.inr (some (25, 0, 0, 0))), some (.inl 1)], [], (zx_lay zM0, 308))) rfl (by decide) ?_
          refine zx_E.go 3 (s' := (49, [some (.inr (some (25, 0, 0, 0))), some (.inl 1)], [.inl (-5)], (zx_lay zM0, 308))) rfl ?_
          exact zx_E.iret rfl (fun h => absurd h (by decide)) rfl)) ?_
        show zx_E _ _ _ (242, [some (.inr (some (33, 0, 0, 0))), some (.inr (some (0, 0, 0, 0))), some (.inr (some (25, 0, 0, 0))), some (.inl 0)], [.inl (-5), .inl (-5)], (zx_lay zM0, 308)) _
        refine zx_E.bt (c := (-5) = (-5)) (s1 := (734, [some (.inr (some (33, 0, 0, 0))), some (.inr (some (0, 0, 0, 0))), some (.inr (some (25, 0, 0, 0))), some (.inl 0)], [], (zx_lay zM0, 308))) (s2 := (245, [some (.inr (some (33, 0, 0, 0))), some (.inr (some (0, 0, 0, 0))), some (.inr (some (25, 0, 0, 0))), some (.inl 0)], [], (zx_lay zM0, 308))) rfl (by decide) ?_
        refine zx_E.go 6 (s' := (23, [some (.inr (some (33, 0, 0, 0))), some (.inr (some (0, 0, 0, 0))), some (.inr (some (25, 0, 0, 0))), some (.inl 7)], [.inl 7, .inl 7, .inl 7], (zx_lay zM0, 308))) rfl ?_
        refine zx_E.go 1 (s' := (24, [some (.inr (some (33, 0, 0, 0))), some (.inr (some (0, 0, 0, 0))), some (.inr (some (25, 0, 0, 0))), some (.inl 7)], [.inl 0, .inl 7], (zx_lay zM0, 308))) rfl ?_
        refine zx_E.bt (c := 0 < 7) (s1 := (740, [some (.inr (some (33, 0, 0, 0))), some (.inr (some (0, 0, 0, 0))), some (.inr (some (25, 0, 0, 0))), some (.inl 7)], [], (zx_lay zM0, 308))) (s2 := (27, [some (.inr (some (33, 0, 0, 0))), some (.inr (some (0, 0, 0, 0))), some (.inr (some (25, 0, 0, 0))), some (.inl 7)], [], (zx_lay zM0, 308))) rfl (by decide) ?_
        refine zx_E.go 1 (s' := (741, [some (.inr (some (33, 0, 0, 0))), some (.inr (some (0, 0, 0, 0))), some (.inr (some (25, 0, 0, 0))), some (.inl 7)], [.inl 1], (zx_lay zM0, 308))) rfl ?_
        exact zx_E.iret rfl (fun _ => Or.inr rfl) rfl
      · subst h
        refine ⟨(zx_lay zM0, 308), Nat.le_refl _, ?_⟩
        refine zx_E.go 4 (s' := (23, [some (.inr (some (33, 0, 0, 0))), some (.inr (some (0, 0, 0, 0))), some (.inr (some (25, 0, 0, 0))), some (.inl 0)], [.inl 7, .inl 7, .inl 0], (zx_lay zM0, 308))) rfl ?_
        refine zx_E.go 1 (s' := (24, [some (.inr (some (33, 0, 0, 0))), some (.inr (some (0, 0, 0, 0))), some (.inr (some (25, 0, 0, 0))), some (.inl 0)], [.inl 0, .inl 0], (zx_lay zM0, 308))) rfl ?_
        refine zx_E.bf (c := 0 < 0) (s1 := (740, [some (.inr (some (33, 0, 0, 0))), some (.inr (some (0, 0, 0, 0))), some (.inr (some (25, 0, 0, 0))), some (.inl 0)], [], (zx_lay zM0, 308))) (s2 := (27, [some (.inr (some (33, 0, 0, 0))), some (.inr (some (0, 0, 0, 0))), some (.inr (some (25, 0, 0, 0))), some (.inl 0)], [], (zx_lay zM0, 308))) rfl (by decide) ?_
        refine zx_E.go 2 (s' := (29, [some (.inr (some (33, 0, 0, 0))), some (.inr (some (0, 0, 0, 0))), some (.inr (some (25, 0, 0, 0))), some (.inl 0)], [.inl 0, .inr (some (33, 0, 0, 0))], (zx_lay zM0, 308))) rfl ?_
        refine zx_E.sld' (k := 0) (v := a0) rfl rfl (by omega) (by decide) e0 ?_
        show zx_E _ _ _ (30, [some (.inr (some (33, 0, 0, 0))), some (.inr (some (0, 0, 0, 0))), some (.inr (some (25, 0, 0, 0))), some (.inl 0)], [.inl a0], (zx_lay zM0, 308)) _
        refine zx_E.go 2 (s' := (33, [some (.inr (some (33, 0, 0, 0))), some (.inr (some (0, 0, 0, 0))), some (.inr (some (25, 0, 0, 0))), some (.inl 0)], [.inl (a0 &&& 31)], (zx_lay zM0, 308))) rfl ?_
        refine zx_E.one (s' := (zx_pick (a0 &&& 31) 0 [136, 211, 224, 247, 270, 293, 316, 339, 372, 405, 438, 471, 494, 517, 560, 573, 606, 639, 652, 685, 698, 711] 734, [some (.inr (some (33, 0, 0, 0))), some (.inr (some (0, 0, 0, 0))), some (.inr (some (25, 0, 0, 0))), some (.inl 0)], [], (zx_lay zM0, 308))) rfl ?_
        refine zx_E.pick (k' := 1) (by decide) (fun hn => absurd hn (fun q => absurd (hk.symm.trans q) (by decide))) (fun _ => ?_)
        refine zx_E.pick (k' := 2) (by decide) (fun hn => absurd hn (fun q => absurd (hk.symm.trans q) (by decide))) (fun _ => ?_)
        refine zx_E.pick (k' := 3) (by decide) (fun _ => ?_) (fun hn => absurd hk hn)
        refine zx_E.go 5 (s' := (229, [some (.inr (some (33, 0, 0, 0))), some (.inr (some (0, 0, 0, 0))), some (.inr (some (25, 0, 0, 0))), some (.inl 0)], [.inl 1, .inr (some (33, 0, 0, 0)), .inr (some (0, 0, 0, 0))], (zx_lay zM0, 308))) rfl ?_
        refine zx_E.sld' (k := 1) (v := 2) rfl rfl (by omega) (by decide) e1 ?_
        show zx_E _ _ _ (230, [some (.inr (some (33, 0, 0, 0))), some (.inr (some (0, 0, 0, 0))), some (.inr (some (25, 0, 0, 0))), some (.inl 0)], [.inl 2, .inr (some (0, 0, 0, 0))], (zx_lay zM0, 308)) _
        refine zx_E.call1 (y := 96) (as := [.inr (some (0, 0, 0, 0)), .inl 2]) (rest := []) (v := .inl (-5)) (μ' := (zx_lay zM0, 308)) rfl (zx_run_of zc_X10_refusal [some (.inr (some (0, 0, 0, 0))), some (.inl 2)] rfl rfl (by
          refine zx_E.go 3 (s' := (5, [some (.inr (some (0, 0, 0, 0))), some (.inl 2)], [.inl 2, .inr (some (19, 0, 0, 0))], (zx_lay zM0, 308))) rfl ?_
          refine zx_E.call1 (y := 59) (as := [.inr (some (19, 0, 0, 0)), .inl 2]) (rest := []) (v := .inl (-5)) (μ' := (zx_lay zM0, 308)) rfl (zx_run_of zc_X4_numberAt [some (.inr (some (19, 0, 0, 0))), some (.inl 2)] rfl rfl (by
            refine zx_E.go 1 (s' := (1, [some (.inr (some (19, 0, 0, 0))), some (.inl 2)], [.inl 2], (zx_lay zM0, 308))) rfl ?_
            refine zx_E.bf (c := 2 < 0) (s1 := (13, [some (.inr (some (19, 0, 0, 0))), some (.inl 2)], [], (zx_lay zM0, 308))) (s2 := (4, [some (.inr (some (19, 0, 0, 0))), some (.inl 2)], [], (zx_lay zM0, 308))) rfl (by decide) ?_
            refine zx_E.go 4 (s' := (10, [some (.inr (some (19, 0, 0, 0))), some (.inl 2)], [.inl 3, .inl 2], (zx_lay zM0, 308))) rfl ?_
            refine zx_E.bt (c := 2 < 3) (s1 := (15, [some (.inr (some (19, 0, 0, 0))), some (.inl 2)], [], (zx_lay zM0, 308))) (s2 := (13, [some (.inr (some (19, 0, 0, 0))), some (.inl 2)], [], (zx_lay zM0, 308))) rfl (by decide) ?_
            refine zx_E.go 2 (s' := (19, [some (.inr (some (19, 0, 0, 0))), some (.inl 2)], [.inl 0], (zx_lay zM0, 308))) rfl ?_
            refine zx_E.bt (c := 0 = 0) (s1 := (31, [some (.inr (some (19, 0, 0, 0))), some (.inl 2)], [], (zx_lay zM0, 308))) (s2 := (22, [some (.inr (some (19, 0, 0, 0))), some (.inl 2)], [], (zx_lay zM0, 308))) rfl (by decide) ?_
            refine zx_E.go 1 (s' := (33, [some (.inr (some (19, 0, 0, 0))), some (.inl 2)], [.inl (-5)], (zx_lay zM0, 308))) rfl ?_
            exact zx_E.iret rfl (fun h => absurd h (by decide)) rfl)) ?_
          show zx_E _ _ _ (8, [some (.inr (some (0, 0, 0, 0))), some (.inl 2)], [.inl (-5)], (zx_lay zM0, 308)) _
          exact zx_E.iret rfl (fun h => absurd h (by decide)) rfl)) ?_
        show zx_E _ _ _ (233, [some (.inr (some (33, 0, 0, 0))), some (.inr (some (0, 0, 0, 0))), some (.inr (some (25, 0, 0, 0))), some (.inl 0)], [.inl (-5)], (zx_lay zM0, 308)) _
        refine zx_E.go 5 (s' := (238, [some (.inr (some (33, 0, 0, 0))), some (.inr (some (0, 0, 0, 0))), some (.inr (some (25, 0, 0, 0))), some (.inl 0)], [.inl 1, .inr (some (33, 0, 0, 0)), .inr (some (25, 0, 0, 0)), .inl (-5)], (zx_lay zM0, 308))) rfl ?_
        refine zx_E.sld' (k := 1) (v := 2) rfl rfl (by omega) (by decide) e1 ?_
        show zx_E _ _ _ (239, [some (.inr (some (33, 0, 0, 0))), some (.inr (some (0, 0, 0, 0))), some (.inr (some (25, 0, 0, 0))), some (.inl 0)], [.inl 2, .inr (some (25, 0, 0, 0)), .inl (-5)], (zx_lay zM0, 308)) _
        refine zx_E.call1 (y := 172) (as := [.inr (some (25, 0, 0, 0)), .inl 2]) (rest := [.inl (-5)]) (v := .inl (-5)) (μ' := (zx_lay zM0, 308)) rfl (zx_run_of zc_X11_refusal [some (.inr (some (25, 0, 0, 0))), some (.inl 2)] rfl rfl (by
          refine zx_E.go 1 (s' := (1, [some (.inr (some (25, 0, 0, 0))), some (.inl 2)], [.inl 2], (zx_lay zM0, 308))) rfl ?_
          refine zx_E.bf (c := 2 = 0) (s1 := (4, [some (.inr (some (25, 0, 0, 0))), some (.inl 2)], [], (zx_lay zM0, 308))) (s2 := (11, [some (.inr (some (25, 0, 0, 0))), some (.inl 2)], [], (zx_lay zM0, 308))) rfl (by decide) ?_
          refine zx_E.go 2 (s' := (13, [some (.inr (some (25, 0, 0, 0))), some (.inl 2)], [.inl 1, .inl 2], (zx_lay zM0, 308))) rfl ?_
          refine zx_E.bf (c := 2 = 1) (s1 := (16, [some (.inr (some (25, 0, 0, 0))), some (.inl 2)], [], (zx_lay zM0, 308))) (s2 := (23, [some (.inr (some (25, 0, 0, 0))), some (.inl 2)], [], (zx_lay zM0, 308))) rfl (by decide) ?_
          refine zx_E.go 2 (s' := (25, [some (.inr (some (25, 0, 0, 0))), some (.inl 2)], [.inl 2, .inl 2], (zx_lay zM0, 308))) rfl ?_
          refine zx_E.bt (c := 2 = 2) (s1 := (28, [some (.inr (some (25, 0, 0, 0))), some (.inl 2)], [], (zx_lay zM0, 308))) (s2 := (48, [some (.inr (some (25, 0, 0, 0))), some (.inl 2)], [], (zx_lay zM0, 308))) rfl (by decide) ?_
          refine zx_E.go 3 (s' := (33, [some (.inr (some (25, 0, 0, 0))), some (.inl 2)], [.inl 1, .inl (-5)], (zx_lay zM0, 308))) rfl ?_
          refine zx_E.bf (c := (-5) = 1) (s1 := (36, [some (.inr (some (25, 0, 0, 0))), some (.inl 2)], [], (zx_lay zM0, 308))) (s2 := (41, [some (.inr (some (25, 0, 0, 0))), some (.inl 2)], [], (zx_lay zM0, 308))) rfl (by decide) ?_
          refine zx_E.go 3 (s' := (49, [some (.inr (some (25, 0, 0, 0))), some (.inl 2)], [.inl (-5)], (zx_lay zM0, 308))) rfl ?_
          exact zx_E.iret rfl (fun h => absurd h (by decide)) rfl)) ?_
        show zx_E _ _ _ (242, [some (.inr (some (33, 0, 0, 0))), some (.inr (some (0, 0, 0, 0))), some (.inr (some (25, 0, 0, 0))), some (.inl 0)], [.inl (-5), .inl (-5)], (zx_lay zM0, 308)) _
        refine zx_E.bt (c := (-5) = (-5)) (s1 := (734, [some (.inr (some (33, 0, 0, 0))), some (.inr (some (0, 0, 0, 0))), some (.inr (some (25, 0, 0, 0))), some (.inl 0)], [], (zx_lay zM0, 308))) (s2 := (245, [some (.inr (some (33, 0, 0, 0))), some (.inr (some (0, 0, 0, 0))), some (.inr (some (25, 0, 0, 0))), some (.inl 0)], [], (zx_lay zM0, 308))) rfl (by decide) ?_
        refine zx_E.go 6 (s' := (23, [some (.inr (some (33, 0, 0, 0))), some (.inr (some (0, 0, 0, 0))), some (.inr (some (25, 0, 0, 0))), some (.inl 7)], [.inl 7, .inl 7, .inl 7], (zx_lay zM0, 308))) rfl ?_
        refine zx_E.go 1 (s' := (24, [some (.inr (some (33, 0, 0, 0))), some (.inr (some (0, 0, 0, 0))), some (.inr (some (25, 0, 0, 0))), some (.inl 7)], [.inl 0, .inl 7], (zx_lay zM0, 308))) rfl ?_
        refine zx_E.bt (c := 0 < 7) (s1 := (740, [some (.inr (some (33, 0, 0, 0))), some (.inr (some (0, 0, 0, 0))), some (.inr (some (25, 0, 0, 0))), some (.inl 7)], [], (zx_lay zM0, 308))) (s2 := (27, [some (.inr (some (33, 0, 0, 0))), some (.inr (some (0, 0, 0, 0))), some (.inr (some (25, 0, 0, 0))), some (.inl 7)], [], (zx_lay zM0, 308))) rfl (by decide) ?_
        refine zx_E.go 1 (s' := (741, [some (.inr (some (33, 0, 0, 0))), some (.inr (some (0, 0, 0, 0))), some (.inr (some (25, 0, 0, 0))), some (.inl 7)], [.inl 1], (zx_lay zM0, 308))) rfl ?_
        exact zx_E.iret rfl (fun _ => Or.inr rfl) rfl
    · skip
      by_cases h6 : a1 = 0
      · subst h6
        exact absurd (by decide) h5
      · skip
        by_cases h7 : a1 = 1
        · subst h7
          exact absurd (by decide) h5
        · skip
          by_cases h8 : a1 = 2
          · subst h8
            exact absurd (by decide) h5
          · skip
            refine ⟨(zx_lay zM0, 308), Nat.le_refl _, ?_⟩
            refine zx_E.go 4 (s' := (23, [some (.inr (some (33, 0, 0, 0))), some (.inr (some (0, 0, 0, 0))), some (.inr (some (25, 0, 0, 0))), some (.inl 0)], [.inl 7, .inl 7, .inl 0], (zx_lay zM0, 308))) rfl ?_
            refine zx_E.go 1 (s' := (24, [some (.inr (some (33, 0, 0, 0))), some (.inr (some (0, 0, 0, 0))), some (.inr (some (25, 0, 0, 0))), some (.inl 0)], [.inl 0, .inl 0], (zx_lay zM0, 308))) rfl ?_
            refine zx_E.bf (c := 0 < 0) (s1 := (740, [some (.inr (some (33, 0, 0, 0))), some (.inr (some (0, 0, 0, 0))), some (.inr (some (25, 0, 0, 0))), some (.inl 0)], [], (zx_lay zM0, 308))) (s2 := (27, [some (.inr (some (33, 0, 0, 0))), some (.inr (some (0, 0, 0, 0))), some (.inr (some (25, 0, 0, 0))), some (.inl 0)], [], (zx_lay zM0, 308))) rfl (by decide) ?_
            refine zx_E.go 2 (s' := (29, [some (.inr (some (33, 0, 0, 0))), some (.inr (some (0, 0, 0, 0))), some (.inr (some (25, 0, 0, 0))), some (.inl 0)], [.inl 0, .inr (some (33, 0, 0, 0))], (zx_lay zM0, 308))) rfl ?_
            refine zx_E.sld' (k := 0) (v := a0) rfl rfl (by omega) (by decide) e0 ?_
            show zx_E _ _ _ (30, [some (.inr (some (33, 0, 0, 0))), some (.inr (some (0, 0, 0, 0))), some (.inr (some (25, 0, 0, 0))), some (.inl 0)], [.inl a0], (zx_lay zM0, 308)) _
            refine zx_E.go 2 (s' := (33, [some (.inr (some (33, 0, 0, 0))), some (.inr (some (0, 0, 0, 0))), some (.inr (some (25, 0, 0, 0))), some (.inl 0)], [.inl (a0 &&& 31)], (zx_lay zM0, 308))) rfl ?_
            refine zx_E.one (s' := (zx_pick (a0 &&& 31) 0 [136, 211, 224, 247, 270, 293, 316, 339, 372, 405, 438, 471, 494, 517, 560, 573, 606, 639, 652, 685, 698, 711] 734, [some (.inr (some (33, 0, 0, 0))), some (.inr (some (0, 0, 0, 0))), some (.inr (some (25, 0, 0, 0))), some (.inl 0)], [], (zx_lay zM0, 308))) rfl ?_
            refine zx_E.pick (k' := 1) (by decide) (fun hn => absurd hn (fun q => absurd (hk.symm.trans q) (by decide))) (fun _ => ?_)
            refine zx_E.pick (k' := 2) (by decide) (fun hn => absurd hn (fun q => absurd (hk.symm.trans q) (by decide))) (fun _ => ?_)
            refine zx_E.pick (k' := 3) (by decide) (fun _ => ?_) (fun hn => absurd hk hn)
            refine zx_E.go 5 (s' := (229, [some (.inr (some (33, 0, 0, 0))), some (.inr (some (0, 0, 0, 0))), some (.inr (some (25, 0, 0, 0))), some (.inl 0)], [.inl 1, .inr (some (33, 0, 0, 0)), .inr (some (0, 0, 0, 0))], (zx_lay zM0, 308))) rfl ?_
            refine zx_E.sld' (k := 1) (v := a1) rfl rfl (by omega) (by decide) e1 ?_
            show zx_E _ _ _ (230, [some (.inr (some (33, 0, 0, 0))), some (.inr (some (0, 0, 0, 0))), some (.inr (some (25, 0, 0, 0))), some (.inl 0)], [.inl a1, .inr (some (0, 0, 0, 0))], (zx_lay zM0, 308)) _
            refine zx_E.call1 (y := 96) (as := [.inr (some (0, 0, 0, 0)), .inl a1]) (rest := []) (v := .inl (-1)) (μ' := (zx_lay zM0, 308)) rfl (zx_run_of zc_X10_refusal [some (.inr (some (0, 0, 0, 0))), some (.inl a1)] rfl rfl (by
              refine zx_E.go 3 (s' := (5, [some (.inr (some (0, 0, 0, 0))), some (.inl a1)], [.inl a1, .inr (some (19, 0, 0, 0))], (zx_lay zM0, 308))) rfl ?_
              refine zx_E.call1 (y := 59) (as := [.inr (some (19, 0, 0, 0)), .inl a1]) (rest := []) (v := .inl (-1)) (μ' := (zx_lay zM0, 308)) rfl (zx_run_of zc_X4_numberAt [some (.inr (some (19, 0, 0, 0))), some (.inl a1)] rfl rfl (by
                refine zx_E.go 1 (s' := (1, [some (.inr (some (19, 0, 0, 0))), some (.inl a1)], [.inl a1], (zx_lay zM0, 308))) rfl ?_
                refine zx_E.bf (c := a1 < 0) (s1 := (13, [some (.inr (some (19, 0, 0, 0))), some (.inl a1)], [], (zx_lay zM0, 308))) (s2 := (4, [some (.inr (some (19, 0, 0, 0))), some (.inl a1)], [], (zx_lay zM0, 308))) rfl h1 ?_
                refine zx_E.go 4 (s' := (10, [some (.inr (some (19, 0, 0, 0))), some (.inl a1)], [.inl 3, .inl a1], (zx_lay zM0, 308))) rfl ?_
                refine zx_E.bf (c := a1 < 3) (s1 := (15, [some (.inr (some (19, 0, 0, 0))), some (.inl a1)], [], (zx_lay zM0, 308))) (s2 := (13, [some (.inr (some (19, 0, 0, 0))), some (.inl a1)], [], (zx_lay zM0, 308))) rfl h5 ?_
                refine zx_E.go 1 (s' := (14, [some (.inr (some (19, 0, 0, 0))), some (.inl a1)], [.inl (-1)], (zx_lay zM0, 308))) rfl ?_
                exact zx_E.iret rfl (fun h => absurd h (by decide)) rfl)) ?_
              show zx_E _ _ _ (8, [some (.inr (some (0, 0, 0, 0))), some (.inl a1)], [.inl (-1)], (zx_lay zM0, 308)) _
              exact zx_E.iret rfl (fun h => absurd h (by decide)) rfl)) ?_
            show zx_E _ _ _ (233, [some (.inr (some (33, 0, 0, 0))), some (.inr (some (0, 0, 0, 0))), some (.inr (some (25, 0, 0, 0))), some (.inl 0)], [.inl (-1)], (zx_lay zM0, 308)) _
            refine zx_E.go 5 (s' := (238, [some (.inr (some (33, 0, 0, 0))), some (.inr (some (0, 0, 0, 0))), some (.inr (some (25, 0, 0, 0))), some (.inl 0)], [.inl 1, .inr (some (33, 0, 0, 0)), .inr (some (25, 0, 0, 0)), .inl (-1)], (zx_lay zM0, 308))) rfl ?_
            refine zx_E.sld' (k := 1) (v := a1) rfl rfl (by omega) (by decide) e1 ?_
            show zx_E _ _ _ (239, [some (.inr (some (33, 0, 0, 0))), some (.inr (some (0, 0, 0, 0))), some (.inr (some (25, 0, 0, 0))), some (.inl 0)], [.inl a1, .inr (some (25, 0, 0, 0)), .inl (-1)], (zx_lay zM0, 308)) _
            refine zx_E.call1 (y := 172) (as := [.inr (some (25, 0, 0, 0)), .inl a1]) (rest := [.inl (-1)]) (v := .inl (-1)) (μ' := (zx_lay zM0, 308)) rfl (zx_run_of zc_X11_refusal [some (.inr (some (25, 0, 0, 0))), some (.inl a1)] rfl rfl (by
              refine zx_E.go 1 (s' := (1, [some (.inr (some (25, 0, 0, 0))), some (.inl a1)], [.inl a1], (zx_lay zM0, 308))) rfl ?_
              refine zx_E.bf (c := a1 = 0) (s1 := (4, [some (.inr (some (25, 0, 0, 0))), some (.inl a1)], [], (zx_lay zM0, 308))) (s2 := (11, [some (.inr (some (25, 0, 0, 0))), some (.inl a1)], [], (zx_lay zM0, 308))) rfl h6 ?_
              refine zx_E.go 2 (s' := (13, [some (.inr (some (25, 0, 0, 0))), some (.inl a1)], [.inl 1, .inl a1], (zx_lay zM0, 308))) rfl ?_
              refine zx_E.bf (c := a1 = 1) (s1 := (16, [some (.inr (some (25, 0, 0, 0))), some (.inl a1)], [], (zx_lay zM0, 308))) (s2 := (23, [some (.inr (some (25, 0, 0, 0))), some (.inl a1)], [], (zx_lay zM0, 308))) rfl h7 ?_
              refine zx_E.go 2 (s' := (25, [some (.inr (some (25, 0, 0, 0))), some (.inl a1)], [.inl 2, .inl a1], (zx_lay zM0, 308))) rfl ?_
              refine zx_E.bf (c := a1 = 2) (s1 := (28, [some (.inr (some (25, 0, 0, 0))), some (.inl a1)], [], (zx_lay zM0, 308))) (s2 := (48, [some (.inr (some (25, 0, 0, 0))), some (.inl a1)], [], (zx_lay zM0, 308))) rfl h8 ?_
              refine zx_E.go 1 (s' := (49, [some (.inr (some (25, 0, 0, 0))), some (.inl a1)], [.inl (-1)], (zx_lay zM0, 308))) rfl ?_
              exact zx_E.iret rfl (fun h => absurd h (by decide)) rfl)) ?_
            show zx_E _ _ _ (242, [some (.inr (some (33, 0, 0, 0))), some (.inr (some (0, 0, 0, 0))), some (.inr (some (25, 0, 0, 0))), some (.inl 0)], [.inl (-1), .inl (-1)], (zx_lay zM0, 308)) _
            refine zx_E.bt (c := (-1) = (-1)) (s1 := (734, [some (.inr (some (33, 0, 0, 0))), some (.inr (some (0, 0, 0, 0))), some (.inr (some (25, 0, 0, 0))), some (.inl 0)], [], (zx_lay zM0, 308))) (s2 := (245, [some (.inr (some (33, 0, 0, 0))), some (.inr (some (0, 0, 0, 0))), some (.inr (some (25, 0, 0, 0))), some (.inl 0)], [], (zx_lay zM0, 308))) rfl (by decide) ?_
            refine zx_E.go 6 (s' := (23, [some (.inr (some (33, 0, 0, 0))), some (.inr (some (0, 0, 0, 0))), some (.inr (some (25, 0, 0, 0))), some (.inl 7)], [.inl 7, .inl 7, .inl 7], (zx_lay zM0, 308))) rfl ?_
            refine zx_E.go 1 (s' := (24, [some (.inr (some (33, 0, 0, 0))), some (.inr (some (0, 0, 0, 0))), some (.inr (some (25, 0, 0, 0))), some (.inl 7)], [.inl 0, .inl 7], (zx_lay zM0, 308))) rfl ?_
            refine zx_E.bt (c := 0 < 7) (s1 := (740, [some (.inr (some (33, 0, 0, 0))), some (.inr (some (0, 0, 0, 0))), some (.inr (some (25, 0, 0, 0))), some (.inl 7)], [], (zx_lay zM0, 308))) (s2 := (27, [some (.inr (some (33, 0, 0, 0))), some (.inr (some (0, 0, 0, 0))), some (.inr (some (25, 0, 0, 0))), some (.inl 7)], [], (zx_lay zM0, 308))) rfl (by decide) ?_
            refine zx_E.go 1 (s' := (741, [some (.inr (some (33, 0, 0, 0))), some (.inr (some (0, 0, 0, 0))), some (.inr (some (25, 0, 0, 0))), some (.inl 7)], [.inl 1], (zx_lay zM0, 308))) rfl ?_
            exact zx_E.iret rfl (fun _ => Or.inr rfl) rfl
set_option maxRecDepth 100000 in
set_option maxHeartbeats 4000000 in
theorem p1_op_3 {xs : Nat → Int32} {a0 a1 a2 a3 a4 a5 a6 : Int32} (e0 : xs 0 = a0) (e1 : xs 1 = a1) (e2 : xs 2 = a2) (e3 : xs 3 = a3) (e4 : xs 4 = a4) (e5 : xs 5 = a5) (e6 : xs 6 = a6) (hk : (a0 &&& 31) = 3) :
    ∃ μ : zx_M, μ.2 ≤ 308 ∧ zx_E (7, xs) 11 zc_L_law (18, [some (.inr (some (33, 0, 0, 0))), some (.inr (some (0, 0, 0, 0))), some (.inr (some (25, 0, 0, 0))), some (.inl 0)], [], (zx_lay zM0, 308)) (some (.inl 1), μ) := by
  by_cases h1 : a1 < 0
  · skip
    refine ⟨(zx_lay zM0, 308), Nat.le_refl _, ?_⟩
    refine zx_E.go 4 (s' := (23, [some (.inr (some (33, 0, 0, 0))), some (.inr (some (0, 0, 0, 0))), some (.inr (some (25, 0, 0, 0))), some (.inl 0)], [.inl 7, .inl 7, .inl 0], (zx_lay zM0, 308))) rfl ?_
    refine zx_E.go 1 (s' := (24, [some (.inr (some (33, 0, 0, 0))), some (.inr (some (0, 0, 0, 0))), some (.inr (some (25, 0, 0, 0))), some (.inl 0)], [.inl 0, .inl 0], (zx_lay zM0, 308))) rfl ?_
    refine zx_E.bf (c := 0 < 0) (s1 := (740, [some (.inr (some (33, 0, 0, 0))), some (.inr (some (0, 0, 0, 0))), some (.inr (some (25, 0, 0, 0))), some (.inl 0)], [], (zx_lay zM0, 308))) (s2 := (27, [some (.inr (some (33, 0, 0, 0))), some (.inr (some (0, 0, 0, 0))), some (.inr (some (25, 0, 0, 0))), some (.inl 0)], [], (zx_lay zM0, 308))) rfl (by decide) ?_
    refine zx_E.go 2 (s' := (29, [some (.inr (some (33, 0, 0, 0))), some (.inr (some (0, 0, 0, 0))), some (.inr (some (25, 0, 0, 0))), some (.inl 0)], [.inl 0, .inr (some (33, 0, 0, 0))], (zx_lay zM0, 308))) rfl ?_
    refine zx_E.sld' (k := 0) (v := a0) rfl rfl (by omega) (by decide) e0 ?_
    show zx_E _ _ _ (30, [some (.inr (some (33, 0, 0, 0))), some (.inr (some (0, 0, 0, 0))), some (.inr (some (25, 0, 0, 0))), some (.inl 0)], [.inl a0], (zx_lay zM0, 308)) _
    refine zx_E.go 2 (s' := (33, [some (.inr (some (33, 0, 0, 0))), some (.inr (some (0, 0, 0, 0))), some (.inr (some (25, 0, 0, 0))), some (.inl 0)], [.inl (a0 &&& 31)], (zx_lay zM0, 308))) rfl ?_
    refine zx_E.one (s' := (zx_pick (a0 &&& 31) 0 [136, 211, 224, 247, 270, 293, 316, 339, 372, 405, 438, 471, 494, 517, 560, 573, 606, 639, 652, 685, 698, 711] 734, [some (.inr (some (33, 0, 0, 0))), some (.inr (some (0, 0, 0, 0))), some (.inr (some (25, 0, 0, 0))), some (.inl 0)], [], (zx_lay zM0, 308))) rfl ?_
    refine zx_E.pick (k' := 1) (by decide) (fun hn => absurd hn (fun q => absurd (hk.symm.trans q) (by decide))) (fun _ => ?_)
    refine zx_E.pick (k' := 2) (by decide) (fun hn => absurd hn (fun q => absurd (hk.symm.trans q) (by decide))) (fun _ => ?_)
    refine zx_E.pick (k' := 3) (by decide) (fun hn => absurd hn (fun q => absurd (hk.symm.trans q) (by decide))) (fun _ => ?_)
    refine zx_E.pick (k' := 4) (by decide) (fun _ => ?_) (fun hn => absurd hk hn)
    refine zx_E.go 5 (s' := (252, [some (.inr (some (33, 0, 0, 0))), some (.inr (some (0, 0, 0, 0))), some (.inr (some (25, 0, 0, 0))), some (.inl 0)], [.inl 1, .inr (some (33, 0, 0, 0)), .inr (some (0, 0, 0, 0))], (zx_lay zM0, 308))) rfl ?_
    refine zx_E.sld' (k := 1) (v := a1) rfl rfl (by omega) (by decide) e1 ?_
    show zx_E _ _ _ (253, [some (.inr (some (33, 0, 0, 0))), some (.inr (some (0, 0, 0, 0))), some (.inr (some (25, 0, 0, 0))), some (.inl 0)], [.inl a1, .inr (some (0, 0, 0, 0))], (zx_lay zM0, 308)) _
    refine zx_E.call1 (y := 97) (as := [.inr (some (0, 0, 0, 0)), .inl a1]) (rest := []) (v := .inl (-2)) (μ' := (zx_lay zM0, 308)) rfl (zx_run_of zc_X10_relief [some (.inr (some (0, 0, 0, 0))), some (.inl a1), none] rfl rfl (by
      refine zx_E.go 1 (s' := (1, [some (.inr (some (0, 0, 0, 0))), some (.inl a1), none], [.inl a1], (zx_lay zM0, 308))) rfl ?_
      refine zx_E.bt (c := a1 < 0) (s1 := (10, [some (.inr (some (0, 0, 0, 0))), some (.inl a1), none], [], (zx_lay zM0, 308))) (s2 := (4, [some (.inr (some (0, 0, 0, 0))), some (.inl a1), none], [], (zx_lay zM0, 308))) rfl h1 ?_
      refine zx_E.go 1 (s' := (12, [some (.inr (some (0, 0, 0, 0))), some (.inl a1), none], [.inl (-2)], (zx_lay zM0, 308))) rfl ?_
      exact zx_E.iret rfl (fun h => absurd h (by decide)) rfl)) ?_
    show zx_E _ _ _ (256, [some (.inr (some (33, 0, 0, 0))), some (.inr (some (0, 0, 0, 0))), some (.inr (some (25, 0, 0, 0))), some (.inl 0)], [.inl (-2)], (zx_lay zM0, 308)) _
    refine zx_E.go 5 (s' := (261, [some (.inr (some (33, 0, 0, 0))), some (.inr (some (0, 0, 0, 0))), some (.inr (some (25, 0, 0, 0))), some (.inl 0)], [.inl 1, .inr (some (33, 0, 0, 0)), .inr (some (25, 0, 0, 0)), .inl (-2)], (zx_lay zM0, 308))) rfl ?_
    refine zx_E.sld' (k := 1) (v := a1) rfl rfl (by omega) (by decide) e1 ?_
    show zx_E _ _ _ (262, [some (.inr (some (33, 0, 0, 0))), some (.inr (some (0, 0, 0, 0))), some (.inr (some (25, 0, 0, 0))), some (.inl 0)], [.inl a1, .inr (some (25, 0, 0, 0)), .inl (-2)], (zx_lay zM0, 308)) _
    refine zx_E.call1 (y := 173) (as := [.inr (some (25, 0, 0, 0)), .inl a1]) (rest := [.inl (-2)]) (v := .inl (-2)) (μ' := (zx_lay zM0, 308)) rfl (zx_run_of zc_X11_relief [some (.inr (some (25, 0, 0, 0))), some (.inl a1), none] rfl rfl (by
      refine zx_E.go 3 (s' := (4, [some (.inr (some (25, 0, 0, 0))), some (.inl a1), none], [.inl 60, .inl 0, .inl a1], (zx_lay zM0, 308))) rfl ?_
      refine zx_E.call1 (y := 121) (as := [.inl a1, .inl 0, .inl 60]) (rest := []) (v := .inl 0) (μ' := (zx_lay zM0, 308)) rfl (zx_run_of zc_X11_isIn [some (.inl a1), some (.inl 0), some (.inl 60)] rfl rfl (by
        refine zx_E.go 2 (s' := (2, [some (.inl a1), some (.inl 0), some (.inl 60)], [.inl 0, .inl a1], (zx_lay zM0, 308))) rfl ?_
        refine zx_E.bt (c := a1 < 0) (s1 := (14, [some (.inl a1), some (.inl 0), some (.inl 60)], [], (zx_lay zM0, 308))) (s2 := (5, [some (.inl a1), some (.inl 0), some (.inl 60)], [], (zx_lay zM0, 308))) rfl h1 ?_
        refine zx_E.go 1 (s' := (15, [some (.inl a1), some (.inl 0), some (.inl 60)], [.inl 0], (zx_lay zM0, 308))) rfl ?_
        exact zx_E.iret rfl (fun _ => Or.inl rfl) rfl)) ?_
      show zx_E _ _ _ (7, [some (.inr (some (25, 0, 0, 0))), some (.inl a1), none], [.inl 0], (zx_lay zM0, 308)) _
      refine zx_E.bt (c := 0 = 0) (s1 := (10, [some (.inr (some (25, 0, 0, 0))), some (.inl a1), none], [], (zx_lay zM0, 308))) (s2 := (13, [some (.inr (some (25, 0, 0, 0))), some (.inl a1), none], [], (zx_lay zM0, 308))) rfl (by decide) ?_
      refine zx_E.go 1 (s' := (12, [some (.inr (some (25, 0, 0, 0))), some (.inl a1), none], [.inl (-2)], (zx_lay zM0, 308))) rfl ?_
      exact zx_E.iret rfl (fun h => absurd h (by decide)) rfl)) ?_
    show zx_E _ _ _ (265, [some (.inr (some (33, 0, 0, 0))), some (.inr (some (0, 0, 0, 0))), some (.inr (some (25, 0, 0, 0))), some (.inl 0)], [.inl (-2), .inl (-2)], (zx_lay zM0, 308)) _
    refine zx_E.bt (c := (-2) = (-2)) (s1 := (734, [some (.inr (some (33, 0, 0, 0))), some (.inr (some (0, 0, 0, 0))), some (.inr (some (25, 0, 0, 0))), some (.inl 0)], [], (zx_lay zM0, 308))) (s2 := (268, [some (.inr (some (33, 0, 0, 0))), some (.inr (some (0, 0, 0, 0))), some (.inr (some (25, 0, 0, 0))), some (.inl 0)], [], (zx_lay zM0, 308))) rfl (by decide) ?_
    refine zx_E.go 6 (s' := (23, [some (.inr (some (33, 0, 0, 0))), some (.inr (some (0, 0, 0, 0))), some (.inr (some (25, 0, 0, 0))), some (.inl 7)], [.inl 7, .inl 7, .inl 7], (zx_lay zM0, 308))) rfl ?_
    refine zx_E.go 1 (s' := (24, [some (.inr (some (33, 0, 0, 0))), some (.inr (some (0, 0, 0, 0))), some (.inr (some (25, 0, 0, 0))), some (.inl 7)], [.inl 0, .inl 7], (zx_lay zM0, 308))) rfl ?_
    refine zx_E.bt (c := 0 < 7) (s1 := (740, [some (.inr (some (33, 0, 0, 0))), some (.inr (some (0, 0, 0, 0))), some (.inr (some (25, 0, 0, 0))), some (.inl 7)], [], (zx_lay zM0, 308))) (s2 := (27, [some (.inr (some (33, 0, 0, 0))), some (.inr (some (0, 0, 0, 0))), some (.inr (some (25, 0, 0, 0))), some (.inl 7)], [], (zx_lay zM0, 308))) rfl (by decide) ?_
    refine zx_E.go 1 (s' := (741, [some (.inr (some (33, 0, 0, 0))), some (.inr (some (0, 0, 0, 0))), some (.inr (some (25, 0, 0, 0))), some (.inl 7)], [.inl 1], (zx_lay zM0, 308))) rfl ?_
    exact zx_E.iret rfl (fun _ => Or.inr rfl) rfl
  · skip
    by_cases h2 : a1 ≤ 60
    · skip
      refine ⟨(zx_lay (zx_up (zx_up zM0 (1, 0, 0, 0) 2 a1) (26, 0, 0, 0) 26 a1), 308), Nat.le_refl _, ?_⟩
      refine zx_E.go 4 (s' := (23, [some (.inr (some (33, 0, 0, 0))), some (.inr (some (0, 0, 0, 0))), some (.inr (some (25, 0, 0, 0))), some (.inl 0)], [.inl 7, .inl 7, .inl 0], (zx_lay zM0, 308))) rfl ?_
      refine zx_E.go 1 (s' := (24, [some (.inr (some (33, 0, 0, 0))), some (.inr (some (0, 0, 0, 0))), some (.inr (some (25, 0, 0, 0))), some (.inl 0)], [.inl 0, .inl 0], (zx_lay zM0, 308))) rfl ?_
      refine zx_E.bf (c := 0 < 0) (s1 := (740, [some (.inr (some (33, 0, 0, 0))), some (.inr (some (0, 0, 0, 0))), some (.inr (some (25, 0, 0, 0))), some (.inl 0)], [], (zx_lay zM0, 308))) (s2 := (27, [some (.inr (some (33, 0, 0, 0))), some (.inr (some (0, 0, 0, 0))), some (.inr (some (25, 0, 0, 0))), some (.inl 0)], [], (zx_lay zM0, 308))) rfl (by decide) ?_
      refine zx_E.go 2 (s' := (29, [some (.inr (some (33, 0, 0, 0))), some (.inr (some (0, 0, 0, 0))), some (.inr (some (25, 0, 0, 0))), some (.inl 0)], [.inl 0, .inr (some (33, 0, 0, 0))], (zx_lay zM0, 308))) rfl ?_
      refine zx_E.sld' (k := 0) (v := a0) rfl rfl (by omega) (by decide) e0 ?_
      show zx_E _ _ _ (30, [some (.inr (some (33, 0, 0, 0))), some (.inr (some (0, 0, 0, 0))), some (.inr (some (25, 0, 0, 0))), some (.inl 0)], [.inl a0], (zx_lay zM0, 308)) _
      refine zx_E.go 2 (s' := (33, [some (.inr (some (33, 0, 0, 0))), some (.inr (some (0, 0, 0, 0))), some (.inr (some (25, 0, 0, 0))), some (.inl 0)], [.inl (a0 &&& 31)], (zx_lay zM0, 308))) rfl ?_
      refine zx_E.one (s' := (zx_pick (a0 &&& 31) 0 [136, 211, 224, 247, 270, 293, 316, 339, 372, 405, 438, 471, 494, 517, 560, 573, 606, 639, 652, 685, 698, 711] 734, [some (.inr (some (33, 0, 0, 0))), some (.inr (some (0, 0, 0, 0))), some (.inr (some (25, 0, 0, 0))), some (.inl 0)], [], (zx_lay zM0, 308))) rfl ?_
      refine zx_E.pick (k' := 1) (by decide) (fun hn => absurd hn (fun q => absurd (hk.symm.trans q) (by decide))) (fun _ => ?_)
      refine zx_E.pick (k' := 2) (by decide) (fun hn => absurd hn (fun q => absurd (hk.symm.trans q) (by decide))) (fun _ => ?_)
      refine zx_E.pick (k' := 3) (by decide) (fun hn => absurd hn (fun q => absurd (hk.symm.trans q) (by decide))) (fun _ => ?_)
      refine zx_E.pick (k' := 4) (by decide) (fun _ => ?_) (fun hn => absurd hk hn)
      refine zx_E.go 5 (s' := (252, [some (.inr (some (33, 0, 0, 0))), some (.inr (some (0, 0, 0, 0))), some (.inr (some (25, 0, 0, 0))), some (.inl 0)], [.inl 1, .inr (some (33, 0, 0, 0)), .inr (some (0, 0, 0, 0))], (zx_lay zM0, 308))) rfl ?_
      refine zx_E.sld' (k := 1) (v := a1) rfl rfl (by omega) (by decide) e1 ?_
      show zx_E _ _ _ (253, [some (.inr (some (33, 0, 0, 0))), some (.inr (some (0, 0, 0, 0))), some (.inr (some (25, 0, 0, 0))), some (.inl 0)], [.inl a1, .inr (some (0, 0, 0, 0))], (zx_lay zM0, 308)) _
      refine zx_E.call1 (y := 97) (as := [.inr (some (0, 0, 0, 0)), .inl a1]) (rest := []) (v := .inl 10) (μ' := (zx_lay (zx_up zM0 (1, 0, 0, 0) 2 a1), 308)) rfl (zx_run_of zc_X10_relief [some (.inr (some (0, 0, 0, 0))), some (.inl a1), none] rfl rfl (by
        refine zx_E.go 1 (s' := (1, [some (.inr (some (0, 0, 0, 0))), some (.inl a1), none], [.inl a1], (zx_lay zM0, 308))) rfl ?_
        refine zx_E.bf (c := a1 < 0) (s1 := (10, [some (.inr (some (0, 0, 0, 0))), some (.inl a1), none], [], (zx_lay zM0, 308))) (s2 := (4, [some (.inr (some (0, 0, 0, 0))), some (.inl a1), none], [], (zx_lay zM0, 308))) rfl h1 ?_
        refine zx_E.go 2 (s' := (7, [some (.inr (some (0, 0, 0, 0))), some (.inl a1), none], [.inl 60, .inl a1], (zx_lay zM0, 308))) rfl ?_
        refine zx_E.bt (c := a1 ≤ 60) (s1 := (13, [some (.inr (some (0, 0, 0, 0))), some (.inl a1), none], [], (zx_lay zM0, 308))) (s2 := (10, [some (.inr (some (0, 0, 0, 0))), some (.inl a1), none], [], (zx_lay zM0, 308))) rfl h2 ?_
        refine zx_E.go 7 (s' := (26, [some (.inr (some (0, 0, 0, 0))), some (.inl a1), some (.inl 10)], [.inl a1, .inr (some (1, 0, 0, 0))], (zx_lay zM0, 308))) rfl ?_
        refine zx_E.put (h := (1, 0, 0, 0)) (b := 2) rfl rfl (fun h => absurd h (by decide)) ?_
        show zx_E _ _ _ (29, [some (.inr (some (0, 0, 0, 0))), some (.inl a1), some (.inl 10)], [], (zx_lay (zx_up zM0 (1, 0, 0, 0) 2 a1), 308)) _
        refine zx_E.go 1 (s' := (30, [some (.inr (some (0, 0, 0, 0))), some (.inl a1), some (.inl 10)], [.inl 10], (zx_lay (zx_up zM0 (1, 0, 0, 0) 2 a1), 308))) rfl ?_
        exact zx_E.iret rfl (fun h => absurd h (by decide)) rfl)) ?_
      show zx_E _ _ _ (256, [some (.inr (some (33, 0, 0, 0))), some (.inr (some (0, 0, 0, 0))), some (.inr (some (25, 0, 0, 0))), some (.inl 0)], [.inl 10], (zx_lay (zx_up zM0 (1, 0, 0, 0) 2 a1), 308)) _
      refine zx_E.go 5 (s' := (261, [some (.inr (some (33, 0, 0, 0))), some (.inr (some (0, 0, 0, 0))), some (.inr (some (25, 0, 0, 0))), some (.inl 0)], [.inl 1, .inr (some (33, 0, 0, 0)), .inr (some (25, 0, 0, 0)), .inl 10], (zx_lay (zx_up zM0 (1, 0, 0, 0) 2 a1), 308))) rfl ?_
      refine zx_E.sld' (k := 1) (v := a1) rfl rfl (by omega) (by decide) e1 ?_
      show zx_E _ _ _ (262, [some (.inr (some (33, 0, 0, 0))), some (.inr (some (0, 0, 0, 0))), some (.inr (some (25, 0, 0, 0))), some (.inl 0)], [.inl a1, .inr (some (25, 0, 0, 0)), .inl 10], (zx_lay (zx_up zM0 (1, 0, 0, 0) 2 a1), 308)) _
      refine zx_E.call1 (y := 173) (as := [.inr (some (25, 0, 0, 0)), .inl a1]) (rest := [.inl 10]) (v := .inl 10) (μ' := (zx_lay (zx_up (zx_up zM0 (1, 0, 0, 0) 2 a1) (26, 0, 0, 0) 26 a1), 308)) rfl (zx_run_of zc_X11_relief [some (.inr (some (25, 0, 0, 0))), some (.inl a1), none] rfl rfl (by
        refine zx_E.go 3 (s' := (4, [some (.inr (some (25, 0, 0, 0))), some (.inl a1), none], [.inl 60, .inl 0, .inl a1], (zx_lay (zx_up zM0 (1, 0, 0, 0) 2 a1), 308))) rfl ?_
        refine zx_E.call1 (y := 121) (as := [.inl a1, .inl 0, .inl 60]) (rest := []) (v := .inl 1) (μ' := (zx_lay (zx_up zM0 (1, 0, 0, 0) 2 a1), 308)) rfl (zx_run_of zc_X11_isIn [some (.inl a1), some (.inl 0), some (.inl 60)] rfl rfl (by
          refine zx_E.go 2 (s' := (2, [some (.inl a1), some (.inl 0), some (.inl 60)], [.inl 0, .inl a1], (zx_lay (zx_up zM0 (1, 0, 0, 0) 2 a1), 308))) rfl ?_
          refine zx_E.bf (c := a1 < 0) (s1 := (14, [some (.inl a1), some (.inl 0), some (.inl 60)], [], (zx_lay (zx_up zM0 (1, 0, 0, 0) 2 a1), 308))) (s2 := (5, [some (.inl a1), some (.inl 0), some (.inl 60)], [], (zx_lay (zx_up zM0 (1, 0, 0, 0) 2 a1), 308))) rfl h1 ?_
          refine zx_E.go 2 (s' := (7, [some (.inl a1), some (.inl 0), some (.inl 60)], [.inl 60, .inl a1], (zx_lay (zx_up zM0 (1, 0, 0, 0) 2 a1), 308))) rfl ?_
          refine zx_E.bf (c := 60 < a1) (s1 := (14, [some (.inl a1), some (.inl 0), some (.inl 60)], [], (zx_lay (zx_up zM0 (1, 0, 0, 0) 2 a1), 308))) (s2 := (10, [some (.inl a1), some (.inl 0), some (.inl 60)], [], (zx_lay (zx_up zM0 (1, 0, 0, 0) 2 a1), 308))) rfl (Int32.not_lt.mpr h2) ?_
          refine zx_E.go 2 (s' := (15, [some (.inl a1), some (.inl 0), some (.inl 60)], [.inl 1], (zx_lay (zx_up zM0 (1, 0, 0, 0) 2 a1), 308))) rfl ?_
          exact zx_E.iret rfl (fun _ => Or.inr rfl) rfl)) ?_
        show zx_E _ _ _ (7, [some (.inr (some (25, 0, 0, 0))), some (.inl a1), none], [.inl 1], (zx_lay (zx_up zM0 (1, 0, 0, 0) 2 a1), 308)) _
        refine zx_E.bf (c := 1 = 0) (s1 := (10, [some (.inr (some (25, 0, 0, 0))), some (.inl a1), none], [], (zx_lay (zx_up zM0 (1, 0, 0, 0) 2 a1), 308))) (s2 := (13, [some (.inr (some (25, 0, 0, 0))), some (.inl a1), none], [], (zx_lay (zx_up zM0 (1, 0, 0, 0) 2 a1), 308))) rfl (by decide) ?_
        refine zx_E.go 3 (s' := (19, [some (.inr (some (25, 0, 0, 0))), some (.inl a1), none], [.inl 26, .inr (some (26, 0, 0, 0))], (zx_lay (zx_up zM0 (1, 0, 0, 0) 2 a1), 308))) rfl ?_
        refine zx_E.iald' (k := 26) (h := (26, 0, 0, 0)) (v := 10) rfl rfl rfl (by decide) rfl ?_
        show zx_E _ _ _ (20, [some (.inr (some (25, 0, 0, 0))), some (.inl a1), none], [.inl 10], (zx_lay (zx_up zM0 (1, 0, 0, 0) 2 a1), 308)) _
        refine zx_E.go 5 (s' := (28, [some (.inr (some (25, 0, 0, 0))), some (.inl a1), some (.inl 10)], [.inl a1, .inl 26, .inr (some (26, 0, 0, 0))], (zx_lay (zx_up zM0 (1, 0, 0, 0) 2 a1), 308))) rfl ?_
        refine zx_E.iast (k := 26) (h := (26, 0, 0, 0)) rfl rfl rfl (by decide) ?_
        show zx_E _ _ _ (29, [some (.inr (some (25, 0, 0, 0))), some (.inl a1), some (.inl 10)], [], (zx_lay (zx_up (zx_up zM0 (1, 0, 0, 0) 2 a1) (26, 0, 0, 0) 26 a1), 308)) _
        refine zx_E.go 1 (s' := (30, [some (.inr (some (25, 0, 0, 0))), some (.inl a1), some (.inl 10)], [.inl 10], (zx_lay (zx_up (zx_up zM0 (1, 0, 0, 0) 2 a1) (26, 0, 0, 0) 26 a1), 308))) rfl ?_
        exact zx_E.iret rfl (fun h => absurd h (by decide)) rfl)) ?_
      show zx_E _ _ _ (265, [some (.inr (some (33, 0, 0, 0))), some (.inr (some (0, 0, 0, 0))), some (.inr (some (25, 0, 0, 0))), some (.inl 0)], [.inl 10, .inl 10], (zx_lay (zx_up (zx_up zM0 (1, 0, 0, 0) 2 a1) (26, 0, 0, 0) 26 a1), 308)) _
      refine zx_E.bt (c := 10 = 10) (s1 := (734, [some (.inr (some (33, 0, 0, 0))), some (.inr (some (0, 0, 0, 0))), some (.inr (some (25, 0, 0, 0))), some (.inl 0)], [], (zx_lay (zx_up (zx_up zM0 (1, 0, 0, 0) 2 a1) (26, 0, 0, 0) 26 a1), 308))) (s2 := (268, [some (.inr (some (33, 0, 0, 0))), some (.inr (some (0, 0, 0, 0))), some (.inr (some (25, 0, 0, 0))), some (.inl 0)], [], (zx_lay (zx_up (zx_up zM0 (1, 0, 0, 0) 2 a1) (26, 0, 0, 0) 26 a1), 308))) rfl (by decide) ?_
      refine zx_E.go 6 (s' := (23, [some (.inr (some (33, 0, 0, 0))), some (.inr (some (0, 0, 0, 0))), some (.inr (some (25, 0, 0, 0))), some (.inl 7)], [.inl 7, .inl 7, .inl 7], (zx_lay (zx_up (zx_up zM0 (1, 0, 0, 0) 2 a1) (26, 0, 0, 0) 26 a1), 308))) rfl ?_
      refine zx_E.go 1 (s' := (24, [some (.inr (some (33, 0, 0, 0))), some (.inr (some (0, 0, 0, 0))), some (.inr (some (25, 0, 0, 0))), some (.inl 7)], [.inl 0, .inl 7], (zx_lay (zx_up (zx_up zM0 (1, 0, 0, 0) 2 a1) (26, 0, 0, 0) 26 a1), 308))) rfl ?_
      refine zx_E.bt (c := 0 < 7) (s1 := (740, [some (.inr (some (33, 0, 0, 0))), some (.inr (some (0, 0, 0, 0))), some (.inr (some (25, 0, 0, 0))), some (.inl 7)], [], (zx_lay (zx_up (zx_up zM0 (1, 0, 0, 0) 2 a1) (26, 0, 0, 0) 26 a1), 308))) (s2 := (27, [some (.inr (some (33, 0, 0, 0))), some (.inr (some (0, 0, 0, 0))), some (.inr (some (25, 0, 0, 0))), some (.inl 7)], [], (zx_lay (zx_up (zx_up zM0 (1, 0, 0, 0) 2 a1) (26, 0, 0, 0) 26 a1), 308))) rfl (by decide) ?_
      refine zx_E.go 1 (s' := (741, [some (.inr (some (33, 0, 0, 0))), some (.inr (some (0, 0, 0, 0))), some (.inr (some (25, 0, 0, 0))), some (.inl 7)], [.inl 1], (zx_lay (zx_up (zx_up zM0 (1, 0, 0, 0) 2 a1) (26, 0, 0, 0) 26 a1), 308))) rfl ?_
      exact zx_E.iret rfl (fun _ => Or.inr rfl) rfl
    · skip
      refine ⟨(zx_lay zM0, 308), Nat.le_refl _, ?_⟩
      refine zx_E.go 4 (s' := (23, [some (.inr (some (33, 0, 0, 0))), some (.inr (some (0, 0, 0, 0))), some (.inr (some (25, 0, 0, 0))), some (.inl 0)], [.inl 7, .inl 7, .inl 0], (zx_lay zM0, 308))) rfl ?_
      refine zx_E.go 1 (s' := (24, [some (.inr (some (33, 0, 0, 0))), some (.inr (some (0, 0, 0, 0))), some (.inr (some (25, 0, 0, 0))), some (.inl 0)], [.inl 0, .inl 0], (zx_lay zM0, 308))) rfl ?_
      refine zx_E.bf (c := 0 < 0) (s1 := (740, [some (.inr (some (33, 0, 0, 0))), some (.inr (some (0, 0, 0, 0))), some (.inr (some (25, 0, 0, 0))), some (.inl 0)], [], (zx_lay zM0, 308))) (s2 := (27, [some (.inr (some (33, 0, 0, 0))), some (.inr (some (0, 0, 0, 0))), some (.inr (some (25, 0, 0, 0))), some (.inl 0)], [], (zx_lay zM0, 308))) rfl (by decide) ?_
      refine zx_E.go 2 (s' := (29, [some (.inr (some (33, 0, 0, 0))), some (.inr (some (0, 0, 0, 0))), some (.inr (some (25, 0, 0, 0))), some (.inl 0)], [.inl 0, .inr (some (33, 0, 0, 0))], (zx_lay zM0, 308))) rfl ?_
      refine zx_E.sld' (k := 0) (v := a0) rfl rfl (by omega) (by decide) e0 ?_
      show zx_E _ _ _ (30, [some (.inr (some (33, 0, 0, 0))), some (.inr (some (0, 0, 0, 0))), some (.inr (some (25, 0, 0, 0))), some (.inl 0)], [.inl a0], (zx_lay zM0, 308)) _
      refine zx_E.go 2 (s' := (33, [some (.inr (some (33, 0, 0, 0))), some (.inr (some (0, 0, 0, 0))), some (.inr (some (25, 0, 0, 0))), some (.inl 0)], [.inl (a0 &&& 31)], (zx_lay zM0, 308))) rfl ?_
      refine zx_E.one (s' := (zx_pick (a0 &&& 31) 0 [136, 211, 224, 247, 270, 293, 316, 339, 372, 405, 438, 471, 494, 517, 560, 573, 606, 639, 652, 685, 698, 711] 734, [some (.inr (some (33, 0, 0, 0))), some (.inr (some (0, 0, 0, 0))), some (.inr (some (25, 0, 0, 0))), some (.inl 0)], [], (zx_lay zM0, 308))) rfl ?_
      refine zx_E.pick (k' := 1) (by decide) (fun hn => absurd hn (fun q => absurd (hk.symm.trans q) (by decide))) (fun _ => ?_)
      refine zx_E.pick (k' := 2) (by decide) (fun hn => absurd hn (fun q => absurd (hk.symm.trans q) (by decide))) (fun _ => ?_)
      refine zx_E.pick (k' := 3) (by decide) (fun hn => absurd hn (fun q => absurd (hk.symm.trans q) (by decide))) (fun _ => ?_)
      refine zx_E.pick (k' := 4) (by decide) (fun _ => ?_) (fun hn => absurd hk hn)
      refine zx_E.go 5 (s' := (252, [some (.inr (some (33, 0, 0, 0))), some (.inr (some (0, 0, 0, 0))), some (.inr (some (25, 0, 0, 0))), some (.inl 0)], [.inl 1, .inr (some (33, 0, 0, 0)), .inr (some (0, 0, 0, 0))], (zx_lay zM0, 308))) rfl ?_
      refine zx_E.sld' (k := 1) (v := a1) rfl rfl (by omega) (by decide) e1 ?_
      show zx_E _ _ _ (253, [some (.inr (some (33, 0, 0, 0))), some (.inr (some (0, 0, 0, 0))), some (.inr (some (25, 0, 0, 0))), some (.inl 0)], [.inl a1, .inr (some (0, 0, 0, 0))], (zx_lay zM0, 308)) _
      refine zx_E.call1 (y := 97) (as := [.inr (some (0, 0, 0, 0)), .inl a1]) (rest := []) (v := .inl (-2)) (μ' := (zx_lay zM0, 308)) rfl (zx_run_of zc_X10_relief [some (.inr (some (0, 0, 0, 0))), some (.inl a1), none] rfl rfl (by
        refine zx_E.go 1 (s' := (1, [some (.inr (some (0, 0, 0, 0))), some (.inl a1), none], [.inl a1], (zx_lay zM0, 308))) rfl ?_
        refine zx_E.bf (c := a1 < 0) (s1 := (10, [some (.inr (some (0, 0, 0, 0))), some (.inl a1), none], [], (zx_lay zM0, 308))) (s2 := (4, [some (.inr (some (0, 0, 0, 0))), some (.inl a1), none], [], (zx_lay zM0, 308))) rfl h1 ?_
        refine zx_E.go 2 (s' := (7, [some (.inr (some (0, 0, 0, 0))), some (.inl a1), none], [.inl 60, .inl a1], (zx_lay zM0, 308))) rfl ?_
        refine zx_E.bf (c := a1 ≤ 60) (s1 := (13, [some (.inr (some (0, 0, 0, 0))), some (.inl a1), none], [], (zx_lay zM0, 308))) (s2 := (10, [some (.inr (some (0, 0, 0, 0))), some (.inl a1), none], [], (zx_lay zM0, 308))) rfl h2 ?_
        refine zx_E.go 1 (s' := (12, [some (.inr (some (0, 0, 0, 0))), some (.inl a1), none], [.inl (-2)], (zx_lay zM0, 308))) rfl ?_
        exact zx_E.iret rfl (fun h => absurd h (by decide)) rfl)) ?_
      show zx_E _ _ _ (256, [some (.inr (some (33, 0, 0, 0))), some (.inr (some (0, 0, 0, 0))), some (.inr (some (25, 0, 0, 0))), some (.inl 0)], [.inl (-2)], (zx_lay zM0, 308)) _
      refine zx_E.go 5 (s' := (261, [some (.inr (some (33, 0, 0, 0))), some (.inr (some (0, 0, 0, 0))), some (.inr (some (25, 0, 0, 0))), some (.inl 0)], [.inl 1, .inr (some (33, 0, 0, 0)), .inr (some (25, 0, 0, 0)), .inl (-2)], (zx_lay zM0, 308))) rfl ?_
      refine zx_E.sld' (k := 1) (v := a1) rfl rfl (by omega) (by decide) e1 ?_
      show zx_E _ _ _ (262, [some (.inr (some (33, 0, 0, 0))), some (.inr (some (0, 0, 0, 0))), some (.inr (some (25, 0, 0, 0))), some (.inl 0)], [.inl a1, .inr (some (25, 0, 0, 0)), .inl (-2)], (zx_lay zM0, 308)) _
      refine zx_E.call1 (y := 173) (as := [.inr (some (25, 0, 0, 0)), .inl a1]) (rest := [.inl (-2)]) (v := .inl (-2)) (μ' := (zx_lay zM0, 308)) rfl (zx_run_of zc_X11_relief [some (.inr (some (25, 0, 0, 0))), some (.inl a1), none] rfl rfl (by
        refine zx_E.go 3 (s' := (4, [some (.inr (some (25, 0, 0, 0))), some (.inl a1), none], [.inl 60, .inl 0, .inl a1], (zx_lay zM0, 308))) rfl ?_
        refine zx_E.call1 (y := 121) (as := [.inl a1, .inl 0, .inl 60]) (rest := []) (v := .inl 0) (μ' := (zx_lay zM0, 308)) rfl (zx_run_of zc_X11_isIn [some (.inl a1), some (.inl 0), some (.inl 60)] rfl rfl (by
          refine zx_E.go 2 (s' := (2, [some (.inl a1), some (.inl 0), some (.inl 60)], [.inl 0, .inl a1], (zx_lay zM0, 308))) rfl ?_
          refine zx_E.bf (c := a1 < 0) (s1 := (14, [some (.inl a1), some (.inl 0), some (.inl 60)], [], (zx_lay zM0, 308))) (s2 := (5, [some (.inl a1), some (.inl 0), some (.inl 60)], [], (zx_lay zM0, 308))) rfl h1 ?_
          refine zx_E.go 2 (s' := (7, [some (.inl a1), some (.inl 0), some (.inl 60)], [.inl 60, .inl a1], (zx_lay zM0, 308))) rfl ?_
          refine zx_E.bt (c := 60 < a1) (s1 := (14, [some (.inl a1), some (.inl 0), some (.inl 60)], [], (zx_lay zM0, 308))) (s2 := (10, [some (.inl a1), some (.inl 0), some (.inl 60)], [], (zx_lay zM0, 308))) rfl (Int32.not_le.mp h2) ?_
          refine zx_E.go 1 (s' := (15, [some (.inl a1), some (.inl 0), some (.inl 60)], [.inl 0], (zx_lay zM0, 308))) rfl ?_
          exact zx_E.iret rfl (fun _ => Or.inl rfl) rfl)) ?_
        show zx_E _ _ _ (7, [some (.inr (some (25, 0, 0, 0))), some (.inl a1), none], [.inl 0], (zx_lay zM0, 308)) _
        refine zx_E.bt (c := 0 = 0) (s1 := (10, [some (.inr (some (25, 0, 0, 0))), some (.inl a1), none], [], (zx_lay zM0, 308))) (s2 := (13, [some (.inr (some (25, 0, 0, 0))), some (.inl a1), none], [], (zx_lay zM0, 308))) rfl (by decide) ?_
        refine zx_E.go 1 (s' := (12, [some (.inr (some (25, 0, 0, 0))), some (.inl a1), none], [.inl (-2)], (zx_lay zM0, 308))) rfl ?_
        exact zx_E.iret rfl (fun h => absurd h (by decide)) rfl)) ?_
      show zx_E _ _ _ (265, [some (.inr (some (33, 0, 0, 0))), some (.inr (some (0, 0, 0, 0))), some (.inr (some (25, 0, 0, 0))), some (.inl 0)], [.inl (-2), .inl (-2)], (zx_lay zM0, 308)) _
      refine zx_E.bt (c := (-2) = (-2)) (s1 := (734, [some (.inr (some (33, 0, 0, 0))), some (.inr (some (0, 0, 0, 0))), some (.inr (some (25, 0, 0, 0))), some (.inl 0)], [], (zx_lay zM0, 308))) (s2 := (268, [some (.inr (some (33, 0, 0, 0))), some (.inr (some (0, 0, 0, 0))), some (.inr (some (25, 0, 0, 0))), some (.inl 0)], [], (zx_lay zM0, 308))) rfl (by decide) ?_
      refine zx_E.go 6 (s' := (23, [some (.inr (some (33, 0, 0, 0))), some (.inr (some (0, 0, 0, 0))), some (.inr (some (25, 0, 0, 0))), some (.inl 7)], [.inl 7, .inl 7, .inl 7], (zx_lay zM0, 308))) rfl ?_
      refine zx_E.go 1 (s' := (24, [some (.inr (some (33, 0, 0, 0))), some (.inr (some (0, 0, 0, 0))), some (.inr (some (25, 0, 0, 0))), some (.inl 7)], [.inl 0, .inl 7], (zx_lay zM0, 308))) rfl ?_
      refine zx_E.bt (c := 0 < 7) (s1 := (740, [some (.inr (some (33, 0, 0, 0))), some (.inr (some (0, 0, 0, 0))), some (.inr (some (25, 0, 0, 0))), some (.inl 7)], [], (zx_lay zM0, 308))) (s2 := (27, [some (.inr (some (33, 0, 0, 0))), some (.inr (some (0, 0, 0, 0))), some (.inr (some (25, 0, 0, 0))), some (.inl 7)], [], (zx_lay zM0, 308))) rfl (by decide) ?_
      refine zx_E.go 1 (s' := (741, [some (.inr (some (33, 0, 0, 0))), some (.inr (some (0, 0, 0, 0))), some (.inr (some (25, 0, 0, 0))), some (.inl 7)], [.inl 1], (zx_lay zM0, 308))) rfl ?_
      exact zx_E.iret rfl (fun _ => Or.inr rfl) rfl
set_option maxRecDepth 100000 in
set_option maxHeartbeats 4000000 in
theorem p1_op_4 {xs : Nat → Int32} {a0 a1 a2 a3 a4 a5 a6 : Int32} (e0 : xs 0 = a0) (e1 : xs 1 = a1) (e2 : xs 2 = a2) (e3 : xs 3 = a3) (e4 : xs 4 = a4) (e5 : xs 5 = a5) (e6 : xs 6 = a6) (hk : (a0 &&& 31) = 4) :
    ∃ μ : zx_M, μ.2 ≤ 308 ∧ zx_E (7, xs) 11 zc_L_law (18, [some (.inr (some (33, 0, 0, 0))), some (.inr (some (0, 0, 0, 0))), some (.inr (some (25, 0, 0, 0))), some (.inl 0)], [], (zx_lay zM0, 308)) (some (.inl 1), μ) := by
  by_cases h1 : a1 < 0
  · skip
    refine ⟨(zx_lay zM0, 308), Nat.le_refl _, ?_⟩
    refine zx_E.go 4 (s' := (23, [some (.inr (some (33, 0, 0, 0))), some (.inr (some (0, 0, 0, 0))), some (.inr (some (25, 0, 0, 0))), some (.inl 0)], [.inl 7, .inl 7, .inl 0], (zx_lay zM0, 308))) rfl ?_
    refine zx_E.go 1 (s' := (24, [some (.inr (some (33, 0, 0, 0))), some (.inr (some (0, 0, 0, 0))), some (.inr (some (25, 0, 0, 0))), some (.inl 0)], [.inl 0, .inl 0], (zx_lay zM0, 308))) rfl ?_
    refine zx_E.bf (c := 0 < 0) (s1 := (740, [some (.inr (some (33, 0, 0, 0))), some (.inr (some (0, 0, 0, 0))), some (.inr (some (25, 0, 0, 0))), some (.inl 0)], [], (zx_lay zM0, 308))) (s2 := (27, [some (.inr (some (33, 0, 0, 0))), some (.inr (some (0, 0, 0, 0))), some (.inr (some (25, 0, 0, 0))), some (.inl 0)], [], (zx_lay zM0, 308))) rfl (by decide) ?_
    refine zx_E.go 2 (s' := (29, [some (.inr (some (33, 0, 0, 0))), some (.inr (some (0, 0, 0, 0))), some (.inr (some (25, 0, 0, 0))), some (.inl 0)], [.inl 0, .inr (some (33, 0, 0, 0))], (zx_lay zM0, 308))) rfl ?_
    refine zx_E.sld' (k := 0) (v := a0) rfl rfl (by omega) (by decide) e0 ?_
    show zx_E _ _ _ (30, [some (.inr (some (33, 0, 0, 0))), some (.inr (some (0, 0, 0, 0))), some (.inr (some (25, 0, 0, 0))), some (.inl 0)], [.inl a0], (zx_lay zM0, 308)) _
    refine zx_E.go 2 (s' := (33, [some (.inr (some (33, 0, 0, 0))), some (.inr (some (0, 0, 0, 0))), some (.inr (some (25, 0, 0, 0))), some (.inl 0)], [.inl (a0 &&& 31)], (zx_lay zM0, 308))) rfl ?_
    refine zx_E.one (s' := (zx_pick (a0 &&& 31) 0 [136, 211, 224, 247, 270, 293, 316, 339, 372, 405, 438, 471, 494, 517, 560, 573, 606, 639, 652, 685, 698, 711] 734, [some (.inr (some (33, 0, 0, 0))), some (.inr (some (0, 0, 0, 0))), some (.inr (some (25, 0, 0, 0))), some (.inl 0)], [], (zx_lay zM0, 308))) rfl ?_
    refine zx_E.pick (k' := 1) (by decide) (fun hn => absurd hn (fun q => absurd (hk.symm.trans q) (by decide))) (fun _ => ?_)
    refine zx_E.pick (k' := 2) (by decide) (fun hn => absurd hn (fun q => absurd (hk.symm.trans q) (by decide))) (fun _ => ?_)
    refine zx_E.pick (k' := 3) (by decide) (fun hn => absurd hn (fun q => absurd (hk.symm.trans q) (by decide))) (fun _ => ?_)
    refine zx_E.pick (k' := 4) (by decide) (fun hn => absurd hn (fun q => absurd (hk.symm.trans q) (by decide))) (fun _ => ?_)
    refine zx_E.pick (k' := 5) (by decide) (fun _ => ?_) (fun hn => absurd hk hn)
    refine zx_E.go 5 (s' := (275, [some (.inr (some (33, 0, 0, 0))), some (.inr (some (0, 0, 0, 0))), some (.inr (some (25, 0, 0, 0))), some (.inl 0)], [.inl 1, .inr (some (33, 0, 0, 0)), .inr (some (0, 0, 0, 0))], (zx_lay zM0, 308))) rfl ?_
    refine zx_E.sld' (k := 1) (v := a1) rfl rfl (by omega) (by decide) e1 ?_
    show zx_E _ _ _ (276, [some (.inr (some (33, 0, 0, 0))), some (.inr (some (0, 0, 0, 0))), some (.inr (some (25, 0, 0, 0))), some (.inl 0)], [.inl a1, .inr (some (0, 0, 0, 0))], (zx_lay zM0, 308)) _
    refine zx_E.call1 (y := 98) (as := [.inr (some (0, 0, 0, 0)), .inl a1]) (rest := []) (v := .inl (-1)) (μ' := (zx_lay zM0, 308)) rfl (zx_run_of zc_X10_cancel [some (.inr (some (0, 0, 0, 0))), some (.inl a1), none] rfl rfl (by
      refine zx_E.go 3 (s' := (5, [some (.inr (some (0, 0, 0, 0))), some (.inl a1), none], [.inl a1, .inr (some (1, 0, 0, 0))], (zx_lay zM0, 308))) rfl ?_
      refine zx_E.call1 (y := 18) (as := [.inr (some (1, 0, 0, 0)), .inl a1]) (rest := []) (v := .inr none) (μ' := (zx_lay zM0, 308)) rfl (zx_run_of zc_X2_trainWith [some (.inr (some (1, 0, 0, 0))), some (.inl a1)] rfl rfl (by
        refine zx_E.go 1 (s' := (1, [some (.inr (some (1, 0, 0, 0))), some (.inl a1)], [.inl a1], (zx_lay zM0, 308))) rfl ?_
        refine zx_E.bt (c := a1 < 0) (s1 := (27, [some (.inr (some (1, 0, 0, 0))), some (.inl a1)], [], (zx_lay zM0, 308))) (s2 := (4, [some (.inr (some (1, 0, 0, 0))), some (.inl a1)], [], (zx_lay zM0, 308))) rfl h1 ?_
        refine zx_E.go 1 (s' := (28, [some (.inr (some (1, 0, 0, 0))), some (.inl a1)], [.inr none], (zx_lay zM0, 308))) rfl ?_
        exact zx_E.ret rfl)) ?_
      show zx_E _ _ _ (8, [some (.inr (some (0, 0, 0, 0))), some (.inl a1), none], [.inr none], (zx_lay zM0, 308)) _
      refine zx_E.go 4 (s' := (22, [some (.inr (some (0, 0, 0, 0))), some (.inl a1), some (.inr none)], [.inl (-1)], (zx_lay zM0, 308))) rfl ?_
      exact zx_E.iret rfl (fun h => absurd h (by decide)) rfl)) ?_
    show zx_E _ _ _ (279, [some (.inr (some (33, 0, 0, 0))), some (.inr (some (0, 0, 0, 0))), some (.inr (some (25, 0, 0, 0))), some (.inl 0)], [.inl (-1)], (zx_lay zM0, 308)) _
    refine zx_E.go 5 (s' := (284, [some (.inr (some (33, 0, 0, 0))), some (.inr (some (0, 0, 0, 0))), some (.inr (some (25, 0, 0, 0))), some (.inl 0)], [.inl 1, .inr (some (33, 0, 0, 0)), .inr (some (25, 0, 0, 0)), .inl (-1)], (zx_lay zM0, 308))) rfl ?_
    refine zx_E.sld' (k := 1) (v := a1) rfl rfl (by omega) (by decide) e1 ?_
    show zx_E _ _ _ (285, [some (.inr (some (33, 0, 0, 0))), some (.inr (some (0, 0, 0, 0))), some (.inr (some (25, 0, 0, 0))), some (.inl 0)], [.inl a1, .inr (some (25, 0, 0, 0)), .inl (-1)], (zx_lay zM0, 308)) _
    refine zx_E.call1 (y := 174) (as := [.inr (some (25, 0, 0, 0)), .inl a1]) (rest := [.inl (-1)]) (v := .inl (-1)) (μ' := (zx_lay zM0, 308)) rfl (zx_run_of zc_X11_cancel [some (.inr (some (25, 0, 0, 0))), some (.inl a1)] rfl rfl (by
      refine zx_E.go 2 (s' := (2, [some (.inr (some (25, 0, 0, 0))), some (.inl a1)], [.inl a1, .inr (some (25, 0, 0, 0))], (zx_lay zM0, 308))) rfl ?_
      refine zx_E.call1 (y := 124) (as := [.inr (some (25, 0, 0, 0)), .inl a1]) (rest := []) (v := .inl 0) (μ' := (zx_lay zM0, 308)) rfl (zx_run_of zc_X11_isTrain [some (.inr (some (25, 0, 0, 0))), some (.inl a1)] rfl rfl (by
        refine zx_E.go 5 (s' := (8, [some (.inr (some (25, 0, 0, 0))), some (.inl a1)], [.inl 27, .inr (some (26, 0, 0, 0)), .inl 0, .inl a1], (zx_lay zM0, 308))) rfl ?_
        refine zx_E.iald' (k := 27) (h := (26, 0, 0, 0)) (v := 0) rfl rfl rfl (by decide) rfl ?_
        show zx_E _ _ _ (9, [some (.inr (some (25, 0, 0, 0))), some (.inl a1)], [.inl 0, .inl 0, .inl a1], (zx_lay zM0, 308)) _
        refine zx_E.go 2 (s' := (11, [some (.inr (some (25, 0, 0, 0))), some (.inl a1)], [.inl (-1), .inl 0, .inl a1], (zx_lay zM0, 308))) rfl ?_
        refine zx_E.call1 (y := 121) (as := [.inl a1, .inl 0, .inl (-1)]) (rest := []) (v := .inl 0) (μ' := (zx_lay zM0, 308)) rfl (zx_run_of zc_X11_isIn [some (.inl a1), some (.inl 0), some (.inl (-1))] rfl rfl (by
          refine zx_E.go 2 (s' := (2, [some (.inl a1), some (.inl 0), some (.inl (-1))], [.inl 0, .inl a1], (zx_lay zM0, 308))) rfl ?_
          refine zx_E.bt (c := a1 < 0) (s1 := (14, [some (.inl a1), some (.inl 0), some (.inl (-1))], [], (zx_lay zM0, 308))) (s2 := (5, [some (.inl a1), some (.inl 0), some (.inl (-1))], [], (zx_lay zM0, 308))) rfl h1 ?_
          refine zx_E.go 1 (s' := (15, [some (.inl a1), some (.inl 0), some (.inl (-1))], [.inl 0], (zx_lay zM0, 308))) rfl ?_
          exact zx_E.iret rfl (fun _ => Or.inl rfl) rfl)) ?_
        show zx_E _ _ _ (14, [some (.inr (some (25, 0, 0, 0))), some (.inl a1)], [.inl 0], (zx_lay zM0, 308)) _
        exact zx_E.iret rfl (fun _ => Or.inl rfl) rfl)) ?_
      show zx_E _ _ _ (5, [some (.inr (some (25, 0, 0, 0))), some (.inl a1)], [.inl 0], (zx_lay zM0, 308)) _
      refine zx_E.bt (c := 0 = 0) (s1 := (18, [some (.inr (some (25, 0, 0, 0))), some (.inl a1)], [], (zx_lay zM0, 308))) (s2 := (8, [some (.inr (some (25, 0, 0, 0))), some (.inl a1)], [], (zx_lay zM0, 308))) rfl (by decide) ?_
      refine zx_E.go 1 (s' := (19, [some (.inr (some (25, 0, 0, 0))), some (.inl a1)], [.inl (-1)], (zx_lay zM0, 308))) rfl ?_
      exact zx_E.iret rfl (fun h => absurd h (by decide)) rfl)) ?_
    show zx_E _ _ _ (288, [some (.inr (some (33, 0, 0, 0))), some (.inr (some (0, 0, 0, 0))), some (.inr (some (25, 0, 0, 0))), some (.inl 0)], [.inl (-1), .inl (-1)], (zx_lay zM0, 308)) _
    refine zx_E.bt (c := (-1) = (-1)) (s1 := (734, [some (.inr (some (33, 0, 0, 0))), some (.inr (some (0, 0, 0, 0))), some (.inr (some (25, 0, 0, 0))), some (.inl 0)], [], (zx_lay zM0, 308))) (s2 := (291, [some (.inr (some (33, 0, 0, 0))), some (.inr (some (0, 0, 0, 0))), some (.inr (some (25, 0, 0, 0))), some (.inl 0)], [], (zx_lay zM0, 308))) rfl (by decide) ?_
    refine zx_E.go 6 (s' := (23, [some (.inr (some (33, 0, 0, 0))), some (.inr (some (0, 0, 0, 0))), some (.inr (some (25, 0, 0, 0))), some (.inl 7)], [.inl 7, .inl 7, .inl 7], (zx_lay zM0, 308))) rfl ?_
    refine zx_E.go 1 (s' := (24, [some (.inr (some (33, 0, 0, 0))), some (.inr (some (0, 0, 0, 0))), some (.inr (some (25, 0, 0, 0))), some (.inl 7)], [.inl 0, .inl 7], (zx_lay zM0, 308))) rfl ?_
    refine zx_E.bt (c := 0 < 7) (s1 := (740, [some (.inr (some (33, 0, 0, 0))), some (.inr (some (0, 0, 0, 0))), some (.inr (some (25, 0, 0, 0))), some (.inl 7)], [], (zx_lay zM0, 308))) (s2 := (27, [some (.inr (some (33, 0, 0, 0))), some (.inr (some (0, 0, 0, 0))), some (.inr (some (25, 0, 0, 0))), some (.inl 7)], [], (zx_lay zM0, 308))) rfl (by decide) ?_
    refine zx_E.go 1 (s' := (741, [some (.inr (some (33, 0, 0, 0))), some (.inr (some (0, 0, 0, 0))), some (.inr (some (25, 0, 0, 0))), some (.inl 7)], [.inl 1], (zx_lay zM0, 308))) rfl ?_
    exact zx_E.iret rfl (fun _ => Or.inr rfl) rfl
  · skip
    refine ⟨(zx_lay zM0, 308), Nat.le_refl _, ?_⟩
    refine zx_E.go 4 (s' := (23, [some (.inr (some (33, 0, 0, 0))), some (.inr (some (0, 0, 0, 0))), some (.inr (some (25, 0, 0, 0))), some (.inl 0)], [.inl 7, .inl 7, .inl 0], (zx_lay zM0, 308))) rfl ?_
    refine zx_E.go 1 (s' := (24, [some (.inr (some (33, 0, 0, 0))), some (.inr (some (0, 0, 0, 0))), some (.inr (some (25, 0, 0, 0))), some (.inl 0)], [.inl 0, .inl 0], (zx_lay zM0, 308))) rfl ?_
    refine zx_E.bf (c := 0 < 0) (s1 := (740, [some (.inr (some (33, 0, 0, 0))), some (.inr (some (0, 0, 0, 0))), some (.inr (some (25, 0, 0, 0))), some (.inl 0)], [], (zx_lay zM0, 308))) (s2 := (27, [some (.inr (some (33, 0, 0, 0))), some (.inr (some (0, 0, 0, 0))), some (.inr (some (25, 0, 0, 0))), some (.inl 0)], [], (zx_lay zM0, 308))) rfl (by decide) ?_
    refine zx_E.go 2 (s' := (29, [some (.inr (some (33, 0, 0, 0))), some (.inr (some (0, 0, 0, 0))), some (.inr (some (25, 0, 0, 0))), some (.inl 0)], [.inl 0, .inr (some (33, 0, 0, 0))], (zx_lay zM0, 308))) rfl ?_
    refine zx_E.sld' (k := 0) (v := a0) rfl rfl (by omega) (by decide) e0 ?_
    show zx_E _ _ _ (30, [some (.inr (some (33, 0, 0, 0))), some (.inr (some (0, 0, 0, 0))), some (.inr (some (25, 0, 0, 0))), some (.inl 0)], [.inl a0], (zx_lay zM0, 308)) _
    refine zx_E.go 2 (s' := (33, [some (.inr (some (33, 0, 0, 0))), some (.inr (some (0, 0, 0, 0))), some (.inr (some (25, 0, 0, 0))), some (.inl 0)], [.inl (a0 &&& 31)], (zx_lay zM0, 308))) rfl ?_
    refine zx_E.one (s' := (zx_pick (a0 &&& 31) 0 [136, 211, 224, 247, 270, 293, 316, 339, 372, 405, 438, 471, 494, 517, 560, 573, 606, 639, 652, 685, 698, 711] 734, [some (.inr (some (33, 0, 0, 0))), some (.inr (some (0, 0, 0, 0))), some (.inr (some (25, 0, 0, 0))), some (.inl 0)], [], (zx_lay zM0, 308))) rfl ?_
    refine zx_E.pick (k' := 1) (by decide) (fun hn => absurd hn (fun q => absurd (hk.symm.trans q) (by decide))) (fun _ => ?_)
    refine zx_E.pick (k' := 2) (by decide) (fun hn => absurd hn (fun q => absurd (hk.symm.trans q) (by decide))) (fun _ => ?_)
    refine zx_E.pick (k' := 3) (by decide) (fun hn => absurd hn (fun q => absurd (hk.symm.trans q) (by decide))) (fun _ => ?_)
    refine zx_E.pick (k' := 4) (by decide) (fun hn => absurd hn (fun q => absurd (hk.symm.trans q) (by decide))) (fun _ => ?_)
    refine zx_E.pick (k' := 5) (by decide) (fun _ => ?_) (fun hn => absurd hk hn)
    refine zx_E.go 5 (s' := (275, [some (.inr (some (33, 0, 0, 0))), some (.inr (some (0, 0, 0, 0))), some (.inr (some (25, 0, 0, 0))), some (.inl 0)], [.inl 1, .inr (some (33, 0, 0, 0)), .inr (some (0, 0, 0, 0))], (zx_lay zM0, 308))) rfl ?_
    refine zx_E.sld' (k := 1) (v := a1) rfl rfl (by omega) (by decide) e1 ?_
    show zx_E _ _ _ (276, [some (.inr (some (33, 0, 0, 0))), some (.inr (some (0, 0, 0, 0))), some (.inr (some (25, 0, 0, 0))), some (.inl 0)], [.inl a1, .inr (some (0, 0, 0, 0))], (zx_lay zM0, 308)) _
    refine zx_E.call1 (y := 98) (as := [.inr (some (0, 0, 0, 0)), .inl a1]) (rest := []) (v := .inl (-1)) (μ' := (zx_lay zM0, 308)) rfl (zx_run_of zc_X10_cancel [some (.inr (some (0, 0, 0, 0))), some (.inl a1), none] rfl rfl (by
      refine zx_E.go 3 (s' := (5, [some (.inr (some (0, 0, 0, 0))), some (.inl a1), none], [.inl a1, .inr (some (1, 0, 0, 0))], (zx_lay zM0, 308))) rfl ?_
      refine zx_E.call1 (y := 18) (as := [.inr (some (1, 0, 0, 0)), .inl a1]) (rest := []) (v := .inr none) (μ' := (zx_lay zM0, 308)) rfl (zx_run_of zc_X2_trainWith [some (.inr (some (1, 0, 0, 0))), some (.inl a1)] rfl rfl (by
        refine zx_E.go 1 (s' := (1, [some (.inr (some (1, 0, 0, 0))), some (.inl a1)], [.inl a1], (zx_lay zM0, 308))) rfl ?_
        refine zx_E.bf (c := a1 < 0) (s1 := (27, [some (.inr (some (1, 0, 0, 0))), some (.inl a1)], [], (zx_lay zM0, 308))) (s2 := (4, [some (.inr (some (1, 0, 0, 0))), some (.inl a1)], [], (zx_lay zM0, 308))) rfl h1 ?_
        refine zx_E.go 3 (s' := (9, [some (.inr (some (1, 0, 0, 0))), some (.inl a1)], [.inl 0, .inl a1], (zx_lay zM0, 308))) rfl ?_
        refine zx_E.bt (c := 0 ≤ a1) (s1 := (27, [some (.inr (some (1, 0, 0, 0))), some (.inl a1)], [], (zx_lay zM0, 308))) (s2 := (12, [some (.inr (some (1, 0, 0, 0))), some (.inl a1)], [], (zx_lay zM0, 308))) rfl (Int32.not_lt.mp h1) ?_
        refine zx_E.go 1 (s' := (28, [some (.inr (some (1, 0, 0, 0))), some (.inl a1)], [.inr none], (zx_lay zM0, 308))) rfl ?_
        exact zx_E.ret rfl)) ?_
      show zx_E _ _ _ (8, [some (.inr (some (0, 0, 0, 0))), some (.inl a1), none], [.inr none], (zx_lay zM0, 308)) _
      refine zx_E.go 4 (s' := (22, [some (.inr (some (0, 0, 0, 0))), some (.inl a1), some (.inr none)], [.inl (-1)], (zx_lay zM0, 308))) rfl ?_
      exact zx_E.iret rfl (fun h => absurd h (by decide)) rfl)) ?_
    show zx_E _ _ _ (279, [some (.inr (some (33, 0, 0, 0))), some (.inr (some (0, 0, 0, 0))), some (.inr (some (25, 0, 0, 0))), some (.inl 0)], [.inl (-1)], (zx_lay zM0, 308)) _
    refine zx_E.go 5 (s' := (284, [some (.inr (some (33, 0, 0, 0))), some (.inr (some (0, 0, 0, 0))), some (.inr (some (25, 0, 0, 0))), some (.inl 0)], [.inl 1, .inr (some (33, 0, 0, 0)), .inr (some (25, 0, 0, 0)), .inl (-1)], (zx_lay zM0, 308))) rfl ?_
    refine zx_E.sld' (k := 1) (v := a1) rfl rfl (by omega) (by decide) e1 ?_
    show zx_E _ _ _ (285, [some (.inr (some (33, 0, 0, 0))), some (.inr (some (0, 0, 0, 0))), some (.inr (some (25, 0, 0, 0))), some (.inl 0)], [.inl a1, .inr (some (25, 0, 0, 0)), .inl (-1)], (zx_lay zM0, 308)) _
    refine zx_E.call1 (y := 174) (as := [.inr (some (25, 0, 0, 0)), .inl a1]) (rest := [.inl (-1)]) (v := .inl (-1)) (μ' := (zx_lay zM0, 308)) rfl (zx_run_of zc_X11_cancel [some (.inr (some (25, 0, 0, 0))), some (.inl a1)] rfl rfl (by
      refine zx_E.go 2 (s' := (2, [some (.inr (some (25, 0, 0, 0))), some (.inl a1)], [.inl a1, .inr (some (25, 0, 0, 0))], (zx_lay zM0, 308))) rfl ?_
      refine zx_E.call1 (y := 124) (as := [.inr (some (25, 0, 0, 0)), .inl a1]) (rest := []) (v := .inl 0) (μ' := (zx_lay zM0, 308)) rfl (zx_run_of zc_X11_isTrain [some (.inr (some (25, 0, 0, 0))), some (.inl a1)] rfl rfl (by
        refine zx_E.go 5 (s' := (8, [some (.inr (some (25, 0, 0, 0))), some (.inl a1)], [.inl 27, .inr (some (26, 0, 0, 0)), .inl 0, .inl a1], (zx_lay zM0, 308))) rfl ?_
        refine zx_E.iald' (k := 27) (h := (26, 0, 0, 0)) (v := 0) rfl rfl rfl (by decide) rfl ?_
        show zx_E _ _ _ (9, [some (.inr (some (25, 0, 0, 0))), some (.inl a1)], [.inl 0, .inl 0, .inl a1], (zx_lay zM0, 308)) _
        refine zx_E.go 2 (s' := (11, [some (.inr (some (25, 0, 0, 0))), some (.inl a1)], [.inl (-1), .inl 0, .inl a1], (zx_lay zM0, 308))) rfl ?_
        refine zx_E.call1 (y := 121) (as := [.inl a1, .inl 0, .inl (-1)]) (rest := []) (v := .inl 0) (μ' := (zx_lay zM0, 308)) rfl (zx_run_of zc_X11_isIn [some (.inl a1), some (.inl 0), some (.inl (-1))] rfl rfl (by
          refine zx_E.go 2 (s' := (2, [some (.inl a1), some (.inl 0), some (.inl (-1))], [.inl 0, .inl a1], (zx_lay zM0, 308))) rfl ?_
          refine zx_E.bf (c := a1 < 0) (s1 := (14, [some (.inl a1), some (.inl 0), some (.inl (-1))], [], (zx_lay zM0, 308))) (s2 := (5, [some (.inl a1), some (.inl 0), some (.inl (-1))], [], (zx_lay zM0, 308))) rfl h1 ?_
          refine zx_E.go 2 (s' := (7, [some (.inl a1), some (.inl 0), some (.inl (-1))], [.inl (-1), .inl a1], (zx_lay zM0, 308))) rfl ?_
          refine zx_E.bt (c := (-1) < a1) (s1 := (14, [some (.inl a1), some (.inl 0), some (.inl (-1))], [], (zx_lay zM0, 308))) (s2 := (10, [some (.inl a1), some (.inl 0), some (.inl (-1))], [], (zx_lay zM0, 308))) rfl (zx_m1 h1) ?_
          refine zx_E.go 1 (s' := (15, [some (.inl a1), some (.inl 0), some (.inl (-1))], [.inl 0], (zx_lay zM0, 308))) rfl ?_
          exact zx_E.iret rfl (fun _ => Or.inl rfl) rfl)) ?_
        show zx_E _ _ _ (14, [some (.inr (some (25, 0, 0, 0))), some (.inl a1)], [.inl 0], (zx_lay zM0, 308)) _
        exact zx_E.iret rfl (fun _ => Or.inl rfl) rfl)) ?_
      show zx_E _ _ _ (5, [some (.inr (some (25, 0, 0, 0))), some (.inl a1)], [.inl 0], (zx_lay zM0, 308)) _
      refine zx_E.bt (c := 0 = 0) (s1 := (18, [some (.inr (some (25, 0, 0, 0))), some (.inl a1)], [], (zx_lay zM0, 308))) (s2 := (8, [some (.inr (some (25, 0, 0, 0))), some (.inl a1)], [], (zx_lay zM0, 308))) rfl (by decide) ?_
      refine zx_E.go 1 (s' := (19, [some (.inr (some (25, 0, 0, 0))), some (.inl a1)], [.inl (-1)], (zx_lay zM0, 308))) rfl ?_
      exact zx_E.iret rfl (fun h => absurd h (by decide)) rfl)) ?_
    show zx_E _ _ _ (288, [some (.inr (some (33, 0, 0, 0))), some (.inr (some (0, 0, 0, 0))), some (.inr (some (25, 0, 0, 0))), some (.inl 0)], [.inl (-1), .inl (-1)], (zx_lay zM0, 308)) _
    refine zx_E.bt (c := (-1) = (-1)) (s1 := (734, [some (.inr (some (33, 0, 0, 0))), some (.inr (some (0, 0, 0, 0))), some (.inr (some (25, 0, 0, 0))), some (.inl 0)], [], (zx_lay zM0, 308))) (s2 := (291, [some (.inr (some (33, 0, 0, 0))), some (.inr (some (0, 0, 0, 0))), some (.inr (some (25, 0, 0, 0))), some (.inl 0)], [], (zx_lay zM0, 308))) rfl (by decide) ?_
    refine zx_E.go 6 (s' := (23, [some (.inr (some (33, 0, 0, 0))), some (.inr (some (0, 0, 0, 0))), some (.inr (some (25, 0, 0, 0))), some (.inl 7)], [.inl 7, .inl 7, .inl 7], (zx_lay zM0, 308))) rfl ?_
    refine zx_E.go 1 (s' := (24, [some (.inr (some (33, 0, 0, 0))), some (.inr (some (0, 0, 0, 0))), some (.inr (some (25, 0, 0, 0))), some (.inl 7)], [.inl 0, .inl 7], (zx_lay zM0, 308))) rfl ?_
    refine zx_E.bt (c := 0 < 7) (s1 := (740, [some (.inr (some (33, 0, 0, 0))), some (.inr (some (0, 0, 0, 0))), some (.inr (some (25, 0, 0, 0))), some (.inl 7)], [], (zx_lay zM0, 308))) (s2 := (27, [some (.inr (some (33, 0, 0, 0))), some (.inr (some (0, 0, 0, 0))), some (.inr (some (25, 0, 0, 0))), some (.inl 7)], [], (zx_lay zM0, 308))) rfl (by decide) ?_
    refine zx_E.go 1 (s' := (741, [some (.inr (some (33, 0, 0, 0))), some (.inr (some (0, 0, 0, 0))), some (.inr (some (25, 0, 0, 0))), some (.inl 7)], [.inl 1], (zx_lay zM0, 308))) rfl ?_
    exact zx_E.iret rfl (fun _ => Or.inr rfl) rfl
set_option maxRecDepth 100000 in
set_option maxHeartbeats 4000000 in
theorem p1_op_5 {xs : Nat → Int32} {a0 a1 a2 a3 a4 a5 a6 : Int32} (e0 : xs 0 = a0) (e1 : xs 1 = a1) (e2 : xs 2 = a2) (e3 : xs 3 = a3) (e4 : xs 4 = a4) (e5 : xs 5 = a5) (e6 : xs 6 = a6) (hk : (a0 &&& 31) = 5) :
    ∃ μ : zx_M, μ.2 ≤ 308 ∧ zx_E (7, xs) 11 zc_L_law (18, [some (.inr (some (33, 0, 0, 0))), some (.inr (some (0, 0, 0, 0))), some (.inr (some (25, 0, 0, 0))), some (.inl 0)], [], (zx_lay zM0, 308)) (some (.inl 1), μ) := by
  by_cases h1 : a1 < 0
  · skip
    refine ⟨(zx_lay zM0, 308), Nat.le_refl _, ?_⟩
    refine zx_E.go 4 (s' := (23, [some (.inr (some (33, 0, 0, 0))), some (.inr (some (0, 0, 0, 0))), some (.inr (some (25, 0, 0, 0))), some (.inl 0)], [.inl 7, .inl 7, .inl 0], (zx_lay zM0, 308))) rfl ?_
    refine zx_E.go 1 (s' := (24, [some (.inr (some (33, 0, 0, 0))), some (.inr (some (0, 0, 0, 0))), some (.inr (some (25, 0, 0, 0))), some (.inl 0)], [.inl 0, .inl 0], (zx_lay zM0, 308))) rfl ?_
    refine zx_E.bf (c := 0 < 0) (s1 := (740, [some (.inr (some (33, 0, 0, 0))), some (.inr (some (0, 0, 0, 0))), some (.inr (some (25, 0, 0, 0))), some (.inl 0)], [], (zx_lay zM0, 308))) (s2 := (27, [some (.inr (some (33, 0, 0, 0))), some (.inr (some (0, 0, 0, 0))), some (.inr (some (25, 0, 0, 0))), some (.inl 0)], [], (zx_lay zM0, 308))) rfl (by decide) ?_
    refine zx_E.go 2 (s' := (29, [some (.inr (some (33, 0, 0, 0))), some (.inr (some (0, 0, 0, 0))), some (.inr (some (25, 0, 0, 0))), some (.inl 0)], [.inl 0, .inr (some (33, 0, 0, 0))], (zx_lay zM0, 308))) rfl ?_
    refine zx_E.sld' (k := 0) (v := a0) rfl rfl (by omega) (by decide) e0 ?_
    show zx_E _ _ _ (30, [some (.inr (some (33, 0, 0, 0))), some (.inr (some (0, 0, 0, 0))), some (.inr (some (25, 0, 0, 0))), some (.inl 0)], [.inl a0], (zx_lay zM0, 308)) _
    refine zx_E.go 2 (s' := (33, [some (.inr (some (33, 0, 0, 0))), some (.inr (some (0, 0, 0, 0))), some (.inr (some (25, 0, 0, 0))), some (.inl 0)], [.inl (a0 &&& 31)], (zx_lay zM0, 308))) rfl ?_
    refine zx_E.one (s' := (zx_pick (a0 &&& 31) 0 [136, 211, 224, 247, 270, 293, 316, 339, 372, 405, 438, 471, 494, 517, 560, 573, 606, 639, 652, 685, 698, 711] 734, [some (.inr (some (33, 0, 0, 0))), some (.inr (some (0, 0, 0, 0))), some (.inr (some (25, 0, 0, 0))), some (.inl 0)], [], (zx_lay zM0, 308))) rfl ?_
    refine zx_E.pick (k' := 1) (by decide) (fun hn => absurd hn (fun q => absurd (hk.symm.trans q) (by decide))) (fun _ => ?_)
    refine zx_E.pick (k' := 2) (by decide) (fun hn => absurd hn (fun q => absurd (hk.symm.trans q) (by decide))) (fun _ => ?_)
    refine zx_E.pick (k' := 3) (by decide) (fun hn => absurd hn (fun q => absurd (hk.symm.trans q) (by decide))) (fun _ => ?_)
    refine zx_E.pick (k' := 4) (by decide) (fun hn => absurd hn (fun q => absurd (hk.symm.trans q) (by decide))) (fun _ => ?_)
    refine zx_E.pick (k' := 5) (by decide) (fun hn => absurd hn (fun q => absurd (hk.symm.trans q) (by decide))) (fun _ => ?_)
    refine zx_E.pick (k' := 6) (by decide) (fun _ => ?_) (fun hn => absurd hk hn)
    refine zx_E.go 5 (s' := (298, [some (.inr (some (33, 0, 0, 0))), some (.inr (some (0, 0, 0, 0))), some (.inr (some (25, 0, 0, 0))), some (.inl 0)], [.inl 1, .inr (some (33, 0, 0, 0)), .inr (some (0, 0, 0, 0))], (zx_lay zM0, 308))) rfl ?_
    refine zx_E.sld' (k := 1) (v := a1) rfl rfl (by omega) (by decide) e1 ?_
    show zx_E _ _ _ (299, [some (.inr (some (33, 0, 0, 0))), some (.inr (some (0, 0, 0, 0))), some (.inr (some (25, 0, 0, 0))), some (.inl 0)], [.inl a1, .inr (some (0, 0, 0, 0))], (zx_lay zM0, 308)) _
    refine zx_E.call1 (y := 99) (as := [.inr (some (0, 0, 0, 0)), .inl a1]) (rest := []) (v := .inl (-1)) (μ' := (zx_lay zM0, 308)) rfl (zx_run_of zc_X10_lift [some (.inr (some (0, 0, 0, 0))), some (.inl a1)] rfl rfl (by
      refine zx_E.go 1 (s' := (1, [some (.inr (some (0, 0, 0, 0))), some (.inl a1)], [.inl a1], (zx_lay zM0, 308))) rfl ?_
      refine zx_E.bt (c := a1 < 0) (s1 := (15, [some (.inr (some (0, 0, 0, 0))), some (.inl a1)], [], (zx_lay zM0, 308))) (s2 := (4, [some (.inr (some (0, 0, 0, 0))), some (.inl a1)], [], (zx_lay zM0, 308))) rfl h1 ?_
      refine zx_E.go 1 (s' := (16, [some (.inr (some (0, 0, 0, 0))), some (.inl a1)], [.inl (-1)], (zx_lay zM0, 308))) rfl ?_
      exact zx_E.iret rfl (fun h => absurd h (by decide)) rfl)) ?_
    show zx_E _ _ _ (302, [some (.inr (some (33, 0, 0, 0))), some (.inr (some (0, 0, 0, 0))), some (.inr (some (25, 0, 0, 0))), some (.inl 0)], [.inl (-1)], (zx_lay zM0, 308)) _
    refine zx_E.go 5 (s' := (307, [some (.inr (some (33, 0, 0, 0))), some (.inr (some (0, 0, 0, 0))), some (.inr (some (25, 0, 0, 0))), some (.inl 0)], [.inl 1, .inr (some (33, 0, 0, 0)), .inr (some (25, 0, 0, 0)), .inl (-1)], (zx_lay zM0, 308))) rfl ?_
    refine zx_E.sld' (k := 1) (v := a1) rfl rfl (by omega) (by decide) e1 ?_
    show zx_E _ _ _ (308, [some (.inr (some (33, 0, 0, 0))), some (.inr (some (0, 0, 0, 0))), some (.inr (some (25, 0, 0, 0))), some (.inl 0)], [.inl a1, .inr (some (25, 0, 0, 0)), .inl (-1)], (zx_lay zM0, 308)) _
    refine zx_E.call1 (y := 175) (as := [.inr (some (25, 0, 0, 0)), .inl a1]) (rest := [.inl (-1)]) (v := .inl (-1)) (μ' := (zx_lay zM0, 308)) rfl (zx_run_of zc_X11_lift [some (.inr (some (25, 0, 0, 0))), some (.inl a1), none] rfl rfl (by
      refine zx_E.go 5 (s' := (8, [some (.inr (some (25, 0, 0, 0))), some (.inl a1), none], [.inl 50, .inr (some (26, 0, 0, 0)), .inl 0, .inl a1], (zx_lay zM0, 308))) rfl ?_
      refine zx_E.iald' (k := 50) (h := (26, 0, 0, 0)) (v := 0) rfl rfl rfl (by decide) rfl ?_
      show zx_E _ _ _ (9, [some (.inr (some (25, 0, 0, 0))), some (.inl a1), none], [.inl 0, .inl 0, .inl a1], (zx_lay zM0, 308)) _
      refine zx_E.go 2 (s' := (11, [some (.inr (some (25, 0, 0, 0))), some (.inl a1), none], [.inl (-1), .inl 0, .inl a1], (zx_lay zM0, 308))) rfl ?_
      refine zx_E.call1 (y := 121) (as := [.inl a1, .inl 0, .inl (-1)]) (rest := []) (v := .inl 0) (μ' := (zx_lay zM0, 308)) rfl (zx_run_of zc_X11_isIn [some (.inl a1), some (.inl 0), some (.inl (-1))] rfl rfl (by
        refine zx_E.go 2 (s' := (2, [some (.inl a1), some (.inl 0), some (.inl (-1))], [.inl 0, .inl a1], (zx_lay zM0, 308))) rfl ?_
        refine zx_E.bt (c := a1 < 0) (s1 := (14, [some (.inl a1), some (.inl 0), some (.inl (-1))], [], (zx_lay zM0, 308))) (s2 := (5, [some (.inl a1), some (.inl 0), some (.inl (-1))], [], (zx_lay zM0, 308))) rfl h1 ?_
        refine zx_E.go 1 (s' := (15, [some (.inl a1), some (.inl 0), some (.inl (-1))], [.inl 0], (zx_lay zM0, 308))) rfl ?_
        exact zx_E.iret rfl (fun _ => Or.inl rfl) rfl)) ?_
      show zx_E _ _ _ (14, [some (.inr (some (25, 0, 0, 0))), some (.inl a1), none], [.inl 0], (zx_lay zM0, 308)) _
      refine zx_E.bt (c := 0 = 0) (s1 := (17, [some (.inr (some (25, 0, 0, 0))), some (.inl a1), none], [], (zx_lay zM0, 308))) (s2 := (19, [some (.inr (some (25, 0, 0, 0))), some (.inl a1), none], [], (zx_lay zM0, 308))) rfl (by decide) ?_
      refine zx_E.go 1 (s' := (18, [some (.inr (some (25, 0, 0, 0))), some (.inl a1), none], [.inl (-1)], (zx_lay zM0, 308))) rfl ?_
      exact zx_E.iret rfl (fun h => absurd h (by decide)) rfl)) ?_
    show zx_E _ _ _ (311, [some (.inr (some (33, 0, 0, 0))), some (.inr (some (0, 0, 0, 0))), some (.inr (some (25, 0, 0, 0))), some (.inl 0)], [.inl (-1), .inl (-1)], (zx_lay zM0, 308)) _
    refine zx_E.bt (c := (-1) = (-1)) (s1 := (734, [some (.inr (some (33, 0, 0, 0))), some (.inr (some (0, 0, 0, 0))), some (.inr (some (25, 0, 0, 0))), some (.inl 0)], [], (zx_lay zM0, 308))) (s2 := (314, [some (.inr (some (33, 0, 0, 0))), some (.inr (some (0, 0, 0, 0))), some (.inr (some (25, 0, 0, 0))), some (.inl 0)], [], (zx_lay zM0, 308))) rfl (by decide) ?_
    refine zx_E.go 6 (s' := (23, [some (.inr (some (33, 0, 0, 0))), some (.inr (some (0, 0, 0, 0))), some (.inr (some (25, 0, 0, 0))), some (.inl 7)], [.inl 7, .inl 7, .inl 7], (zx_lay zM0, 308))) rfl ?_
    refine zx_E.go 1 (s' := (24, [some (.inr (some (33, 0, 0, 0))), some (.inr (some (0, 0, 0, 0))), some (.inr (some (25, 0, 0, 0))), some (.inl 7)], [.inl 0, .inl 7], (zx_lay zM0, 308))) rfl ?_
    refine zx_E.bt (c := 0 < 7) (s1 := (740, [some (.inr (some (33, 0, 0, 0))), some (.inr (some (0, 0, 0, 0))), some (.inr (some (25, 0, 0, 0))), some (.inl 7)], [], (zx_lay zM0, 308))) (s2 := (27, [some (.inr (some (33, 0, 0, 0))), some (.inr (some (0, 0, 0, 0))), some (.inr (some (25, 0, 0, 0))), some (.inl 7)], [], (zx_lay zM0, 308))) rfl (by decide) ?_
    refine zx_E.go 1 (s' := (741, [some (.inr (some (33, 0, 0, 0))), some (.inr (some (0, 0, 0, 0))), some (.inr (some (25, 0, 0, 0))), some (.inl 7)], [.inl 1], (zx_lay zM0, 308))) rfl ?_
    exact zx_E.iret rfl (fun _ => Or.inr rfl) rfl
  · skip
    refine ⟨(zx_lay zM0, 308), Nat.le_refl _, ?_⟩
    refine zx_E.go 4 (s' := (23, [some (.inr (some (33, 0, 0, 0))), some (.inr (some (0, 0, 0, 0))), some (.inr (some (25, 0, 0, 0))), some (.inl 0)], [.inl 7, .inl 7, .inl 0], (zx_lay zM0, 308))) rfl ?_
    refine zx_E.go 1 (s' := (24, [some (.inr (some (33, 0, 0, 0))), some (.inr (some (0, 0, 0, 0))), some (.inr (some (25, 0, 0, 0))), some (.inl 0)], [.inl 0, .inl 0], (zx_lay zM0, 308))) rfl ?_
    refine zx_E.bf (c := 0 < 0) (s1 := (740, [some (.inr (some (33, 0, 0, 0))), some (.inr (some (0, 0, 0, 0))), some (.inr (some (25, 0, 0, 0))), some (.inl 0)], [], (zx_lay zM0, 308))) (s2 := (27, [some (.inr (some (33, 0, 0, 0))), some (.inr (some (0, 0, 0, 0))), some (.inr (some (25, 0, 0, 0))), some (.inl 0)], [], (zx_lay zM0, 308))) rfl (by decide) ?_
    refine zx_E.go 2 (s' := (29, [some (.inr (some (33, 0, 0, 0))), some (.inr (some (0, 0, 0, 0))), some (.inr (some (25, 0, 0, 0))), some (.inl 0)], [.inl 0, .inr (some (33, 0, 0, 0))], (zx_lay zM0, 308))) rfl ?_
    refine zx_E.sld' (k := 0) (v := a0) rfl rfl (by omega) (by decide) e0 ?_
    show zx_E _ _ _ (30, [some (.inr (some (33, 0, 0, 0))), some (.inr (some (0, 0, 0, 0))), some (.inr (some (25, 0, 0, 0))), some (.inl 0)], [.inl a0], (zx_lay zM0, 308)) _
    refine zx_E.go 2 (s' := (33, [some (.inr (some (33, 0, 0, 0))), some (.inr (some (0, 0, 0, 0))), some (.inr (some (25, 0, 0, 0))), some (.inl 0)], [.inl (a0 &&& 31)], (zx_lay zM0, 308))) rfl ?_
    refine zx_E.one (s' := (zx_pick (a0 &&& 31) 0 [136, 211, 224, 247, 270, 293, 316, 339, 372, 405, 438, 471, 494, 517, 560, 573, 606, 639, 652, 685, 698, 711] 734, [some (.inr (some (33, 0, 0, 0))), some (.inr (some (0, 0, 0, 0))), some (.inr (some (25, 0, 0, 0))), some (.inl 0)], [], (zx_lay zM0, 308))) rfl ?_
    refine zx_E.pick (k' := 1) (by decide) (fun hn => absurd hn (fun q => absurd (hk.symm.trans q) (by decide))) (fun _ => ?_)
    refine zx_E.pick (k' := 2) (by decide) (fun hn => absurd hn (fun q => absurd (hk.symm.trans q) (by decide))) (fun _ => ?_)
    refine zx_E.pick (k' := 3) (by decide) (fun hn => absurd hn (fun q => absurd (hk.symm.trans q) (by decide))) (fun _ => ?_)
    refine zx_E.pick (k' := 4) (by decide) (fun hn => absurd hn (fun q => absurd (hk.symm.trans q) (by decide))) (fun _ => ?_)
    refine zx_E.pick (k' := 5) (by decide) (fun hn => absurd hn (fun q => absurd (hk.symm.trans q) (by decide))) (fun _ => ?_)
    refine zx_E.pick (k' := 6) (by decide) (fun _ => ?_) (fun hn => absurd hk hn)
    refine zx_E.go 5 (s' := (298, [some (.inr (some (33, 0, 0, 0))), some (.inr (some (0, 0, 0, 0))), some (.inr (some (25, 0, 0, 0))), some (.inl 0)], [.inl 1, .inr (some (33, 0, 0, 0)), .inr (some (0, 0, 0, 0))], (zx_lay zM0, 308))) rfl ?_
    refine zx_E.sld' (k := 1) (v := a1) rfl rfl (by omega) (by decide) e1 ?_
    show zx_E _ _ _ (299, [some (.inr (some (33, 0, 0, 0))), some (.inr (some (0, 0, 0, 0))), some (.inr (some (25, 0, 0, 0))), some (.inl 0)], [.inl a1, .inr (some (0, 0, 0, 0))], (zx_lay zM0, 308)) _
    refine zx_E.call1 (y := 99) (as := [.inr (some (0, 0, 0, 0)), .inl a1]) (rest := []) (v := .inl (-1)) (μ' := (zx_lay zM0, 308)) rfl (zx_run_of zc_X10_lift [some (.inr (some (0, 0, 0, 0))), some (.inl a1)] rfl rfl (by
      refine zx_E.go 1 (s' := (1, [some (.inr (some (0, 0, 0, 0))), some (.inl a1)], [.inl a1], (zx_lay zM0, 308))) rfl ?_
      refine zx_E.bf (c := a1 < 0) (s1 := (15, [some (.inr (some (0, 0, 0, 0))), some (.inl a1)], [], (zx_lay zM0, 308))) (s2 := (4, [some (.inr (some (0, 0, 0, 0))), some (.inl a1)], [], (zx_lay zM0, 308))) rfl h1 ?_
      refine zx_E.go 4 (s' := (12, [some (.inr (some (0, 0, 0, 0))), some (.inl a1)], [.inl 0, .inl a1], (zx_lay zM0, 308))) rfl ?_
      refine zx_E.bf (c := a1 < 0) (s1 := (17, [some (.inr (some (0, 0, 0, 0))), some (.inl a1)], [], (zx_lay zM0, 308))) (s2 := (15, [some (.inr (some (0, 0, 0, 0))), some (.inl a1)], [], (zx_lay zM0, 308))) rfl h1 ?_
      refine zx_E.go 1 (s' := (16, [some (.inr (some (0, 0, 0, 0))), some (.inl a1)], [.inl (-1)], (zx_lay zM0, 308))) rfl ?_
      exact zx_E.iret rfl (fun h => absurd h (by decide)) rfl)) ?_
    show zx_E _ _ _ (302, [some (.inr (some (33, 0, 0, 0))), some (.inr (some (0, 0, 0, 0))), some (.inr (some (25, 0, 0, 0))), some (.inl 0)], [.inl (-1)], (zx_lay zM0, 308)) _
    refine zx_E.go 5 (s' := (307, [some (.inr (some (33, 0, 0, 0))), some (.inr (some (0, 0, 0, 0))), some (.inr (some (25, 0, 0, 0))), some (.inl 0)], [.inl 1, .inr (some (33, 0, 0, 0)), .inr (some (25, 0, 0, 0)), .inl (-1)], (zx_lay zM0, 308))) rfl ?_
    refine zx_E.sld' (k := 1) (v := a1) rfl rfl (by omega) (by decide) e1 ?_
    show zx_E _ _ _ (308, [some (.inr (some (33, 0, 0, 0))), some (.inr (some (0, 0, 0, 0))), some (.inr (some (25, 0, 0, 0))), some (.inl 0)], [.inl a1, .inr (some (25, 0, 0, 0)), .inl (-1)], (zx_lay zM0, 308)) _
    refine zx_E.call1 (y := 175) (as := [.inr (some (25, 0, 0, 0)), .inl a1]) (rest := [.inl (-1)]) (v := .inl (-1)) (μ' := (zx_lay zM0, 308)) rfl (zx_run_of zc_X11_lift [some (.inr (some (25, 0, 0, 0))), some (.inl a1), none] rfl rfl (by
      refine zx_E.go 5 (s' := (8, [some (.inr (some (25, 0, 0, 0))), some (.inl a1), none], [.inl 50, .inr (some (26, 0, 0, 0)), .inl 0, .inl a1], (zx_lay zM0, 308))) rfl ?_
      refine zx_E.iald' (k := 50) (h := (26, 0, 0, 0)) (v := 0) rfl rfl rfl (by decide) rfl ?_
      show zx_E _ _ _ (9, [some (.inr (some (25, 0, 0, 0))), some (.inl a1), none], [.inl 0, .inl 0, .inl a1], (zx_lay zM0, 308)) _
      refine zx_E.go 2 (s' := (11, [some (.inr (some (25, 0, 0, 0))), some (.inl a1), none], [.inl (-1), .inl 0, .inl a1], (zx_lay zM0, 308))) rfl ?_
      refine zx_E.call1 (y := 121) (as := [.inl a1, .inl 0, .inl (-1)]) (rest := []) (v := .inl 0) (μ' := (zx_lay zM0, 308)) rfl (zx_run_of zc_X11_isIn [some (.inl a1), some (.inl 0), some (.inl (-1))] rfl rfl (by
        refine zx_E.go 2 (s' := (2, [some (.inl a1), some (.inl 0), some (.inl (-1))], [.inl 0, .inl a1], (zx_lay zM0, 308))) rfl ?_
        refine zx_E.bf (c := a1 < 0) (s1 := (14, [some (.inl a1), some (.inl 0), some (.inl (-1))], [], (zx_lay zM0, 308))) (s2 := (5, [some (.inl a1), some (.inl 0), some (.inl (-1))], [], (zx_lay zM0, 308))) rfl h1 ?_
        refine zx_E.go 2 (s' := (7, [some (.inl a1), some (.inl 0), some (.inl (-1))], [.inl (-1), .inl a1], (zx_lay zM0, 308))) rfl ?_
        refine zx_E.bt (c := (-1) < a1) (s1 := (14, [some (.inl a1), some (.inl 0), some (.inl (-1))], [], (zx_lay zM0, 308))) (s2 := (10, [some (.inl a1), some (.inl 0), some (.inl (-1))], [], (zx_lay zM0, 308))) rfl (zx_m1 h1) ?_
        refine zx_E.go 1 (s' := (15, [some (.inl a1), some (.inl 0), some (.inl (-1))], [.inl 0], (zx_lay zM0, 308))) rfl ?_
        exact zx_E.iret rfl (fun _ => Or.inl rfl) rfl)) ?_
      show zx_E _ _ _ (14, [some (.inr (some (25, 0, 0, 0))), some (.inl a1), none], [.inl 0], (zx_lay zM0, 308)) _
      refine zx_E.bt (c := 0 = 0) (s1 := (17, [some (.inr (some (25, 0, 0, 0))), some (.inl a1), none], [], (zx_lay zM0, 308))) (s2 := (19, [some (.inr (some (25, 0, 0, 0))), some (.inl a1), none], [], (zx_lay zM0, 308))) rfl (by decide) ?_
      refine zx_E.go 1 (s' := (18, [some (.inr (some (25, 0, 0, 0))), some (.inl a1), none], [.inl (-1)], (zx_lay zM0, 308))) rfl ?_
      exact zx_E.iret rfl (fun h => absurd h (by decide)) rfl)) ?_
    show zx_E _ _ _ (311, [some (.inr (some (33, 0, 0, 0))), some (.inr (some (0, 0, 0, 0))), some (.inr (some (25, 0, 0, 0))), some (.inl 0)], [.inl (-1), .inl (-1)], (zx_lay zM0, 308)) _
    refine zx_E.bt (c := (-1) = (-1)) (s1 := (734, [some (.inr (some (33, 0, 0, 0))), some (.inr (some (0, 0, 0, 0))), some (.inr (some (25, 0, 0, 0))), some (.inl 0)], [], (zx_lay zM0, 308))) (s2 := (314, [some (.inr (some (33, 0, 0, 0))), some (.inr (some (0, 0, 0, 0))), some (.inr (some (25, 0, 0, 0))), some (.inl 0)], [], (zx_lay zM0, 308))) rfl (by decide) ?_
    refine zx_E.go 6 (s' := (23, [some (.inr (some (33, 0, 0, 0))), some (.inr (some (0, 0, 0, 0))), some (.inr (some (25, 0, 0, 0))), some (.inl 7)], [.inl 7, .inl 7, .inl 7], (zx_lay zM0, 308))) rfl ?_
    refine zx_E.go 1 (s' := (24, [some (.inr (some (33, 0, 0, 0))), some (.inr (some (0, 0, 0, 0))), some (.inr (some (25, 0, 0, 0))), some (.inl 7)], [.inl 0, .inl 7], (zx_lay zM0, 308))) rfl ?_
    refine zx_E.bt (c := 0 < 7) (s1 := (740, [some (.inr (some (33, 0, 0, 0))), some (.inr (some (0, 0, 0, 0))), some (.inr (some (25, 0, 0, 0))), some (.inl 7)], [], (zx_lay zM0, 308))) (s2 := (27, [some (.inr (some (33, 0, 0, 0))), some (.inr (some (0, 0, 0, 0))), some (.inr (some (25, 0, 0, 0))), some (.inl 7)], [], (zx_lay zM0, 308))) rfl (by decide) ?_
    refine zx_E.go 1 (s' := (741, [some (.inr (some (33, 0, 0, 0))), some (.inr (some (0, 0, 0, 0))), some (.inr (some (25, 0, 0, 0))), some (.inl 7)], [.inl 1], (zx_lay zM0, 308))) rfl ?_
    exact zx_E.iret rfl (fun _ => Or.inr rfl) rfl
set_option maxRecDepth 100000 in
set_option maxHeartbeats 4000000 in
theorem p1_op_6 {xs : Nat → Int32} {a0 a1 a2 a3 a4 a5 a6 : Int32} (e0 : xs 0 = a0) (e1 : xs 1 = a1) (e2 : xs 2 = a2) (e3 : xs 3 = a3) (e4 : xs 4 = a4) (e5 : xs 5 = a5) (e6 : xs 6 = a6) (hk : (a0 &&& 31) = 6) :
    ∃ μ : zx_M, μ.2 ≤ 308 ∧ zx_E (7, xs) 11 zc_L_law (18, [some (.inr (some (33, 0, 0, 0))), some (.inr (some (0, 0, 0, 0))), some (.inr (some (25, 0, 0, 0))), some (.inl 0)], [], (zx_lay zM0, 308)) (some (.inl 1), μ) := by
  refine ⟨(zx_lay zM0, 308), Nat.le_refl _, ?_⟩
  refine zx_E.go 4 (s' := (23, [some (.inr (some (33, 0, 0, 0))), some (.inr (some (0, 0, 0, 0))), some (.inr (some (25, 0, 0, 0))), some (.inl 0)], [.inl 7, .inl 7, .inl 0], (zx_lay zM0, 308))) rfl ?_
  refine zx_E.go 1 (s' := (24, [some (.inr (some (33, 0, 0, 0))), some (.inr (some (0, 0, 0, 0))), some (.inr (some (25, 0, 0, 0))), some (.inl 0)], [.inl 0, .inl 0], (zx_lay zM0, 308))) rfl ?_
  refine zx_E.bf (c := 0 < 0) (s1 := (740, [some (.inr (some (33, 0, 0, 0))), some (.inr (some (0, 0, 0, 0))), some (.inr (some (25, 0, 0, 0))), some (.inl 0)], [], (zx_lay zM0, 308))) (s2 := (27, [some (.inr (some (33, 0, 0, 0))), some (.inr (some (0, 0, 0, 0))), some (.inr (some (25, 0, 0, 0))), some (.inl 0)], [], (zx_lay zM0, 308))) rfl (by decide) ?_
  refine zx_E.go 2 (s' := (29, [some (.inr (some (33, 0, 0, 0))), some (.inr (some (0, 0, 0, 0))), some (.inr (some (25, 0, 0, 0))), some (.inl 0)], [.inl 0, .inr (some (33, 0, 0, 0))], (zx_lay zM0, 308))) rfl ?_
  refine zx_E.sld' (k := 0) (v := a0) rfl rfl (by omega) (by decide) e0 ?_
  show zx_E _ _ _ (30, [some (.inr (some (33, 0, 0, 0))), some (.inr (some (0, 0, 0, 0))), some (.inr (some (25, 0, 0, 0))), some (.inl 0)], [.inl a0], (zx_lay zM0, 308)) _
  refine zx_E.go 2 (s' := (33, [some (.inr (some (33, 0, 0, 0))), some (.inr (some (0, 0, 0, 0))), some (.inr (some (25, 0, 0, 0))), some (.inl 0)], [.inl (a0 &&& 31)], (zx_lay zM0, 308))) rfl ?_
  refine zx_E.one (s' := (zx_pick (a0 &&& 31) 0 [136, 211, 224, 247, 270, 293, 316, 339, 372, 405, 438, 471, 494, 517, 560, 573, 606, 639, 652, 685, 698, 711] 734, [some (.inr (some (33, 0, 0, 0))), some (.inr (some (0, 0, 0, 0))), some (.inr (some (25, 0, 0, 0))), some (.inl 0)], [], (zx_lay zM0, 308))) rfl ?_
  refine zx_E.pick (k' := 1) (by decide) (fun hn => absurd hn (fun q => absurd (hk.symm.trans q) (by decide))) (fun _ => ?_)
  refine zx_E.pick (k' := 2) (by decide) (fun hn => absurd hn (fun q => absurd (hk.symm.trans q) (by decide))) (fun _ => ?_)
  refine zx_E.pick (k' := 3) (by decide) (fun hn => absurd hn (fun q => absurd (hk.symm.trans q) (by decide))) (fun _ => ?_)
  refine zx_E.pick (k' := 4) (by decide) (fun hn => absurd hn (fun q => absurd (hk.symm.trans q) (by decide))) (fun _ => ?_)
  refine zx_E.pick (k' := 5) (by decide) (fun hn => absurd hn (fun q => absurd (hk.symm.trans q) (by decide))) (fun _ => ?_)
  refine zx_E.pick (k' := 6) (by decide) (fun hn => absurd hn (fun q => absurd (hk.symm.trans q) (by decide))) (fun _ => ?_)
  refine zx_E.pick (k' := 7) (by decide) (fun _ => ?_) (fun hn => absurd hk hn)
  refine zx_E.go 5 (s' := (321, [some (.inr (some (33, 0, 0, 0))), some (.inr (some (0, 0, 0, 0))), some (.inr (some (25, 0, 0, 0))), some (.inl 0)], [.inl 1, .inr (some (33, 0, 0, 0)), .inr (some (0, 0, 0, 0))], (zx_lay zM0, 308))) rfl ?_
  refine zx_E.sld' (k := 1) (v := a1) rfl rfl (by omega) (by decide) e1 ?_
  show zx_E _ _ _ (322, [some (.inr (some (33, 0, 0, 0))), some (.inr (some (0, 0, 0, 0))), some (.inr (some (25, 0, 0, 0))), some (.inl 0)], [.inl a1, .inr (some (0, 0, 0, 0))], (zx_lay zM0, 308)) _
  refine zx_E.call1 (y := 100) (as := [.inr (some (0, 0, 0, 0)), .inl a1]) (rest := []) (v := .inl (-3)) (μ' := (zx_lay zM0, 308)) rfl (zx_run_of zc_X10_pass [some (.inr (some (0, 0, 0, 0))), some (.inl a1)] rfl rfl (by
    refine zx_E.go 2 (s' := (4, [some (.inr (some (0, 0, 0, 0))), some (.inl a1)], [.inr (some (1, 0, 0, 0))], (zx_lay zM0, 308))) rfl ?_
    refine zx_E.call1 (y := 15) (as := [.inr (some (1, 0, 0, 0))]) (rest := []) (v := .inl 0) (μ' := (zx_lay zM0, 308)) rfl (zx_run_of zc_X2_exists [some (.inr (some (1, 0, 0, 0)))] rfl rfl (by
      refine zx_E.go 2 (s' := (4, [some (.inr (some (1, 0, 0, 0)))], [.inl 0], (zx_lay zM0, 308))) rfl ?_
      refine zx_E.bt (c := 0 ≤ 0) (s1 := (11, [some (.inr (some (1, 0, 0, 0)))], [], (zx_lay zM0, 308))) (s2 := (7, [some (.inr (some (1, 0, 0, 0)))], [], (zx_lay zM0, 308))) rfl (by decide) ?_
      refine zx_E.go 1 (s' := (12, [some (.inr (some (1, 0, 0, 0)))], [.inl 0], (zx_lay zM0, 308))) rfl ?_
      exact zx_E.iret rfl (fun _ => Or.inl rfl) rfl)) ?_
    show zx_E _ _ _ (7, [some (.inr (some (0, 0, 0, 0))), some (.inl a1)], [.inl 0], (zx_lay zM0, 308)) _
    refine zx_E.bt (c := 0 = 0) (s1 := (10, [some (.inr (some (0, 0, 0, 0))), some (.inl a1)], [], (zx_lay zM0, 308))) (s2 := (13, [some (.inr (some (0, 0, 0, 0))), some (.inl a1)], [], (zx_lay zM0, 308))) rfl (by decide) ?_
    refine zx_E.go 1 (s' := (12, [some (.inr (some (0, 0, 0, 0))), some (.inl a1)], [.inl (-3)], (zx_lay zM0, 308))) rfl ?_
    exact zx_E.iret rfl (fun h => absurd h (by decide)) rfl)) ?_
  show zx_E _ _ _ (325, [some (.inr (some (33, 0, 0, 0))), some (.inr (some (0, 0, 0, 0))), some (.inr (some (25, 0, 0, 0))), some (.inl 0)], [.inl (-3)], (zx_lay zM0, 308)) _
  refine zx_E.go 5 (s' := (330, [some (.inr (some (33, 0, 0, 0))), some (.inr (some (0, 0, 0, 0))), some (.inr (some (25, 0, 0, 0))), some (.inl 0)], [.inl 1, .inr (some (33, 0, 0, 0)), .inr (some (25, 0, 0, 0)), .inl (-3)], (zx_lay zM0, 308))) rfl ?_
  refine zx_E.sld' (k := 1) (v := a1) rfl rfl (by omega) (by decide) e1 ?_
  show zx_E _ _ _ (331, [some (.inr (some (33, 0, 0, 0))), some (.inr (some (0, 0, 0, 0))), some (.inr (some (25, 0, 0, 0))), some (.inl 0)], [.inl a1, .inr (some (25, 0, 0, 0)), .inl (-3)], (zx_lay zM0, 308)) _
  refine zx_E.call1 (y := 150) (as := [.inr (some (25, 0, 0, 0)), .inl a1]) (rest := [.inl (-3)]) (v := .inl (-3)) (μ' := (zx_lay zM0, 308)) rfl (zx_run_of zc_X11_pass [some (.inr (some (25, 0, 0, 0))), some (.inl a1), none] rfl rfl (by
    refine zx_E.go 3 (s' := (5, [some (.inr (some (25, 0, 0, 0))), some (.inl a1), none], [.inl 1, .inr (some (26, 0, 0, 0))], (zx_lay zM0, 308))) rfl ?_
    refine zx_E.iald' (k := 1) (h := (26, 0, 0, 0)) (v := 0) rfl rfl rfl (by decide) rfl ?_
    show zx_E _ _ _ (6, [some (.inr (some (25, 0, 0, 0))), some (.inl a1), none], [.inl 0], (zx_lay zM0, 308)) _
    refine zx_E.bt (c := 0 = 0) (s1 := (9, [some (.inr (some (25, 0, 0, 0))), some (.inl a1), none], [], (zx_lay zM0, 308))) (s2 := (12, [some (.inr (some (25, 0, 0, 0))), some (.inl a1), none], [], (zx_lay zM0, 308))) rfl (by decide) ?_
    refine zx_E.go 1 (s' := (11, [some (.inr (some (25, 0, 0, 0))), some (.inl a1), none], [.inl (-3)], (zx_lay zM0, 308))) rfl ?_
    exact zx_E.iret rfl (fun h => absurd h (by decide)) rfl)) ?_
  show zx_E _ _ _ (334, [some (.inr (some (33, 0, 0, 0))), some (.inr (some (0, 0, 0, 0))), some (.inr (some (25, 0, 0, 0))), some (.inl 0)], [.inl (-3), .inl (-3)], (zx_lay zM0, 308)) _
  refine zx_E.bt (c := (-3) = (-3)) (s1 := (734, [some (.inr (some (33, 0, 0, 0))), some (.inr (some (0, 0, 0, 0))), some (.inr (some (25, 0, 0, 0))), some (.inl 0)], [], (zx_lay zM0, 308))) (s2 := (337, [some (.inr (some (33, 0, 0, 0))), some (.inr (some (0, 0, 0, 0))), some (.inr (some (25, 0, 0, 0))), some (.inl 0)], [], (zx_lay zM0, 308))) rfl (by decide) ?_
  refine zx_E.go 6 (s' := (23, [some (.inr (some (33, 0, 0, 0))), some (.inr (some (0, 0, 0, 0))), some (.inr (some (25, 0, 0, 0))), some (.inl 7)], [.inl 7, .inl 7, .inl 7], (zx_lay zM0, 308))) rfl ?_
  refine zx_E.go 1 (s' := (24, [some (.inr (some (33, 0, 0, 0))), some (.inr (some (0, 0, 0, 0))), some (.inr (some (25, 0, 0, 0))), some (.inl 7)], [.inl 0, .inl 7], (zx_lay zM0, 308))) rfl ?_
  refine zx_E.bt (c := 0 < 7) (s1 := (740, [some (.inr (some (33, 0, 0, 0))), some (.inr (some (0, 0, 0, 0))), some (.inr (some (25, 0, 0, 0))), some (.inl 7)], [], (zx_lay zM0, 308))) (s2 := (27, [some (.inr (some (33, 0, 0, 0))), some (.inr (some (0, 0, 0, 0))), some (.inr (some (25, 0, 0, 0))), some (.inl 7)], [], (zx_lay zM0, 308))) rfl (by decide) ?_
  refine zx_E.go 1 (s' := (741, [some (.inr (some (33, 0, 0, 0))), some (.inr (some (0, 0, 0, 0))), some (.inr (some (25, 0, 0, 0))), some (.inl 7)], [.inl 1], (zx_lay zM0, 308))) rfl ?_
  exact zx_E.iret rfl (fun _ => Or.inr rfl) rfl
set_option maxRecDepth 100000 in
set_option maxHeartbeats 4000000 in
theorem p1_op_7 {xs : Nat → Int32} {a0 a1 a2 a3 a4 a5 a6 : Int32} (e0 : xs 0 = a0) (e1 : xs 1 = a1) (e2 : xs 2 = a2) (e3 : xs 3 = a3) (e4 : xs 4 = a4) (e5 : xs 5 = a5) (e6 : xs 6 = a6) (hk : (a0 &&& 31) = 7) :
    ∃ μ : zx_M, μ.2 ≤ 308 ∧ zx_E (7, xs) 11 zc_L_law (18, [some (.inr (some (33, 0, 0, 0))), some (.inr (some (0, 0, 0, 0))), some (.inr (some (25, 0, 0, 0))), some (.inl 0)], [], (zx_lay zM0, 308)) (some (.inl 1), μ) := by
  by_cases h1 : a1 < 0
  · skip
    refine ⟨(zx_lay zM0, 308), Nat.le_refl _, ?_⟩
    refine zx_E.go 4 (s' := (23, [some (.inr (some (33, 0, 0, 0))), some (.inr (some (0, 0, 0, 0))), some (.inr (some (25, 0, 0, 0))), some (.inl 0)], [.inl 7, .inl 7, .inl 0], (zx_lay zM0, 308))) rfl ?_
    refine zx_E.go 1 (s' := (24, [some (.inr (some (33, 0, 0, 0))), some (.inr (some (0, 0, 0, 0))), some (.inr (some (25, 0, 0, 0))), some (.inl 0)], [.inl 0, .inl 0], (zx_lay zM0, 308))) rfl ?_
    refine zx_E.bf (c := 0 < 0) (s1 := (740, [some (.inr (some (33, 0, 0, 0))), some (.inr (some (0, 0, 0, 0))), some (.inr (some (25, 0, 0, 0))), some (.inl 0)], [], (zx_lay zM0, 308))) (s2 := (27, [some (.inr (some (33, 0, 0, 0))), some (.inr (some (0, 0, 0, 0))), some (.inr (some (25, 0, 0, 0))), some (.inl 0)], [], (zx_lay zM0, 308))) rfl (by decide) ?_
    refine zx_E.go 2 (s' := (29, [some (.inr (some (33, 0, 0, 0))), some (.inr (some (0, 0, 0, 0))), some (.inr (some (25, 0, 0, 0))), some (.inl 0)], [.inl 0, .inr (some (33, 0, 0, 0))], (zx_lay zM0, 308))) rfl ?_
    refine zx_E.sld' (k := 0) (v := a0) rfl rfl (by omega) (by decide) e0 ?_
    show zx_E _ _ _ (30, [some (.inr (some (33, 0, 0, 0))), some (.inr (some (0, 0, 0, 0))), some (.inr (some (25, 0, 0, 0))), some (.inl 0)], [.inl a0], (zx_lay zM0, 308)) _
    refine zx_E.go 2 (s' := (33, [some (.inr (some (33, 0, 0, 0))), some (.inr (some (0, 0, 0, 0))), some (.inr (some (25, 0, 0, 0))), some (.inl 0)], [.inl (a0 &&& 31)], (zx_lay zM0, 308))) rfl ?_
    refine zx_E.one (s' := (zx_pick (a0 &&& 31) 0 [136, 211, 224, 247, 270, 293, 316, 339, 372, 405, 438, 471, 494, 517, 560, 573, 606, 639, 652, 685, 698, 711] 734, [some (.inr (some (33, 0, 0, 0))), some (.inr (some (0, 0, 0, 0))), some (.inr (some (25, 0, 0, 0))), some (.inl 0)], [], (zx_lay zM0, 308))) rfl ?_
    refine zx_E.pick (k' := 1) (by decide) (fun hn => absurd hn (fun q => absurd (hk.symm.trans q) (by decide))) (fun _ => ?_)
    refine zx_E.pick (k' := 2) (by decide) (fun hn => absurd hn (fun q => absurd (hk.symm.trans q) (by decide))) (fun _ => ?_)
    refine zx_E.pick (k' := 3) (by decide) (fun hn => absurd hn (fun q => absurd (hk.symm.trans q) (by decide))) (fun _ => ?_)
    refine zx_E.pick (k' := 4) (by decide) (fun hn => absurd hn (fun q => absurd (hk.symm.trans q) (by decide))) (fun _ => ?_)
    refine zx_E.pick (k' := 5) (by decide) (fun hn => absurd hn (fun q => absurd (hk.symm.trans q) (by decide))) (fun _ => ?_)
    refine zx_E.pick (k' := 6) (by decide) (fun hn => absurd hn (fun q => absurd (hk.symm.trans q) (by decide))) (fun _ => ?_)
    refine zx_E.pick (k' := 7) (by decide) (fun hn => absurd hn (fun q => absurd (hk.symm.trans q) (by decide))) (fun _ => ?_)
    refine zx_E.pick (k' := 8) (by decide) (fun _ => ?_) (fun hn => absurd hk hn)
    refine zx_E.go 5 (s' := (344, [some (.inr (some (33, 0, 0, 0))), some (.inr (some (0, 0, 0, 0))), some (.inr (some (25, 0, 0, 0))), some (.inl 0)], [.inl 1, .inr (some (33, 0, 0, 0)), .inr (some (0, 0, 0, 0))], (zx_lay zM0, 308))) rfl ?_
    refine zx_E.sld' (k := 1) (v := a1) rfl rfl (by omega) (by decide) e1 ?_
    show zx_E _ _ _ (345, [some (.inr (some (33, 0, 0, 0))), some (.inr (some (0, 0, 0, 0))), some (.inr (some (25, 0, 0, 0))), some (.inl 0)], [.inl a1, .inr (some (0, 0, 0, 0))], (zx_lay zM0, 308)) _
    refine zx_E.go 4 (s' := (349, [some (.inr (some (33, 0, 0, 0))), some (.inr (some (0, 0, 0, 0))), some (.inr (some (25, 0, 0, 0))), some (.inl 0)], [.inl 2, .inr (some (33, 0, 0, 0)), .inl a1, .inr (some (0, 0, 0, 0))], (zx_lay zM0, 308))) rfl ?_
    refine zx_E.sld' (k := 2) (v := a2) rfl rfl (by omega) (by decide) e2 ?_
    show zx_E _ _ _ (350, [some (.inr (some (33, 0, 0, 0))), some (.inr (some (0, 0, 0, 0))), some (.inr (some (25, 0, 0, 0))), some (.inl 0)], [.inl a2, .inl a1, .inr (some (0, 0, 0, 0))], (zx_lay zM0, 308)) _
    refine zx_E.call1 (y := 101) (as := [.inr (some (0, 0, 0, 0)), .inl a1, .inl a2]) (rest := []) (v := .inl (-1)) (μ' := (zx_lay zM0, 308)) rfl (zx_run_of zc_X10_train [some (.inr (some (0, 0, 0, 0))), some (.inl a1), some (.inl a2), none] rfl rfl (by
      refine zx_E.go 3 (s' := (5, [some (.inr (some (0, 0, 0, 0))), some (.inl a1), some (.inl a2), none], [.inl a1, .inr (some (1, 0, 0, 0))], (zx_lay zM0, 308))) rfl ?_
      refine zx_E.call1 (y := 18) (as := [.inr (some (1, 0, 0, 0)), .inl a1]) (rest := []) (v := .inr none) (μ' := (zx_lay zM0, 308)) rfl (zx_run_of zc_X2_trainWith [some (.inr (some (1, 0, 0, 0))), some (.inl a1)] rfl rfl (by
        refine zx_E.go 1 (s' := (1, [some (.inr (some (1, 0, 0, 0))), some (.inl a1)], [.inl a1], (zx_lay zM0, 308))) rfl ?_
        refine zx_E.bt (c := a1 < 0) (s1 := (27, [some (.inr (some (1, 0, 0, 0))), some (.inl a1)], [], (zx_lay zM0, 308))) (s2 := (4, [some (.inr (some (1, 0, 0, 0))), some (.inl a1)], [], (zx_lay zM0, 308))) rfl h1 ?_
        refine zx_E.go 1 (s' := (28, [some (.inr (some (1, 0, 0, 0))), some (.inl a1)], [.inr none], (zx_lay zM0, 308))) rfl ?_
        exact zx_E.ret rfl)) ?_
      show zx_E _ _ _ (8, [some (.inr (some (0, 0, 0, 0))), some (.inl a1), some (.inl a2), none], [.inr none], (zx_lay zM0, 308)) _
      refine zx_E.go 4 (s' := (14, [some (.inr (some (0, 0, 0, 0))), some (.inl a1), some (.inl a2), some (.inr none)], [.inl (-1)], (zx_lay zM0, 308))) rfl ?_
      exact zx_E.iret rfl (fun h => absurd h (by decide)) rfl)) ?_
    show zx_E _ _ _ (353, [some (.inr (some (33, 0, 0, 0))), some (.inr (some (0, 0, 0, 0))), some (.inr (some (25, 0, 0, 0))), some (.inl 0)], [.inl (-1)], (zx_lay zM0, 308)) _
    refine zx_E.go 5 (s' := (358, [some (.inr (some (33, 0, 0, 0))), some (.inr (some (0, 0, 0, 0))), some (.inr (some (25, 0, 0, 0))), some (.inl 0)], [.inl 1, .inr (some (33, 0, 0, 0)), .inr (some (25, 0, 0, 0)), .inl (-1)], (zx_lay zM0, 308))) rfl ?_
    refine zx_E.sld' (k := 1) (v := a1) rfl rfl (by omega) (by decide) e1 ?_
    show zx_E _ _ _ (359, [some (.inr (some (33, 0, 0, 0))), some (.inr (some (0, 0, 0, 0))), some (.inr (some (25, 0, 0, 0))), some (.inl 0)], [.inl a1, .inr (some (25, 0, 0, 0)), .inl (-1)], (zx_lay zM0, 308)) _
    refine zx_E.go 4 (s' := (363, [some (.inr (some (33, 0, 0, 0))), some (.inr (some (0, 0, 0, 0))), some (.inr (some (25, 0, 0, 0))), some (.inl 0)], [.inl 2, .inr (some (33, 0, 0, 0)), .inl a1, .inr (some (25, 0, 0, 0)), .inl (-1)], (zx_lay zM0, 308))) rfl ?_
    refine zx_E.sld' (k := 2) (v := a2) rfl rfl (by omega) (by decide) e2 ?_
    show zx_E _ _ _ (364, [some (.inr (some (33, 0, 0, 0))), some (.inr (some (0, 0, 0, 0))), some (.inr (some (25, 0, 0, 0))), some (.inl 0)], [.inl a2, .inl a1, .inr (some (25, 0, 0, 0)), .inl (-1)], (zx_lay zM0, 308)) _
    refine zx_E.call1 (y := 176) (as := [.inr (some (25, 0, 0, 0)), .inl a1, .inl a2]) (rest := [.inl (-1)]) (v := .inl (-1)) (μ' := (zx_lay zM0, 308)) rfl (zx_run_of zc_X11_train [some (.inr (some (25, 0, 0, 0))), some (.inl a1), some (.inl a2)] rfl rfl (by
      refine zx_E.go 2 (s' := (2, [some (.inr (some (25, 0, 0, 0))), some (.inl a1), some (.inl a2)], [.inl a1, .inr (some (25, 0, 0, 0))], (zx_lay zM0, 308))) rfl ?_
      refine zx_E.call1 (y := 124) (as := [.inr (some (25, 0, 0, 0)), .inl a1]) (rest := []) (v := .inl 0) (μ' := (zx_lay zM0, 308)) rfl (zx_run_of zc_X11_isTrain [some (.inr (some (25, 0, 0, 0))), some (.inl a1)] rfl rfl (by
        refine zx_E.go 5 (s' := (8, [some (.inr (some (25, 0, 0, 0))), some (.inl a1)], [.inl 27, .inr (some (26, 0, 0, 0)), .inl 0, .inl a1], (zx_lay zM0, 308))) rfl ?_
        refine zx_E.iald' (k := 27) (h := (26, 0, 0, 0)) (v := 0) rfl rfl rfl (by decide) rfl ?_
        show zx_E _ _ _ (9, [some (.inr (some (25, 0, 0, 0))), some (.inl a1)], [.inl 0, .inl 0, .inl a1], (zx_lay zM0, 308)) _
        refine zx_E.go 2 (s' := (11, [some (.inr (some (25, 0, 0, 0))), some (.inl a1)], [.inl (-1), .inl 0, .inl a1], (zx_lay zM0, 308))) rfl ?_
        refine zx_E.call1 (y := 121) (as := [.inl a1, .inl 0, .inl (-1)]) (rest := []) (v := .inl 0) (μ' := (zx_lay zM0, 308)) rfl (zx_run_of zc_X11_isIn [some (.inl a1), some (.inl 0), some (.inl (-1))] rfl rfl (by
          refine zx_E.go 2 (s' := (2, [some (.inl a1), some (.inl 0), some (.inl (-1))], [.inl 0, .inl a1], (zx_lay zM0, 308))) rfl ?_
          refine zx_E.bt (c := a1 < 0) (s1 := (14, [some (.inl a1), some (.inl 0), some (.inl (-1))], [], (zx_lay zM0, 308))) (s2 := (5, [some (.inl a1), some (.inl 0), some (.inl (-1))], [], (zx_lay zM0, 308))) rfl h1 ?_
          refine zx_E.go 1 (s' := (15, [some (.inl a1), some (.inl 0), some (.inl (-1))], [.inl 0], (zx_lay zM0, 308))) rfl ?_
          exact zx_E.iret rfl (fun _ => Or.inl rfl) rfl)) ?_
        show zx_E _ _ _ (14, [some (.inr (some (25, 0, 0, 0))), some (.inl a1)], [.inl 0], (zx_lay zM0, 308)) _
        exact zx_E.iret rfl (fun _ => Or.inl rfl) rfl)) ?_
      show zx_E _ _ _ (5, [some (.inr (some (25, 0, 0, 0))), some (.inl a1), some (.inl a2)], [.inl 0], (zx_lay zM0, 308)) _
      refine zx_E.bt (c := 0 = 0) (s1 := (18, [some (.inr (some (25, 0, 0, 0))), some (.inl a1), some (.inl a2)], [], (zx_lay zM0, 308))) (s2 := (8, [some (.inr (some (25, 0, 0, 0))), some (.inl a1), some (.inl a2)], [], (zx_lay zM0, 308))) rfl (by decide) ?_
      refine zx_E.go 1 (s' := (19, [some (.inr (some (25, 0, 0, 0))), some (.inl a1), some (.inl a2)], [.inl (-1)], (zx_lay zM0, 308))) rfl ?_
      exact zx_E.iret rfl (fun h => absurd h (by decide)) rfl)) ?_
    show zx_E _ _ _ (367, [some (.inr (some (33, 0, 0, 0))), some (.inr (some (0, 0, 0, 0))), some (.inr (some (25, 0, 0, 0))), some (.inl 0)], [.inl (-1), .inl (-1)], (zx_lay zM0, 308)) _
    refine zx_E.bt (c := (-1) = (-1)) (s1 := (734, [some (.inr (some (33, 0, 0, 0))), some (.inr (some (0, 0, 0, 0))), some (.inr (some (25, 0, 0, 0))), some (.inl 0)], [], (zx_lay zM0, 308))) (s2 := (370, [some (.inr (some (33, 0, 0, 0))), some (.inr (some (0, 0, 0, 0))), some (.inr (some (25, 0, 0, 0))), some (.inl 0)], [], (zx_lay zM0, 308))) rfl (by decide) ?_
    refine zx_E.go 6 (s' := (23, [some (.inr (some (33, 0, 0, 0))), some (.inr (some (0, 0, 0, 0))), some (.inr (some (25, 0, 0, 0))), some (.inl 7)], [.inl 7, .inl 7, .inl 7], (zx_lay zM0, 308))) rfl ?_
    refine zx_E.go 1 (s' := (24, [some (.inr (some (33, 0, 0, 0))), some (.inr (some (0, 0, 0, 0))), some (.inr (some (25, 0, 0, 0))), some (.inl 7)], [.inl 0, .inl 7], (zx_lay zM0, 308))) rfl ?_
    refine zx_E.bt (c := 0 < 7) (s1 := (740, [some (.inr (some (33, 0, 0, 0))), some (.inr (some (0, 0, 0, 0))), some (.inr (some (25, 0, 0, 0))), some (.inl 7)], [], (zx_lay zM0, 308))) (s2 := (27, [some (.inr (some (33, 0, 0, 0))), some (.inr (some (0, 0, 0, 0))), some (.inr (some (25, 0, 0, 0))), some (.inl 7)], [], (zx_lay zM0, 308))) rfl (by decide) ?_
    refine zx_E.go 1 (s' := (741, [some (.inr (some (33, 0, 0, 0))), some (.inr (some (0, 0, 0, 0))), some (.inr (some (25, 0, 0, 0))), some (.inl 7)], [.inl 1], (zx_lay zM0, 308))) rfl ?_
    exact zx_E.iret rfl (fun _ => Or.inr rfl) rfl
  · skip
    refine ⟨(zx_lay zM0, 308), Nat.le_refl _, ?_⟩
    refine zx_E.go 4 (s' := (23, [some (.inr (some (33, 0, 0, 0))), some (.inr (some (0, 0, 0, 0))), some (.inr (some (25, 0, 0, 0))), some (.inl 0)], [.inl 7, .inl 7, .inl 0], (zx_lay zM0, 308))) rfl ?_
    refine zx_E.go 1 (s' := (24, [some (.inr (some (33, 0, 0, 0))), some (.inr (some (0, 0, 0, 0))), some (.inr (some (25, 0, 0, 0))), some (.inl 0)], [.inl 0, .inl 0], (zx_lay zM0, 308))) rfl ?_
    refine zx_E.bf (c := 0 < 0) (s1 := (740, [some (.inr (some (33, 0, 0, 0))), some (.inr (some (0, 0, 0, 0))), some (.inr (some (25, 0, 0, 0))), some (.inl 0)], [], (zx_lay zM0, 308))) (s2 := (27, [some (.inr (some (33, 0, 0, 0))), some (.inr (some (0, 0, 0, 0))), some (.inr (some (25, 0, 0, 0))), some (.inl 0)], [], (zx_lay zM0, 308))) rfl (by decide) ?_
    refine zx_E.go 2 (s' := (29, [some (.inr (some (33, 0, 0, 0))), some (.inr (some (0, 0, 0, 0))), some (.inr (some (25, 0, 0, 0))), some (.inl 0)], [.inl 0, .inr (some (33, 0, 0, 0))], (zx_lay zM0, 308))) rfl ?_
    refine zx_E.sld' (k := 0) (v := a0) rfl rfl (by omega) (by decide) e0 ?_
    show zx_E _ _ _ (30, [some (.inr (some (33, 0, 0, 0))), some (.inr (some (0, 0, 0, 0))), some (.inr (some (25, 0, 0, 0))), some (.inl 0)], [.inl a0], (zx_lay zM0, 308)) _
    refine zx_E.go 2 (s' := (33, [some (.inr (some (33, 0, 0, 0))), some (.inr (some (0, 0, 0, 0))), some (.inr (some (25, 0, 0, 0))), some (.inl 0)], [.inl (a0 &&& 31)], (zx_lay zM0, 308))) rfl ?_
    refine zx_E.one (s' := (zx_pick (a0 &&& 31) 0 [136, 211, 224, 247, 270, 293, 316, 339, 372, 405, 438, 471, 494, 517, 560, 573, 606, 639, 652, 685, 698, 711] 734, [some (.inr (some (33, 0, 0, 0))), some (.inr (some (0, 0, 0, 0))), some (.inr (some (25, 0, 0, 0))), some (.inl 0)], [], (zx_lay zM0, 308))) rfl ?_
    refine zx_E.pick (k' := 1) (by decide) (fun hn => absurd hn (fun q => absurd (hk.symm.trans q) (by decide))) (fun _ => ?_)
    refine zx_E.pick (k' := 2) (by decide) (fun hn => absurd hn (fun q => absurd (hk.symm.trans q) (by decide))) (fun _ => ?_)
    refine zx_E.pick (k' := 3) (by decide) (fun hn => absurd hn (fun q => absurd (hk.symm.trans q) (by decide))) (fun _ => ?_)
    refine zx_E.pick (k' := 4) (by decide) (fun hn => absurd hn (fun q => absurd (hk.symm.trans q) (by decide))) (fun _ => ?_)
    refine zx_E.pick (k' := 5) (by decide) (fun hn => absurd hn (fun q => absurd (hk.symm.trans q) (by decide))) (fun _ => ?_)
    refine zx_E.pick (k' := 6) (by decide) (fun hn => absurd hn (fun q => absurd (hk.symm.trans q) (by decide))) (fun _ => ?_)
    refine zx_E.pick (k' := 7) (by decide) (fun hn => absurd hn (fun q => absurd (hk.symm.trans q) (by decide))) (fun _ => ?_)
    refine zx_E.pick (k' := 8) (by decide) (fun _ => ?_) (fun hn => absurd hk hn)
    refine zx_E.go 5 (s' := (344, [some (.inr (some (33, 0, 0, 0))), some (.inr (some (0, 0, 0, 0))), some (.inr (some (25, 0, 0, 0))), some (.inl 0)], [.inl 1, .inr (some (33, 0, 0, 0)), .inr (some (0, 0, 0, 0))], (zx_lay zM0, 308))) rfl ?_
    refine zx_E.sld' (k := 1) (v := a1) rfl rfl (by omega) (by decide) e1 ?_
    show zx_E _ _ _ (345, [some (.inr (some (33, 0, 0, 0))), some (.inr (some (0, 0, 0, 0))), some (.inr (some (25, 0, 0, 0))), some (.inl 0)], [.inl a1, .inr (some (0, 0, 0, 0))], (zx_lay zM0, 308)) _
    refine zx_E.go 4 (s' := (349, [some (.inr (some (33, 0, 0, 0))), some (.inr (some (0, 0, 0, 0))), some (.inr (some (25, 0, 0, 0))), some (.inl 0)], [.inl 2, .inr (some (33, 0, 0, 0)), .inl a1, .inr (some (0, 0, 0, 0))], (zx_lay zM0, 308))) rfl ?_
    refine zx_E.sld' (k := 2) (v := a2) rfl rfl (by omega) (by decide) e2 ?_
    show zx_E _ _ _ (350, [some (.inr (some (33, 0, 0, 0))), some (.inr (some (0, 0, 0, 0))), some (.inr (some (25, 0, 0, 0))), some (.inl 0)], [.inl a2, .inl a1, .inr (some (0, 0, 0, 0))], (zx_lay zM0, 308)) _
    refine zx_E.call1 (y := 101) (as := [.inr (some (0, 0, 0, 0)), .inl a1, .inl a2]) (rest := []) (v := .inl (-1)) (μ' := (zx_lay zM0, 308)) rfl (zx_run_of zc_X10_train [some (.inr (some (0, 0, 0, 0))), some (.inl a1), some (.inl a2), none] rfl rfl (by
      refine zx_E.go 3 (s' := (5, [some (.inr (some (0, 0, 0, 0))), some (.inl a1), some (.inl a2), none], [.inl a1, .inr (some (1, 0, 0, 0))], (zx_lay zM0, 308))) rfl ?_
      refine zx_E.call1 (y := 18) (as := [.inr (some (1, 0, 0, 0)), .inl a1]) (rest := []) (v := .inr none) (μ' := (zx_lay zM0, 308)) rfl (zx_run_of zc_X2_trainWith [some (.inr (some (1, 0, 0, 0))), some (.inl a1)] rfl rfl (by
        refine zx_E.go 1 (s' := (1, [some (.inr (some (1, 0, 0, 0))), some (.inl a1)], [.inl a1], (zx_lay zM0, 308))) rfl ?_
        refine zx_E.bf (c := a1 < 0) (s1 := (27, [some (.inr (some (1, 0, 0, 0))), some (.inl a1)], [], (zx_lay zM0, 308))) (s2 := (4, [some (.inr (some (1, 0, 0, 0))), some (.inl a1)], [], (zx_lay zM0, 308))) rfl h1 ?_
        refine zx_E.go 3 (s' := (9, [some (.inr (some (1, 0, 0, 0))), some (.inl a1)], [.inl 0, .inl a1], (zx_lay zM0, 308))) rfl ?_
        refine zx_E.bt (c := 0 ≤ a1) (s1 := (27, [some (.inr (some (1, 0, 0, 0))), some (.inl a1)], [], (zx_lay zM0, 308))) (s2 := (12, [some (.inr (some (1, 0, 0, 0))), some (.inl a1)], [], (zx_lay zM0, 308))) rfl (Int32.not_lt.mp h1) ?_
        refine zx_E.go 1 (s' := (28, [some (.inr (some (1, 0, 0, 0))), some (.inl a1)], [.inr none], (zx_lay zM0, 308))) rfl ?_
        exact zx_E.ret rfl)) ?_
      show zx_E _ _ _ (8, [some (.inr (some (0, 0, 0, 0))), some (.inl a1), some (.inl a2), none], [.inr none], (zx_lay zM0, 308)) _
      refine zx_E.go 4 (s' := (14, [some (.inr (some (0, 0, 0, 0))), some (.inl a1), some (.inl a2), some (.inr none)], [.inl (-1)], (zx_lay zM0, 308))) rfl ?_
      exact zx_E.iret rfl (fun h => absurd h (by decide)) rfl)) ?_
    show zx_E _ _ _ (353, [some (.inr (some (33, 0, 0, 0))), some (.inr (some (0, 0, 0, 0))), some (.inr (some (25, 0, 0, 0))), some (.inl 0)], [.inl (-1)], (zx_lay zM0, 308)) _
    refine zx_E.go 5 (s' := (358, [some (.inr (some (33, 0, 0, 0))), some (.inr (some (0, 0, 0, 0))), some (.inr (some (25, 0, 0, 0))), some (.inl 0)], [.inl 1, .inr (some (33, 0, 0, 0)), .inr (some (25, 0, 0, 0)), .inl (-1)], (zx_lay zM0, 308))) rfl ?_
    refine zx_E.sld' (k := 1) (v := a1) rfl rfl (by omega) (by decide) e1 ?_
    show zx_E _ _ _ (359, [some (.inr (some (33, 0, 0, 0))), some (.inr (some (0, 0, 0, 0))), some (.inr (some (25, 0, 0, 0))), some (.inl 0)], [.inl a1, .inr (some (25, 0, 0, 0)), .inl (-1)], (zx_lay zM0, 308)) _
    refine zx_E.go 4 (s' := (363, [some (.inr (some (33, 0, 0, 0))), some (.inr (some (0, 0, 0, 0))), some (.inr (some (25, 0, 0, 0))), some (.inl 0)], [.inl 2, .inr (some (33, 0, 0, 0)), .inl a1, .inr (some (25, 0, 0, 0)), .inl (-1)], (zx_lay zM0, 308))) rfl ?_
    refine zx_E.sld' (k := 2) (v := a2) rfl rfl (by omega) (by decide) e2 ?_
    show zx_E _ _ _ (364, [some (.inr (some (33, 0, 0, 0))), some (.inr (some (0, 0, 0, 0))), some (.inr (some (25, 0, 0, 0))), some (.inl 0)], [.inl a2, .inl a1, .inr (some (25, 0, 0, 0)), .inl (-1)], (zx_lay zM0, 308)) _
    refine zx_E.call1 (y := 176) (as := [.inr (some (25, 0, 0, 0)), .inl a1, .inl a2]) (rest := [.inl (-1)]) (v := .inl (-1)) (μ' := (zx_lay zM0, 308)) rfl (zx_run_of zc_X11_train [some (.inr (some (25, 0, 0, 0))), some (.inl a1), some (.inl a2)] rfl rfl (by
      refine zx_E.go 2 (s' := (2, [some (.inr (some (25, 0, 0, 0))), some (.inl a1), some (.inl a2)], [.inl a1, .inr (some (25, 0, 0, 0))], (zx_lay zM0, 308))) rfl ?_
      refine zx_E.call1 (y := 124) (as := [.inr (some (25, 0, 0, 0)), .inl a1]) (rest := []) (v := .inl 0) (μ' := (zx_lay zM0, 308)) rfl (zx_run_of zc_X11_isTrain [some (.inr (some (25, 0, 0, 0))), some (.inl a1)] rfl rfl (by
        refine zx_E.go 5 (s' := (8, [some (.inr (some (25, 0, 0, 0))), some (.inl a1)], [.inl 27, .inr (some (26, 0, 0, 0)), .inl 0, .inl a1], (zx_lay zM0, 308))) rfl ?_
        refine zx_E.iald' (k := 27) (h := (26, 0, 0, 0)) (v := 0) rfl rfl rfl (by decide) rfl ?_
        show zx_E _ _ _ (9, [some (.inr (some (25, 0, 0, 0))), some (.inl a1)], [.inl 0, .inl 0, .inl a1], (zx_lay zM0, 308)) _
        refine zx_E.go 2 (s' := (11, [some (.inr (some (25, 0, 0, 0))), some (.inl a1)], [.inl (-1), .inl 0, .inl a1], (zx_lay zM0, 308))) rfl ?_
        refine zx_E.call1 (y := 121) (as := [.inl a1, .inl 0, .inl (-1)]) (rest := []) (v := .inl 0) (μ' := (zx_lay zM0, 308)) rfl (zx_run_of zc_X11_isIn [some (.inl a1), some (.inl 0), some (.inl (-1))] rfl rfl (by
          refine zx_E.go 2 (s' := (2, [some (.inl a1), some (.inl 0), some (.inl (-1))], [.inl 0, .inl a1], (zx_lay zM0, 308))) rfl ?_
          refine zx_E.bf (c := a1 < 0) (s1 := (14, [some (.inl a1), some (.inl 0), some (.inl (-1))], [], (zx_lay zM0, 308))) (s2 := (5, [some (.inl a1), some (.inl 0), some (.inl (-1))], [], (zx_lay zM0, 308))) rfl h1 ?_
          refine zx_E.go 2 (s' := (7, [some (.inl a1), some (.inl 0), some (.inl (-1))], [.inl (-1), .inl a1], (zx_lay zM0, 308))) rfl ?_
          refine zx_E.bt (c := (-1) < a1) (s1 := (14, [some (.inl a1), some (.inl 0), some (.inl (-1))], [], (zx_lay zM0, 308))) (s2 := (10, [some (.inl a1), some (.inl 0), some (.inl (-1))], [], (zx_lay zM0, 308))) rfl (zx_m1 h1) ?_
          refine zx_E.go 1 (s' := (15, [some (.inl a1), some (.inl 0), some (.inl (-1))], [.inl 0], (zx_lay zM0, 308))) rfl ?_
          exact zx_E.iret rfl (fun _ => Or.inl rfl) rfl)) ?_
        show zx_E _ _ _ (14, [some (.inr (some (25, 0, 0, 0))), some (.inl a1)], [.inl 0], (zx_lay zM0, 308)) _
        exact zx_E.iret rfl (fun _ => Or.inl rfl) rfl)) ?_
      show zx_E _ _ _ (5, [some (.inr (some (25, 0, 0, 0))), some (.inl a1), some (.inl a2)], [.inl 0], (zx_lay zM0, 308)) _
      refine zx_E.bt (c := 0 = 0) (s1 := (18, [some (.inr (some (25, 0, 0, 0))), some (.inl a1), some (.inl a2)], [], (zx_lay zM0, 308))) (s2 := (8, [some (.inr (some (25, 0, 0, 0))), some (.inl a1), some (.inl a2)], [], (zx_lay zM0, 308))) rfl (by decide) ?_
      refine zx_E.go 1 (s' := (19, [some (.inr (some (25, 0, 0, 0))), some (.inl a1), some (.inl a2)], [.inl (-1)], (zx_lay zM0, 308))) rfl ?_
      exact zx_E.iret rfl (fun h => absurd h (by decide)) rfl)) ?_
    show zx_E _ _ _ (367, [some (.inr (some (33, 0, 0, 0))), some (.inr (some (0, 0, 0, 0))), some (.inr (some (25, 0, 0, 0))), some (.inl 0)], [.inl (-1), .inl (-1)], (zx_lay zM0, 308)) _
    refine zx_E.bt (c := (-1) = (-1)) (s1 := (734, [some (.inr (some (33, 0, 0, 0))), some (.inr (some (0, 0, 0, 0))), some (.inr (some (25, 0, 0, 0))), some (.inl 0)], [], (zx_lay zM0, 308))) (s2 := (370, [some (.inr (some (33, 0, 0, 0))), some (.inr (some (0, 0, 0, 0))), some (.inr (some (25, 0, 0, 0))), some (.inl 0)], [], (zx_lay zM0, 308))) rfl (by decide) ?_
    refine zx_E.go 6 (s' := (23, [some (.inr (some (33, 0, 0, 0))), some (.inr (some (0, 0, 0, 0))), some (.inr (some (25, 0, 0, 0))), some (.inl 7)], [.inl 7, .inl 7, .inl 7], (zx_lay zM0, 308))) rfl ?_
    refine zx_E.go 1 (s' := (24, [some (.inr (some (33, 0, 0, 0))), some (.inr (some (0, 0, 0, 0))), some (.inr (some (25, 0, 0, 0))), some (.inl 7)], [.inl 0, .inl 7], (zx_lay zM0, 308))) rfl ?_
    refine zx_E.bt (c := 0 < 7) (s1 := (740, [some (.inr (some (33, 0, 0, 0))), some (.inr (some (0, 0, 0, 0))), some (.inr (some (25, 0, 0, 0))), some (.inl 7)], [], (zx_lay zM0, 308))) (s2 := (27, [some (.inr (some (33, 0, 0, 0))), some (.inr (some (0, 0, 0, 0))), some (.inr (some (25, 0, 0, 0))), some (.inl 7)], [], (zx_lay zM0, 308))) rfl (by decide) ?_
    refine zx_E.go 1 (s' := (741, [some (.inr (some (33, 0, 0, 0))), some (.inr (some (0, 0, 0, 0))), some (.inr (some (25, 0, 0, 0))), some (.inl 7)], [.inl 1], (zx_lay zM0, 308))) rfl ?_
    exact zx_E.iret rfl (fun _ => Or.inr rfl) rfl
set_option maxRecDepth 100000 in
set_option maxHeartbeats 4000000 in
theorem p1_op_8 {xs : Nat → Int32} {a0 a1 a2 a3 a4 a5 a6 : Int32} (e0 : xs 0 = a0) (e1 : xs 1 = a1) (e2 : xs 2 = a2) (e3 : xs 3 = a3) (e4 : xs 4 = a4) (e5 : xs 5 = a5) (e6 : xs 6 = a6) (hk : (a0 &&& 31) = 8) :
    ∃ μ : zx_M, μ.2 ≤ 308 ∧ zx_E (7, xs) 11 zc_L_law (18, [some (.inr (some (33, 0, 0, 0))), some (.inr (some (0, 0, 0, 0))), some (.inr (some (25, 0, 0, 0))), some (.inl 0)], [], (zx_lay zM0, 308)) (some (.inl 1), μ) := by
  refine ⟨(zx_lay zM0, 308), Nat.le_refl _, ?_⟩
  refine zx_E.go 4 (s' := (23, [some (.inr (some (33, 0, 0, 0))), some (.inr (some (0, 0, 0, 0))), some (.inr (some (25, 0, 0, 0))), some (.inl 0)], [.inl 7, .inl 7, .inl 0], (zx_lay zM0, 308))) rfl ?_
  refine zx_E.go 1 (s' := (24, [some (.inr (some (33, 0, 0, 0))), some (.inr (some (0, 0, 0, 0))), some (.inr (some (25, 0, 0, 0))), some (.inl 0)], [.inl 0, .inl 0], (zx_lay zM0, 308))) rfl ?_
  refine zx_E.bf (c := 0 < 0) (s1 := (740, [some (.inr (some (33, 0, 0, 0))), some (.inr (some (0, 0, 0, 0))), some (.inr (some (25, 0, 0, 0))), some (.inl 0)], [], (zx_lay zM0, 308))) (s2 := (27, [some (.inr (some (33, 0, 0, 0))), some (.inr (some (0, 0, 0, 0))), some (.inr (some (25, 0, 0, 0))), some (.inl 0)], [], (zx_lay zM0, 308))) rfl (by decide) ?_
  refine zx_E.go 2 (s' := (29, [some (.inr (some (33, 0, 0, 0))), some (.inr (some (0, 0, 0, 0))), some (.inr (some (25, 0, 0, 0))), some (.inl 0)], [.inl 0, .inr (some (33, 0, 0, 0))], (zx_lay zM0, 308))) rfl ?_
  refine zx_E.sld' (k := 0) (v := a0) rfl rfl (by omega) (by decide) e0 ?_
  show zx_E _ _ _ (30, [some (.inr (some (33, 0, 0, 0))), some (.inr (some (0, 0, 0, 0))), some (.inr (some (25, 0, 0, 0))), some (.inl 0)], [.inl a0], (zx_lay zM0, 308)) _
  refine zx_E.go 2 (s' := (33, [some (.inr (some (33, 0, 0, 0))), some (.inr (some (0, 0, 0, 0))), some (.inr (some (25, 0, 0, 0))), some (.inl 0)], [.inl (a0 &&& 31)], (zx_lay zM0, 308))) rfl ?_
  refine zx_E.one (s' := (zx_pick (a0 &&& 31) 0 [136, 211, 224, 247, 270, 293, 316, 339, 372, 405, 438, 471, 494, 517, 560, 573, 606, 639, 652, 685, 698, 711] 734, [some (.inr (some (33, 0, 0, 0))), some (.inr (some (0, 0, 0, 0))), some (.inr (some (25, 0, 0, 0))), some (.inl 0)], [], (zx_lay zM0, 308))) rfl ?_
  refine zx_E.pick (k' := 1) (by decide) (fun hn => absurd hn (fun q => absurd (hk.symm.trans q) (by decide))) (fun _ => ?_)
  refine zx_E.pick (k' := 2) (by decide) (fun hn => absurd hn (fun q => absurd (hk.symm.trans q) (by decide))) (fun _ => ?_)
  refine zx_E.pick (k' := 3) (by decide) (fun hn => absurd hn (fun q => absurd (hk.symm.trans q) (by decide))) (fun _ => ?_)
  refine zx_E.pick (k' := 4) (by decide) (fun hn => absurd hn (fun q => absurd (hk.symm.trans q) (by decide))) (fun _ => ?_)
  refine zx_E.pick (k' := 5) (by decide) (fun hn => absurd hn (fun q => absurd (hk.symm.trans q) (by decide))) (fun _ => ?_)
  refine zx_E.pick (k' := 6) (by decide) (fun hn => absurd hn (fun q => absurd (hk.symm.trans q) (by decide))) (fun _ => ?_)
  refine zx_E.pick (k' := 7) (by decide) (fun hn => absurd hn (fun q => absurd (hk.symm.trans q) (by decide))) (fun _ => ?_)
  refine zx_E.pick (k' := 8) (by decide) (fun hn => absurd hn (fun q => absurd (hk.symm.trans q) (by decide))) (fun _ => ?_)
  refine zx_E.pick (k' := 9) (by decide) (fun _ => ?_) (fun hn => absurd hk hn)
  refine zx_E.go 5 (s' := (377, [some (.inr (some (33, 0, 0, 0))), some (.inr (some (0, 0, 0, 0))), some (.inr (some (25, 0, 0, 0))), some (.inl 0)], [.inl 1, .inr (some (33, 0, 0, 0)), .inr (some (0, 0, 0, 0))], (zx_lay zM0, 308))) rfl ?_
  refine zx_E.sld' (k := 1) (v := a1) rfl rfl (by omega) (by decide) e1 ?_
  show zx_E _ _ _ (378, [some (.inr (some (33, 0, 0, 0))), some (.inr (some (0, 0, 0, 0))), some (.inr (some (25, 0, 0, 0))), some (.inl 0)], [.inl a1, .inr (some (0, 0, 0, 0))], (zx_lay zM0, 308)) _
  refine zx_E.go 4 (s' := (382, [some (.inr (some (33, 0, 0, 0))), some (.inr (some (0, 0, 0, 0))), some (.inr (some (25, 0, 0, 0))), some (.inl 0)], [.inl 2, .inr (some (33, 0, 0, 0)), .inl a1, .inr (some (0, 0, 0, 0))], (zx_lay zM0, 308))) rfl ?_
  refine zx_E.sld' (k := 2) (v := a2) rfl rfl (by omega) (by decide) e2 ?_
  show zx_E _ _ _ (383, [some (.inr (some (33, 0, 0, 0))), some (.inr (some (0, 0, 0, 0))), some (.inr (some (25, 0, 0, 0))), some (.inl 0)], [.inl a2, .inl a1, .inr (some (0, 0, 0, 0))], (zx_lay zM0, 308)) _
  refine zx_E.call1 (y := 102) (as := [.inr (some (0, 0, 0, 0)), .inl a1, .inl a2]) (rest := []) (v := .inl (-3)) (μ' := (zx_lay zM0, 308)) rfl (zx_run_of zc_X10_station [some (.inr (some (0, 0, 0, 0))), some (.inl a1), some (.inl a2)] rfl rfl (by
    refine zx_E.go 2 (s' := (4, [some (.inr (some (0, 0, 0, 0))), some (.inl a1), some (.inl a2)], [.inr (some (1, 0, 0, 0))], (zx_lay zM0, 308))) rfl ?_
    refine zx_E.call1 (y := 15) (as := [.inr (some (1, 0, 0, 0))]) (rest := []) (v := .inl 0) (μ' := (zx_lay zM0, 308)) rfl (zx_run_of zc_X2_exists [some (.inr (some (1, 0, 0, 0)))] rfl rfl (by
      refine zx_E.go 2 (s' := (4, [some (.inr (some (1, 0, 0, 0)))], [.inl 0], (zx_lay zM0, 308))) rfl ?_
      refine zx_E.bt (c := 0 ≤ 0) (s1 := (11, [some (.inr (some (1, 0, 0, 0)))], [], (zx_lay zM0, 308))) (s2 := (7, [some (.inr (some (1, 0, 0, 0)))], [], (zx_lay zM0, 308))) rfl (by decide) ?_
      refine zx_E.go 1 (s' := (12, [some (.inr (some (1, 0, 0, 0)))], [.inl 0], (zx_lay zM0, 308))) rfl ?_
      exact zx_E.iret rfl (fun _ => Or.inl rfl) rfl)) ?_
    show zx_E _ _ _ (7, [some (.inr (some (0, 0, 0, 0))), some (.inl a1), some (.inl a2)], [.inl 0], (zx_lay zM0, 308)) _
    refine zx_E.bt (c := 0 = 0) (s1 := (10, [some (.inr (some (0, 0, 0, 0))), some (.inl a1), some (.inl a2)], [], (zx_lay zM0, 308))) (s2 := (13, [some (.inr (some (0, 0, 0, 0))), some (.inl a1), some (.inl a2)], [], (zx_lay zM0, 308))) rfl (by decide) ?_
    refine zx_E.go 1 (s' := (12, [some (.inr (some (0, 0, 0, 0))), some (.inl a1), some (.inl a2)], [.inl (-3)], (zx_lay zM0, 308))) rfl ?_
    exact zx_E.iret rfl (fun h => absurd h (by decide)) rfl)) ?_
  show zx_E _ _ _ (386, [some (.inr (some (33, 0, 0, 0))), some (.inr (some (0, 0, 0, 0))), some (.inr (some (25, 0, 0, 0))), some (.inl 0)], [.inl (-3)], (zx_lay zM0, 308)) _
  refine zx_E.go 5 (s' := (391, [some (.inr (some (33, 0, 0, 0))), some (.inr (some (0, 0, 0, 0))), some (.inr (some (25, 0, 0, 0))), some (.inl 0)], [.inl 1, .inr (some (33, 0, 0, 0)), .inr (some (25, 0, 0, 0)), .inl (-3)], (zx_lay zM0, 308))) rfl ?_
  refine zx_E.sld' (k := 1) (v := a1) rfl rfl (by omega) (by decide) e1 ?_
  show zx_E _ _ _ (392, [some (.inr (some (33, 0, 0, 0))), some (.inr (some (0, 0, 0, 0))), some (.inr (some (25, 0, 0, 0))), some (.inl 0)], [.inl a1, .inr (some (25, 0, 0, 0)), .inl (-3)], (zx_lay zM0, 308)) _
  refine zx_E.go 4 (s' := (396, [some (.inr (some (33, 0, 0, 0))), some (.inr (some (0, 0, 0, 0))), some (.inr (some (25, 0, 0, 0))), some (.inl 0)], [.inl 2, .inr (some (33, 0, 0, 0)), .inl a1, .inr (some (25, 0, 0, 0)), .inl (-3)], (zx_lay zM0, 308))) rfl ?_
  refine zx_E.sld' (k := 2) (v := a2) rfl rfl (by omega) (by decide) e2 ?_
  show zx_E _ _ _ (397, [some (.inr (some (33, 0, 0, 0))), some (.inr (some (0, 0, 0, 0))), some (.inr (some (25, 0, 0, 0))), some (.inl 0)], [.inl a2, .inl a1, .inr (some (25, 0, 0, 0)), .inl (-3)], (zx_lay zM0, 308)) _
  refine zx_E.call1 (y := 177) (as := [.inr (some (25, 0, 0, 0)), .inl a1, .inl a2]) (rest := [.inl (-3)]) (v := .inl (-3)) (μ' := (zx_lay zM0, 308)) rfl (zx_run_of zc_X11_station [some (.inr (some (25, 0, 0, 0))), some (.inl a1), some (.inl a2), none, none] rfl rfl (by
    refine zx_E.go 3 (s' := (5, [some (.inr (some (25, 0, 0, 0))), some (.inl a1), some (.inl a2), none, none], [.inl 1, .inr (some (26, 0, 0, 0))], (zx_lay zM0, 308))) rfl ?_
    refine zx_E.iald' (k := 1) (h := (26, 0, 0, 0)) (v := 0) rfl rfl rfl (by decide) rfl ?_
    show zx_E _ _ _ (6, [some (.inr (some (25, 0, 0, 0))), some (.inl a1), some (.inl a2), none, none], [.inl 0], (zx_lay zM0, 308)) _
    refine zx_E.bt (c := 0 = 0) (s1 := (9, [some (.inr (some (25, 0, 0, 0))), some (.inl a1), some (.inl a2), none, none], [], (zx_lay zM0, 308))) (s2 := (12, [some (.inr (some (25, 0, 0, 0))), some (.inl a1), some (.inl a2), none, none], [], (zx_lay zM0, 308))) rfl (by decide) ?_
    refine zx_E.go 1 (s' := (11, [some (.inr (some (25, 0, 0, 0))), some (.inl a1), some (.inl a2), none, none], [.inl (-3)], (zx_lay zM0, 308))) rfl ?_
    exact zx_E.iret rfl (fun h => absurd h (by decide)) rfl)) ?_
  show zx_E _ _ _ (400, [some (.inr (some (33, 0, 0, 0))), some (.inr (some (0, 0, 0, 0))), some (.inr (some (25, 0, 0, 0))), some (.inl 0)], [.inl (-3), .inl (-3)], (zx_lay zM0, 308)) _
  refine zx_E.bt (c := (-3) = (-3)) (s1 := (734, [some (.inr (some (33, 0, 0, 0))), some (.inr (some (0, 0, 0, 0))), some (.inr (some (25, 0, 0, 0))), some (.inl 0)], [], (zx_lay zM0, 308))) (s2 := (403, [some (.inr (some (33, 0, 0, 0))), some (.inr (some (0, 0, 0, 0))), some (.inr (some (25, 0, 0, 0))), some (.inl 0)], [], (zx_lay zM0, 308))) rfl (by decide) ?_
  refine zx_E.go 6 (s' := (23, [some (.inr (some (33, 0, 0, 0))), some (.inr (some (0, 0, 0, 0))), some (.inr (some (25, 0, 0, 0))), some (.inl 7)], [.inl 7, .inl 7, .inl 7], (zx_lay zM0, 308))) rfl ?_
  refine zx_E.go 1 (s' := (24, [some (.inr (some (33, 0, 0, 0))), some (.inr (some (0, 0, 0, 0))), some (.inr (some (25, 0, 0, 0))), some (.inl 7)], [.inl 0, .inl 7], (zx_lay zM0, 308))) rfl ?_
  refine zx_E.bt (c := 0 < 7) (s1 := (740, [some (.inr (some (33, 0, 0, 0))), some (.inr (some (0, 0, 0, 0))), some (.inr (some (25, 0, 0, 0))), some (.inl 7)], [], (zx_lay zM0, 308))) (s2 := (27, [some (.inr (some (33, 0, 0, 0))), some (.inr (some (0, 0, 0, 0))), some (.inr (some (25, 0, 0, 0))), some (.inl 7)], [], (zx_lay zM0, 308))) rfl (by decide) ?_
  refine zx_E.go 1 (s' := (741, [some (.inr (some (33, 0, 0, 0))), some (.inr (some (0, 0, 0, 0))), some (.inr (some (25, 0, 0, 0))), some (.inl 7)], [.inl 1], (zx_lay zM0, 308))) rfl ?_
  exact zx_E.iret rfl (fun _ => Or.inr rfl) rfl
set_option maxRecDepth 100000 in
set_option maxHeartbeats 4000000 in
theorem p1_op_9 {xs : Nat → Int32} {a0 a1 a2 a3 a4 a5 a6 : Int32} (e0 : xs 0 = a0) (e1 : xs 1 = a1) (e2 : xs 2 = a2) (e3 : xs 3 = a3) (e4 : xs 4 = a4) (e5 : xs 5 = a5) (e6 : xs 6 = a6) (hk : (a0 &&& 31) = 9) :
    ∃ μ : zx_M, μ.2 ≤ 308 ∧ zx_E (7, xs) 11 zc_L_law (18, [some (.inr (some (33, 0, 0, 0))), some (.inr (some (0, 0, 0, 0))), some (.inr (some (25, 0, 0, 0))), some (.inl 0)], [], (zx_lay zM0, 308)) (some (.inl 1), μ) := by
  refine ⟨(zx_lay zM0, 308), Nat.le_refl _, ?_⟩
  refine zx_E.go 4 (s' := (23, [some (.inr (some (33, 0, 0, 0))), some (.inr (some (0, 0, 0, 0))), some (.inr (some (25, 0, 0, 0))), some (.inl 0)], [.inl 7, .inl 7, .inl 0], (zx_lay zM0, 308))) rfl ?_
  refine zx_E.go 1 (s' := (24, [some (.inr (some (33, 0, 0, 0))), some (.inr (some (0, 0, 0, 0))), some (.inr (some (25, 0, 0, 0))), some (.inl 0)], [.inl 0, .inl 0], (zx_lay zM0, 308))) rfl ?_
  refine zx_E.bf (c := 0 < 0) (s1 := (740, [some (.inr (some (33, 0, 0, 0))), some (.inr (some (0, 0, 0, 0))), some (.inr (some (25, 0, 0, 0))), some (.inl 0)], [], (zx_lay zM0, 308))) (s2 := (27, [some (.inr (some (33, 0, 0, 0))), some (.inr (some (0, 0, 0, 0))), some (.inr (some (25, 0, 0, 0))), some (.inl 0)], [], (zx_lay zM0, 308))) rfl (by decide) ?_
  refine zx_E.go 2 (s' := (29, [some (.inr (some (33, 0, 0, 0))), some (.inr (some (0, 0, 0, 0))), some (.inr (some (25, 0, 0, 0))), some (.inl 0)], [.inl 0, .inr (some (33, 0, 0, 0))], (zx_lay zM0, 308))) rfl ?_
  refine zx_E.sld' (k := 0) (v := a0) rfl rfl (by omega) (by decide) e0 ?_
  show zx_E _ _ _ (30, [some (.inr (some (33, 0, 0, 0))), some (.inr (some (0, 0, 0, 0))), some (.inr (some (25, 0, 0, 0))), some (.inl 0)], [.inl a0], (zx_lay zM0, 308)) _
  refine zx_E.go 2 (s' := (33, [some (.inr (some (33, 0, 0, 0))), some (.inr (some (0, 0, 0, 0))), some (.inr (some (25, 0, 0, 0))), some (.inl 0)], [.inl (a0 &&& 31)], (zx_lay zM0, 308))) rfl ?_
  refine zx_E.one (s' := (zx_pick (a0 &&& 31) 0 [136, 211, 224, 247, 270, 293, 316, 339, 372, 405, 438, 471, 494, 517, 560, 573, 606, 639, 652, 685, 698, 711] 734, [some (.inr (some (33, 0, 0, 0))), some (.inr (some (0, 0, 0, 0))), some (.inr (some (25, 0, 0, 0))), some (.inl 0)], [], (zx_lay zM0, 308))) rfl ?_
  refine zx_E.pick (k' := 1) (by decide) (fun hn => absurd hn (fun q => absurd (hk.symm.trans q) (by decide))) (fun _ => ?_)
  refine zx_E.pick (k' := 2) (by decide) (fun hn => absurd hn (fun q => absurd (hk.symm.trans q) (by decide))) (fun _ => ?_)
  refine zx_E.pick (k' := 3) (by decide) (fun hn => absurd hn (fun q => absurd (hk.symm.trans q) (by decide))) (fun _ => ?_)
  refine zx_E.pick (k' := 4) (by decide) (fun hn => absurd hn (fun q => absurd (hk.symm.trans q) (by decide))) (fun _ => ?_)
  refine zx_E.pick (k' := 5) (by decide) (fun hn => absurd hn (fun q => absurd (hk.symm.trans q) (by decide))) (fun _ => ?_)
  refine zx_E.pick (k' := 6) (by decide) (fun hn => absurd hn (fun q => absurd (hk.symm.trans q) (by decide))) (fun _ => ?_)
  refine zx_E.pick (k' := 7) (by decide) (fun hn => absurd hn (fun q => absurd (hk.symm.trans q) (by decide))) (fun _ => ?_)
  refine zx_E.pick (k' := 8) (by decide) (fun hn => absurd hn (fun q => absurd (hk.symm.trans q) (by decide))) (fun _ => ?_)
  refine zx_E.pick (k' := 9) (by decide) (fun hn => absurd hn (fun q => absurd (hk.symm.trans q) (by decide))) (fun _ => ?_)
  refine zx_E.pick (k' := 10) (by decide) (fun _ => ?_) (fun hn => absurd hk hn)
  refine zx_E.go 5 (s' := (410, [some (.inr (some (33, 0, 0, 0))), some (.inr (some (0, 0, 0, 0))), some (.inr (some (25, 0, 0, 0))), some (.inl 0)], [.inl 1, .inr (some (33, 0, 0, 0)), .inr (some (0, 0, 0, 0))], (zx_lay zM0, 308))) rfl ?_
  refine zx_E.sld' (k := 1) (v := a1) rfl rfl (by omega) (by decide) e1 ?_
  show zx_E _ _ _ (411, [some (.inr (some (33, 0, 0, 0))), some (.inr (some (0, 0, 0, 0))), some (.inr (some (25, 0, 0, 0))), some (.inl 0)], [.inl a1, .inr (some (0, 0, 0, 0))], (zx_lay zM0, 308)) _
  refine zx_E.go 4 (s' := (415, [some (.inr (some (33, 0, 0, 0))), some (.inr (some (0, 0, 0, 0))), some (.inr (some (25, 0, 0, 0))), some (.inl 0)], [.inl 2, .inr (some (33, 0, 0, 0)), .inl a1, .inr (some (0, 0, 0, 0))], (zx_lay zM0, 308))) rfl ?_
  refine zx_E.sld' (k := 2) (v := a2) rfl rfl (by omega) (by decide) e2 ?_
  show zx_E _ _ _ (416, [some (.inr (some (33, 0, 0, 0))), some (.inr (some (0, 0, 0, 0))), some (.inr (some (25, 0, 0, 0))), some (.inl 0)], [.inl a2, .inl a1, .inr (some (0, 0, 0, 0))], (zx_lay zM0, 308)) _
  refine zx_E.call1 (y := 103) (as := [.inr (some (0, 0, 0, 0)), .inl a1, .inl a2]) (rest := []) (v := .inl (-3)) (μ' := (zx_lay zM0, 308)) rfl (zx_run_of zc_X10_block [some (.inr (some (0, 0, 0, 0))), some (.inl a1), some (.inl a2)] rfl rfl (by
    refine zx_E.go 2 (s' := (4, [some (.inr (some (0, 0, 0, 0))), some (.inl a1), some (.inl a2)], [.inr (some (1, 0, 0, 0))], (zx_lay zM0, 308))) rfl ?_
    refine zx_E.call1 (y := 15) (as := [.inr (some (1, 0, 0, 0))]) (rest := []) (v := .inl 0) (μ' := (zx_lay zM0, 308)) rfl (zx_run_of zc_X2_exists [some (.inr (some (1, 0, 0, 0)))] rfl rfl (by
      refine zx_E.go 2 (s' := (4, [some (.inr (some (1, 0, 0, 0)))], [.inl 0], (zx_lay zM0, 308))) rfl ?_
      refine zx_E.bt (c := 0 ≤ 0) (s1 := (11, [some (.inr (some (1, 0, 0, 0)))], [], (zx_lay zM0, 308))) (s2 := (7, [some (.inr (some (1, 0, 0, 0)))], [], (zx_lay zM0, 308))) rfl (by decide) ?_
      refine zx_E.go 1 (s' := (12, [some (.inr (some (1, 0, 0, 0)))], [.inl 0], (zx_lay zM0, 308))) rfl ?_
      exact zx_E.iret rfl (fun _ => Or.inl rfl) rfl)) ?_
    show zx_E _ _ _ (7, [some (.inr (some (0, 0, 0, 0))), some (.inl a1), some (.inl a2)], [.inl 0], (zx_lay zM0, 308)) _
    refine zx_E.bt (c := 0 = 0) (s1 := (10, [some (.inr (some (0, 0, 0, 0))), some (.inl a1), some (.inl a2)], [], (zx_lay zM0, 308))) (s2 := (13, [some (.inr (some (0, 0, 0, 0))), some (.inl a1), some (.inl a2)], [], (zx_lay zM0, 308))) rfl (by decide) ?_
    refine zx_E.go 1 (s' := (12, [some (.inr (some (0, 0, 0, 0))), some (.inl a1), some (.inl a2)], [.inl (-3)], (zx_lay zM0, 308))) rfl ?_
    exact zx_E.iret rfl (fun h => absurd h (by decide)) rfl)) ?_
  show zx_E _ _ _ (419, [some (.inr (some (33, 0, 0, 0))), some (.inr (some (0, 0, 0, 0))), some (.inr (some (25, 0, 0, 0))), some (.inl 0)], [.inl (-3)], (zx_lay zM0, 308)) _
  refine zx_E.go 5 (s' := (424, [some (.inr (some (33, 0, 0, 0))), some (.inr (some (0, 0, 0, 0))), some (.inr (some (25, 0, 0, 0))), some (.inl 0)], [.inl 1, .inr (some (33, 0, 0, 0)), .inr (some (25, 0, 0, 0)), .inl (-3)], (zx_lay zM0, 308))) rfl ?_
  refine zx_E.sld' (k := 1) (v := a1) rfl rfl (by omega) (by decide) e1 ?_
  show zx_E _ _ _ (425, [some (.inr (some (33, 0, 0, 0))), some (.inr (some (0, 0, 0, 0))), some (.inr (some (25, 0, 0, 0))), some (.inl 0)], [.inl a1, .inr (some (25, 0, 0, 0)), .inl (-3)], (zx_lay zM0, 308)) _
  refine zx_E.go 4 (s' := (429, [some (.inr (some (33, 0, 0, 0))), some (.inr (some (0, 0, 0, 0))), some (.inr (some (25, 0, 0, 0))), some (.inl 0)], [.inl 2, .inr (some (33, 0, 0, 0)), .inl a1, .inr (some (25, 0, 0, 0)), .inl (-3)], (zx_lay zM0, 308))) rfl ?_
  refine zx_E.sld' (k := 2) (v := a2) rfl rfl (by omega) (by decide) e2 ?_
  show zx_E _ _ _ (430, [some (.inr (some (33, 0, 0, 0))), some (.inr (some (0, 0, 0, 0))), some (.inr (some (25, 0, 0, 0))), some (.inl 0)], [.inl a2, .inl a1, .inr (some (25, 0, 0, 0)), .inl (-3)], (zx_lay zM0, 308)) _
  refine zx_E.call1 (y := 178) (as := [.inr (some (25, 0, 0, 0)), .inl a1, .inl a2]) (rest := [.inl (-3)]) (v := .inl (-3)) (μ' := (zx_lay zM0, 308)) rfl (zx_run_of zc_X11_block [some (.inr (some (25, 0, 0, 0))), some (.inl a1), some (.inl a2)] rfl rfl (by
    refine zx_E.go 3 (s' := (5, [some (.inr (some (25, 0, 0, 0))), some (.inl a1), some (.inl a2)], [.inl 1, .inr (some (26, 0, 0, 0))], (zx_lay zM0, 308))) rfl ?_
    refine zx_E.iald' (k := 1) (h := (26, 0, 0, 0)) (v := 0) rfl rfl rfl (by decide) rfl ?_
    show zx_E _ _ _ (6, [some (.inr (some (25, 0, 0, 0))), some (.inl a1), some (.inl a2)], [.inl 0], (zx_lay zM0, 308)) _
    refine zx_E.bt (c := 0 = 0) (s1 := (9, [some (.inr (some (25, 0, 0, 0))), some (.inl a1), some (.inl a2)], [], (zx_lay zM0, 308))) (s2 := (12, [some (.inr (some (25, 0, 0, 0))), some (.inl a1), some (.inl a2)], [], (zx_lay zM0, 308))) rfl (by decide) ?_
    refine zx_E.go 1 (s' := (11, [some (.inr (some (25, 0, 0, 0))), some (.inl a1), some (.inl a2)], [.inl (-3)], (zx_lay zM0, 308))) rfl ?_
    exact zx_E.iret rfl (fun h => absurd h (by decide)) rfl)) ?_
  show zx_E _ _ _ (433, [some (.inr (some (33, 0, 0, 0))), some (.inr (some (0, 0, 0, 0))), some (.inr (some (25, 0, 0, 0))), some (.inl 0)], [.inl (-3), .inl (-3)], (zx_lay zM0, 308)) _
  refine zx_E.bt (c := (-3) = (-3)) (s1 := (734, [some (.inr (some (33, 0, 0, 0))), some (.inr (some (0, 0, 0, 0))), some (.inr (some (25, 0, 0, 0))), some (.inl 0)], [], (zx_lay zM0, 308))) (s2 := (436, [some (.inr (some (33, 0, 0, 0))), some (.inr (some (0, 0, 0, 0))), some (.inr (some (25, 0, 0, 0))), some (.inl 0)], [], (zx_lay zM0, 308))) rfl (by decide) ?_
  refine zx_E.go 6 (s' := (23, [some (.inr (some (33, 0, 0, 0))), some (.inr (some (0, 0, 0, 0))), some (.inr (some (25, 0, 0, 0))), some (.inl 7)], [.inl 7, .inl 7, .inl 7], (zx_lay zM0, 308))) rfl ?_
  refine zx_E.go 1 (s' := (24, [some (.inr (some (33, 0, 0, 0))), some (.inr (some (0, 0, 0, 0))), some (.inr (some (25, 0, 0, 0))), some (.inl 7)], [.inl 0, .inl 7], (zx_lay zM0, 308))) rfl ?_
  refine zx_E.bt (c := 0 < 7) (s1 := (740, [some (.inr (some (33, 0, 0, 0))), some (.inr (some (0, 0, 0, 0))), some (.inr (some (25, 0, 0, 0))), some (.inl 7)], [], (zx_lay zM0, 308))) (s2 := (27, [some (.inr (some (33, 0, 0, 0))), some (.inr (some (0, 0, 0, 0))), some (.inr (some (25, 0, 0, 0))), some (.inl 7)], [], (zx_lay zM0, 308))) rfl (by decide) ?_
  refine zx_E.go 1 (s' := (741, [some (.inr (some (33, 0, 0, 0))), some (.inr (some (0, 0, 0, 0))), some (.inr (some (25, 0, 0, 0))), some (.inl 7)], [.inl 1], (zx_lay zM0, 308))) rfl ?_
  exact zx_E.iret rfl (fun _ => Or.inr rfl) rfl
set_option maxRecDepth 100000 in
set_option maxHeartbeats 4000000 in
theorem p1_op_10 {xs : Nat → Int32} {a0 a1 a2 a3 a4 a5 a6 : Int32} (e0 : xs 0 = a0) (e1 : xs 1 = a1) (e2 : xs 2 = a2) (e3 : xs 3 = a3) (e4 : xs 4 = a4) (e5 : xs 5 = a5) (e6 : xs 6 = a6) (hk : (a0 &&& 31) = 10) :
    ∃ μ : zx_M, μ.2 ≤ 308 ∧ zx_E (7, xs) 11 zc_L_law (18, [some (.inr (some (33, 0, 0, 0))), some (.inr (some (0, 0, 0, 0))), some (.inr (some (25, 0, 0, 0))), some (.inl 0)], [], (zx_lay zM0, 308)) (some (.inl 1), μ) := by
  by_cases h1 : a1 < 0
  · skip
    refine ⟨(zx_lay zM0, 308), Nat.le_refl _, ?_⟩
    refine zx_E.go 4 (s' := (23, [some (.inr (some (33, 0, 0, 0))), some (.inr (some (0, 0, 0, 0))), some (.inr (some (25, 0, 0, 0))), some (.inl 0)], [.inl 7, .inl 7, .inl 0], (zx_lay zM0, 308))) rfl ?_
    refine zx_E.go 1 (s' := (24, [some (.inr (some (33, 0, 0, 0))), some (.inr (some (0, 0, 0, 0))), some (.inr (some (25, 0, 0, 0))), some (.inl 0)], [.inl 0, .inl 0], (zx_lay zM0, 308))) rfl ?_
    refine zx_E.bf (c := 0 < 0) (s1 := (740, [some (.inr (some (33, 0, 0, 0))), some (.inr (some (0, 0, 0, 0))), some (.inr (some (25, 0, 0, 0))), some (.inl 0)], [], (zx_lay zM0, 308))) (s2 := (27, [some (.inr (some (33, 0, 0, 0))), some (.inr (some (0, 0, 0, 0))), some (.inr (some (25, 0, 0, 0))), some (.inl 0)], [], (zx_lay zM0, 308))) rfl (by decide) ?_
    refine zx_E.go 2 (s' := (29, [some (.inr (some (33, 0, 0, 0))), some (.inr (some (0, 0, 0, 0))), some (.inr (some (25, 0, 0, 0))), some (.inl 0)], [.inl 0, .inr (some (33, 0, 0, 0))], (zx_lay zM0, 308))) rfl ?_
    refine zx_E.sld' (k := 0) (v := a0) rfl rfl (by omega) (by decide) e0 ?_
    show zx_E _ _ _ (30, [some (.inr (some (33, 0, 0, 0))), some (.inr (some (0, 0, 0, 0))), some (.inr (some (25, 0, 0, 0))), some (.inl 0)], [.inl a0], (zx_lay zM0, 308)) _
    refine zx_E.go 2 (s' := (33, [some (.inr (some (33, 0, 0, 0))), some (.inr (some (0, 0, 0, 0))), some (.inr (some (25, 0, 0, 0))), some (.inl 0)], [.inl (a0 &&& 31)], (zx_lay zM0, 308))) rfl ?_
    refine zx_E.one (s' := (zx_pick (a0 &&& 31) 0 [136, 211, 224, 247, 270, 293, 316, 339, 372, 405, 438, 471, 494, 517, 560, 573, 606, 639, 652, 685, 698, 711] 734, [some (.inr (some (33, 0, 0, 0))), some (.inr (some (0, 0, 0, 0))), some (.inr (some (25, 0, 0, 0))), some (.inl 0)], [], (zx_lay zM0, 308))) rfl ?_
    refine zx_E.pick (k' := 1) (by decide) (fun hn => absurd hn (fun q => absurd (hk.symm.trans q) (by decide))) (fun _ => ?_)
    refine zx_E.pick (k' := 2) (by decide) (fun hn => absurd hn (fun q => absurd (hk.symm.trans q) (by decide))) (fun _ => ?_)
    refine zx_E.pick (k' := 3) (by decide) (fun hn => absurd hn (fun q => absurd (hk.symm.trans q) (by decide))) (fun _ => ?_)
    refine zx_E.pick (k' := 4) (by decide) (fun hn => absurd hn (fun q => absurd (hk.symm.trans q) (by decide))) (fun _ => ?_)
    refine zx_E.pick (k' := 5) (by decide) (fun hn => absurd hn (fun q => absurd (hk.symm.trans q) (by decide))) (fun _ => ?_)
    refine zx_E.pick (k' := 6) (by decide) (fun hn => absurd hn (fun q => absurd (hk.symm.trans q) (by decide))) (fun _ => ?_)
    refine zx_E.pick (k' := 7) (by decide) (fun hn => absurd hn (fun q => absurd (hk.symm.trans q) (by decide))) (fun _ => ?_)
    refine zx_E.pick (k' := 8) (by decide) (fun hn => absurd hn (fun q => absurd (hk.symm.trans q) (by decide))) (fun _ => ?_)
    refine zx_E.pick (k' := 9) (by decide) (fun hn => absurd hn (fun q => absurd (hk.symm.trans q) (by decide))) (fun _ => ?_)
    refine zx_E.pick (k' := 10) (by decide) (fun hn => absurd hn (fun q => absurd (hk.symm.trans q) (by decide))) (fun _ => ?_)
    refine zx_E.pick (k' := 11) (by decide) (fun _ => ?_) (fun hn => absurd hk hn)
    refine zx_E.go 5 (s' := (443, [some (.inr (some (33, 0, 0, 0))), some (.inr (some (0, 0, 0, 0))), some (.inr (some (25, 0, 0, 0))), some (.inl 0)], [.inl 1, .inr (some (33, 0, 0, 0)), .inr (some (0, 0, 0, 0))], (zx_lay zM0, 308))) rfl ?_
    refine zx_E.sld' (k := 1) (v := a1) rfl rfl (by omega) (by decide) e1 ?_
    show zx_E _ _ _ (444, [some (.inr (some (33, 0, 0, 0))), some (.inr (some (0, 0, 0, 0))), some (.inr (some (25, 0, 0, 0))), some (.inl 0)], [.inl a1, .inr (some (0, 0, 0, 0))], (zx_lay zM0, 308)) _
    refine zx_E.go 4 (s' := (448, [some (.inr (some (33, 0, 0, 0))), some (.inr (some (0, 0, 0, 0))), some (.inr (some (25, 0, 0, 0))), some (.inl 0)], [.inl 2, .inr (some (33, 0, 0, 0)), .inl a1, .inr (some (0, 0, 0, 0))], (zx_lay zM0, 308))) rfl ?_
    refine zx_E.sld' (k := 2) (v := a2) rfl rfl (by omega) (by decide) e2 ?_
    show zx_E _ _ _ (449, [some (.inr (some (33, 0, 0, 0))), some (.inr (some (0, 0, 0, 0))), some (.inr (some (25, 0, 0, 0))), some (.inl 0)], [.inl a2, .inl a1, .inr (some (0, 0, 0, 0))], (zx_lay zM0, 308)) _
    refine zx_E.call1 (y := 104) (as := [.inr (some (0, 0, 0, 0)), .inl a1, .inl a2]) (rest := []) (v := .inl (-1)) (μ' := (zx_lay zM0, 308)) rfl (zx_run_of zc_X10_why [some (.inr (some (0, 0, 0, 0))), some (.inl a1), some (.inl a2), none, none] rfl rfl (by
      refine zx_E.go 3 (s' := (5, [some (.inr (some (0, 0, 0, 0))), some (.inl a1), some (.inl a2), none, none], [.inl a1, .inr (some (1, 0, 0, 0))], (zx_lay zM0, 308))) rfl ?_
      refine zx_E.call1 (y := 18) (as := [.inr (some (1, 0, 0, 0)), .inl a1]) (rest := []) (v := .inr none) (μ' := (zx_lay zM0, 308)) rfl (zx_run_of zc_X2_trainWith [some (.inr (some (1, 0, 0, 0))), some (.inl a1)] rfl rfl (by
        refine zx_E.go 1 (s' := (1, [some (.inr (some (1, 0, 0, 0))), some (.inl a1)], [.inl a1], (zx_lay zM0, 308))) rfl ?_
        refine zx_E.bt (c := a1 < 0) (s1 := (27, [some (.inr (some (1, 0, 0, 0))), some (.inl a1)], [], (zx_lay zM0, 308))) (s2 := (4, [some (.inr (some (1, 0, 0, 0))), some (.inl a1)], [], (zx_lay zM0, 308))) rfl h1 ?_
        refine zx_E.go 1 (s' := (28, [some (.inr (some (1, 0, 0, 0))), some (.inl a1)], [.inr none], (zx_lay zM0, 308))) rfl ?_
        exact zx_E.ret rfl)) ?_
      show zx_E _ _ _ (8, [some (.inr (some (0, 0, 0, 0))), some (.inl a1), some (.inl a2), none, none], [.inr none], (zx_lay zM0, 308)) _
      refine zx_E.go 4 (s' := (23, [some (.inr (some (0, 0, 0, 0))), some (.inl a1), some (.inl a2), some (.inr none), none], [.inl (-1)], (zx_lay zM0, 308))) rfl ?_
      exact zx_E.iret rfl (fun h => absurd h (by decide)) rfl)) ?_
    show zx_E _ _ _ (452, [some (.inr (some (33, 0, 0, 0))), some (.inr (some (0, 0, 0, 0))), some (.inr (some (25, 0, 0, 0))), some (.inl 0)], [.inl (-1)], (zx_lay zM0, 308)) _
    refine zx_E.go 5 (s' := (457, [some (.inr (some (33, 0, 0, 0))), some (.inr (some (0, 0, 0, 0))), some (.inr (some (25, 0, 0, 0))), some (.inl 0)], [.inl 1, .inr (some (33, 0, 0, 0)), .inr (some (25, 0, 0, 0)), .inl (-1)], (zx_lay zM0, 308))) rfl ?_
    refine zx_E.sld' (k := 1) (v := a1) rfl rfl (by omega) (by decide) e1 ?_
    show zx_E _ _ _ (458, [some (.inr (some (33, 0, 0, 0))), some (.inr (some (0, 0, 0, 0))), some (.inr (some (25, 0, 0, 0))), some (.inl 0)], [.inl a1, .inr (some (25, 0, 0, 0)), .inl (-1)], (zx_lay zM0, 308)) _
    refine zx_E.go 4 (s' := (462, [some (.inr (some (33, 0, 0, 0))), some (.inr (some (0, 0, 0, 0))), some (.inr (some (25, 0, 0, 0))), some (.inl 0)], [.inl 2, .inr (some (33, 0, 0, 0)), .inl a1, .inr (some (25, 0, 0, 0)), .inl (-1)], (zx_lay zM0, 308))) rfl ?_
    refine zx_E.sld' (k := 2) (v := a2) rfl rfl (by omega) (by decide) e2 ?_
    show zx_E _ _ _ (463, [some (.inr (some (33, 0, 0, 0))), some (.inr (some (0, 0, 0, 0))), some (.inr (some (25, 0, 0, 0))), some (.inl 0)], [.inl a2, .inl a1, .inr (some (25, 0, 0, 0)), .inl (-1)], (zx_lay zM0, 308)) _
    refine zx_E.call1 (y := 182) (as := [.inr (some (25, 0, 0, 0)), .inl a1, .inl a2]) (rest := [.inl (-1)]) (v := .inl (-1)) (μ' := (zx_lay zM0, 308)) rfl (zx_run_of zc_X11_why [some (.inr (some (25, 0, 0, 0))), some (.inl a1), some (.inl a2)] rfl rfl (by
      refine zx_E.go 2 (s' := (2, [some (.inr (some (25, 0, 0, 0))), some (.inl a1), some (.inl a2)], [.inl a1, .inr (some (25, 0, 0, 0))], (zx_lay zM0, 308))) rfl ?_
      refine zx_E.call1 (y := 124) (as := [.inr (some (25, 0, 0, 0)), .inl a1]) (rest := []) (v := .inl 0) (μ' := (zx_lay zM0, 308)) rfl (zx_run_of zc_X11_isTrain [some (.inr (some (25, 0, 0, 0))), some (.inl a1)] rfl rfl (by
        refine zx_E.go 5 (s' := (8, [some (.inr (some (25, 0, 0, 0))), some (.inl a1)], [.inl 27, .inr (some (26, 0, 0, 0)), .inl 0, .inl a1], (zx_lay zM0, 308))) rfl ?_
        refine zx_E.iald' (k := 27) (h := (26, 0, 0, 0)) (v := 0) rfl rfl rfl (by decide) rfl ?_
        show zx_E _ _ _ (9, [some (.inr (some (25, 0, 0, 0))), some (.inl a1)], [.inl 0, .inl 0, .inl a1], (zx_lay zM0, 308)) _
        refine zx_E.go 2 (s' := (11, [some (.inr (some (25, 0, 0, 0))), some (.inl a1)], [.inl (-1), .inl 0, .inl a1], (zx_lay zM0, 308))) rfl ?_
        refine zx_E.call1 (y := 121) (as := [.inl a1, .inl 0, .inl (-1)]) (rest := []) (v := .inl 0) (μ' := (zx_lay zM0, 308)) rfl (zx_run_of zc_X11_isIn [some (.inl a1), some (.inl 0), some (.inl (-1))] rfl rfl (by
          refine zx_E.go 2 (s' := (2, [some (.inl a1), some (.inl 0), some (.inl (-1))], [.inl 0, .inl a1], (zx_lay zM0, 308))) rfl ?_
          refine zx_E.bt (c := a1 < 0) (s1 := (14, [some (.inl a1), some (.inl 0), some (.inl (-1))], [], (zx_lay zM0, 308))) (s2 := (5, [some (.inl a1), some (.inl 0), some (.inl (-1))], [], (zx_lay zM0, 308))) rfl h1 ?_
          refine zx_E.go 1 (s' := (15, [some (.inl a1), some (.inl 0), some (.inl (-1))], [.inl 0], (zx_lay zM0, 308))) rfl ?_
          exact zx_E.iret rfl (fun _ => Or.inl rfl) rfl)) ?_
        show zx_E _ _ _ (14, [some (.inr (some (25, 0, 0, 0))), some (.inl a1)], [.inl 0], (zx_lay zM0, 308)) _
        exact zx_E.iret rfl (fun _ => Or.inl rfl) rfl)) ?_
      show zx_E _ _ _ (5, [some (.inr (some (25, 0, 0, 0))), some (.inl a1), some (.inl a2)], [.inl 0], (zx_lay zM0, 308)) _
      refine zx_E.bt (c := 0 = 0) (s1 := (17, [some (.inr (some (25, 0, 0, 0))), some (.inl a1), some (.inl a2)], [], (zx_lay zM0, 308))) (s2 := (8, [some (.inr (some (25, 0, 0, 0))), some (.inl a1), some (.inl a2)], [], (zx_lay zM0, 308))) rfl (by decide) ?_
      refine zx_E.go 1 (s' := (18, [some (.inr (some (25, 0, 0, 0))), some (.inl a1), some (.inl a2)], [.inl (-1)], (zx_lay zM0, 308))) rfl ?_
      exact zx_E.iret rfl (fun h => absurd h (by decide)) rfl)) ?_
    show zx_E _ _ _ (466, [some (.inr (some (33, 0, 0, 0))), some (.inr (some (0, 0, 0, 0))), some (.inr (some (25, 0, 0, 0))), some (.inl 0)], [.inl (-1), .inl (-1)], (zx_lay zM0, 308)) _
    refine zx_E.bt (c := (-1) = (-1)) (s1 := (734, [some (.inr (some (33, 0, 0, 0))), some (.inr (some (0, 0, 0, 0))), some (.inr (some (25, 0, 0, 0))), some (.inl 0)], [], (zx_lay zM0, 308))) (s2 := (469, [some (.inr (some (33, 0, 0, 0))), some (.inr (some (0, 0, 0, 0))), some (.inr (some (25, 0, 0, 0))), some (.inl 0)], [], (zx_lay zM0, 308))) rfl (by decide) ?_
    refine zx_E.go 6 (s' := (23, [some (.inr (some (33, 0, 0, 0))), some (.inr (some (0, 0, 0, 0))), some (.inr (some (25, 0, 0, 0))), some (.inl 7)], [.inl 7, .inl 7, .inl 7], (zx_lay zM0, 308))) rfl ?_
    refine zx_E.go 1 (s' := (24, [some (.inr (some (33, 0, 0, 0))), some (.inr (some (0, 0, 0, 0))), some (.inr (some (25, 0, 0, 0))), some (.inl 7)], [.inl 0, .inl 7], (zx_lay zM0, 308))) rfl ?_
    refine zx_E.bt (c := 0 < 7) (s1 := (740, [some (.inr (some (33, 0, 0, 0))), some (.inr (some (0, 0, 0, 0))), some (.inr (some (25, 0, 0, 0))), some (.inl 7)], [], (zx_lay zM0, 308))) (s2 := (27, [some (.inr (some (33, 0, 0, 0))), some (.inr (some (0, 0, 0, 0))), some (.inr (some (25, 0, 0, 0))), some (.inl 7)], [], (zx_lay zM0, 308))) rfl (by decide) ?_
    refine zx_E.go 1 (s' := (741, [some (.inr (some (33, 0, 0, 0))), some (.inr (some (0, 0, 0, 0))), some (.inr (some (25, 0, 0, 0))), some (.inl 7)], [.inl 1], (zx_lay zM0, 308))) rfl ?_
    exact zx_E.iret rfl (fun _ => Or.inr rfl) rfl
  · skip
    refine ⟨(zx_lay zM0, 308), Nat.le_refl _, ?_⟩
    refine zx_E.go 4 (s' := (23, [some (.inr (some (33, 0, 0, 0))), some (.inr (some (0, 0, 0, 0))), some (.inr (some (25, 0, 0, 0))), some (.inl 0)], [.inl 7, .inl 7, .inl 0], (zx_lay zM0, 308))) rfl ?_
    refine zx_E.go 1 (s' := (24, [some (.inr (some (33, 0, 0, 0))), some (.inr (some (0, 0, 0, 0))), some (.inr (some (25, 0, 0, 0))), some (.inl 0)], [.inl 0, .inl 0], (zx_lay zM0, 308))) rfl ?_
    refine zx_E.bf (c := 0 < 0) (s1 := (740, [some (.inr (some (33, 0, 0, 0))), some (.inr (some (0, 0, 0, 0))), some (.inr (some (25, 0, 0, 0))), some (.inl 0)], [], (zx_lay zM0, 308))) (s2 := (27, [some (.inr (some (33, 0, 0, 0))), some (.inr (some (0, 0, 0, 0))), some (.inr (some (25, 0, 0, 0))), some (.inl 0)], [], (zx_lay zM0, 308))) rfl (by decide) ?_
    refine zx_E.go 2 (s' := (29, [some (.inr (some (33, 0, 0, 0))), some (.inr (some (0, 0, 0, 0))), some (.inr (some (25, 0, 0, 0))), some (.inl 0)], [.inl 0, .inr (some (33, 0, 0, 0))], (zx_lay zM0, 308))) rfl ?_
    refine zx_E.sld' (k := 0) (v := a0) rfl rfl (by omega) (by decide) e0 ?_
    show zx_E _ _ _ (30, [some (.inr (some (33, 0, 0, 0))), some (.inr (some (0, 0, 0, 0))), some (.inr (some (25, 0, 0, 0))), some (.inl 0)], [.inl a0], (zx_lay zM0, 308)) _
    refine zx_E.go 2 (s' := (33, [some (.inr (some (33, 0, 0, 0))), some (.inr (some (0, 0, 0, 0))), some (.inr (some (25, 0, 0, 0))), some (.inl 0)], [.inl (a0 &&& 31)], (zx_lay zM0, 308))) rfl ?_
    refine zx_E.one (s' := (zx_pick (a0 &&& 31) 0 [136, 211, 224, 247, 270, 293, 316, 339, 372, 405, 438, 471, 494, 517, 560, 573, 606, 639, 652, 685, 698, 711] 734, [some (.inr (some (33, 0, 0, 0))), some (.inr (some (0, 0, 0, 0))), some (.inr (some (25, 0, 0, 0))), some (.inl 0)], [], (zx_lay zM0, 308))) rfl ?_
    refine zx_E.pick (k' := 1) (by decide) (fun hn => absurd hn (fun q => absurd (hk.symm.trans q) (by decide))) (fun _ => ?_)
    refine zx_E.pick (k' := 2) (by decide) (fun hn => absurd hn (fun q => absurd (hk.symm.trans q) (by decide))) (fun _ => ?_)
    refine zx_E.pick (k' := 3) (by decide) (fun hn => absurd hn (fun q => absurd (hk.symm.trans q) (by decide))) (fun _ => ?_)
    refine zx_E.pick (k' := 4) (by decide) (fun hn => absurd hn (fun q => absurd (hk.symm.trans q) (by decide))) (fun _ => ?_)
    refine zx_E.pick (k' := 5) (by decide) (fun hn => absurd hn (fun q => absurd (hk.symm.trans q) (by decide))) (fun _ => ?_)
    refine zx_E.pick (k' := 6) (by decide) (fun hn => absurd hn (fun q => absurd (hk.symm.trans q) (by decide))) (fun _ => ?_)
    refine zx_E.pick (k' := 7) (by decide) (fun hn => absurd hn (fun q => absurd (hk.symm.trans q) (by decide))) (fun _ => ?_)
    refine zx_E.pick (k' := 8) (by decide) (fun hn => absurd hn (fun q => absurd (hk.symm.trans q) (by decide))) (fun _ => ?_)
    refine zx_E.pick (k' := 9) (by decide) (fun hn => absurd hn (fun q => absurd (hk.symm.trans q) (by decide))) (fun _ => ?_)
    refine zx_E.pick (k' := 10) (by decide) (fun hn => absurd hn (fun q => absurd (hk.symm.trans q) (by decide))) (fun _ => ?_)
    refine zx_E.pick (k' := 11) (by decide) (fun _ => ?_) (fun hn => absurd hk hn)
    refine zx_E.go 5 (s' := (443, [some (.inr (some (33, 0, 0, 0))), some (.inr (some (0, 0, 0, 0))), some (.inr (some (25, 0, 0, 0))), some (.inl 0)], [.inl 1, .inr (some (33, 0, 0, 0)), .inr (some (0, 0, 0, 0))], (zx_lay zM0, 308))) rfl ?_
    refine zx_E.sld' (k := 1) (v := a1) rfl rfl (by omega) (by decide) e1 ?_
    show zx_E _ _ _ (444, [some (.inr (some (33, 0, 0, 0))), some (.inr (some (0, 0, 0, 0))), some (.inr (some (25, 0, 0, 0))), some (.inl 0)], [.inl a1, .inr (some (0, 0, 0, 0))], (zx_lay zM0, 308)) _
    refine zx_E.go 4 (s' := (448, [some (.inr (some (33, 0, 0, 0))), some (.inr (some (0, 0, 0, 0))), some (.inr (some (25, 0, 0, 0))), some (.inl 0)], [.inl 2, .inr (some (33, 0, 0, 0)), .inl a1, .inr (some (0, 0, 0, 0))], (zx_lay zM0, 308))) rfl ?_
    refine zx_E.sld' (k := 2) (v := a2) rfl rfl (by omega) (by decide) e2 ?_
    show zx_E _ _ _ (449, [some (.inr (some (33, 0, 0, 0))), some (.inr (some (0, 0, 0, 0))), some (.inr (some (25, 0, 0, 0))), some (.inl 0)], [.inl a2, .inl a1, .inr (some (0, 0, 0, 0))], (zx_lay zM0, 308)) _
    refine zx_E.call1 (y := 104) (as := [.inr (some (0, 0, 0, 0)), .inl a1, .inl a2]) (rest := []) (v := .inl (-1)) (μ' := (zx_lay zM0, 308)) rfl (zx_run_of zc_X10_why [some (.inr (some (0, 0, 0, 0))), some (.inl a1), some (.inl a2), none, none] rfl rfl (by
      refine zx_E.go 3 (s' := (5, [some (.inr (some (0, 0, 0, 0))), some (.inl a1), some (.inl a2), none, none], [.inl a1, .inr (some (1, 0, 0, 0))], (zx_lay zM0, 308))) rfl ?_
      refine zx_E.call1 (y := 18) (as := [.inr (some (1, 0, 0, 0)), .inl a1]) (rest := []) (v := .inr none) (μ' := (zx_lay zM0, 308)) rfl (zx_run_of zc_X2_trainWith [some (.inr (some (1, 0, 0, 0))), some (.inl a1)] rfl rfl (by
        refine zx_E.go 1 (s' := (1, [some (.inr (some (1, 0, 0, 0))), some (.inl a1)], [.inl a1], (zx_lay zM0, 308))) rfl ?_
        refine zx_E.bf (c := a1 < 0) (s1 := (27, [some (.inr (some (1, 0, 0, 0))), some (.inl a1)], [], (zx_lay zM0, 308))) (s2 := (4, [some (.inr (some (1, 0, 0, 0))), some (.inl a1)], [], (zx_lay zM0, 308))) rfl h1 ?_
        refine zx_E.go 3 (s' := (9, [some (.inr (some (1, 0, 0, 0))), some (.inl a1)], [.inl 0, .inl a1], (zx_lay zM0, 308))) rfl ?_
        refine zx_E.bt (c := 0 ≤ a1) (s1 := (27, [some (.inr (some (1, 0, 0, 0))), some (.inl a1)], [], (zx_lay zM0, 308))) (s2 := (12, [some (.inr (some (1, 0, 0, 0))), some (.inl a1)], [], (zx_lay zM0, 308))) rfl (Int32.not_lt.mp h1) ?_
        refine zx_E.go 1 (s' := (28, [some (.inr (some (1, 0, 0, 0))), some (.inl a1)], [.inr none], (zx_lay zM0, 308))) rfl ?_
        exact zx_E.ret rfl)) ?_
      show zx_E _ _ _ (8, [some (.inr (some (0, 0, 0, 0))), some (.inl a1), some (.inl a2), none, none], [.inr none], (zx_lay zM0, 308)) _
      refine zx_E.go 4 (s' := (23, [some (.inr (some (0, 0, 0, 0))), some (.inl a1), some (.inl a2), some (.inr none), none], [.inl (-1)], (zx_lay zM0, 308))) rfl ?_
      exact zx_E.iret rfl (fun h => absurd h (by decide)) rfl)) ?_
    show zx_E _ _ _ (452, [some (.inr (some (33, 0, 0, 0))), some (.inr (some (0, 0, 0, 0))), some (.inr (some (25, 0, 0, 0))), some (.inl 0)], [.inl (-1)], (zx_lay zM0, 308)) _
    refine zx_E.go 5 (s' := (457, [some (.inr (some (33, 0, 0, 0))), some (.inr (some (0, 0, 0, 0))), some (.inr (some (25, 0, 0, 0))), some (.inl 0)], [.inl 1, .inr (some (33, 0, 0, 0)), .inr (some (25, 0, 0, 0)), .inl (-1)], (zx_lay zM0, 308))) rfl ?_
    refine zx_E.sld' (k := 1) (v := a1) rfl rfl (by omega) (by decide) e1 ?_
    show zx_E _ _ _ (458, [some (.inr (some (33, 0, 0, 0))), some (.inr (some (0, 0, 0, 0))), some (.inr (some (25, 0, 0, 0))), some (.inl 0)], [.inl a1, .inr (some (25, 0, 0, 0)), .inl (-1)], (zx_lay zM0, 308)) _
    refine zx_E.go 4 (s' := (462, [some (.inr (some (33, 0, 0, 0))), some (.inr (some (0, 0, 0, 0))), some (.inr (some (25, 0, 0, 0))), some (.inl 0)], [.inl 2, .inr (some (33, 0, 0, 0)), .inl a1, .inr (some (25, 0, 0, 0)), .inl (-1)], (zx_lay zM0, 308))) rfl ?_
    refine zx_E.sld' (k := 2) (v := a2) rfl rfl (by omega) (by decide) e2 ?_
    show zx_E _ _ _ (463, [some (.inr (some (33, 0, 0, 0))), some (.inr (some (0, 0, 0, 0))), some (.inr (some (25, 0, 0, 0))), some (.inl 0)], [.inl a2, .inl a1, .inr (some (25, 0, 0, 0)), .inl (-1)], (zx_lay zM0, 308)) _
    refine zx_E.call1 (y := 182) (as := [.inr (some (25, 0, 0, 0)), .inl a1, .inl a2]) (rest := [.inl (-1)]) (v := .inl (-1)) (μ' := (zx_lay zM0, 308)) rfl (zx_run_of zc_X11_why [some (.inr (some (25, 0, 0, 0))), some (.inl a1), some (.inl a2)] rfl rfl (by
      refine zx_E.go 2 (s' := (2, [some (.inr (some (25, 0, 0, 0))), some (.inl a1), some (.inl a2)], [.inl a1, .inr (some (25, 0, 0, 0))], (zx_lay zM0, 308))) rfl ?_
      refine zx_E.call1 (y := 124) (as := [.inr (some (25, 0, 0, 0)), .inl a1]) (rest := []) (v := .inl 0) (μ' := (zx_lay zM0, 308)) rfl (zx_run_of zc_X11_isTrain [some (.inr (some (25, 0, 0, 0))), some (.inl a1)] rfl rfl (by
        refine zx_E.go 5 (s' := (8, [some (.inr (some (25, 0, 0, 0))), some (.inl a1)], [.inl 27, .inr (some (26, 0, 0, 0)), .inl 0, .inl a1], (zx_lay zM0, 308))) rfl ?_
        refine zx_E.iald' (k := 27) (h := (26, 0, 0, 0)) (v := 0) rfl rfl rfl (by decide) rfl ?_
        show zx_E _ _ _ (9, [some (.inr (some (25, 0, 0, 0))), some (.inl a1)], [.inl 0, .inl 0, .inl a1], (zx_lay zM0, 308)) _
        refine zx_E.go 2 (s' := (11, [some (.inr (some (25, 0, 0, 0))), some (.inl a1)], [.inl (-1), .inl 0, .inl a1], (zx_lay zM0, 308))) rfl ?_
        refine zx_E.call1 (y := 121) (as := [.inl a1, .inl 0, .inl (-1)]) (rest := []) (v := .inl 0) (μ' := (zx_lay zM0, 308)) rfl (zx_run_of zc_X11_isIn [some (.inl a1), some (.inl 0), some (.inl (-1))] rfl rfl (by
          refine zx_E.go 2 (s' := (2, [some (.inl a1), some (.inl 0), some (.inl (-1))], [.inl 0, .inl a1], (zx_lay zM0, 308))) rfl ?_
          refine zx_E.bf (c := a1 < 0) (s1 := (14, [some (.inl a1), some (.inl 0), some (.inl (-1))], [], (zx_lay zM0, 308))) (s2 := (5, [some (.inl a1), some (.inl 0), some (.inl (-1))], [], (zx_lay zM0, 308))) rfl h1 ?_
          refine zx_E.go 2 (s' := (7, [some (.inl a1), some (.inl 0), some (.inl (-1))], [.inl (-1), .inl a1], (zx_lay zM0, 308))) rfl ?_
          refine zx_E.bt (c := (-1) < a1) (s1 := (14, [some (.inl a1), some (.inl 0), some (.inl (-1))], [], (zx_lay zM0, 308))) (s2 := (10, [some (.inl a1), some (.inl 0), some (.inl (-1))], [], (zx_lay zM0, 308))) rfl (zx_m1 h1) ?_
          refine zx_E.go 1 (s' := (15, [some (.inl a1), some (.inl 0), some (.inl (-1))], [.inl 0], (zx_lay zM0, 308))) rfl ?_
          exact zx_E.iret rfl (fun _ => Or.inl rfl) rfl)) ?_
        show zx_E _ _ _ (14, [some (.inr (some (25, 0, 0, 0))), some (.inl a1)], [.inl 0], (zx_lay zM0, 308)) _
        exact zx_E.iret rfl (fun _ => Or.inl rfl) rfl)) ?_
      show zx_E _ _ _ (5, [some (.inr (some (25, 0, 0, 0))), some (.inl a1), some (.inl a2)], [.inl 0], (zx_lay zM0, 308)) _
      refine zx_E.bt (c := 0 = 0) (s1 := (17, [some (.inr (some (25, 0, 0, 0))), some (.inl a1), some (.inl a2)], [], (zx_lay zM0, 308))) (s2 := (8, [some (.inr (some (25, 0, 0, 0))), some (.inl a1), some (.inl a2)], [], (zx_lay zM0, 308))) rfl (by decide) ?_
      refine zx_E.go 1 (s' := (18, [some (.inr (some (25, 0, 0, 0))), some (.inl a1), some (.inl a2)], [.inl (-1)], (zx_lay zM0, 308))) rfl ?_
      exact zx_E.iret rfl (fun h => absurd h (by decide)) rfl)) ?_
    show zx_E _ _ _ (466, [some (.inr (some (33, 0, 0, 0))), some (.inr (some (0, 0, 0, 0))), some (.inr (some (25, 0, 0, 0))), some (.inl 0)], [.inl (-1), .inl (-1)], (zx_lay zM0, 308)) _
    refine zx_E.bt (c := (-1) = (-1)) (s1 := (734, [some (.inr (some (33, 0, 0, 0))), some (.inr (some (0, 0, 0, 0))), some (.inr (some (25, 0, 0, 0))), some (.inl 0)], [], (zx_lay zM0, 308))) (s2 := (469, [some (.inr (some (33, 0, 0, 0))), some (.inr (some (0, 0, 0, 0))), some (.inr (some (25, 0, 0, 0))), some (.inl 0)], [], (zx_lay zM0, 308))) rfl (by decide) ?_
    refine zx_E.go 6 (s' := (23, [some (.inr (some (33, 0, 0, 0))), some (.inr (some (0, 0, 0, 0))), some (.inr (some (25, 0, 0, 0))), some (.inl 7)], [.inl 7, .inl 7, .inl 7], (zx_lay zM0, 308))) rfl ?_
    refine zx_E.go 1 (s' := (24, [some (.inr (some (33, 0, 0, 0))), some (.inr (some (0, 0, 0, 0))), some (.inr (some (25, 0, 0, 0))), some (.inl 7)], [.inl 0, .inl 7], (zx_lay zM0, 308))) rfl ?_
    refine zx_E.bt (c := 0 < 7) (s1 := (740, [some (.inr (some (33, 0, 0, 0))), some (.inr (some (0, 0, 0, 0))), some (.inr (some (25, 0, 0, 0))), some (.inl 7)], [], (zx_lay zM0, 308))) (s2 := (27, [some (.inr (some (33, 0, 0, 0))), some (.inr (some (0, 0, 0, 0))), some (.inr (some (25, 0, 0, 0))), some (.inl 7)], [], (zx_lay zM0, 308))) rfl (by decide) ?_
    refine zx_E.go 1 (s' := (741, [some (.inr (some (33, 0, 0, 0))), some (.inr (some (0, 0, 0, 0))), some (.inr (some (25, 0, 0, 0))), some (.inl 7)], [.inl 1], (zx_lay zM0, 308))) rfl ?_
    exact zx_E.iret rfl (fun _ => Or.inr rfl) rfl
set_option maxRecDepth 100000 in
set_option maxHeartbeats 4000000 in
theorem p1_op_11 {xs : Nat → Int32} {a0 a1 a2 a3 a4 a5 a6 : Int32} (e0 : xs 0 = a0) (e1 : xs 1 = a1) (e2 : xs 2 = a2) (e3 : xs 3 = a3) (e4 : xs 4 = a4) (e5 : xs 5 = a5) (e6 : xs 6 = a6) (hk : (a0 &&& 31) = 11) :
    ∃ μ : zx_M, μ.2 ≤ 308 ∧ zx_E (7, xs) 11 zc_L_law (18, [some (.inr (some (33, 0, 0, 0))), some (.inr (some (0, 0, 0, 0))), some (.inr (some (25, 0, 0, 0))), some (.inl 0)], [], (zx_lay zM0, 308)) (some (.inl 1), μ) := by
  by_cases h1 : a1 = (-1)
  · subst h1
    refine ⟨(zx_lay zM0, 308), Nat.le_refl _, ?_⟩
    refine zx_E.go 4 (s' := (23, [some (.inr (some (33, 0, 0, 0))), some (.inr (some (0, 0, 0, 0))), some (.inr (some (25, 0, 0, 0))), some (.inl 0)], [.inl 7, .inl 7, .inl 0], (zx_lay zM0, 308))) rfl ?_
    refine zx_E.go 1 (s' := (24, [some (.inr (some (33, 0, 0, 0))), some (.inr (some (0, 0, 0, 0))), some (.inr (some (25, 0, 0, 0))), some (.inl 0)], [.inl 0, .inl 0], (zx_lay zM0, 308))) rfl ?_
    refine zx_E.bf (c := 0 < 0) (s1 := (740, [some (.inr (some (33, 0, 0, 0))), some (.inr (some (0, 0, 0, 0))), some (.inr (some (25, 0, 0, 0))), some (.inl 0)], [], (zx_lay zM0, 308))) (s2 := (27, [some (.inr (some (33, 0, 0, 0))), some (.inr (some (0, 0, 0, 0))), some (.inr (some (25, 0, 0, 0))), some (.inl 0)], [], (zx_lay zM0, 308))) rfl (by decide) ?_
    refine zx_E.go 2 (s' := (29, [some (.inr (some (33, 0, 0, 0))), some (.inr (some (0, 0, 0, 0))), some (.inr (some (25, 0, 0, 0))), some (.inl 0)], [.inl 0, .inr (some (33, 0, 0, 0))], (zx_lay zM0, 308))) rfl ?_
    refine zx_E.sld' (k := 0) (v := a0) rfl rfl (by omega) (by decide) e0 ?_
    show zx_E _ _ _ (30, [some (.inr (some (33, 0, 0, 0))), some (.inr (some (0, 0, 0, 0))), some (.inr (some (25, 0, 0, 0))), some (.inl 0)], [.inl a0], (zx_lay zM0, 308)) _
    refine zx_E.go 2 (s' := (33, [some (.inr (some (33, 0, 0, 0))), some (.inr (some (0, 0, 0, 0))), some (.inr (some (25, 0, 0, 0))), some (.inl 0)], [.inl (a0 &&& 31)], (zx_lay zM0, 308))) rfl ?_
    refine zx_E.one (s' := (zx_pick (a0 &&& 31) 0 [136, 211, 224, 247, 270, 293, 316, 339, 372, 405, 438, 471, 494, 517, 560, 573, 606, 639, 652, 685, 698, 711] 734, [some (.inr (some (33, 0, 0, 0))), some (.inr (some (0, 0, 0, 0))), some (.inr (some (25, 0, 0, 0))), some (.inl 0)], [], (zx_lay zM0, 308))) rfl ?_
    refine zx_E.pick (k' := 1) (by decide) (fun hn => absurd hn (fun q => absurd (hk.symm.trans q) (by decide))) (fun _ => ?_)
    refine zx_E.pick (k' := 2) (by decide) (fun hn => absurd hn (fun q => absurd (hk.symm.trans q) (by decide))) (fun _ => ?_)
    refine zx_E.pick (k' := 3) (by decide) (fun hn => absurd hn (fun q => absurd (hk.symm.trans q) (by decide))) (fun _ => ?_)
    refine zx_E.pick (k' := 4) (by decide) (fun hn => absurd hn (fun q => absurd (hk.symm.trans q) (by decide))) (fun _ => ?_)
    refine zx_E.pick (k' := 5) (by decide) (fun hn => absurd hn (fun q => absurd (hk.symm.trans q) (by decide))) (fun _ => ?_)
    refine zx_E.pick (k' := 6) (by decide) (fun hn => absurd hn (fun q => absurd (hk.symm.trans q) (by decide))) (fun _ => ?_)
    refine zx_E.pick (k' := 7) (by decide) (fun hn => absurd hn (fun q => absurd (hk.symm.trans q) (by decide))) (fun _ => ?_)
    refine zx_E.pick (k' := 8) (by decide) (fun hn => absurd hn (fun q => absurd (hk.symm.trans q) (by decide))) (fun _ => ?_)
    refine zx_E.pick (k' := 9) (by decide) (fun hn => absurd hn (fun q => absurd (hk.symm.trans q) (by decide))) (fun _ => ?_)
    refine zx_E.pick (k' := 10) (by decide) (fun hn => absurd hn (fun q => absurd (hk.symm.trans q) (by decide))) (fun _ => ?_)
    refine zx_E.pick (k' := 11) (by decide) (fun hn => absurd hn (fun q => absurd (hk.symm.trans q) (by decide))) (fun _ => ?_)
    refine zx_E.pick (k' := 12) (by decide) (fun _ => ?_) (fun hn => absurd hk hn)
    refine zx_E.go 5 (s' := (476, [some (.inr (some (33, 0, 0, 0))), some (.inr (some (0, 0, 0, 0))), some (.inr (some (25, 0, 0, 0))), some (.inl 0)], [.inl 1, .inr (some (33, 0, 0, 0)), .inr (some (0, 0, 0, 0))], (zx_lay zM0, 308))) rfl ?_
    refine zx_E.sld' (k := 1) (v := (-1)) rfl rfl (by omega) (by decide) e1 ?_
    show zx_E _ _ _ (477, [some (.inr (some (33, 0, 0, 0))), some (.inr (some (0, 0, 0, 0))), some (.inr (some (25, 0, 0, 0))), some (.inl 0)], [.inl (-1), .inr (some (0, 0, 0, 0))], (zx_lay zM0, 308)) _
    refine zx_E.call1 (y := 105) (as := [.inr (some (0, 0, 0, 0)), .inl (-1)]) (rest := []) (v := .inl 0) (μ' := (zx_lay zM0, 308)) rfl (zx_run_of zc_X10_order [some (.inr (some (0, 0, 0, 0))), some (.inl (-1))] rfl rfl (by
      refine zx_E.go 2 (s' := (4, [some (.inr (some (0, 0, 0, 0))), some (.inl (-1))], [.inr (some (1, 0, 0, 0))], (zx_lay zM0, 308))) rfl ?_
      refine zx_E.call0 (y := 29) (as := [.inr (some (1, 0, 0, 0))]) (rest := []) (μ' := (zx_lay zM0, 308)) rfl (zx_run_of zc_X2_rank [some (.inr (some (1, 0, 0, 0))), none, none] rfl rfl (by
        refine zx_E.go 2 (s' := (2, [some (.inr (some (1, 0, 0, 0))), none, none], [.inl 0, .inr (some (1, 0, 0, 0))], (zx_lay zM0, 308))) rfl ?_
        refine zx_E.putS (h := (1, 0, 0, 0)) (b := 11) rfl rfl (fun h => absurd h (by decide)) rfl ?_
        show zx_E _ _ _ (5, [some (.inr (some (1, 0, 0, 0))), none, none], [], (zx_lay zM0, 308)) _
        refine zx_E.go 5 (s' := (12, [some (.inr (some (1, 0, 0, 0))), some (.inl 0), none], [.inl 0, .inl 0], (zx_lay zM0, 308))) rfl ?_
        refine zx_E.bt (c := 0 ≤ 0) (s1 := (109, [some (.inr (some (1, 0, 0, 0))), some (.inl 0), none], [], (zx_lay zM0, 308))) (s2 := (15, [some (.inr (some (1, 0, 0, 0))), some (.inl 0), none], [], (zx_lay zM0, 308))) rfl (by decide) ?_
        exact zx_E.ret rfl)) ?_
      show zx_E _ _ _ (7, [some (.inr (some (0, 0, 0, 0))), some (.inl (-1))], [], (zx_lay zM0, 308)) _
      refine zx_E.go 2 (s' := (9, [some (.inr (some (0, 0, 0, 0))), some (.inl (-1))], [.inl (-1), .inl (-1)], (zx_lay zM0, 308))) rfl ?_
      refine zx_E.bt (c := (-1) = (-1)) (s1 := (12, [some (.inr (some (0, 0, 0, 0))), some (.inl (-1))], [], (zx_lay zM0, 308))) (s2 := (20, [some (.inr (some (0, 0, 0, 0))), some (.inl (-1))], [], (zx_lay zM0, 308))) rfl (by decide) ?_
      refine zx_E.go 3 (s' := (19, [some (.inr (some (0, 0, 0, 0))), some (.inl (-1))], [.inl 0], (zx_lay zM0, 308))) rfl ?_
      exact zx_E.iret rfl (fun h => absurd h (by decide)) rfl)) ?_
    show zx_E _ _ _ (480, [some (.inr (some (33, 0, 0, 0))), some (.inr (some (0, 0, 0, 0))), some (.inr (some (25, 0, 0, 0))), some (.inl 0)], [.inl 0], (zx_lay zM0, 308)) _
    refine zx_E.go 5 (s' := (485, [some (.inr (some (33, 0, 0, 0))), some (.inr (some (0, 0, 0, 0))), some (.inr (some (25, 0, 0, 0))), some (.inl 0)], [.inl 1, .inr (some (33, 0, 0, 0)), .inr (some (25, 0, 0, 0)), .inl 0], (zx_lay zM0, 308))) rfl ?_
    refine zx_E.sld' (k := 1) (v := (-1)) rfl rfl (by omega) (by decide) e1 ?_
    show zx_E _ _ _ (486, [some (.inr (some (33, 0, 0, 0))), some (.inr (some (0, 0, 0, 0))), some (.inr (some (25, 0, 0, 0))), some (.inl 0)], [.inl (-1), .inr (some (25, 0, 0, 0)), .inl 0], (zx_lay zM0, 308)) _
    refine zx_E.call1 (y := 142) (as := [.inr (some (25, 0, 0, 0)), .inl (-1)]) (rest := [.inl 0]) (v := .inl 0) (μ' := (zx_lay zM0, 308)) rfl (zx_run_of zc_X11_order [some (.inr (some (25, 0, 0, 0))), some (.inl (-1))] rfl rfl (by
      refine zx_E.go 1 (s' := (1, [some (.inr (some (25, 0, 0, 0))), some (.inl (-1))], [.inr (some (25, 0, 0, 0))], (zx_lay zM0, 308))) rfl ?_
      refine zx_E.call0 (y := 141) (as := [.inr (some (25, 0, 0, 0))]) (rest := []) (μ' := (zx_lay zM0, 308)) rfl (zx_run_of zc_X11_sortTrains [some (.inr (some (25, 0, 0, 0))), none, none] rfl rfl (by
        refine zx_E.go 2 (s' := (2, [some (.inr (some (25, 0, 0, 0))), none, none], [.inl 0, .inr (some (25, 0, 0, 0))], (zx_lay zM0, 308))) rfl ?_
        refine zx_E.putS (h := (25, 0, 0, 0)) (b := 2) rfl rfl (fun h => absurd h (by decide)) rfl ?_
        show zx_E _ _ _ (5, [some (.inr (some (25, 0, 0, 0))), none, none], [], (zx_lay zM0, 308)) _
        refine zx_E.go 6 (s' := (14, [some (.inr (some (25, 0, 0, 0))), some (.inl 0), none], [.inl 27, .inr (some (26, 0, 0, 0)), .inl 0], (zx_lay zM0, 308))) rfl ?_
        refine zx_E.iald' (k := 27) (h := (26, 0, 0, 0)) (v := 0) rfl rfl rfl (by decide) rfl ?_
        show zx_E _ _ _ (15, [some (.inr (some (25, 0, 0, 0))), some (.inl 0), none], [.inl 0, .inl 0], (zx_lay zM0, 308)) _
        refine zx_E.bt (c := 0 ≤ 0) (s1 := (96, [some (.inr (some (25, 0, 0, 0))), some (.inl 0), none], [], (zx_lay zM0, 308))) (s2 := (18, [some (.inr (some (25, 0, 0, 0))), some (.inl 0), none], [], (zx_lay zM0, 308))) rfl (by decide) ?_
        exact zx_E.ret rfl)) ?_
      show zx_E _ _ _ (4, [some (.inr (some (25, 0, 0, 0))), some (.inl (-1))], [], (zx_lay zM0, 308)) _
      refine zx_E.go 2 (s' := (6, [some (.inr (some (25, 0, 0, 0))), some (.inl (-1))], [.inl (-1), .inl (-1)], (zx_lay zM0, 308))) rfl ?_
      refine zx_E.bt (c := (-1) = (-1)) (s1 := (9, [some (.inr (some (25, 0, 0, 0))), some (.inl (-1))], [], (zx_lay zM0, 308))) (s2 := (16, [some (.inr (some (25, 0, 0, 0))), some (.inl (-1))], [], (zx_lay zM0, 308))) rfl (by decide) ?_
      refine zx_E.go 3 (s' := (40, [some (.inr (some (25, 0, 0, 0))), some (.inl (-1))], [.inl 0], (zx_lay zM0, 308))) rfl ?_
      exact zx_E.iret rfl (fun h => absurd h (by decide)) rfl)) ?_
    show zx_E _ _ _ (489, [some (.inr (some (33, 0, 0, 0))), some (.inr (some (0, 0, 0, 0))), some (.inr (some (25, 0, 0, 0))), some (.inl 0)], [.inl 0, .inl 0], (zx_lay zM0, 308)) _
    refine zx_E.bt (c := 0 = 0) (s1 := (734, [some (.inr (some (33, 0, 0, 0))), some (.inr (some (0, 0, 0, 0))), some (.inr (some (25, 0, 0, 0))), some (.inl 0)], [], (zx_lay zM0, 308))) (s2 := (492, [some (.inr (some (33, 0, 0, 0))), some (.inr (some (0, 0, 0, 0))), some (.inr (some (25, 0, 0, 0))), some (.inl 0)], [], (zx_lay zM0, 308))) rfl (by decide) ?_
    refine zx_E.go 6 (s' := (23, [some (.inr (some (33, 0, 0, 0))), some (.inr (some (0, 0, 0, 0))), some (.inr (some (25, 0, 0, 0))), some (.inl 7)], [.inl 7, .inl 7, .inl 7], (zx_lay zM0, 308))) rfl ?_
    refine zx_E.go 1 (s' := (24, [some (.inr (some (33, 0, 0, 0))), some (.inr (some (0, 0, 0, 0))), some (.inr (some (25, 0, 0, 0))), some (.inl 7)], [.inl 0, .inl 7], (zx_lay zM0, 308))) rfl ?_
    refine zx_E.bt (c := 0 < 7) (s1 := (740, [some (.inr (some (33, 0, 0, 0))), some (.inr (some (0, 0, 0, 0))), some (.inr (some (25, 0, 0, 0))), some (.inl 7)], [], (zx_lay zM0, 308))) (s2 := (27, [some (.inr (some (33, 0, 0, 0))), some (.inr (some (0, 0, 0, 0))), some (.inr (some (25, 0, 0, 0))), some (.inl 7)], [], (zx_lay zM0, 308))) rfl (by decide) ?_
    refine zx_E.go 1 (s' := (741, [some (.inr (some (33, 0, 0, 0))), some (.inr (some (0, 0, 0, 0))), some (.inr (some (25, 0, 0, 0))), some (.inl 7)], [.inl 1], (zx_lay zM0, 308))) rfl ?_
    exact zx_E.iret rfl (fun _ => Or.inr rfl) rfl
  · skip
    by_cases h2 : a1 < 0
    · skip
      refine ⟨(zx_lay zM0, 308), Nat.le_refl _, ?_⟩
      refine zx_E.go 4 (s' := (23, [some (.inr (some (33, 0, 0, 0))), some (.inr (some (0, 0, 0, 0))), some (.inr (some (25, 0, 0, 0))), some (.inl 0)], [.inl 7, .inl 7, .inl 0], (zx_lay zM0, 308))) rfl ?_
      refine zx_E.go 1 (s' := (24, [some (.inr (some (33, 0, 0, 0))), some (.inr (some (0, 0, 0, 0))), some (.inr (some (25, 0, 0, 0))), some (.inl 0)], [.inl 0, .inl 0], (zx_lay zM0, 308))) rfl ?_
      refine zx_E.bf (c := 0 < 0) (s1 := (740, [some (.inr (some (33, 0, 0, 0))), some (.inr (some (0, 0, 0, 0))), some (.inr (some (25, 0, 0, 0))), some (.inl 0)], [], (zx_lay zM0, 308))) (s2 := (27, [some (.inr (some (33, 0, 0, 0))), some (.inr (some (0, 0, 0, 0))), some (.inr (some (25, 0, 0, 0))), some (.inl 0)], [], (zx_lay zM0, 308))) rfl (by decide) ?_
      refine zx_E.go 2 (s' := (29, [some (.inr (some (33, 0, 0, 0))), some (.inr (some (0, 0, 0, 0))), some (.inr (some (25, 0, 0, 0))), some (.inl 0)], [.inl 0, .inr (some (33, 0, 0, 0))], (zx_lay zM0, 308))) rfl ?_
      refine zx_E.sld' (k := 0) (v := a0) rfl rfl (by omega) (by decide) e0 ?_
      show zx_E _ _ _ (30, [some (.inr (some (33, 0, 0, 0))), some (.inr (some (0, 0, 0, 0))), some (.inr (some (25, 0, 0, 0))), some (.inl 0)], [.inl a0], (zx_lay zM0, 308)) _
      refine zx_E.go 2 (s' := (33, [some (.inr (some (33, 0, 0, 0))), some (.inr (some (0, 0, 0, 0))), some (.inr (some (25, 0, 0, 0))), some (.inl 0)], [.inl (a0 &&& 31)], (zx_lay zM0, 308))) rfl ?_
      refine zx_E.one (s' := (zx_pick (a0 &&& 31) 0 [136, 211, 224, 247, 270, 293, 316, 339, 372, 405, 438, 471, 494, 517, 560, 573, 606, 639, 652, 685, 698, 711] 734, [some (.inr (some (33, 0, 0, 0))), some (.inr (some (0, 0, 0, 0))), some (.inr (some (25, 0, 0, 0))), some (.inl 0)], [], (zx_lay zM0, 308))) rfl ?_
      refine zx_E.pick (k' := 1) (by decide) (fun hn => absurd hn (fun q => absurd (hk.symm.trans q) (by decide))) (fun _ => ?_)
      refine zx_E.pick (k' := 2) (by decide) (fun hn => absurd hn (fun q => absurd (hk.symm.trans q) (by decide))) (fun _ => ?_)
      refine zx_E.pick (k' := 3) (by decide) (fun hn => absurd hn (fun q => absurd (hk.symm.trans q) (by decide))) (fun _ => ?_)
      refine zx_E.pick (k' := 4) (by decide) (fun hn => absurd hn (fun q => absurd (hk.symm.trans q) (by decide))) (fun _ => ?_)
      refine zx_E.pick (k' := 5) (by decide) (fun hn => absurd hn (fun q => absurd (hk.symm.trans q) (by decide))) (fun _ => ?_)
      refine zx_E.pick (k' := 6) (by decide) (fun hn => absurd hn (fun q => absurd (hk.symm.trans q) (by decide))) (fun _ => ?_)
      refine zx_E.pick (k' := 7) (by decide) (fun hn => absurd hn (fun q => absurd (hk.symm.trans q) (by decide))) (fun _ => ?_)
      refine zx_E.pick (k' := 8) (by decide) (fun hn => absurd hn (fun q => absurd (hk.symm.trans q) (by decide))) (fun _ => ?_)
      refine zx_E.pick (k' := 9) (by decide) (fun hn => absurd hn (fun q => absurd (hk.symm.trans q) (by decide))) (fun _ => ?_)
      refine zx_E.pick (k' := 10) (by decide) (fun hn => absurd hn (fun q => absurd (hk.symm.trans q) (by decide))) (fun _ => ?_)
      refine zx_E.pick (k' := 11) (by decide) (fun hn => absurd hn (fun q => absurd (hk.symm.trans q) (by decide))) (fun _ => ?_)
      refine zx_E.pick (k' := 12) (by decide) (fun _ => ?_) (fun hn => absurd hk hn)
      refine zx_E.go 5 (s' := (476, [some (.inr (some (33, 0, 0, 0))), some (.inr (some (0, 0, 0, 0))), some (.inr (some (25, 0, 0, 0))), some (.inl 0)], [.inl 1, .inr (some (33, 0, 0, 0)), .inr (some (0, 0, 0, 0))], (zx_lay zM0, 308))) rfl ?_
      refine zx_E.sld' (k := 1) (v := a1) rfl rfl (by omega) (by decide) e1 ?_
      show zx_E _ _ _ (477, [some (.inr (some (33, 0, 0, 0))), some (.inr (some (0, 0, 0, 0))), some (.inr (some (25, 0, 0, 0))), some (.inl 0)], [.inl a1, .inr (some (0, 0, 0, 0))], (zx_lay zM0, 308)) _
      refine zx_E.call1 (y := 105) (as := [.inr (some (0, 0, 0, 0)), .inl a1]) (rest := []) (v := .inl (-1)) (μ' := (zx_lay zM0, 308)) rfl (zx_run_of zc_X10_order [some (.inr (some (0, 0, 0, 0))), some (.inl a1)] rfl rfl (by
        refine zx_E.go 2 (s' := (4, [some (.inr (some (0, 0, 0, 0))), some (.inl a1)], [.inr (some (1, 0, 0, 0))], (zx_lay zM0, 308))) rfl ?_
        refine zx_E.call0 (y := 29) (as := [.inr (some (1, 0, 0, 0))]) (rest := []) (μ' := (zx_lay zM0, 308)) rfl (zx_run_of zc_X2_rank [some (.inr (some (1, 0, 0, 0))), none, none] rfl rfl (by
          refine zx_E.go 2 (s' := (2, [some (.inr (some (1, 0, 0, 0))), none, none], [.inl 0, .inr (some (1, 0, 0, 0))], (zx_lay zM0, 308))) rfl ?_
          refine zx_E.putS (h := (1, 0, 0, 0)) (b := 11) rfl rfl (fun h => absurd h (by decide)) rfl ?_
          show zx_E _ _ _ (5, [some (.inr (some (1, 0, 0, 0))), none, none], [], (zx_lay zM0, 308)) _
          refine zx_E.go 5 (s' := (12, [some (.inr (some (1, 0, 0, 0))), some (.inl 0), none], [.inl 0, .inl 0], (zx_lay zM0, 308))) rfl ?_
          refine zx_E.bt (c := 0 ≤ 0) (s1 := (109, [some (.inr (some (1, 0, 0, 0))), some (.inl 0), none], [], (zx_lay zM0, 308))) (s2 := (15, [some (.inr (some (1, 0, 0, 0))), some (.inl 0), none], [], (zx_lay zM0, 308))) rfl (by decide) ?_
          exact zx_E.ret rfl)) ?_
        show zx_E _ _ _ (7, [some (.inr (some (0, 0, 0, 0))), some (.inl a1)], [], (zx_lay zM0, 308)) _
        refine zx_E.go 2 (s' := (9, [some (.inr (some (0, 0, 0, 0))), some (.inl a1)], [.inl (-1), .inl a1], (zx_lay zM0, 308))) rfl ?_
        refine zx_E.bf (c := a1 = (-1)) (s1 := (12, [some (.inr (some (0, 0, 0, 0))), some (.inl a1)], [], (zx_lay zM0, 308))) (s2 := (20, [some (.inr (some (0, 0, 0, 0))), some (.inl a1)], [], (zx_lay zM0, 308))) rfl h1 ?_
        refine zx_E.go 1 (s' := (21, [some (.inr (some (0, 0, 0, 0))), some (.inl a1)], [.inl a1], (zx_lay zM0, 308))) rfl ?_
        refine zx_E.bt (c := a1 < 0) (s1 := (35, [some (.inr (some (0, 0, 0, 0))), some (.inl a1)], [], (zx_lay zM0, 308))) (s2 := (24, [some (.inr (some (0, 0, 0, 0))), some (.inl a1)], [], (zx_lay zM0, 308))) rfl h2 ?_
        refine zx_E.go 1 (s' := (36, [some (.inr (some (0, 0, 0, 0))), some (.inl a1)], [.inl (-1)], (zx_lay zM0, 308))) rfl ?_
        exact zx_E.iret rfl (fun h => absurd h (by decide)) rfl)) ?_
      show zx_E _ _ _ (480, [some (.inr (some (33, 0, 0, 0))), some (.inr (some (0, 0, 0, 0))), some (.inr (some (25, 0, 0, 0))), some (.inl 0)], [.inl (-1)], (zx_lay zM0, 308)) _
      refine zx_E.go 5 (s' := (485, [some (.inr (some (33, 0, 0, 0))), some (.inr (some (0, 0, 0, 0))), some (.inr (some (25, 0, 0, 0))), some (.inl 0)], [.inl 1, .inr (some (33, 0, 0, 0)), .inr (some (25, 0, 0, 0)), .inl (-1)], (zx_lay zM0, 308))) rfl ?_
      refine zx_E.sld' (k := 1) (v := a1) rfl rfl (by omega) (by decide) e1 ?_
      show zx_E _ _ _ (486, [some (.inr (some (33, 0, 0, 0))), some (.inr (some (0, 0, 0, 0))), some (.inr (some (25, 0, 0, 0))), some (.inl 0)], [.inl a1, .inr (some (25, 0, 0, 0)), .inl (-1)], (zx_lay zM0, 308)) _
      refine zx_E.call1 (y := 142) (as := [.inr (some (25, 0, 0, 0)), .inl a1]) (rest := [.inl (-1)]) (v := .inl (-1)) (μ' := (zx_lay zM0, 308)) rfl (zx_run_of zc_X11_order [some (.inr (some (25, 0, 0, 0))), some (.inl a1)] rfl rfl (by
        refine zx_E.go 1 (s' := (1, [some (.inr (some (25, 0, 0, 0))), some (.inl a1)], [.inr (some (25, 0, 0, 0))], (zx_lay zM0, 308))) rfl ?_
        refine zx_E.call0 (y := 141) (as := [.inr (some (25, 0, 0, 0))]) (rest := []) (μ' := (zx_lay zM0, 308)) rfl (zx_run_of zc_X11_sortTrains [some (.inr (some (25, 0, 0, 0))), none, none] rfl rfl (by
          refine zx_E.go 2 (s' := (2, [some (.inr (some (25, 0, 0, 0))), none, none], [.inl 0, .inr (some (25, 0, 0, 0))], (zx_lay zM0, 308))) rfl ?_
          refine zx_E.putS (h := (25, 0, 0, 0)) (b := 2) rfl rfl (fun h => absurd h (by decide)) rfl ?_
          show zx_E _ _ _ (5, [some (.inr (some (25, 0, 0, 0))), none, none], [], (zx_lay zM0, 308)) _
          refine zx_E.go 6 (s' := (14, [some (.inr (some (25, 0, 0, 0))), some (.inl 0), none], [.inl 27, .inr (some (26, 0, 0, 0)), .inl 0], (zx_lay zM0, 308))) rfl ?_
          refine zx_E.iald' (k := 27) (h := (26, 0, 0, 0)) (v := 0) rfl rfl rfl (by decide) rfl ?_
          show zx_E _ _ _ (15, [some (.inr (some (25, 0, 0, 0))), some (.inl 0), none], [.inl 0, .inl 0], (zx_lay zM0, 308)) _
          refine zx_E.bt (c := 0 ≤ 0) (s1 := (96, [some (.inr (some (25, 0, 0, 0))), some (.inl 0), none], [], (zx_lay zM0, 308))) (s2 := (18, [some (.inr (some (25, 0, 0, 0))), some (.inl 0), none], [], (zx_lay zM0, 308))) rfl (by decide) ?_
          exact zx_E.ret rfl)) ?_
        show zx_E _ _ _ (4, [some (.inr (some (25, 0, 0, 0))), some (.inl a1)], [], (zx_lay zM0, 308)) _
        refine zx_E.go 2 (s' := (6, [some (.inr (some (25, 0, 0, 0))), some (.inl a1)], [.inl (-1), .inl a1], (zx_lay zM0, 308))) rfl ?_
        refine zx_E.bf (c := a1 = (-1)) (s1 := (9, [some (.inr (some (25, 0, 0, 0))), some (.inl a1)], [], (zx_lay zM0, 308))) (s2 := (16, [some (.inr (some (25, 0, 0, 0))), some (.inl a1)], [], (zx_lay zM0, 308))) rfl h1 ?_
        refine zx_E.go 5 (s' := (23, [some (.inr (some (25, 0, 0, 0))), some (.inl a1)], [.inl 1, .inl 0, .inl 0, .inl a1], (zx_lay zM0, 308))) rfl ?_
        refine zx_E.go 1 (s' := (24, [some (.inr (some (25, 0, 0, 0))), some (.inl a1)], [.inl (-1), .inl 0, .inl a1], (zx_lay zM0, 308))) rfl ?_
        refine zx_E.call1 (y := 121) (as := [.inl a1, .inl 0, .inl (-1)]) (rest := []) (v := .inl 0) (μ' := (zx_lay zM0, 308)) rfl (zx_run_of zc_X11_isIn [some (.inl a1), some (.inl 0), some (.inl (-1))] rfl rfl (by
          refine zx_E.go 2 (s' := (2, [some (.inl a1), some (.inl 0), some (.inl (-1))], [.inl 0, .inl a1], (zx_lay zM0, 308))) rfl ?_
          refine zx_E.bt (c := a1 < 0) (s1 := (14, [some (.inl a1), some (.inl 0), some (.inl (-1))], [], (zx_lay zM0, 308))) (s2 := (5, [some (.inl a1), some (.inl 0), some (.inl (-1))], [], (zx_lay zM0, 308))) rfl h2 ?_
          refine zx_E.go 1 (s' := (15, [some (.inl a1), some (.inl 0), some (.inl (-1))], [.inl 0], (zx_lay zM0, 308))) rfl ?_
          exact zx_E.iret rfl (fun _ => Or.inl rfl) rfl)) ?_
        show zx_E _ _ _ (27, [some (.inr (some (25, 0, 0, 0))), some (.inl a1)], [.inl 0], (zx_lay zM0, 308)) _
        refine zx_E.bt (c := 0 = 0) (s1 := (39, [some (.inr (some (25, 0, 0, 0))), some (.inl a1)], [], (zx_lay zM0, 308))) (s2 := (30, [some (.inr (some (25, 0, 0, 0))), some (.inl a1)], [], (zx_lay zM0, 308))) rfl (by decide) ?_
        refine zx_E.go 1 (s' := (40, [some (.inr (some (25, 0, 0, 0))), some (.inl a1)], [.inl (-1)], (zx_lay zM0, 308))) rfl ?_
        exact zx_E.iret rfl (fun h => absurd h (by decide)) rfl)) ?_
      show zx_E _ _ _ (489, [some (.inr (some (33, 0, 0, 0))), some (.inr (some (0, 0, 0, 0))), some (.inr (some (25, 0, 0, 0))), some (.inl 0)], [.inl (-1), .inl (-1)], (zx_lay zM0, 308)) _
      refine zx_E.bt (c := (-1) = (-1)) (s1 := (734, [some (.inr (some (33, 0, 0, 0))), some (.inr (some (0, 0, 0, 0))), some (.inr (some (25, 0, 0, 0))), some (.inl 0)], [], (zx_lay zM0, 308))) (s2 := (492, [some (.inr (some (33, 0, 0, 0))), some (.inr (some (0, 0, 0, 0))), some (.inr (some (25, 0, 0, 0))), some (.inl 0)], [], (zx_lay zM0, 308))) rfl (by decide) ?_
      refine zx_E.go 6 (s' := (23, [some (.inr (some (33, 0, 0, 0))), some (.inr (some (0, 0, 0, 0))), some (.inr (some (25, 0, 0, 0))), some (.inl 7)], [.inl 7, .inl 7, .inl 7], (zx_lay zM0, 308))) rfl ?_
      refine zx_E.go 1 (s' := (24, [some (.inr (some (33, 0, 0, 0))), some (.inr (some (0, 0, 0, 0))), some (.inr (some (25, 0, 0, 0))), some (.inl 7)], [.inl 0, .inl 7], (zx_lay zM0, 308))) rfl ?_
      refine zx_E.bt (c := 0 < 7) (s1 := (740, [some (.inr (some (33, 0, 0, 0))), some (.inr (some (0, 0, 0, 0))), some (.inr (some (25, 0, 0, 0))), some (.inl 7)], [], (zx_lay zM0, 308))) (s2 := (27, [some (.inr (some (33, 0, 0, 0))), some (.inr (some (0, 0, 0, 0))), some (.inr (some (25, 0, 0, 0))), some (.inl 7)], [], (zx_lay zM0, 308))) rfl (by decide) ?_
      refine zx_E.go 1 (s' := (741, [some (.inr (some (33, 0, 0, 0))), some (.inr (some (0, 0, 0, 0))), some (.inr (some (25, 0, 0, 0))), some (.inl 7)], [.inl 1], (zx_lay zM0, 308))) rfl ?_
      exact zx_E.iret rfl (fun _ => Or.inr rfl) rfl
    · skip
      refine ⟨(zx_lay zM0, 308), Nat.le_refl _, ?_⟩
      refine zx_E.go 4 (s' := (23, [some (.inr (some (33, 0, 0, 0))), some (.inr (some (0, 0, 0, 0))), some (.inr (some (25, 0, 0, 0))), some (.inl 0)], [.inl 7, .inl 7, .inl 0], (zx_lay zM0, 308))) rfl ?_
      refine zx_E.go 1 (s' := (24, [some (.inr (some (33, 0, 0, 0))), some (.inr (some (0, 0, 0, 0))), some (.inr (some (25, 0, 0, 0))), some (.inl 0)], [.inl 0, .inl 0], (zx_lay zM0, 308))) rfl ?_
      refine zx_E.bf (c := 0 < 0) (s1 := (740, [some (.inr (some (33, 0, 0, 0))), some (.inr (some (0, 0, 0, 0))), some (.inr (some (25, 0, 0, 0))), some (.inl 0)], [], (zx_lay zM0, 308))) (s2 := (27, [some (.inr (some (33, 0, 0, 0))), some (.inr (some (0, 0, 0, 0))), some (.inr (some (25, 0, 0, 0))), some (.inl 0)], [], (zx_lay zM0, 308))) rfl (by decide) ?_
      refine zx_E.go 2 (s' := (29, [some (.inr (some (33, 0, 0, 0))), some (.inr (some (0, 0, 0, 0))), some (.inr (some (25, 0, 0, 0))), some (.inl 0)], [.inl 0, .inr (some (33, 0, 0, 0))], (zx_lay zM0, 308))) rfl ?_
      refine zx_E.sld' (k := 0) (v := a0) rfl rfl (by omega) (by decide) e0 ?_
      show zx_E _ _ _ (30, [some (.inr (some (33, 0, 0, 0))), some (.inr (some (0, 0, 0, 0))), some (.inr (some (25, 0, 0, 0))), some (.inl 0)], [.inl a0], (zx_lay zM0, 308)) _
      refine zx_E.go 2 (s' := (33, [some (.inr (some (33, 0, 0, 0))), some (.inr (some (0, 0, 0, 0))), some (.inr (some (25, 0, 0, 0))), some (.inl 0)], [.inl (a0 &&& 31)], (zx_lay zM0, 308))) rfl ?_
      refine zx_E.one (s' := (zx_pick (a0 &&& 31) 0 [136, 211, 224, 247, 270, 293, 316, 339, 372, 405, 438, 471, 494, 517, 560, 573, 606, 639, 652, 685, 698, 711] 734, [some (.inr (some (33, 0, 0, 0))), some (.inr (some (0, 0, 0, 0))), some (.inr (some (25, 0, 0, 0))), some (.inl 0)], [], (zx_lay zM0, 308))) rfl ?_
      refine zx_E.pick (k' := 1) (by decide) (fun hn => absurd hn (fun q => absurd (hk.symm.trans q) (by decide))) (fun _ => ?_)
      refine zx_E.pick (k' := 2) (by decide) (fun hn => absurd hn (fun q => absurd (hk.symm.trans q) (by decide))) (fun _ => ?_)
      refine zx_E.pick (k' := 3) (by decide) (fun hn => absurd hn (fun q => absurd (hk.symm.trans q) (by decide))) (fun _ => ?_)
      refine zx_E.pick (k' := 4) (by decide) (fun hn => absurd hn (fun q => absurd (hk.symm.trans q) (by decide))) (fun _ => ?_)
      refine zx_E.pick (k' := 5) (by decide) (fun hn => absurd hn (fun q => absurd (hk.symm.trans q) (by decide))) (fun _ => ?_)
      refine zx_E.pick (k' := 6) (by decide) (fun hn => absurd hn (fun q => absurd (hk.symm.trans q) (by decide))) (fun _ => ?_)
      refine zx_E.pick (k' := 7) (by decide) (fun hn => absurd hn (fun q => absurd (hk.symm.trans q) (by decide))) (fun _ => ?_)
      refine zx_E.pick (k' := 8) (by decide) (fun hn => absurd hn (fun q => absurd (hk.symm.trans q) (by decide))) (fun _ => ?_)
      refine zx_E.pick (k' := 9) (by decide) (fun hn => absurd hn (fun q => absurd (hk.symm.trans q) (by decide))) (fun _ => ?_)
      refine zx_E.pick (k' := 10) (by decide) (fun hn => absurd hn (fun q => absurd (hk.symm.trans q) (by decide))) (fun _ => ?_)
      refine zx_E.pick (k' := 11) (by decide) (fun hn => absurd hn (fun q => absurd (hk.symm.trans q) (by decide))) (fun _ => ?_)
      refine zx_E.pick (k' := 12) (by decide) (fun _ => ?_) (fun hn => absurd hk hn)
      refine zx_E.go 5 (s' := (476, [some (.inr (some (33, 0, 0, 0))), some (.inr (some (0, 0, 0, 0))), some (.inr (some (25, 0, 0, 0))), some (.inl 0)], [.inl 1, .inr (some (33, 0, 0, 0)), .inr (some (0, 0, 0, 0))], (zx_lay zM0, 308))) rfl ?_
      refine zx_E.sld' (k := 1) (v := a1) rfl rfl (by omega) (by decide) e1 ?_
      show zx_E _ _ _ (477, [some (.inr (some (33, 0, 0, 0))), some (.inr (some (0, 0, 0, 0))), some (.inr (some (25, 0, 0, 0))), some (.inl 0)], [.inl a1, .inr (some (0, 0, 0, 0))], (zx_lay zM0, 308)) _
      refine zx_E.call1 (y := 105) (as := [.inr (some (0, 0, 0, 0)), .inl a1]) (rest := []) (v := .inl (-1)) (μ' := (zx_lay zM0, 308)) rfl (zx_run_of zc_X10_order [some (.inr (some (0, 0, 0, 0))), some (.inl a1)] rfl rfl (by
        refine zx_E.go 2 (s' := (4, [some (.inr (some (0, 0, 0, 0))), some (.inl a1)], [.inr (some (1, 0, 0, 0))], (zx_lay zM0, 308))) rfl ?_
        refine zx_E.call0 (y := 29) (as := [.inr (some (1, 0, 0, 0))]) (rest := []) (μ' := (zx_lay zM0, 308)) rfl (zx_run_of zc_X2_rank [some (.inr (some (1, 0, 0, 0))), none, none] rfl rfl (by
          refine zx_E.go 2 (s' := (2, [some (.inr (some (1, 0, 0, 0))), none, none], [.inl 0, .inr (some (1, 0, 0, 0))], (zx_lay zM0, 308))) rfl ?_
          refine zx_E.putS (h := (1, 0, 0, 0)) (b := 11) rfl rfl (fun h => absurd h (by decide)) rfl ?_
          show zx_E _ _ _ (5, [some (.inr (some (1, 0, 0, 0))), none, none], [], (zx_lay zM0, 308)) _
          refine zx_E.go 5 (s' := (12, [some (.inr (some (1, 0, 0, 0))), some (.inl 0), none], [.inl 0, .inl 0], (zx_lay zM0, 308))) rfl ?_
          refine zx_E.bt (c := 0 ≤ 0) (s1 := (109, [some (.inr (some (1, 0, 0, 0))), some (.inl 0), none], [], (zx_lay zM0, 308))) (s2 := (15, [some (.inr (some (1, 0, 0, 0))), some (.inl 0), none], [], (zx_lay zM0, 308))) rfl (by decide) ?_
          exact zx_E.ret rfl)) ?_
        show zx_E _ _ _ (7, [some (.inr (some (0, 0, 0, 0))), some (.inl a1)], [], (zx_lay zM0, 308)) _
        refine zx_E.go 2 (s' := (9, [some (.inr (some (0, 0, 0, 0))), some (.inl a1)], [.inl (-1), .inl a1], (zx_lay zM0, 308))) rfl ?_
        refine zx_E.bf (c := a1 = (-1)) (s1 := (12, [some (.inr (some (0, 0, 0, 0))), some (.inl a1)], [], (zx_lay zM0, 308))) (s2 := (20, [some (.inr (some (0, 0, 0, 0))), some (.inl a1)], [], (zx_lay zM0, 308))) rfl h1 ?_
        refine zx_E.go 1 (s' := (21, [some (.inr (some (0, 0, 0, 0))), some (.inl a1)], [.inl a1], (zx_lay zM0, 308))) rfl ?_
        refine zx_E.bf (c := a1 < 0) (s1 := (35, [some (.inr (some (0, 0, 0, 0))), some (.inl a1)], [], (zx_lay zM0, 308))) (s2 := (24, [some (.inr (some (0, 0, 0, 0))), some (.inl a1)], [], (zx_lay zM0, 308))) rfl h2 ?_
        refine zx_E.go 4 (s' := (32, [some (.inr (some (0, 0, 0, 0))), some (.inl a1)], [.inl 0, .inl a1], (zx_lay zM0, 308))) rfl ?_
        refine zx_E.bf (c := a1 < 0) (s1 := (37, [some (.inr (some (0, 0, 0, 0))), some (.inl a1)], [], (zx_lay zM0, 308))) (s2 := (35, [some (.inr (some (0, 0, 0, 0))), some (.inl a1)], [], (zx_lay zM0, 308))) rfl h2 ?_
        refine zx_E.go 1 (s' := (36, [some (.inr (some (0, 0, 0, 0))), some (.inl a1)], [.inl (-1)], (zx_lay zM0, 308))) rfl ?_
        exact zx_E.iret rfl (fun h => absurd h (by decide)) rfl)) ?_
      show zx_E _ _ _ (480, [some (.inr (some (33, 0, 0, 0))), some (.inr (some (0, 0, 0, 0))), some (.inr (some (25, 0, 0, 0))), some (.inl 0)], [.inl (-1)], (zx_lay zM0, 308)) _
      refine zx_E.go 5 (s' := (485, [some (.inr (some (33, 0, 0, 0))), some (.inr (some (0, 0, 0, 0))), some (.inr (some (25, 0, 0, 0))), some (.inl 0)], [.inl 1, .inr (some (33, 0, 0, 0)), .inr (some (25, 0, 0, 0)), .inl (-1)], (zx_lay zM0, 308))) rfl ?_
      refine zx_E.sld' (k := 1) (v := a1) rfl rfl (by omega) (by decide) e1 ?_
      show zx_E _ _ _ (486, [some (.inr (some (33, 0, 0, 0))), some (.inr (some (0, 0, 0, 0))), some (.inr (some (25, 0, 0, 0))), some (.inl 0)], [.inl a1, .inr (some (25, 0, 0, 0)), .inl (-1)], (zx_lay zM0, 308)) _
      refine zx_E.call1 (y := 142) (as := [.inr (some (25, 0, 0, 0)), .inl a1]) (rest := [.inl (-1)]) (v := .inl (-1)) (μ' := (zx_lay zM0, 308)) rfl (zx_run_of zc_X11_order [some (.inr (some (25, 0, 0, 0))), some (.inl a1)] rfl rfl (by
        refine zx_E.go 1 (s' := (1, [some (.inr (some (25, 0, 0, 0))), some (.inl a1)], [.inr (some (25, 0, 0, 0))], (zx_lay zM0, 308))) rfl ?_
        refine zx_E.call0 (y := 141) (as := [.inr (some (25, 0, 0, 0))]) (rest := []) (μ' := (zx_lay zM0, 308)) rfl (zx_run_of zc_X11_sortTrains [some (.inr (some (25, 0, 0, 0))), none, none] rfl rfl (by
          refine zx_E.go 2 (s' := (2, [some (.inr (some (25, 0, 0, 0))), none, none], [.inl 0, .inr (some (25, 0, 0, 0))], (zx_lay zM0, 308))) rfl ?_
          refine zx_E.putS (h := (25, 0, 0, 0)) (b := 2) rfl rfl (fun h => absurd h (by decide)) rfl ?_
          show zx_E _ _ _ (5, [some (.inr (some (25, 0, 0, 0))), none, none], [], (zx_lay zM0, 308)) _
          refine zx_E.go 6 (s' := (14, [some (.inr (some (25, 0, 0, 0))), some (.inl 0), none], [.inl 27, .inr (some (26, 0, 0, 0)), .inl 0], (zx_lay zM0, 308))) rfl ?_
          refine zx_E.iald' (k := 27) (h := (26, 0, 0, 0)) (v := 0) rfl rfl rfl (by decide) rfl ?_
          show zx_E _ _ _ (15, [some (.inr (some (25, 0, 0, 0))), some (.inl 0), none], [.inl 0, .inl 0], (zx_lay zM0, 308)) _
          refine zx_E.bt (c := 0 ≤ 0) (s1 := (96, [some (.inr (some (25, 0, 0, 0))), some (.inl 0), none], [], (zx_lay zM0, 308))) (s2 := (18, [some (.inr (some (25, 0, 0, 0))), some (.inl 0), none], [], (zx_lay zM0, 308))) rfl (by decide) ?_
          exact zx_E.ret rfl)) ?_
        show zx_E _ _ _ (4, [some (.inr (some (25, 0, 0, 0))), some (.inl a1)], [], (zx_lay zM0, 308)) _
        refine zx_E.go 2 (s' := (6, [some (.inr (some (25, 0, 0, 0))), some (.inl a1)], [.inl (-1), .inl a1], (zx_lay zM0, 308))) rfl ?_
        refine zx_E.bf (c := a1 = (-1)) (s1 := (9, [some (.inr (some (25, 0, 0, 0))), some (.inl a1)], [], (zx_lay zM0, 308))) (s2 := (16, [some (.inr (some (25, 0, 0, 0))), some (.inl a1)], [], (zx_lay zM0, 308))) rfl h1 ?_
        refine zx_E.go 5 (s' := (23, [some (.inr (some (25, 0, 0, 0))), some (.inl a1)], [.inl 1, .inl 0, .inl 0, .inl a1], (zx_lay zM0, 308))) rfl ?_
        refine zx_E.go 1 (s' := (24, [some (.inr (some (25, 0, 0, 0))), some (.inl a1)], [.inl (-1), .inl 0, .inl a1], (zx_lay zM0, 308))) rfl ?_
        refine zx_E.call1 (y := 121) (as := [.inl a1, .inl 0, .inl (-1)]) (rest := []) (v := .inl 0) (μ' := (zx_lay zM0, 308)) rfl (zx_run_of zc_X11_isIn [some (.inl a1), some (.inl 0), some (.inl (-1))] rfl rfl (by
          refine zx_E.go 2 (s' := (2, [some (.inl a1), some (.inl 0), some (.inl (-1))], [.inl 0, .inl a1], (zx_lay zM0, 308))) rfl ?_
          refine zx_E.bf (c := a1 < 0) (s1 := (14, [some (.inl a1), some (.inl 0), some (.inl (-1))], [], (zx_lay zM0, 308))) (s2 := (5, [some (.inl a1), some (.inl 0), some (.inl (-1))], [], (zx_lay zM0, 308))) rfl h2 ?_
          refine zx_E.go 2 (s' := (7, [some (.inl a1), some (.inl 0), some (.inl (-1))], [.inl (-1), .inl a1], (zx_lay zM0, 308))) rfl ?_
          refine zx_E.bt (c := (-1) < a1) (s1 := (14, [some (.inl a1), some (.inl 0), some (.inl (-1))], [], (zx_lay zM0, 308))) (s2 := (10, [some (.inl a1), some (.inl 0), some (.inl (-1))], [], (zx_lay zM0, 308))) rfl (zx_m1 h2) ?_
          refine zx_E.go 1 (s' := (15, [some (.inl a1), some (.inl 0), some (.inl (-1))], [.inl 0], (zx_lay zM0, 308))) rfl ?_
          exact zx_E.iret rfl (fun _ => Or.inl rfl) rfl)) ?_
        show zx_E _ _ _ (27, [some (.inr (some (25, 0, 0, 0))), some (.inl a1)], [.inl 0], (zx_lay zM0, 308)) _
        refine zx_E.bt (c := 0 = 0) (s1 := (39, [some (.inr (some (25, 0, 0, 0))), some (.inl a1)], [], (zx_lay zM0, 308))) (s2 := (30, [some (.inr (some (25, 0, 0, 0))), some (.inl a1)], [], (zx_lay zM0, 308))) rfl (by decide) ?_
        refine zx_E.go 1 (s' := (40, [some (.inr (some (25, 0, 0, 0))), some (.inl a1)], [.inl (-1)], (zx_lay zM0, 308))) rfl ?_
        exact zx_E.iret rfl (fun h => absurd h (by decide)) rfl)) ?_
      show zx_E _ _ _ (489, [some (.inr (some (33, 0, 0, 0))), some (.inr (some (0, 0, 0, 0))), some (.inr (some (25, 0, 0, 0))), some (.inl 0)], [.inl (-1), .inl (-1)], (zx_lay zM0, 308)) _
      refine zx_E.bt (c := (-1) = (-1)) (s1 := (734, [some (.inr (some (33, 0, 0, 0))), some (.inr (some (0, 0, 0, 0))), some (.inr (some (25, 0, 0, 0))), some (.inl 0)], [], (zx_lay zM0, 308))) (s2 := (492, [some (.inr (some (33, 0, 0, 0))), some (.inr (some (0, 0, 0, 0))), some (.inr (some (25, 0, 0, 0))), some (.inl 0)], [], (zx_lay zM0, 308))) rfl (by decide) ?_
      refine zx_E.go 6 (s' := (23, [some (.inr (some (33, 0, 0, 0))), some (.inr (some (0, 0, 0, 0))), some (.inr (some (25, 0, 0, 0))), some (.inl 7)], [.inl 7, .inl 7, .inl 7], (zx_lay zM0, 308))) rfl ?_
      refine zx_E.go 1 (s' := (24, [some (.inr (some (33, 0, 0, 0))), some (.inr (some (0, 0, 0, 0))), some (.inr (some (25, 0, 0, 0))), some (.inl 7)], [.inl 0, .inl 7], (zx_lay zM0, 308))) rfl ?_
      refine zx_E.bt (c := 0 < 7) (s1 := (740, [some (.inr (some (33, 0, 0, 0))), some (.inr (some (0, 0, 0, 0))), some (.inr (some (25, 0, 0, 0))), some (.inl 7)], [], (zx_lay zM0, 308))) (s2 := (27, [some (.inr (some (33, 0, 0, 0))), some (.inr (some (0, 0, 0, 0))), some (.inr (some (25, 0, 0, 0))), some (.inl 7)], [], (zx_lay zM0, 308))) rfl (by decide) ?_
      refine zx_E.go 1 (s' := (741, [some (.inr (some (33, 0, 0, 0))), some (.inr (some (0, 0, 0, 0))), some (.inr (some (25, 0, 0, 0))), some (.inl 7)], [.inl 1], (zx_lay zM0, 308))) rfl ?_
      exact zx_E.iret rfl (fun _ => Or.inr rfl) rfl
set_option maxRecDepth 100000 in
set_option maxHeartbeats 4000000 in
theorem p1_op_12 {xs : Nat → Int32} {a0 a1 a2 a3 a4 a5 a6 : Int32} (e0 : xs 0 = a0) (e1 : xs 1 = a1) (e2 : xs 2 = a2) (e3 : xs 3 = a3) (e4 : xs 4 = a4) (e5 : xs 5 = a5) (e6 : xs 6 = a6) (hk : (a0 &&& 31) = 12) :
    ∃ μ : zx_M, μ.2 ≤ 308 ∧ zx_E (7, xs) 11 zc_L_law (18, [some (.inr (some (33, 0, 0, 0))), some (.inr (some (0, 0, 0, 0))), some (.inr (some (25, 0, 0, 0))), some (.inl 0)], [], (zx_lay zM0, 308)) (some (.inl 1), μ) := by
  refine ⟨(zx_lay zM0, 308), Nat.le_refl _, ?_⟩
  refine zx_E.go 4 (s' := (23, [some (.inr (some (33, 0, 0, 0))), some (.inr (some (0, 0, 0, 0))), some (.inr (some (25, 0, 0, 0))), some (.inl 0)], [.inl 7, .inl 7, .inl 0], (zx_lay zM0, 308))) rfl ?_
  refine zx_E.go 1 (s' := (24, [some (.inr (some (33, 0, 0, 0))), some (.inr (some (0, 0, 0, 0))), some (.inr (some (25, 0, 0, 0))), some (.inl 0)], [.inl 0, .inl 0], (zx_lay zM0, 308))) rfl ?_
  refine zx_E.bf (c := 0 < 0) (s1 := (740, [some (.inr (some (33, 0, 0, 0))), some (.inr (some (0, 0, 0, 0))), some (.inr (some (25, 0, 0, 0))), some (.inl 0)], [], (zx_lay zM0, 308))) (s2 := (27, [some (.inr (some (33, 0, 0, 0))), some (.inr (some (0, 0, 0, 0))), some (.inr (some (25, 0, 0, 0))), some (.inl 0)], [], (zx_lay zM0, 308))) rfl (by decide) ?_
  refine zx_E.go 2 (s' := (29, [some (.inr (some (33, 0, 0, 0))), some (.inr (some (0, 0, 0, 0))), some (.inr (some (25, 0, 0, 0))), some (.inl 0)], [.inl 0, .inr (some (33, 0, 0, 0))], (zx_lay zM0, 308))) rfl ?_
  refine zx_E.sld' (k := 0) (v := a0) rfl rfl (by omega) (by decide) e0 ?_
  show zx_E _ _ _ (30, [some (.inr (some (33, 0, 0, 0))), some (.inr (some (0, 0, 0, 0))), some (.inr (some (25, 0, 0, 0))), some (.inl 0)], [.inl a0], (zx_lay zM0, 308)) _
  refine zx_E.go 2 (s' := (33, [some (.inr (some (33, 0, 0, 0))), some (.inr (some (0, 0, 0, 0))), some (.inr (some (25, 0, 0, 0))), some (.inl 0)], [.inl (a0 &&& 31)], (zx_lay zM0, 308))) rfl ?_
  refine zx_E.one (s' := (zx_pick (a0 &&& 31) 0 [136, 211, 224, 247, 270, 293, 316, 339, 372, 405, 438, 471, 494, 517, 560, 573, 606, 639, 652, 685, 698, 711] 734, [some (.inr (some (33, 0, 0, 0))), some (.inr (some (0, 0, 0, 0))), some (.inr (some (25, 0, 0, 0))), some (.inl 0)], [], (zx_lay zM0, 308))) rfl ?_
  refine zx_E.pick (k' := 1) (by decide) (fun hn => absurd hn (fun q => absurd (hk.symm.trans q) (by decide))) (fun _ => ?_)
  refine zx_E.pick (k' := 2) (by decide) (fun hn => absurd hn (fun q => absurd (hk.symm.trans q) (by decide))) (fun _ => ?_)
  refine zx_E.pick (k' := 3) (by decide) (fun hn => absurd hn (fun q => absurd (hk.symm.trans q) (by decide))) (fun _ => ?_)
  refine zx_E.pick (k' := 4) (by decide) (fun hn => absurd hn (fun q => absurd (hk.symm.trans q) (by decide))) (fun _ => ?_)
  refine zx_E.pick (k' := 5) (by decide) (fun hn => absurd hn (fun q => absurd (hk.symm.trans q) (by decide))) (fun _ => ?_)
  refine zx_E.pick (k' := 6) (by decide) (fun hn => absurd hn (fun q => absurd (hk.symm.trans q) (by decide))) (fun _ => ?_)
  refine zx_E.pick (k' := 7) (by decide) (fun hn => absurd hn (fun q => absurd (hk.symm.trans q) (by decide))) (fun _ => ?_)
  refine zx_E.pick (k' := 8) (by decide) (fun hn => absurd hn (fun q => absurd (hk.symm.trans q) (by decide))) (fun _ => ?_)
  refine zx_E.pick (k' := 9) (by decide) (fun hn => absurd hn (fun q => absurd (hk.symm.trans q) (by decide))) (fun _ => ?_)
  refine zx_E.pick (k' := 10) (by decide) (fun hn => absurd hn (fun q => absurd (hk.symm.trans q) (by decide))) (fun _ => ?_)
  refine zx_E.pick (k' := 11) (by decide) (fun hn => absurd hn (fun q => absurd (hk.symm.trans q) (by decide))) (fun _ => ?_)
  refine zx_E.pick (k' := 12) (by decide) (fun hn => absurd hn (fun q => absurd (hk.symm.trans q) (by decide))) (fun _ => ?_)
  refine zx_E.pick (k' := 13) (by decide) (fun _ => ?_) (fun hn => absurd hk hn)
  refine zx_E.go 5 (s' := (499, [some (.inr (some (33, 0, 0, 0))), some (.inr (some (0, 0, 0, 0))), some (.inr (some (25, 0, 0, 0))), some (.inl 0)], [.inl 1, .inr (some (33, 0, 0, 0)), .inr (some (0, 0, 0, 0))], (zx_lay zM0, 308))) rfl ?_
  refine zx_E.sld' (k := 1) (v := a1) rfl rfl (by omega) (by decide) e1 ?_
  show zx_E _ _ _ (500, [some (.inr (some (33, 0, 0, 0))), some (.inr (some (0, 0, 0, 0))), some (.inr (some (25, 0, 0, 0))), some (.inl 0)], [.inl a1, .inr (some (0, 0, 0, 0))], (zx_lay zM0, 308)) _
  refine zx_E.call1 (y := 106) (as := [.inr (some (0, 0, 0, 0)), .inl a1]) (rest := []) (v := .inl (-3)) (μ' := (zx_lay zM0, 308)) rfl (zx_run_of zc_X10_plan [some (.inr (some (0, 0, 0, 0))), some (.inl a1)] rfl rfl (by
    refine zx_E.go 2 (s' := (4, [some (.inr (some (0, 0, 0, 0))), some (.inl a1)], [.inr (some (1, 0, 0, 0))], (zx_lay zM0, 308))) rfl ?_
    refine zx_E.call1 (y := 15) (as := [.inr (some (1, 0, 0, 0))]) (rest := []) (v := .inl 0) (μ' := (zx_lay zM0, 308)) rfl (zx_run_of zc_X2_exists [some (.inr (some (1, 0, 0, 0)))] rfl rfl (by
      refine zx_E.go 2 (s' := (4, [some (.inr (some (1, 0, 0, 0)))], [.inl 0], (zx_lay zM0, 308))) rfl ?_
      refine zx_E.bt (c := 0 ≤ 0) (s1 := (11, [some (.inr (some (1, 0, 0, 0)))], [], (zx_lay zM0, 308))) (s2 := (7, [some (.inr (some (1, 0, 0, 0)))], [], (zx_lay zM0, 308))) rfl (by decide) ?_
      refine zx_E.go 1 (s' := (12, [some (.inr (some (1, 0, 0, 0)))], [.inl 0], (zx_lay zM0, 308))) rfl ?_
      exact zx_E.iret rfl (fun _ => Or.inl rfl) rfl)) ?_
    show zx_E _ _ _ (7, [some (.inr (some (0, 0, 0, 0))), some (.inl a1)], [.inl 0], (zx_lay zM0, 308)) _
    refine zx_E.bt (c := 0 = 0) (s1 := (10, [some (.inr (some (0, 0, 0, 0))), some (.inl a1)], [], (zx_lay zM0, 308))) (s2 := (13, [some (.inr (some (0, 0, 0, 0))), some (.inl a1)], [], (zx_lay zM0, 308))) rfl (by decide) ?_
    refine zx_E.go 1 (s' := (12, [some (.inr (some (0, 0, 0, 0))), some (.inl a1)], [.inl (-3)], (zx_lay zM0, 308))) rfl ?_
    exact zx_E.iret rfl (fun h => absurd h (by decide)) rfl)) ?_
  show zx_E _ _ _ (503, [some (.inr (some (33, 0, 0, 0))), some (.inr (some (0, 0, 0, 0))), some (.inr (some (25, 0, 0, 0))), some (.inl 0)], [.inl (-3)], (zx_lay zM0, 308)) _
  refine zx_E.go 5 (s' := (508, [some (.inr (some (33, 0, 0, 0))), some (.inr (some (0, 0, 0, 0))), some (.inr (some (25, 0, 0, 0))), some (.inl 0)], [.inl 1, .inr (some (33, 0, 0, 0)), .inr (some (25, 0, 0, 0)), .inl (-3)], (zx_lay zM0, 308))) rfl ?_
  refine zx_E.sld' (k := 1) (v := a1) rfl rfl (by omega) (by decide) e1 ?_
  show zx_E _ _ _ (509, [some (.inr (some (33, 0, 0, 0))), some (.inr (some (0, 0, 0, 0))), some (.inr (some (25, 0, 0, 0))), some (.inl 0)], [.inl a1, .inr (some (25, 0, 0, 0)), .inl (-3)], (zx_lay zM0, 308)) _
  refine zx_E.call1 (y := 185) (as := [.inr (some (25, 0, 0, 0)), .inl a1]) (rest := [.inl (-3)]) (v := .inl (-3)) (μ' := (zx_lay zM0, 308)) rfl (zx_run_of zc_X11_plan [some (.inr (some (25, 0, 0, 0))), some (.inl a1), none, none, none, none, none] rfl rfl (by
    refine zx_E.go 3 (s' := (5, [some (.inr (some (25, 0, 0, 0))), some (.inl a1), none, none, none, none, none], [.inl 1, .inr (some (26, 0, 0, 0))], (zx_lay zM0, 308))) rfl ?_
    refine zx_E.iald' (k := 1) (h := (26, 0, 0, 0)) (v := 0) rfl rfl rfl (by decide) rfl ?_
    show zx_E _ _ _ (6, [some (.inr (some (25, 0, 0, 0))), some (.inl a1), none, none, none, none, none], [.inl 0], (zx_lay zM0, 308)) _
    refine zx_E.bt (c := 0 = 0) (s1 := (9, [some (.inr (some (25, 0, 0, 0))), some (.inl a1), none, none, none, none, none], [], (zx_lay zM0, 308))) (s2 := (12, [some (.inr (some (25, 0, 0, 0))), some (.inl a1), none, none, none, none, none], [], (zx_lay zM0, 308))) rfl (by decide) ?_
    refine zx_E.go 1 (s' := (11, [some (.inr (some (25, 0, 0, 0))), some (.inl a1), none, none, none, none, none], [.inl (-3)], (zx_lay zM0, 308))) rfl ?_
    exact zx_E.iret rfl (fun h => absurd h (by decide)) rfl)) ?_
  show zx_E _ _ _ (512, [some (.inr (some (33, 0, 0, 0))), some (.inr (some (0, 0, 0, 0))), some (.inr (some (25, 0, 0, 0))), some (.inl 0)], [.inl (-3), .inl (-3)], (zx_lay zM0, 308)) _
  refine zx_E.bt (c := (-3) = (-3)) (s1 := (734, [some (.inr (some (33, 0, 0, 0))), some (.inr (some (0, 0, 0, 0))), some (.inr (some (25, 0, 0, 0))), some (.inl 0)], [], (zx_lay zM0, 308))) (s2 := (515, [some (.inr (some (33, 0, 0, 0))), some (.inr (some (0, 0, 0, 0))), some (.inr (some (25, 0, 0, 0))), some (.inl 0)], [], (zx_lay zM0, 308))) rfl (by decide) ?_
  refine zx_E.go 6 (s' := (23, [some (.inr (some (33, 0, 0, 0))), some (.inr (some (0, 0, 0, 0))), some (.inr (some (25, 0, 0, 0))), some (.inl 7)], [.inl 7, .inl 7, .inl 7], (zx_lay zM0, 308))) rfl ?_
  refine zx_E.go 1 (s' := (24, [some (.inr (some (33, 0, 0, 0))), some (.inr (some (0, 0, 0, 0))), some (.inr (some (25, 0, 0, 0))), some (.inl 7)], [.inl 0, .inl 7], (zx_lay zM0, 308))) rfl ?_
  refine zx_E.bt (c := 0 < 7) (s1 := (740, [some (.inr (some (33, 0, 0, 0))), some (.inr (some (0, 0, 0, 0))), some (.inr (some (25, 0, 0, 0))), some (.inl 7)], [], (zx_lay zM0, 308))) (s2 := (27, [some (.inr (some (33, 0, 0, 0))), some (.inr (some (0, 0, 0, 0))), some (.inr (some (25, 0, 0, 0))), some (.inl 7)], [], (zx_lay zM0, 308))) rfl (by decide) ?_
  refine zx_E.go 1 (s' := (741, [some (.inr (some (33, 0, 0, 0))), some (.inr (some (0, 0, 0, 0))), some (.inr (some (25, 0, 0, 0))), some (.inl 7)], [.inl 1], (zx_lay zM0, 308))) rfl ?_
  exact zx_E.iret rfl (fun _ => Or.inr rfl) rfl
set_option maxRecDepth 100000 in
set_option maxHeartbeats 4000000 in
theorem p1_op_13 {xs : Nat → Int32} {a0 a1 a2 a3 a4 a5 a6 : Int32} (e0 : xs 0 = a0) (e1 : xs 1 = a1) (e2 : xs 2 = a2) (e3 : xs 3 = a3) (e4 : xs 4 = a4) (e5 : xs 5 = a5) (e6 : xs 6 = a6) (hk : (a0 &&& 31) = 13) :
    ∃ μ : zx_M, μ.2 ≤ 308 ∧ zx_E (7, xs) 11 zc_L_law (18, [some (.inr (some (33, 0, 0, 0))), some (.inr (some (0, 0, 0, 0))), some (.inr (some (25, 0, 0, 0))), some (.inl 0)], [], (zx_lay zM0, 308)) (some (.inl 1), μ) := by
  by_cases h1 : a1 < 0
  · skip
    refine ⟨(zx_lay zM0, 308), Nat.le_refl _, ?_⟩
    refine zx_E.go 4 (s' := (23, [some (.inr (some (33, 0, 0, 0))), some (.inr (some (0, 0, 0, 0))), some (.inr (some (25, 0, 0, 0))), some (.inl 0)], [.inl 7, .inl 7, .inl 0], (zx_lay zM0, 308))) rfl ?_
    refine zx_E.go 1 (s' := (24, [some (.inr (some (33, 0, 0, 0))), some (.inr (some (0, 0, 0, 0))), some (.inr (some (25, 0, 0, 0))), some (.inl 0)], [.inl 0, .inl 0], (zx_lay zM0, 308))) rfl ?_
    refine zx_E.bf (c := 0 < 0) (s1 := (740, [some (.inr (some (33, 0, 0, 0))), some (.inr (some (0, 0, 0, 0))), some (.inr (some (25, 0, 0, 0))), some (.inl 0)], [], (zx_lay zM0, 308))) (s2 := (27, [some (.inr (some (33, 0, 0, 0))), some (.inr (some (0, 0, 0, 0))), some (.inr (some (25, 0, 0, 0))), some (.inl 0)], [], (zx_lay zM0, 308))) rfl (by decide) ?_
    refine zx_E.go 2 (s' := (29, [some (.inr (some (33, 0, 0, 0))), some (.inr (some (0, 0, 0, 0))), some (.inr (some (25, 0, 0, 0))), some (.inl 0)], [.inl 0, .inr (some (33, 0, 0, 0))], (zx_lay zM0, 308))) rfl ?_
    refine zx_E.sld' (k := 0) (v := a0) rfl rfl (by omega) (by decide) e0 ?_
    show zx_E _ _ _ (30, [some (.inr (some (33, 0, 0, 0))), some (.inr (some (0, 0, 0, 0))), some (.inr (some (25, 0, 0, 0))), some (.inl 0)], [.inl a0], (zx_lay zM0, 308)) _
    refine zx_E.go 2 (s' := (33, [some (.inr (some (33, 0, 0, 0))), some (.inr (some (0, 0, 0, 0))), some (.inr (some (25, 0, 0, 0))), some (.inl 0)], [.inl (a0 &&& 31)], (zx_lay zM0, 308))) rfl ?_
    refine zx_E.one (s' := (zx_pick (a0 &&& 31) 0 [136, 211, 224, 247, 270, 293, 316, 339, 372, 405, 438, 471, 494, 517, 560, 573, 606, 639, 652, 685, 698, 711] 734, [some (.inr (some (33, 0, 0, 0))), some (.inr (some (0, 0, 0, 0))), some (.inr (some (25, 0, 0, 0))), some (.inl 0)], [], (zx_lay zM0, 308))) rfl ?_
    refine zx_E.pick (k' := 1) (by decide) (fun hn => absurd hn (fun q => absurd (hk.symm.trans q) (by decide))) (fun _ => ?_)
    refine zx_E.pick (k' := 2) (by decide) (fun hn => absurd hn (fun q => absurd (hk.symm.trans q) (by decide))) (fun _ => ?_)
    refine zx_E.pick (k' := 3) (by decide) (fun hn => absurd hn (fun q => absurd (hk.symm.trans q) (by decide))) (fun _ => ?_)
    refine zx_E.pick (k' := 4) (by decide) (fun hn => absurd hn (fun q => absurd (hk.symm.trans q) (by decide))) (fun _ => ?_)
    refine zx_E.pick (k' := 5) (by decide) (fun hn => absurd hn (fun q => absurd (hk.symm.trans q) (by decide))) (fun _ => ?_)
    refine zx_E.pick (k' := 6) (by decide) (fun hn => absurd hn (fun q => absurd (hk.symm.trans q) (by decide))) (fun _ => ?_)
    refine zx_E.pick (k' := 7) (by decide) (fun hn => absurd hn (fun q => absurd (hk.symm.trans q) (by decide))) (fun _ => ?_)
    refine zx_E.pick (k' := 8) (by decide) (fun hn => absurd hn (fun q => absurd (hk.symm.trans q) (by decide))) (fun _ => ?_)
    refine zx_E.pick (k' := 9) (by decide) (fun hn => absurd hn (fun q => absurd (hk.symm.trans q) (by decide))) (fun _ => ?_)
    refine zx_E.pick (k' := 10) (by decide) (fun hn => absurd hn (fun q => absurd (hk.symm.trans q) (by decide))) (fun _ => ?_)
    refine zx_E.pick (k' := 11) (by decide) (fun hn => absurd hn (fun q => absurd (hk.symm.trans q) (by decide))) (fun _ => ?_)
    refine zx_E.pick (k' := 12) (by decide) (fun hn => absurd hn (fun q => absurd (hk.symm.trans q) (by decide))) (fun _ => ?_)
    refine zx_E.pick (k' := 13) (by decide) (fun hn => absurd hn (fun q => absurd (hk.symm.trans q) (by decide))) (fun _ => ?_)
    refine zx_E.pick (k' := 14) (by decide) (fun _ => ?_) (fun hn => absurd hk hn)
    refine zx_E.go 5 (s' := (522, [some (.inr (some (33, 0, 0, 0))), some (.inr (some (0, 0, 0, 0))), some (.inr (some (25, 0, 0, 0))), some (.inl 0)], [.inl 1, .inr (some (33, 0, 0, 0)), .inr (some (0, 0, 0, 0))], (zx_lay zM0, 308))) rfl ?_
    refine zx_E.sld' (k := 1) (v := a1) rfl rfl (by omega) (by decide) e1 ?_
    show zx_E _ _ _ (523, [some (.inr (some (33, 0, 0, 0))), some (.inr (some (0, 0, 0, 0))), some (.inr (some (25, 0, 0, 0))), some (.inl 0)], [.inl a1, .inr (some (0, 0, 0, 0))], (zx_lay zM0, 308)) _
    refine zx_E.go 4 (s' := (527, [some (.inr (some (33, 0, 0, 0))), some (.inr (some (0, 0, 0, 0))), some (.inr (some (25, 0, 0, 0))), some (.inl 0)], [.inl 2, .inr (some (33, 0, 0, 0)), .inl a1, .inr (some (0, 0, 0, 0))], (zx_lay zM0, 308))) rfl ?_
    refine zx_E.sld' (k := 2) (v := a2) rfl rfl (by omega) (by decide) e2 ?_
    show zx_E _ _ _ (528, [some (.inr (some (33, 0, 0, 0))), some (.inr (some (0, 0, 0, 0))), some (.inr (some (25, 0, 0, 0))), some (.inl 0)], [.inl a2, .inl a1, .inr (some (0, 0, 0, 0))], (zx_lay zM0, 308)) _
    refine zx_E.go 4 (s' := (532, [some (.inr (some (33, 0, 0, 0))), some (.inr (some (0, 0, 0, 0))), some (.inr (some (25, 0, 0, 0))), some (.inl 0)], [.inl 3, .inr (some (33, 0, 0, 0)), .inl a2, .inl a1, .inr (some (0, 0, 0, 0))], (zx_lay zM0, 308))) rfl ?_
    refine zx_E.sld' (k := 3) (v := a3) rfl rfl (by omega) (by decide) e3 ?_
    show zx_E _ _ _ (533, [some (.inr (some (33, 0, 0, 0))), some (.inr (some (0, 0, 0, 0))), some (.inr (some (25, 0, 0, 0))), some (.inl 0)], [.inl a3, .inl a2, .inl a1, .inr (some (0, 0, 0, 0))], (zx_lay zM0, 308)) _
    refine zx_E.call1 (y := 107) (as := [.inr (some (0, 0, 0, 0)), .inl a1, .inl a2, .inl a3]) (rest := []) (v := .inl (-1)) (μ' := (zx_lay zM0, 308)) rfl (zx_run_of zc_X10_timetable [some (.inr (some (0, 0, 0, 0))), some (.inl a1), some (.inl a2), some (.inl a3), none, none] rfl rfl (by
      refine zx_E.go 3 (s' := (5, [some (.inr (some (0, 0, 0, 0))), some (.inl a1), some (.inl a2), some (.inl a3), none, none], [.inl a1, .inr (some (1, 0, 0, 0))], (zx_lay zM0, 308))) rfl ?_
      refine zx_E.call1 (y := 18) (as := [.inr (some (1, 0, 0, 0)), .inl a1]) (rest := []) (v := .inr none) (μ' := (zx_lay zM0, 308)) rfl (zx_run_of zc_X2_trainWith [some (.inr (some (1, 0, 0, 0))), some (.inl a1)] rfl rfl (by
        refine zx_E.go 1 (s' := (1, [some (.inr (some (1, 0, 0, 0))), some (.inl a1)], [.inl a1], (zx_lay zM0, 308))) rfl ?_
        refine zx_E.bt (c := a1 < 0) (s1 := (27, [some (.inr (some (1, 0, 0, 0))), some (.inl a1)], [], (zx_lay zM0, 308))) (s2 := (4, [some (.inr (some (1, 0, 0, 0))), some (.inl a1)], [], (zx_lay zM0, 308))) rfl h1 ?_
        refine zx_E.go 1 (s' := (28, [some (.inr (some (1, 0, 0, 0))), some (.inl a1)], [.inr none], (zx_lay zM0, 308))) rfl ?_
        exact zx_E.ret rfl)) ?_
      show zx_E _ _ _ (8, [some (.inr (some (0, 0, 0, 0))), some (.inl a1), some (.inl a2), some (.inl a3), none, none], [.inr none], (zx_lay zM0, 308)) _
      refine zx_E.go 4 (s' := (34, [some (.inr (some (0, 0, 0, 0))), some (.inl a1), some (.inl a2), some (.inl a3), some (.inr none), none], [.inl (-1)], (zx_lay zM0, 308))) rfl ?_
      exact zx_E.iret rfl (fun h => absurd h (by decide)) rfl)) ?_
    show zx_E _ _ _ (536, [some (.inr (some (33, 0, 0, 0))), some (.inr (some (0, 0, 0, 0))), some (.inr (some (25, 0, 0, 0))), some (.inl 0)], [.inl (-1)], (zx_lay zM0, 308)) _
    refine zx_E.go 5 (s' := (541, [some (.inr (some (33, 0, 0, 0))), some (.inr (some (0, 0, 0, 0))), some (.inr (some (25, 0, 0, 0))), some (.inl 0)], [.inl 1, .inr (some (33, 0, 0, 0)), .inr (some (25, 0, 0, 0)), .inl (-1)], (zx_lay zM0, 308))) rfl ?_
    refine zx_E.sld' (k := 1) (v := a1) rfl rfl (by omega) (by decide) e1 ?_
    show zx_E _ _ _ (542, [some (.inr (some (33, 0, 0, 0))), some (.inr (some (0, 0, 0, 0))), some (.inr (some (25, 0, 0, 0))), some (.inl 0)], [.inl a1, .inr (some (25, 0, 0, 0)), .inl (-1)], (zx_lay zM0, 308)) _
    refine zx_E.go 4 (s' := (546, [some (.inr (some (33, 0, 0, 0))), some (.inr (some (0, 0, 0, 0))), some (.inr (some (25, 0, 0, 0))), some (.inl 0)], [.inl 2, .inr (some (33, 0, 0, 0)), .inl a1, .inr (some (25, 0, 0, 0)), .inl (-1)], (zx_lay zM0, 308))) rfl ?_
    refine zx_E.sld' (k := 2) (v := a2) rfl rfl (by omega) (by decide) e2 ?_
    show zx_E _ _ _ (547, [some (.inr (some (33, 0, 0, 0))), some (.inr (some (0, 0, 0, 0))), some (.inr (some (25, 0, 0, 0))), some (.inl 0)], [.inl a2, .inl a1, .inr (some (25, 0, 0, 0)), .inl (-1)], (zx_lay zM0, 308)) _
    refine zx_E.go 4 (s' := (551, [some (.inr (some (33, 0, 0, 0))), some (.inr (some (0, 0, 0, 0))), some (.inr (some (25, 0, 0, 0))), some (.inl 0)], [.inl 3, .inr (some (33, 0, 0, 0)), .inl a2, .inl a1, .inr (some (25, 0, 0, 0)), .inl (-1)], (zx_lay zM0, 308))) rfl ?_
    refine zx_E.sld' (k := 3) (v := a3) rfl rfl (by omega) (by decide) e3 ?_
    show zx_E _ _ _ (552, [some (.inr (some (33, 0, 0, 0))), some (.inr (some (0, 0, 0, 0))), some (.inr (some (25, 0, 0, 0))), some (.inl 0)], [.inl a3, .inl a2, .inl a1, .inr (some (25, 0, 0, 0)), .inl (-1)], (zx_lay zM0, 308)) _
    refine zx_E.call1 (y := 186) (as := [.inr (some (25, 0, 0, 0)), .inl a1, .inl a2, .inl a3]) (rest := [.inl (-1)]) (v := .inl (-1)) (μ' := (zx_lay zM0, 308)) rfl (zx_run_of zc_X11_timetable [some (.inr (some (25, 0, 0, 0))), some (.inl a1), some (.inl a2), some (.inl a3), none] rfl rfl (by
      refine zx_E.go 2 (s' := (2, [some (.inr (some (25, 0, 0, 0))), some (.inl a1), some (.inl a2), some (.inl a3), none], [.inl a1, .inr (some (25, 0, 0, 0))], (zx_lay zM0, 308))) rfl ?_
      refine zx_E.call1 (y := 124) (as := [.inr (some (25, 0, 0, 0)), .inl a1]) (rest := []) (v := .inl 0) (μ' := (zx_lay zM0, 308)) rfl (zx_run_of zc_X11_isTrain [some (.inr (some (25, 0, 0, 0))), some (.inl a1)] rfl rfl (by
        refine zx_E.go 5 (s' := (8, [some (.inr (some (25, 0, 0, 0))), some (.inl a1)], [.inl 27, .inr (some (26, 0, 0, 0)), .inl 0, .inl a1], (zx_lay zM0, 308))) rfl ?_
        refine zx_E.iald' (k := 27) (h := (26, 0, 0, 0)) (v := 0) rfl rfl rfl (by decide) rfl ?_
        show zx_E _ _ _ (9, [some (.inr (some (25, 0, 0, 0))), some (.inl a1)], [.inl 0, .inl 0, .inl a1], (zx_lay zM0, 308)) _
        refine zx_E.go 2 (s' := (11, [some (.inr (some (25, 0, 0, 0))), some (.inl a1)], [.inl (-1), .inl 0, .inl a1], (zx_lay zM0, 308))) rfl ?_
        refine zx_E.call1 (y := 121) (as := [.inl a1, .inl 0, .inl (-1)]) (rest := []) (v := .inl 0) (μ' := (zx_lay zM0, 308)) rfl (zx_run_of zc_X11_isIn [some (.inl a1), some (.inl 0), some (.inl (-1))] rfl rfl (by
          refine zx_E.go 2 (s' := (2, [some (.inl a1), some (.inl 0), some (.inl (-1))], [.inl 0, .inl a1], (zx_lay zM0, 308))) rfl ?_
          refine zx_E.bt (c := a1 < 0) (s1 := (14, [some (.inl a1), some (.inl 0), some (.inl (-1))], [], (zx_lay zM0, 308))) (s2 := (5, [some (.inl a1), some (.inl 0), some (.inl (-1))], [], (zx_lay zM0, 308))) rfl h1 ?_
          refine zx_E.go 1 (s' := (15, [some (.inl a1), some (.inl 0), some (.inl (-1))], [.inl 0], (zx_lay zM0, 308))) rfl ?_
          exact zx_E.iret rfl (fun _ => Or.inl rfl) rfl)) ?_
        show zx_E _ _ _ (14, [some (.inr (some (25, 0, 0, 0))), some (.inl a1)], [.inl 0], (zx_lay zM0, 308)) _
        exact zx_E.iret rfl (fun _ => Or.inl rfl) rfl)) ?_
      show zx_E _ _ _ (5, [some (.inr (some (25, 0, 0, 0))), some (.inl a1), some (.inl a2), some (.inl a3), none], [.inl 0], (zx_lay zM0, 308)) _
      refine zx_E.bt (c := 0 = 0) (s1 := (25, [some (.inr (some (25, 0, 0, 0))), some (.inl a1), some (.inl a2), some (.inl a3), none], [], (zx_lay zM0, 308))) (s2 := (8, [some (.inr (some (25, 0, 0, 0))), some (.inl a1), some (.inl a2), some (.inl a3), none], [], (zx_lay zM0, 308))) rfl (by decide) ?_
      refine zx_E.go 1 (s' := (26, [some (.inr (some (25, 0, 0, 0))), some (.inl a1), some (.inl a2), some (.inl a3), none], [.inl (-1)], (zx_lay zM0, 308))) rfl ?_
      exact zx_E.iret rfl (fun h => absurd h (by decide)) rfl)) ?_
    show zx_E _ _ _ (555, [some (.inr (some (33, 0, 0, 0))), some (.inr (some (0, 0, 0, 0))), some (.inr (some (25, 0, 0, 0))), some (.inl 0)], [.inl (-1), .inl (-1)], (zx_lay zM0, 308)) _
    refine zx_E.bt (c := (-1) = (-1)) (s1 := (734, [some (.inr (some (33, 0, 0, 0))), some (.inr (some (0, 0, 0, 0))), some (.inr (some (25, 0, 0, 0))), some (.inl 0)], [], (zx_lay zM0, 308))) (s2 := (558, [some (.inr (some (33, 0, 0, 0))), some (.inr (some (0, 0, 0, 0))), some (.inr (some (25, 0, 0, 0))), some (.inl 0)], [], (zx_lay zM0, 308))) rfl (by decide) ?_
    refine zx_E.go 6 (s' := (23, [some (.inr (some (33, 0, 0, 0))), some (.inr (some (0, 0, 0, 0))), some (.inr (some (25, 0, 0, 0))), some (.inl 7)], [.inl 7, .inl 7, .inl 7], (zx_lay zM0, 308))) rfl ?_
    refine zx_E.go 1 (s' := (24, [some (.inr (some (33, 0, 0, 0))), some (.inr (some (0, 0, 0, 0))), some (.inr (some (25, 0, 0, 0))), some (.inl 7)], [.inl 0, .inl 7], (zx_lay zM0, 308))) rfl ?_
    refine zx_E.bt (c := 0 < 7) (s1 := (740, [some (.inr (some (33, 0, 0, 0))), some (.inr (some (0, 0, 0, 0))), some (.inr (some (25, 0, 0, 0))), some (.inl 7)], [], (zx_lay zM0, 308))) (s2 := (27, [some (.inr (some (33, 0, 0, 0))), some (.inr (some (0, 0, 0, 0))), some (.inr (some (25, 0, 0, 0))), some (.inl 7)], [], (zx_lay zM0, 308))) rfl (by decide) ?_
    refine zx_E.go 1 (s' := (741, [some (.inr (some (33, 0, 0, 0))), some (.inr (some (0, 0, 0, 0))), some (.inr (some (25, 0, 0, 0))), some (.inl 7)], [.inl 1], (zx_lay zM0, 308))) rfl ?_
    exact zx_E.iret rfl (fun _ => Or.inr rfl) rfl
  · skip
    refine ⟨(zx_lay zM0, 308), Nat.le_refl _, ?_⟩
    refine zx_E.go 4 (s' := (23, [some (.inr (some (33, 0, 0, 0))), some (.inr (some (0, 0, 0, 0))), some (.inr (some (25, 0, 0, 0))), some (.inl 0)], [.inl 7, .inl 7, .inl 0], (zx_lay zM0, 308))) rfl ?_
    refine zx_E.go 1 (s' := (24, [some (.inr (some (33, 0, 0, 0))), some (.inr (some (0, 0, 0, 0))), some (.inr (some (25, 0, 0, 0))), some (.inl 0)], [.inl 0, .inl 0], (zx_lay zM0, 308))) rfl ?_
    refine zx_E.bf (c := 0 < 0) (s1 := (740, [some (.inr (some (33, 0, 0, 0))), some (.inr (some (0, 0, 0, 0))), some (.inr (some (25, 0, 0, 0))), some (.inl 0)], [], (zx_lay zM0, 308))) (s2 := (27, [some (.inr (some (33, 0, 0, 0))), some (.inr (some (0, 0, 0, 0))), some (.inr (some (25, 0, 0, 0))), some (.inl 0)], [], (zx_lay zM0, 308))) rfl (by decide) ?_
    refine zx_E.go 2 (s' := (29, [some (.inr (some (33, 0, 0, 0))), some (.inr (some (0, 0, 0, 0))), some (.inr (some (25, 0, 0, 0))), some (.inl 0)], [.inl 0, .inr (some (33, 0, 0, 0))], (zx_lay zM0, 308))) rfl ?_
    refine zx_E.sld' (k := 0) (v := a0) rfl rfl (by omega) (by decide) e0 ?_
    show zx_E _ _ _ (30, [some (.inr (some (33, 0, 0, 0))), some (.inr (some (0, 0, 0, 0))), some (.inr (some (25, 0, 0, 0))), some (.inl 0)], [.inl a0], (zx_lay zM0, 308)) _
    refine zx_E.go 2 (s' := (33, [some (.inr (some (33, 0, 0, 0))), some (.inr (some (0, 0, 0, 0))), some (.inr (some (25, 0, 0, 0))), some (.inl 0)], [.inl (a0 &&& 31)], (zx_lay zM0, 308))) rfl ?_
    refine zx_E.one (s' := (zx_pick (a0 &&& 31) 0 [136, 211, 224, 247, 270, 293, 316, 339, 372, 405, 438, 471, 494, 517, 560, 573, 606, 639, 652, 685, 698, 711] 734, [some (.inr (some (33, 0, 0, 0))), some (.inr (some (0, 0, 0, 0))), some (.inr (some (25, 0, 0, 0))), some (.inl 0)], [], (zx_lay zM0, 308))) rfl ?_
    refine zx_E.pick (k' := 1) (by decide) (fun hn => absurd hn (fun q => absurd (hk.symm.trans q) (by decide))) (fun _ => ?_)
    refine zx_E.pick (k' := 2) (by decide) (fun hn => absurd hn (fun q => absurd (hk.symm.trans q) (by decide))) (fun _ => ?_)
    refine zx_E.pick (k' := 3) (by decide) (fun hn => absurd hn (fun q => absurd (hk.symm.trans q) (by decide))) (fun _ => ?_)
    refine zx_E.pick (k' := 4) (by decide) (fun hn => absurd hn (fun q => absurd (hk.symm.trans q) (by decide))) (fun _ => ?_)
    refine zx_E.pick (k' := 5) (by decide) (fun hn => absurd hn (fun q => absurd (hk.symm.trans q) (by decide))) (fun _ => ?_)
    refine zx_E.pick (k' := 6) (by decide) (fun hn => absurd hn (fun q => absurd (hk.symm.trans q) (by decide))) (fun _ => ?_)
    refine zx_E.pick (k' := 7) (by decide) (fun hn => absurd hn (fun q => absurd (hk.symm.trans q) (by decide))) (fun _ => ?_)
    refine zx_E.pick (k' := 8) (by decide) (fun hn => absurd hn (fun q => absurd (hk.symm.trans q) (by decide))) (fun _ => ?_)
    refine zx_E.pick (k' := 9) (by decide) (fun hn => absurd hn (fun q => absurd (hk.symm.trans q) (by decide))) (fun _ => ?_)
    refine zx_E.pick (k' := 10) (by decide) (fun hn => absurd hn (fun q => absurd (hk.symm.trans q) (by decide))) (fun _ => ?_)
    refine zx_E.pick (k' := 11) (by decide) (fun hn => absurd hn (fun q => absurd (hk.symm.trans q) (by decide))) (fun _ => ?_)
    refine zx_E.pick (k' := 12) (by decide) (fun hn => absurd hn (fun q => absurd (hk.symm.trans q) (by decide))) (fun _ => ?_)
    refine zx_E.pick (k' := 13) (by decide) (fun hn => absurd hn (fun q => absurd (hk.symm.trans q) (by decide))) (fun _ => ?_)
    refine zx_E.pick (k' := 14) (by decide) (fun _ => ?_) (fun hn => absurd hk hn)
    refine zx_E.go 5 (s' := (522, [some (.inr (some (33, 0, 0, 0))), some (.inr (some (0, 0, 0, 0))), some (.inr (some (25, 0, 0, 0))), some (.inl 0)], [.inl 1, .inr (some (33, 0, 0, 0)), .inr (some (0, 0, 0, 0))], (zx_lay zM0, 308))) rfl ?_
    refine zx_E.sld' (k := 1) (v := a1) rfl rfl (by omega) (by decide) e1 ?_
    show zx_E _ _ _ (523, [some (.inr (some (33, 0, 0, 0))), some (.inr (some (0, 0, 0, 0))), some (.inr (some (25, 0, 0, 0))), some (.inl 0)], [.inl a1, .inr (some (0, 0, 0, 0))], (zx_lay zM0, 308)) _
    refine zx_E.go 4 (s' := (527, [some (.inr (some (33, 0, 0, 0))), some (.inr (some (0, 0, 0, 0))), some (.inr (some (25, 0, 0, 0))), some (.inl 0)], [.inl 2, .inr (some (33, 0, 0, 0)), .inl a1, .inr (some (0, 0, 0, 0))], (zx_lay zM0, 308))) rfl ?_
    refine zx_E.sld' (k := 2) (v := a2) rfl rfl (by omega) (by decide) e2 ?_
    show zx_E _ _ _ (528, [some (.inr (some (33, 0, 0, 0))), some (.inr (some (0, 0, 0, 0))), some (.inr (some (25, 0, 0, 0))), some (.inl 0)], [.inl a2, .inl a1, .inr (some (0, 0, 0, 0))], (zx_lay zM0, 308)) _
    refine zx_E.go 4 (s' := (532, [some (.inr (some (33, 0, 0, 0))), some (.inr (some (0, 0, 0, 0))), some (.inr (some (25, 0, 0, 0))), some (.inl 0)], [.inl 3, .inr (some (33, 0, 0, 0)), .inl a2, .inl a1, .inr (some (0, 0, 0, 0))], (zx_lay zM0, 308))) rfl ?_
    refine zx_E.sld' (k := 3) (v := a3) rfl rfl (by omega) (by decide) e3 ?_
    show zx_E _ _ _ (533, [some (.inr (some (33, 0, 0, 0))), some (.inr (some (0, 0, 0, 0))), some (.inr (some (25, 0, 0, 0))), some (.inl 0)], [.inl a3, .inl a2, .inl a1, .inr (some (0, 0, 0, 0))], (zx_lay zM0, 308)) _
    refine zx_E.call1 (y := 107) (as := [.inr (some (0, 0, 0, 0)), .inl a1, .inl a2, .inl a3]) (rest := []) (v := .inl (-1)) (μ' := (zx_lay zM0, 308)) rfl (zx_run_of zc_X10_timetable [some (.inr (some (0, 0, 0, 0))), some (.inl a1), some (.inl a2), some (.inl a3), none, none] rfl rfl (by
      refine zx_E.go 3 (s' := (5, [some (.inr (some (0, 0, 0, 0))), some (.inl a1), some (.inl a2), some (.inl a3), none, none], [.inl a1, .inr (some (1, 0, 0, 0))], (zx_lay zM0, 308))) rfl ?_
      refine zx_E.call1 (y := 18) (as := [.inr (some (1, 0, 0, 0)), .inl a1]) (rest := []) (v := .inr none) (μ' := (zx_lay zM0, 308)) rfl (zx_run_of zc_X2_trainWith [some (.inr (some (1, 0, 0, 0))), some (.inl a1)] rfl rfl (by
        refine zx_E.go 1 (s' := (1, [some (.inr (some (1, 0, 0, 0))), some (.inl a1)], [.inl a1], (zx_lay zM0, 308))) rfl ?_
        refine zx_E.bf (c := a1 < 0) (s1 := (27, [some (.inr (some (1, 0, 0, 0))), some (.inl a1)], [], (zx_lay zM0, 308))) (s2 := (4, [some (.inr (some (1, 0, 0, 0))), some (.inl a1)], [], (zx_lay zM0, 308))) rfl h1 ?_
        refine zx_E.go 3 (s' := (9, [some (.inr (some (1, 0, 0, 0))), some (.inl a1)], [.inl 0, .inl a1], (zx_lay zM0, 308))) rfl ?_
        refine zx_E.bt (c := 0 ≤ a1) (s1 := (27, [some (.inr (some (1, 0, 0, 0))), some (.inl a1)], [], (zx_lay zM0, 308))) (s2 := (12, [some (.inr (some (1, 0, 0, 0))), some (.inl a1)], [], (zx_lay zM0, 308))) rfl (Int32.not_lt.mp h1) ?_
        refine zx_E.go 1 (s' := (28, [some (.inr (some (1, 0, 0, 0))), some (.inl a1)], [.inr none], (zx_lay zM0, 308))) rfl ?_
        exact zx_E.ret rfl)) ?_
      show zx_E _ _ _ (8, [some (.inr (some (0, 0, 0, 0))), some (.inl a1), some (.inl a2), some (.inl a3), none, none], [.inr none], (zx_lay zM0, 308)) _
      refine zx_E.go 4 (s' := (34, [some (.inr (some (0, 0, 0, 0))), some (.inl a1), some (.inl a2), some (.inl a3), some (.inr none), none], [.inl (-1)], (zx_lay zM0, 308))) rfl ?_
      exact zx_E.iret rfl (fun h => absurd h (by decide)) rfl)) ?_
    show zx_E _ _ _ (536, [some (.inr (some (33, 0, 0, 0))), some (.inr (some (0, 0, 0, 0))), some (.inr (some (25, 0, 0, 0))), some (.inl 0)], [.inl (-1)], (zx_lay zM0, 308)) _
    refine zx_E.go 5 (s' := (541, [some (.inr (some (33, 0, 0, 0))), some (.inr (some (0, 0, 0, 0))), some (.inr (some (25, 0, 0, 0))), some (.inl 0)], [.inl 1, .inr (some (33, 0, 0, 0)), .inr (some (25, 0, 0, 0)), .inl (-1)], (zx_lay zM0, 308))) rfl ?_
    refine zx_E.sld' (k := 1) (v := a1) rfl rfl (by omega) (by decide) e1 ?_
    show zx_E _ _ _ (542, [some (.inr (some (33, 0, 0, 0))), some (.inr (some (0, 0, 0, 0))), some (.inr (some (25, 0, 0, 0))), some (.inl 0)], [.inl a1, .inr (some (25, 0, 0, 0)), .inl (-1)], (zx_lay zM0, 308)) _
    refine zx_E.go 4 (s' := (546, [some (.inr (some (33, 0, 0, 0))), some (.inr (some (0, 0, 0, 0))), some (.inr (some (25, 0, 0, 0))), some (.inl 0)], [.inl 2, .inr (some (33, 0, 0, 0)), .inl a1, .inr (some (25, 0, 0, 0)), .inl (-1)], (zx_lay zM0, 308))) rfl ?_
    refine zx_E.sld' (k := 2) (v := a2) rfl rfl (by omega) (by decide) e2 ?_
    show zx_E _ _ _ (547, [some (.inr (some (33, 0, 0, 0))), some (.inr (some (0, 0, 0, 0))), some (.inr (some (25, 0, 0, 0))), some (.inl 0)], [.inl a2, .inl a1, .inr (some (25, 0, 0, 0)), .inl (-1)], (zx_lay zM0, 308)) _
    refine zx_E.go 4 (s' := (551, [some (.inr (some (33, 0, 0, 0))), some (.inr (some (0, 0, 0, 0))), some (.inr (some (25, 0, 0, 0))), some (.inl 0)], [.inl 3, .inr (some (33, 0, 0, 0)), .inl a2, .inl a1, .inr (some (25, 0, 0, 0)), .inl (-1)], (zx_lay zM0, 308))) rfl ?_
    refine zx_E.sld' (k := 3) (v := a3) rfl rfl (by omega) (by decide) e3 ?_
    show zx_E _ _ _ (552, [some (.inr (some (33, 0, 0, 0))), some (.inr (some (0, 0, 0, 0))), some (.inr (some (25, 0, 0, 0))), some (.inl 0)], [.inl a3, .inl a2, .inl a1, .inr (some (25, 0, 0, 0)), .inl (-1)], (zx_lay zM0, 308)) _
    refine zx_E.call1 (y := 186) (as := [.inr (some (25, 0, 0, 0)), .inl a1, .inl a2, .inl a3]) (rest := [.inl (-1)]) (v := .inl (-1)) (μ' := (zx_lay zM0, 308)) rfl (zx_run_of zc_X11_timetable [some (.inr (some (25, 0, 0, 0))), some (.inl a1), some (.inl a2), some (.inl a3), none] rfl rfl (by
      refine zx_E.go 2 (s' := (2, [some (.inr (some (25, 0, 0, 0))), some (.inl a1), some (.inl a2), some (.inl a3), none], [.inl a1, .inr (some (25, 0, 0, 0))], (zx_lay zM0, 308))) rfl ?_
      refine zx_E.call1 (y := 124) (as := [.inr (some (25, 0, 0, 0)), .inl a1]) (rest := []) (v := .inl 0) (μ' := (zx_lay zM0, 308)) rfl (zx_run_of zc_X11_isTrain [some (.inr (some (25, 0, 0, 0))), some (.inl a1)] rfl rfl (by
        refine zx_E.go 5 (s' := (8, [some (.inr (some (25, 0, 0, 0))), some (.inl a1)], [.inl 27, .inr (some (26, 0, 0, 0)), .inl 0, .inl a1], (zx_lay zM0, 308))) rfl ?_
        refine zx_E.iald' (k := 27) (h := (26, 0, 0, 0)) (v := 0) rfl rfl rfl (by decide) rfl ?_
        show zx_E _ _ _ (9, [some (.inr (some (25, 0, 0, 0))), some (.inl a1)], [.inl 0, .inl 0, .inl a1], (zx_lay zM0, 308)) _
        refine zx_E.go 2 (s' := (11, [some (.inr (some (25, 0, 0, 0))), some (.inl a1)], [.inl (-1), .inl 0, .inl a1], (zx_lay zM0, 308))) rfl ?_
        refine zx_E.call1 (y := 121) (as := [.inl a1, .inl 0, .inl (-1)]) (rest := []) (v := .inl 0) (μ' := (zx_lay zM0, 308)) rfl (zx_run_of zc_X11_isIn [some (.inl a1), some (.inl 0), some (.inl (-1))] rfl rfl (by
          refine zx_E.go 2 (s' := (2, [some (.inl a1), some (.inl 0), some (.inl (-1))], [.inl 0, .inl a1], (zx_lay zM0, 308))) rfl ?_
          refine zx_E.bf (c := a1 < 0) (s1 := (14, [some (.inl a1), some (.inl 0), some (.inl (-1))], [], (zx_lay zM0, 308))) (s2 := (5, [some (.inl a1), some (.inl 0), some (.inl (-1))], [], (zx_lay zM0, 308))) rfl h1 ?_
          refine zx_E.go 2 (s' := (7, [some (.inl a1), some (.inl 0), some (.inl (-1))], [.inl (-1), .inl a1], (zx_lay zM0, 308))) rfl ?_
          refine zx_E.bt (c := (-1) < a1) (s1 := (14, [some (.inl a1), some (.inl 0), some (.inl (-1))], [], (zx_lay zM0, 308))) (s2 := (10, [some (.inl a1), some (.inl 0), some (.inl (-1))], [], (zx_lay zM0, 308))) rfl (zx_m1 h1) ?_
          refine zx_E.go 1 (s' := (15, [some (.inl a1), some (.inl 0), some (.inl (-1))], [.inl 0], (zx_lay zM0, 308))) rfl ?_
          exact zx_E.iret rfl (fun _ => Or.inl rfl) rfl)) ?_
        show zx_E _ _ _ (14, [some (.inr (some (25, 0, 0, 0))), some (.inl a1)], [.inl 0], (zx_lay zM0, 308)) _
        exact zx_E.iret rfl (fun _ => Or.inl rfl) rfl)) ?_
      show zx_E _ _ _ (5, [some (.inr (some (25, 0, 0, 0))), some (.inl a1), some (.inl a2), some (.inl a3), none], [.inl 0], (zx_lay zM0, 308)) _
      refine zx_E.bt (c := 0 = 0) (s1 := (25, [some (.inr (some (25, 0, 0, 0))), some (.inl a1), some (.inl a2), some (.inl a3), none], [], (zx_lay zM0, 308))) (s2 := (8, [some (.inr (some (25, 0, 0, 0))), some (.inl a1), some (.inl a2), some (.inl a3), none], [], (zx_lay zM0, 308))) rfl (by decide) ?_
      refine zx_E.go 1 (s' := (26, [some (.inr (some (25, 0, 0, 0))), some (.inl a1), some (.inl a2), some (.inl a3), none], [.inl (-1)], (zx_lay zM0, 308))) rfl ?_
      exact zx_E.iret rfl (fun h => absurd h (by decide)) rfl)) ?_
    show zx_E _ _ _ (555, [some (.inr (some (33, 0, 0, 0))), some (.inr (some (0, 0, 0, 0))), some (.inr (some (25, 0, 0, 0))), some (.inl 0)], [.inl (-1), .inl (-1)], (zx_lay zM0, 308)) _
    refine zx_E.bt (c := (-1) = (-1)) (s1 := (734, [some (.inr (some (33, 0, 0, 0))), some (.inr (some (0, 0, 0, 0))), some (.inr (some (25, 0, 0, 0))), some (.inl 0)], [], (zx_lay zM0, 308))) (s2 := (558, [some (.inr (some (33, 0, 0, 0))), some (.inr (some (0, 0, 0, 0))), some (.inr (some (25, 0, 0, 0))), some (.inl 0)], [], (zx_lay zM0, 308))) rfl (by decide) ?_
    refine zx_E.go 6 (s' := (23, [some (.inr (some (33, 0, 0, 0))), some (.inr (some (0, 0, 0, 0))), some (.inr (some (25, 0, 0, 0))), some (.inl 7)], [.inl 7, .inl 7, .inl 7], (zx_lay zM0, 308))) rfl ?_
    refine zx_E.go 1 (s' := (24, [some (.inr (some (33, 0, 0, 0))), some (.inr (some (0, 0, 0, 0))), some (.inr (some (25, 0, 0, 0))), some (.inl 7)], [.inl 0, .inl 7], (zx_lay zM0, 308))) rfl ?_
    refine zx_E.bt (c := 0 < 7) (s1 := (740, [some (.inr (some (33, 0, 0, 0))), some (.inr (some (0, 0, 0, 0))), some (.inr (some (25, 0, 0, 0))), some (.inl 7)], [], (zx_lay zM0, 308))) (s2 := (27, [some (.inr (some (33, 0, 0, 0))), some (.inr (some (0, 0, 0, 0))), some (.inr (some (25, 0, 0, 0))), some (.inl 7)], [], (zx_lay zM0, 308))) rfl (by decide) ?_
    refine zx_E.go 1 (s' := (741, [some (.inr (some (33, 0, 0, 0))), some (.inr (some (0, 0, 0, 0))), some (.inr (some (25, 0, 0, 0))), some (.inl 7)], [.inl 1], (zx_lay zM0, 308))) rfl ?_
    exact zx_E.iret rfl (fun _ => Or.inr rfl) rfl
set_option maxRecDepth 100000 in
set_option maxHeartbeats 4000000 in
theorem p1_op_14 {xs : Nat → Int32} {a0 a1 a2 a3 a4 a5 a6 : Int32} (e0 : xs 0 = a0) (e1 : xs 1 = a1) (e2 : xs 2 = a2) (e3 : xs 3 = a3) (e4 : xs 4 = a4) (e5 : xs 5 = a5) (e6 : xs 6 = a6) (hk : (a0 &&& 31) = 14) :
    ∃ μ : zx_M, μ.2 ≤ 308 ∧ zx_E (7, xs) 11 zc_L_law (18, [some (.inr (some (33, 0, 0, 0))), some (.inr (some (0, 0, 0, 0))), some (.inr (some (25, 0, 0, 0))), some (.inl 0)], [], (zx_lay zM0, 308)) (some (.inl 1), μ) := by
  refine ⟨(zx_lay zM0, 308), Nat.le_refl _, ?_⟩
  refine zx_E.go 4 (s' := (23, [some (.inr (some (33, 0, 0, 0))), some (.inr (some (0, 0, 0, 0))), some (.inr (some (25, 0, 0, 0))), some (.inl 0)], [.inl 7, .inl 7, .inl 0], (zx_lay zM0, 308))) rfl ?_
  refine zx_E.go 1 (s' := (24, [some (.inr (some (33, 0, 0, 0))), some (.inr (some (0, 0, 0, 0))), some (.inr (some (25, 0, 0, 0))), some (.inl 0)], [.inl 0, .inl 0], (zx_lay zM0, 308))) rfl ?_
  refine zx_E.bf (c := 0 < 0) (s1 := (740, [some (.inr (some (33, 0, 0, 0))), some (.inr (some (0, 0, 0, 0))), some (.inr (some (25, 0, 0, 0))), some (.inl 0)], [], (zx_lay zM0, 308))) (s2 := (27, [some (.inr (some (33, 0, 0, 0))), some (.inr (some (0, 0, 0, 0))), some (.inr (some (25, 0, 0, 0))), some (.inl 0)], [], (zx_lay zM0, 308))) rfl (by decide) ?_
  refine zx_E.go 2 (s' := (29, [some (.inr (some (33, 0, 0, 0))), some (.inr (some (0, 0, 0, 0))), some (.inr (some (25, 0, 0, 0))), some (.inl 0)], [.inl 0, .inr (some (33, 0, 0, 0))], (zx_lay zM0, 308))) rfl ?_
  refine zx_E.sld' (k := 0) (v := a0) rfl rfl (by omega) (by decide) e0 ?_
  show zx_E _ _ _ (30, [some (.inr (some (33, 0, 0, 0))), some (.inr (some (0, 0, 0, 0))), some (.inr (some (25, 0, 0, 0))), some (.inl 0)], [.inl a0], (zx_lay zM0, 308)) _
  refine zx_E.go 2 (s' := (33, [some (.inr (some (33, 0, 0, 0))), some (.inr (some (0, 0, 0, 0))), some (.inr (some (25, 0, 0, 0))), some (.inl 0)], [.inl (a0 &&& 31)], (zx_lay zM0, 308))) rfl ?_
  refine zx_E.one (s' := (zx_pick (a0 &&& 31) 0 [136, 211, 224, 247, 270, 293, 316, 339, 372, 405, 438, 471, 494, 517, 560, 573, 606, 639, 652, 685, 698, 711] 734, [some (.inr (some (33, 0, 0, 0))), some (.inr (some (0, 0, 0, 0))), some (.inr (some (25, 0, 0, 0))), some (.inl 0)], [], (zx_lay zM0, 308))) rfl ?_
  refine zx_E.pick (k' := 1) (by decide) (fun hn => absurd hn (fun q => absurd (hk.symm.trans q) (by decide))) (fun _ => ?_)
  refine zx_E.pick (k' := 2) (by decide) (fun hn => absurd hn (fun q => absurd (hk.symm.trans q) (by decide))) (fun _ => ?_)
  refine zx_E.pick (k' := 3) (by decide) (fun hn => absurd hn (fun q => absurd (hk.symm.trans q) (by decide))) (fun _ => ?_)
  refine zx_E.pick (k' := 4) (by decide) (fun hn => absurd hn (fun q => absurd (hk.symm.trans q) (by decide))) (fun _ => ?_)
  refine zx_E.pick (k' := 5) (by decide) (fun hn => absurd hn (fun q => absurd (hk.symm.trans q) (by decide))) (fun _ => ?_)
  refine zx_E.pick (k' := 6) (by decide) (fun hn => absurd hn (fun q => absurd (hk.symm.trans q) (by decide))) (fun _ => ?_)
  refine zx_E.pick (k' := 7) (by decide) (fun hn => absurd hn (fun q => absurd (hk.symm.trans q) (by decide))) (fun _ => ?_)
  refine zx_E.pick (k' := 8) (by decide) (fun hn => absurd hn (fun q => absurd (hk.symm.trans q) (by decide))) (fun _ => ?_)
  refine zx_E.pick (k' := 9) (by decide) (fun hn => absurd hn (fun q => absurd (hk.symm.trans q) (by decide))) (fun _ => ?_)
  refine zx_E.pick (k' := 10) (by decide) (fun hn => absurd hn (fun q => absurd (hk.symm.trans q) (by decide))) (fun _ => ?_)
  refine zx_E.pick (k' := 11) (by decide) (fun hn => absurd hn (fun q => absurd (hk.symm.trans q) (by decide))) (fun _ => ?_)
  refine zx_E.pick (k' := 12) (by decide) (fun hn => absurd hn (fun q => absurd (hk.symm.trans q) (by decide))) (fun _ => ?_)
  refine zx_E.pick (k' := 13) (by decide) (fun hn => absurd hn (fun q => absurd (hk.symm.trans q) (by decide))) (fun _ => ?_)
  refine zx_E.pick (k' := 14) (by decide) (fun hn => absurd hn (fun q => absurd (hk.symm.trans q) (by decide))) (fun _ => ?_)
  refine zx_E.pick (k' := 15) (by decide) (fun _ => ?_) (fun hn => absurd hk hn)
  refine zx_E.go 1 (s' := (561, [some (.inr (some (33, 0, 0, 0))), some (.inr (some (0, 0, 0, 0))), some (.inr (some (25, 0, 0, 0))), some (.inl 0)], [.inr (some (0, 0, 0, 0))], (zx_lay zM0, 308))) rfl ?_
  refine zx_E.call1 (y := 108) (as := [.inr (some (0, 0, 0, 0))]) (rest := []) (v := .inl (-5)) (μ' := (zx_lay zM0, 308)) rfl (zx_run_of zc_X10_drift [some (.inr (some (0, 0, 0, 0)))] rfl rfl (by
    refine zx_E.go 3 (s' := (7, [some (.inr (some (0, 0, 0, 0)))], [.inl 0], (zx_lay zM0, 308))) rfl ?_
    refine zx_E.bt (c := 0 = 0) (s1 := (24, [some (.inr (some (0, 0, 0, 0)))], [], (zx_lay zM0, 308))) (s2 := (10, [some (.inr (some (0, 0, 0, 0)))], [], (zx_lay zM0, 308))) rfl (by decide) ?_
    refine zx_E.go 1 (s' := (26, [some (.inr (some (0, 0, 0, 0)))], [.inl (-5)], (zx_lay zM0, 308))) rfl ?_
    exact zx_E.iret rfl (fun h => absurd h (by decide)) rfl)) ?_
  show zx_E _ _ _ (564, [some (.inr (some (33, 0, 0, 0))), some (.inr (some (0, 0, 0, 0))), some (.inr (some (25, 0, 0, 0))), some (.inl 0)], [.inl (-5)], (zx_lay zM0, 308)) _
  refine zx_E.go 1 (s' := (565, [some (.inr (some (33, 0, 0, 0))), some (.inr (some (0, 0, 0, 0))), some (.inr (some (25, 0, 0, 0))), some (.inl 0)], [.inr (some (25, 0, 0, 0)), .inl (-5)], (zx_lay zM0, 308))) rfl ?_
  refine zx_E.call1 (y := 187) (as := [.inr (some (25, 0, 0, 0))]) (rest := [.inl (-5)]) (v := .inl (-5)) (μ' := (zx_lay zM0, 308)) rfl (zx_run_of zc_X11_drift [some (.inr (some (25, 0, 0, 0))), none, none, none, none, none, none, none, none] rfl rfl (by
    refine zx_E.go 3 (s' := (7, [some (.inr (some (25, 0, 0, 0))), none, none, none, none, none, none, none, none], [.inl 476, .inr (some (26, 0, 0, 0))], (zx_lay zM0, 308))) rfl ?_
    refine zx_E.iald' (k := 476) (h := (26, 0, 0, 0)) (v := 0) rfl rfl rfl (by decide) rfl ?_
    show zx_E _ _ _ (8, [some (.inr (some (25, 0, 0, 0))), none, none, none, none, none, none, none, none], [.inl 0], (zx_lay zM0, 308)) _
    refine zx_E.bt (c := 0 = 0) (s1 := (11, [some (.inr (some (25, 0, 0, 0))), none, none, none, none, none, none, none, none], [], (zx_lay zM0, 308))) (s2 := (14, [some (.inr (some (25, 0, 0, 0))), none, none, none, none, none, none, none, none], [], (zx_lay zM0, 308))) rfl (by decide) ?_
    refine zx_E.go 1 (s' := (13, [some (.inr (some (25, 0, 0, 0))), none, none, none, none, none, none, none, none], [.inl (-5)], (zx_lay zM0, 308))) rfl ?_
    exact zx_E.iret rfl (fun h => absurd h (by decide)) rfl)) ?_
  show zx_E _ _ _ (568, [some (.inr (some (33, 0, 0, 0))), some (.inr (some (0, 0, 0, 0))), some (.inr (some (25, 0, 0, 0))), some (.inl 0)], [.inl (-5), .inl (-5)], (zx_lay zM0, 308)) _
  refine zx_E.bt (c := (-5) = (-5)) (s1 := (734, [some (.inr (some (33, 0, 0, 0))), some (.inr (some (0, 0, 0, 0))), some (.inr (some (25, 0, 0, 0))), some (.inl 0)], [], (zx_lay zM0, 308))) (s2 := (571, [some (.inr (some (33, 0, 0, 0))), some (.inr (some (0, 0, 0, 0))), some (.inr (some (25, 0, 0, 0))), some (.inl 0)], [], (zx_lay zM0, 308))) rfl (by decide) ?_
  refine zx_E.go 6 (s' := (23, [some (.inr (some (33, 0, 0, 0))), some (.inr (some (0, 0, 0, 0))), some (.inr (some (25, 0, 0, 0))), some (.inl 7)], [.inl 7, .inl 7, .inl 7], (zx_lay zM0, 308))) rfl ?_
  refine zx_E.go 1 (s' := (24, [some (.inr (some (33, 0, 0, 0))), some (.inr (some (0, 0, 0, 0))), some (.inr (some (25, 0, 0, 0))), some (.inl 7)], [.inl 0, .inl 7], (zx_lay zM0, 308))) rfl ?_
  refine zx_E.bt (c := 0 < 7) (s1 := (740, [some (.inr (some (33, 0, 0, 0))), some (.inr (some (0, 0, 0, 0))), some (.inr (some (25, 0, 0, 0))), some (.inl 7)], [], (zx_lay zM0, 308))) (s2 := (27, [some (.inr (some (33, 0, 0, 0))), some (.inr (some (0, 0, 0, 0))), some (.inr (some (25, 0, 0, 0))), some (.inl 7)], [], (zx_lay zM0, 308))) rfl (by decide) ?_
  refine zx_E.go 1 (s' := (741, [some (.inr (some (33, 0, 0, 0))), some (.inr (some (0, 0, 0, 0))), some (.inr (some (25, 0, 0, 0))), some (.inl 7)], [.inl 1], (zx_lay zM0, 308))) rfl ?_
  exact zx_E.iret rfl (fun _ => Or.inr rfl) rfl
set_option maxRecDepth 100000 in
set_option maxHeartbeats 4000000 in
theorem p1_op_15 {xs : Nat → Int32} {a0 a1 a2 a3 a4 a5 a6 : Int32} (e0 : xs 0 = a0) (e1 : xs 1 = a1) (e2 : xs 2 = a2) (e3 : xs 3 = a3) (e4 : xs 4 = a4) (e5 : xs 5 = a5) (e6 : xs 6 = a6) (hk : (a0 &&& 31) = 15) :
    ∃ μ : zx_M, μ.2 ≤ 308 ∧ zx_E (7, xs) 11 zc_L_law (18, [some (.inr (some (33, 0, 0, 0))), some (.inr (some (0, 0, 0, 0))), some (.inr (some (25, 0, 0, 0))), some (.inl 0)], [], (zx_lay zM0, 308)) (some (.inl 1), μ) := by
  refine ⟨(zx_lay zM0, 308), Nat.le_refl _, ?_⟩
  refine zx_E.go 4 (s' := (23, [some (.inr (some (33, 0, 0, 0))), some (.inr (some (0, 0, 0, 0))), some (.inr (some (25, 0, 0, 0))), some (.inl 0)], [.inl 7, .inl 7, .inl 0], (zx_lay zM0, 308))) rfl ?_
  refine zx_E.go 1 (s' := (24, [some (.inr (some (33, 0, 0, 0))), some (.inr (some (0, 0, 0, 0))), some (.inr (some (25, 0, 0, 0))), some (.inl 0)], [.inl 0, .inl 0], (zx_lay zM0, 308))) rfl ?_
  refine zx_E.bf (c := 0 < 0) (s1 := (740, [some (.inr (some (33, 0, 0, 0))), some (.inr (some (0, 0, 0, 0))), some (.inr (some (25, 0, 0, 0))), some (.inl 0)], [], (zx_lay zM0, 308))) (s2 := (27, [some (.inr (some (33, 0, 0, 0))), some (.inr (some (0, 0, 0, 0))), some (.inr (some (25, 0, 0, 0))), some (.inl 0)], [], (zx_lay zM0, 308))) rfl (by decide) ?_
  refine zx_E.go 2 (s' := (29, [some (.inr (some (33, 0, 0, 0))), some (.inr (some (0, 0, 0, 0))), some (.inr (some (25, 0, 0, 0))), some (.inl 0)], [.inl 0, .inr (some (33, 0, 0, 0))], (zx_lay zM0, 308))) rfl ?_
  refine zx_E.sld' (k := 0) (v := a0) rfl rfl (by omega) (by decide) e0 ?_
  show zx_E _ _ _ (30, [some (.inr (some (33, 0, 0, 0))), some (.inr (some (0, 0, 0, 0))), some (.inr (some (25, 0, 0, 0))), some (.inl 0)], [.inl a0], (zx_lay zM0, 308)) _
  refine zx_E.go 2 (s' := (33, [some (.inr (some (33, 0, 0, 0))), some (.inr (some (0, 0, 0, 0))), some (.inr (some (25, 0, 0, 0))), some (.inl 0)], [.inl (a0 &&& 31)], (zx_lay zM0, 308))) rfl ?_
  refine zx_E.one (s' := (zx_pick (a0 &&& 31) 0 [136, 211, 224, 247, 270, 293, 316, 339, 372, 405, 438, 471, 494, 517, 560, 573, 606, 639, 652, 685, 698, 711] 734, [some (.inr (some (33, 0, 0, 0))), some (.inr (some (0, 0, 0, 0))), some (.inr (some (25, 0, 0, 0))), some (.inl 0)], [], (zx_lay zM0, 308))) rfl ?_
  refine zx_E.pick (k' := 1) (by decide) (fun hn => absurd hn (fun q => absurd (hk.symm.trans q) (by decide))) (fun _ => ?_)
  refine zx_E.pick (k' := 2) (by decide) (fun hn => absurd hn (fun q => absurd (hk.symm.trans q) (by decide))) (fun _ => ?_)
  refine zx_E.pick (k' := 3) (by decide) (fun hn => absurd hn (fun q => absurd (hk.symm.trans q) (by decide))) (fun _ => ?_)
  refine zx_E.pick (k' := 4) (by decide) (fun hn => absurd hn (fun q => absurd (hk.symm.trans q) (by decide))) (fun _ => ?_)
  refine zx_E.pick (k' := 5) (by decide) (fun hn => absurd hn (fun q => absurd (hk.symm.trans q) (by decide))) (fun _ => ?_)
  refine zx_E.pick (k' := 6) (by decide) (fun hn => absurd hn (fun q => absurd (hk.symm.trans q) (by decide))) (fun _ => ?_)
  refine zx_E.pick (k' := 7) (by decide) (fun hn => absurd hn (fun q => absurd (hk.symm.trans q) (by decide))) (fun _ => ?_)
  refine zx_E.pick (k' := 8) (by decide) (fun hn => absurd hn (fun q => absurd (hk.symm.trans q) (by decide))) (fun _ => ?_)
  refine zx_E.pick (k' := 9) (by decide) (fun hn => absurd hn (fun q => absurd (hk.symm.trans q) (by decide))) (fun _ => ?_)
  refine zx_E.pick (k' := 10) (by decide) (fun hn => absurd hn (fun q => absurd (hk.symm.trans q) (by decide))) (fun _ => ?_)
  refine zx_E.pick (k' := 11) (by decide) (fun hn => absurd hn (fun q => absurd (hk.symm.trans q) (by decide))) (fun _ => ?_)
  refine zx_E.pick (k' := 12) (by decide) (fun hn => absurd hn (fun q => absurd (hk.symm.trans q) (by decide))) (fun _ => ?_)
  refine zx_E.pick (k' := 13) (by decide) (fun hn => absurd hn (fun q => absurd (hk.symm.trans q) (by decide))) (fun _ => ?_)
  refine zx_E.pick (k' := 14) (by decide) (fun hn => absurd hn (fun q => absurd (hk.symm.trans q) (by decide))) (fun _ => ?_)
  refine zx_E.pick (k' := 15) (by decide) (fun hn => absurd hn (fun q => absurd (hk.symm.trans q) (by decide))) (fun _ => ?_)
  refine zx_E.pick (k' := 16) (by decide) (fun _ => ?_) (fun hn => absurd hk hn)
  refine zx_E.go 5 (s' := (578, [some (.inr (some (33, 0, 0, 0))), some (.inr (some (0, 0, 0, 0))), some (.inr (some (25, 0, 0, 0))), some (.inl 0)], [.inl 1, .inr (some (33, 0, 0, 0)), .inr (some (0, 0, 0, 0))], (zx_lay zM0, 308))) rfl ?_
  refine zx_E.sld' (k := 1) (v := a1) rfl rfl (by omega) (by decide) e1 ?_
  show zx_E _ _ _ (579, [some (.inr (some (33, 0, 0, 0))), some (.inr (some (0, 0, 0, 0))), some (.inr (some (25, 0, 0, 0))), some (.inl 0)], [.inl a1, .inr (some (0, 0, 0, 0))], (zx_lay zM0, 308)) _
  refine zx_E.go 4 (s' := (583, [some (.inr (some (33, 0, 0, 0))), some (.inr (some (0, 0, 0, 0))), some (.inr (some (25, 0, 0, 0))), some (.inl 0)], [.inl 2, .inr (some (33, 0, 0, 0)), .inl a1, .inr (some (0, 0, 0, 0))], (zx_lay zM0, 308))) rfl ?_
  refine zx_E.sld' (k := 2) (v := a2) rfl rfl (by omega) (by decide) e2 ?_
  show zx_E _ _ _ (584, [some (.inr (some (33, 0, 0, 0))), some (.inr (some (0, 0, 0, 0))), some (.inr (some (25, 0, 0, 0))), some (.inl 0)], [.inl a2, .inl a1, .inr (some (0, 0, 0, 0))], (zx_lay zM0, 308)) _
  refine zx_E.call1 (y := 109) (as := [.inr (some (0, 0, 0, 0)), .inl a1, .inl a2]) (rest := []) (v := .inl (-3)) (μ' := (zx_lay zM0, 308)) rfl (zx_run_of zc_X10_ahead [some (.inr (some (0, 0, 0, 0))), some (.inl a1), some (.inl a2)] rfl rfl (by
    refine zx_E.go 2 (s' := (4, [some (.inr (some (0, 0, 0, 0))), some (.inl a1), some (.inl a2)], [.inr (some (1, 0, 0, 0))], (zx_lay zM0, 308))) rfl ?_
    refine zx_E.call1 (y := 15) (as := [.inr (some (1, 0, 0, 0))]) (rest := []) (v := .inl 0) (μ' := (zx_lay zM0, 308)) rfl (zx_run_of zc_X2_exists [some (.inr (some (1, 0, 0, 0)))] rfl rfl (by
      refine zx_E.go 2 (s' := (4, [some (.inr (some (1, 0, 0, 0)))], [.inl 0], (zx_lay zM0, 308))) rfl ?_
      refine zx_E.bt (c := 0 ≤ 0) (s1 := (11, [some (.inr (some (1, 0, 0, 0)))], [], (zx_lay zM0, 308))) (s2 := (7, [some (.inr (some (1, 0, 0, 0)))], [], (zx_lay zM0, 308))) rfl (by decide) ?_
      refine zx_E.go 1 (s' := (12, [some (.inr (some (1, 0, 0, 0)))], [.inl 0], (zx_lay zM0, 308))) rfl ?_
      exact zx_E.iret rfl (fun _ => Or.inl rfl) rfl)) ?_
    show zx_E _ _ _ (7, [some (.inr (some (0, 0, 0, 0))), some (.inl a1), some (.inl a2)], [.inl 0], (zx_lay zM0, 308)) _
    refine zx_E.bt (c := 0 = 0) (s1 := (10, [some (.inr (some (0, 0, 0, 0))), some (.inl a1), some (.inl a2)], [], (zx_lay zM0, 308))) (s2 := (13, [some (.inr (some (0, 0, 0, 0))), some (.inl a1), some (.inl a2)], [], (zx_lay zM0, 308))) rfl (by decide) ?_
    refine zx_E.go 1 (s' := (12, [some (.inr (some (0, 0, 0, 0))), some (.inl a1), some (.inl a2)], [.inl (-3)], (zx_lay zM0, 308))) rfl ?_
    exact zx_E.iret rfl (fun h => absurd h (by decide)) rfl)) ?_
  show zx_E _ _ _ (587, [some (.inr (some (33, 0, 0, 0))), some (.inr (some (0, 0, 0, 0))), some (.inr (some (25, 0, 0, 0))), some (.inl 0)], [.inl (-3)], (zx_lay zM0, 308)) _
  refine zx_E.go 5 (s' := (592, [some (.inr (some (33, 0, 0, 0))), some (.inr (some (0, 0, 0, 0))), some (.inr (some (25, 0, 0, 0))), some (.inl 0)], [.inl 1, .inr (some (33, 0, 0, 0)), .inr (some (25, 0, 0, 0)), .inl (-3)], (zx_lay zM0, 308))) rfl ?_
  refine zx_E.sld' (k := 1) (v := a1) rfl rfl (by omega) (by decide) e1 ?_
  show zx_E _ _ _ (593, [some (.inr (some (33, 0, 0, 0))), some (.inr (some (0, 0, 0, 0))), some (.inr (some (25, 0, 0, 0))), some (.inl 0)], [.inl a1, .inr (some (25, 0, 0, 0)), .inl (-3)], (zx_lay zM0, 308)) _
  refine zx_E.go 4 (s' := (597, [some (.inr (some (33, 0, 0, 0))), some (.inr (some (0, 0, 0, 0))), some (.inr (some (25, 0, 0, 0))), some (.inl 0)], [.inl 2, .inr (some (33, 0, 0, 0)), .inl a1, .inr (some (25, 0, 0, 0)), .inl (-3)], (zx_lay zM0, 308))) rfl ?_
  refine zx_E.sld' (k := 2) (v := a2) rfl rfl (by omega) (by decide) e2 ?_
  show zx_E _ _ _ (598, [some (.inr (some (33, 0, 0, 0))), some (.inr (some (0, 0, 0, 0))), some (.inr (some (25, 0, 0, 0))), some (.inl 0)], [.inl a2, .inl a1, .inr (some (25, 0, 0, 0)), .inl (-3)], (zx_lay zM0, 308)) _
  refine zx_E.call1 (y := 190) (as := [.inr (some (25, 0, 0, 0)), .inl a1, .inl a2]) (rest := [.inl (-3)]) (v := .inl (-3)) (μ' := (zx_lay zM0, 308)) rfl (zx_run_of zc_X11_ahead [some (.inr (some (25, 0, 0, 0))), some (.inl a1), some (.inl a2), none, none] rfl rfl (by
    refine zx_E.go 3 (s' := (5, [some (.inr (some (25, 0, 0, 0))), some (.inl a1), some (.inl a2), none, none], [.inl 1, .inr (some (26, 0, 0, 0))], (zx_lay zM0, 308))) rfl ?_
    refine zx_E.iald' (k := 1) (h := (26, 0, 0, 0)) (v := 0) rfl rfl rfl (by decide) rfl ?_
    show zx_E _ _ _ (6, [some (.inr (some (25, 0, 0, 0))), some (.inl a1), some (.inl a2), none, none], [.inl 0], (zx_lay zM0, 308)) _
    refine zx_E.bt (c := 0 = 0) (s1 := (9, [some (.inr (some (25, 0, 0, 0))), some (.inl a1), some (.inl a2), none, none], [], (zx_lay zM0, 308))) (s2 := (12, [some (.inr (some (25, 0, 0, 0))), some (.inl a1), some (.inl a2), none, none], [], (zx_lay zM0, 308))) rfl (by decide) ?_
    refine zx_E.go 1 (s' := (11, [some (.inr (some (25, 0, 0, 0))), some (.inl a1), some (.inl a2), none, none], [.inl (-3)], (zx_lay zM0, 308))) rfl ?_
    exact zx_E.iret rfl (fun h => absurd h (by decide)) rfl)) ?_
  show zx_E _ _ _ (601, [some (.inr (some (33, 0, 0, 0))), some (.inr (some (0, 0, 0, 0))), some (.inr (some (25, 0, 0, 0))), some (.inl 0)], [.inl (-3), .inl (-3)], (zx_lay zM0, 308)) _
  refine zx_E.bt (c := (-3) = (-3)) (s1 := (734, [some (.inr (some (33, 0, 0, 0))), some (.inr (some (0, 0, 0, 0))), some (.inr (some (25, 0, 0, 0))), some (.inl 0)], [], (zx_lay zM0, 308))) (s2 := (604, [some (.inr (some (33, 0, 0, 0))), some (.inr (some (0, 0, 0, 0))), some (.inr (some (25, 0, 0, 0))), some (.inl 0)], [], (zx_lay zM0, 308))) rfl (by decide) ?_
  refine zx_E.go 6 (s' := (23, [some (.inr (some (33, 0, 0, 0))), some (.inr (some (0, 0, 0, 0))), some (.inr (some (25, 0, 0, 0))), some (.inl 7)], [.inl 7, .inl 7, .inl 7], (zx_lay zM0, 308))) rfl ?_
  refine zx_E.go 1 (s' := (24, [some (.inr (some (33, 0, 0, 0))), some (.inr (some (0, 0, 0, 0))), some (.inr (some (25, 0, 0, 0))), some (.inl 7)], [.inl 0, .inl 7], (zx_lay zM0, 308))) rfl ?_
  refine zx_E.bt (c := 0 < 7) (s1 := (740, [some (.inr (some (33, 0, 0, 0))), some (.inr (some (0, 0, 0, 0))), some (.inr (some (25, 0, 0, 0))), some (.inl 7)], [], (zx_lay zM0, 308))) (s2 := (27, [some (.inr (some (33, 0, 0, 0))), some (.inr (some (0, 0, 0, 0))), some (.inr (some (25, 0, 0, 0))), some (.inl 7)], [], (zx_lay zM0, 308))) rfl (by decide) ?_
  refine zx_E.go 1 (s' := (741, [some (.inr (some (33, 0, 0, 0))), some (.inr (some (0, 0, 0, 0))), some (.inr (some (25, 0, 0, 0))), some (.inl 7)], [.inl 1], (zx_lay zM0, 308))) rfl ?_
  exact zx_E.iret rfl (fun _ => Or.inr rfl) rfl
set_option maxRecDepth 100000 in
set_option maxHeartbeats 4000000 in
theorem p1_op_16 {xs : Nat → Int32} {a0 a1 a2 a3 a4 a5 a6 : Int32} (e0 : xs 0 = a0) (e1 : xs 1 = a1) (e2 : xs 2 = a2) (e3 : xs 3 = a3) (e4 : xs 4 = a4) (e5 : xs 5 = a5) (e6 : xs 6 = a6) (hk : (a0 &&& 31) = 16) :
    ∃ μ : zx_M, μ.2 ≤ 308 ∧ zx_E (7, xs) 11 zc_L_law (18, [some (.inr (some (33, 0, 0, 0))), some (.inr (some (0, 0, 0, 0))), some (.inr (some (25, 0, 0, 0))), some (.inl 0)], [], (zx_lay zM0, 308)) (some (.inl 1), μ) := by
  refine ⟨(zx_lay zM0, 308), Nat.le_refl _, ?_⟩
  refine zx_E.go 4 (s' := (23, [some (.inr (some (33, 0, 0, 0))), some (.inr (some (0, 0, 0, 0))), some (.inr (some (25, 0, 0, 0))), some (.inl 0)], [.inl 7, .inl 7, .inl 0], (zx_lay zM0, 308))) rfl ?_
  refine zx_E.go 1 (s' := (24, [some (.inr (some (33, 0, 0, 0))), some (.inr (some (0, 0, 0, 0))), some (.inr (some (25, 0, 0, 0))), some (.inl 0)], [.inl 0, .inl 0], (zx_lay zM0, 308))) rfl ?_
  refine zx_E.bf (c := 0 < 0) (s1 := (740, [some (.inr (some (33, 0, 0, 0))), some (.inr (some (0, 0, 0, 0))), some (.inr (some (25, 0, 0, 0))), some (.inl 0)], [], (zx_lay zM0, 308))) (s2 := (27, [some (.inr (some (33, 0, 0, 0))), some (.inr (some (0, 0, 0, 0))), some (.inr (some (25, 0, 0, 0))), some (.inl 0)], [], (zx_lay zM0, 308))) rfl (by decide) ?_
  refine zx_E.go 2 (s' := (29, [some (.inr (some (33, 0, 0, 0))), some (.inr (some (0, 0, 0, 0))), some (.inr (some (25, 0, 0, 0))), some (.inl 0)], [.inl 0, .inr (some (33, 0, 0, 0))], (zx_lay zM0, 308))) rfl ?_
  refine zx_E.sld' (k := 0) (v := a0) rfl rfl (by omega) (by decide) e0 ?_
  show zx_E _ _ _ (30, [some (.inr (some (33, 0, 0, 0))), some (.inr (some (0, 0, 0, 0))), some (.inr (some (25, 0, 0, 0))), some (.inl 0)], [.inl a0], (zx_lay zM0, 308)) _
  refine zx_E.go 2 (s' := (33, [some (.inr (some (33, 0, 0, 0))), some (.inr (some (0, 0, 0, 0))), some (.inr (some (25, 0, 0, 0))), some (.inl 0)], [.inl (a0 &&& 31)], (zx_lay zM0, 308))) rfl ?_
  refine zx_E.one (s' := (zx_pick (a0 &&& 31) 0 [136, 211, 224, 247, 270, 293, 316, 339, 372, 405, 438, 471, 494, 517, 560, 573, 606, 639, 652, 685, 698, 711] 734, [some (.inr (some (33, 0, 0, 0))), some (.inr (some (0, 0, 0, 0))), some (.inr (some (25, 0, 0, 0))), some (.inl 0)], [], (zx_lay zM0, 308))) rfl ?_
  refine zx_E.pick (k' := 1) (by decide) (fun hn => absurd hn (fun q => absurd (hk.symm.trans q) (by decide))) (fun _ => ?_)
  refine zx_E.pick (k' := 2) (by decide) (fun hn => absurd hn (fun q => absurd (hk.symm.trans q) (by decide))) (fun _ => ?_)
  refine zx_E.pick (k' := 3) (by decide) (fun hn => absurd hn (fun q => absurd (hk.symm.trans q) (by decide))) (fun _ => ?_)
  refine zx_E.pick (k' := 4) (by decide) (fun hn => absurd hn (fun q => absurd (hk.symm.trans q) (by decide))) (fun _ => ?_)
  refine zx_E.pick (k' := 5) (by decide) (fun hn => absurd hn (fun q => absurd (hk.symm.trans q) (by decide))) (fun _ => ?_)
  refine zx_E.pick (k' := 6) (by decide) (fun hn => absurd hn (fun q => absurd (hk.symm.trans q) (by decide))) (fun _ => ?_)
  refine zx_E.pick (k' := 7) (by decide) (fun hn => absurd hn (fun q => absurd (hk.symm.trans q) (by decide))) (fun _ => ?_)
  refine zx_E.pick (k' := 8) (by decide) (fun hn => absurd hn (fun q => absurd (hk.symm.trans q) (by decide))) (fun _ => ?_)
  refine zx_E.pick (k' := 9) (by decide) (fun hn => absurd hn (fun q => absurd (hk.symm.trans q) (by decide))) (fun _ => ?_)
  refine zx_E.pick (k' := 10) (by decide) (fun hn => absurd hn (fun q => absurd (hk.symm.trans q) (by decide))) (fun _ => ?_)
  refine zx_E.pick (k' := 11) (by decide) (fun hn => absurd hn (fun q => absurd (hk.symm.trans q) (by decide))) (fun _ => ?_)
  refine zx_E.pick (k' := 12) (by decide) (fun hn => absurd hn (fun q => absurd (hk.symm.trans q) (by decide))) (fun _ => ?_)
  refine zx_E.pick (k' := 13) (by decide) (fun hn => absurd hn (fun q => absurd (hk.symm.trans q) (by decide))) (fun _ => ?_)
  refine zx_E.pick (k' := 14) (by decide) (fun hn => absurd hn (fun q => absurd (hk.symm.trans q) (by decide))) (fun _ => ?_)
  refine zx_E.pick (k' := 15) (by decide) (fun hn => absurd hn (fun q => absurd (hk.symm.trans q) (by decide))) (fun _ => ?_)
  refine zx_E.pick (k' := 16) (by decide) (fun hn => absurd hn (fun q => absurd (hk.symm.trans q) (by decide))) (fun _ => ?_)
  refine zx_E.pick (k' := 17) (by decide) (fun _ => ?_) (fun hn => absurd hk hn)
  refine zx_E.go 5 (s' := (611, [some (.inr (some (33, 0, 0, 0))), some (.inr (some (0, 0, 0, 0))), some (.inr (some (25, 0, 0, 0))), some (.inl 0)], [.inl 1, .inr (some (33, 0, 0, 0)), .inr (some (0, 0, 0, 0))], (zx_lay zM0, 308))) rfl ?_
  refine zx_E.sld' (k := 1) (v := a1) rfl rfl (by omega) (by decide) e1 ?_
  show zx_E _ _ _ (612, [some (.inr (some (33, 0, 0, 0))), some (.inr (some (0, 0, 0, 0))), some (.inr (some (25, 0, 0, 0))), some (.inl 0)], [.inl a1, .inr (some (0, 0, 0, 0))], (zx_lay zM0, 308)) _
  refine zx_E.go 4 (s' := (616, [some (.inr (some (33, 0, 0, 0))), some (.inr (some (0, 0, 0, 0))), some (.inr (some (25, 0, 0, 0))), some (.inl 0)], [.inl 2, .inr (some (33, 0, 0, 0)), .inl a1, .inr (some (0, 0, 0, 0))], (zx_lay zM0, 308))) rfl ?_
  refine zx_E.sld' (k := 2) (v := a2) rfl rfl (by omega) (by decide) e2 ?_
  show zx_E _ _ _ (617, [some (.inr (some (33, 0, 0, 0))), some (.inr (some (0, 0, 0, 0))), some (.inr (some (25, 0, 0, 0))), some (.inl 0)], [.inl a2, .inl a1, .inr (some (0, 0, 0, 0))], (zx_lay zM0, 308)) _
  refine zx_E.call1 (y := 110) (as := [.inr (some (0, 0, 0, 0)), .inl a1, .inl a2]) (rest := []) (v := .inl (-3)) (μ' := (zx_lay zM0, 308)) rfl (zx_run_of zc_X10_held [some (.inr (some (0, 0, 0, 0))), some (.inl a1), some (.inl a2)] rfl rfl (by
    refine zx_E.go 2 (s' := (4, [some (.inr (some (0, 0, 0, 0))), some (.inl a1), some (.inl a2)], [.inr (some (1, 0, 0, 0))], (zx_lay zM0, 308))) rfl ?_
    refine zx_E.call1 (y := 15) (as := [.inr (some (1, 0, 0, 0))]) (rest := []) (v := .inl 0) (μ' := (zx_lay zM0, 308)) rfl (zx_run_of zc_X2_exists [some (.inr (some (1, 0, 0, 0)))] rfl rfl (by
      refine zx_E.go 2 (s' := (4, [some (.inr (some (1, 0, 0, 0)))], [.inl 0], (zx_lay zM0, 308))) rfl ?_
      refine zx_E.bt (c := 0 ≤ 0) (s1 := (11, [some (.inr (some (1, 0, 0, 0)))], [], (zx_lay zM0, 308))) (s2 := (7, [some (.inr (some (1, 0, 0, 0)))], [], (zx_lay zM0, 308))) rfl (by decide) ?_
      refine zx_E.go 1 (s' := (12, [some (.inr (some (1, 0, 0, 0)))], [.inl 0], (zx_lay zM0, 308))) rfl ?_
      exact zx_E.iret rfl (fun _ => Or.inl rfl) rfl)) ?_
    show zx_E _ _ _ (7, [some (.inr (some (0, 0, 0, 0))), some (.inl a1), some (.inl a2)], [.inl 0], (zx_lay zM0, 308)) _
    refine zx_E.bt (c := 0 = 0) (s1 := (10, [some (.inr (some (0, 0, 0, 0))), some (.inl a1), some (.inl a2)], [], (zx_lay zM0, 308))) (s2 := (13, [some (.inr (some (0, 0, 0, 0))), some (.inl a1), some (.inl a2)], [], (zx_lay zM0, 308))) rfl (by decide) ?_
    refine zx_E.go 1 (s' := (12, [some (.inr (some (0, 0, 0, 0))), some (.inl a1), some (.inl a2)], [.inl (-3)], (zx_lay zM0, 308))) rfl ?_
    exact zx_E.iret rfl (fun h => absurd h (by decide)) rfl)) ?_
  show zx_E _ _ _ (620, [some (.inr (some (33, 0, 0, 0))), some (.inr (some (0, 0, 0, 0))), some (.inr (some (25, 0, 0, 0))), some (.inl 0)], [.inl (-3)], (zx_lay zM0, 308)) _
  refine zx_E.go 5 (s' := (625, [some (.inr (some (33, 0, 0, 0))), some (.inr (some (0, 0, 0, 0))), some (.inr (some (25, 0, 0, 0))), some (.inl 0)], [.inl 1, .inr (some (33, 0, 0, 0)), .inr (some (25, 0, 0, 0)), .inl (-3)], (zx_lay zM0, 308))) rfl ?_
  refine zx_E.sld' (k := 1) (v := a1) rfl rfl (by omega) (by decide) e1 ?_
  show zx_E _ _ _ (626, [some (.inr (some (33, 0, 0, 0))), some (.inr (some (0, 0, 0, 0))), some (.inr (some (25, 0, 0, 0))), some (.inl 0)], [.inl a1, .inr (some (25, 0, 0, 0)), .inl (-3)], (zx_lay zM0, 308)) _
  refine zx_E.go 4 (s' := (630, [some (.inr (some (33, 0, 0, 0))), some (.inr (some (0, 0, 0, 0))), some (.inr (some (25, 0, 0, 0))), some (.inl 0)], [.inl 2, .inr (some (33, 0, 0, 0)), .inl a1, .inr (some (25, 0, 0, 0)), .inl (-3)], (zx_lay zM0, 308))) rfl ?_
  refine zx_E.sld' (k := 2) (v := a2) rfl rfl (by omega) (by decide) e2 ?_
  show zx_E _ _ _ (631, [some (.inr (some (33, 0, 0, 0))), some (.inr (some (0, 0, 0, 0))), some (.inr (some (25, 0, 0, 0))), some (.inl 0)], [.inl a2, .inl a1, .inr (some (25, 0, 0, 0)), .inl (-3)], (zx_lay zM0, 308)) _
  refine zx_E.call1 (y := 193) (as := [.inr (some (25, 0, 0, 0)), .inl a1, .inl a2]) (rest := [.inl (-3)]) (v := .inl (-3)) (μ' := (zx_lay zM0, 308)) rfl (zx_run_of zc_X11_held [some (.inr (some (25, 0, 0, 0))), some (.inl a1), some (.inl a2), none] rfl rfl (by
    refine zx_E.go 3 (s' := (5, [some (.inr (some (25, 0, 0, 0))), some (.inl a1), some (.inl a2), none], [.inl 1, .inr (some (26, 0, 0, 0))], (zx_lay zM0, 308))) rfl ?_
    refine zx_E.iald' (k := 1) (h := (26, 0, 0, 0)) (v := 0) rfl rfl rfl (by decide) rfl ?_
    show zx_E _ _ _ (6, [some (.inr (some (25, 0, 0, 0))), some (.inl a1), some (.inl a2), none], [.inl 0], (zx_lay zM0, 308)) _
    refine zx_E.bt (c := 0 = 0) (s1 := (9, [some (.inr (some (25, 0, 0, 0))), some (.inl a1), some (.inl a2), none], [], (zx_lay zM0, 308))) (s2 := (12, [some (.inr (some (25, 0, 0, 0))), some (.inl a1), some (.inl a2), none], [], (zx_lay zM0, 308))) rfl (by decide) ?_
    refine zx_E.go 1 (s' := (11, [some (.inr (some (25, 0, 0, 0))), some (.inl a1), some (.inl a2), none], [.inl (-3)], (zx_lay zM0, 308))) rfl ?_
    exact zx_E.iret rfl (fun h => absurd h (by decide)) rfl)) ?_
  show zx_E _ _ _ (634, [some (.inr (some (33, 0, 0, 0))), some (.inr (some (0, 0, 0, 0))), some (.inr (some (25, 0, 0, 0))), some (.inl 0)], [.inl (-3), .inl (-3)], (zx_lay zM0, 308)) _
  refine zx_E.bt (c := (-3) = (-3)) (s1 := (734, [some (.inr (some (33, 0, 0, 0))), some (.inr (some (0, 0, 0, 0))), some (.inr (some (25, 0, 0, 0))), some (.inl 0)], [], (zx_lay zM0, 308))) (s2 := (637, [some (.inr (some (33, 0, 0, 0))), some (.inr (some (0, 0, 0, 0))), some (.inr (some (25, 0, 0, 0))), some (.inl 0)], [], (zx_lay zM0, 308))) rfl (by decide) ?_
  refine zx_E.go 6 (s' := (23, [some (.inr (some (33, 0, 0, 0))), some (.inr (some (0, 0, 0, 0))), some (.inr (some (25, 0, 0, 0))), some (.inl 7)], [.inl 7, .inl 7, .inl 7], (zx_lay zM0, 308))) rfl ?_
  refine zx_E.go 1 (s' := (24, [some (.inr (some (33, 0, 0, 0))), some (.inr (some (0, 0, 0, 0))), some (.inr (some (25, 0, 0, 0))), some (.inl 7)], [.inl 0, .inl 7], (zx_lay zM0, 308))) rfl ?_
  refine zx_E.bt (c := 0 < 7) (s1 := (740, [some (.inr (some (33, 0, 0, 0))), some (.inr (some (0, 0, 0, 0))), some (.inr (some (25, 0, 0, 0))), some (.inl 7)], [], (zx_lay zM0, 308))) (s2 := (27, [some (.inr (some (33, 0, 0, 0))), some (.inr (some (0, 0, 0, 0))), some (.inr (some (25, 0, 0, 0))), some (.inl 7)], [], (zx_lay zM0, 308))) rfl (by decide) ?_
  refine zx_E.go 1 (s' := (741, [some (.inr (some (33, 0, 0, 0))), some (.inr (some (0, 0, 0, 0))), some (.inr (some (25, 0, 0, 0))), some (.inl 7)], [.inl 1], (zx_lay zM0, 308))) rfl ?_
  exact zx_E.iret rfl (fun _ => Or.inr rfl) rfl
set_option maxRecDepth 100000 in
set_option maxHeartbeats 4000000 in
theorem p1_op_17 {xs : Nat → Int32} {a0 a1 a2 a3 a4 a5 a6 : Int32} (e0 : xs 0 = a0) (e1 : xs 1 = a1) (e2 : xs 2 = a2) (e3 : xs 3 = a3) (e4 : xs 4 = a4) (e5 : xs 5 = a5) (e6 : xs 6 = a6) (hk : (a0 &&& 31) = 17) :
    ∃ μ : zx_M, μ.2 ≤ 308 ∧ zx_E (7, xs) 11 zc_L_law (18, [some (.inr (some (33, 0, 0, 0))), some (.inr (some (0, 0, 0, 0))), some (.inr (some (25, 0, 0, 0))), some (.inl 0)], [], (zx_lay zM0, 308)) (some (.inl 1), μ) := by
  refine ⟨(zx_lay zM0, 308), Nat.le_refl _, ?_⟩
  refine zx_E.go 4 (s' := (23, [some (.inr (some (33, 0, 0, 0))), some (.inr (some (0, 0, 0, 0))), some (.inr (some (25, 0, 0, 0))), some (.inl 0)], [.inl 7, .inl 7, .inl 0], (zx_lay zM0, 308))) rfl ?_
  refine zx_E.go 1 (s' := (24, [some (.inr (some (33, 0, 0, 0))), some (.inr (some (0, 0, 0, 0))), some (.inr (some (25, 0, 0, 0))), some (.inl 0)], [.inl 0, .inl 0], (zx_lay zM0, 308))) rfl ?_
  refine zx_E.bf (c := 0 < 0) (s1 := (740, [some (.inr (some (33, 0, 0, 0))), some (.inr (some (0, 0, 0, 0))), some (.inr (some (25, 0, 0, 0))), some (.inl 0)], [], (zx_lay zM0, 308))) (s2 := (27, [some (.inr (some (33, 0, 0, 0))), some (.inr (some (0, 0, 0, 0))), some (.inr (some (25, 0, 0, 0))), some (.inl 0)], [], (zx_lay zM0, 308))) rfl (by decide) ?_
  refine zx_E.go 2 (s' := (29, [some (.inr (some (33, 0, 0, 0))), some (.inr (some (0, 0, 0, 0))), some (.inr (some (25, 0, 0, 0))), some (.inl 0)], [.inl 0, .inr (some (33, 0, 0, 0))], (zx_lay zM0, 308))) rfl ?_
  refine zx_E.sld' (k := 0) (v := a0) rfl rfl (by omega) (by decide) e0 ?_
  show zx_E _ _ _ (30, [some (.inr (some (33, 0, 0, 0))), some (.inr (some (0, 0, 0, 0))), some (.inr (some (25, 0, 0, 0))), some (.inl 0)], [.inl a0], (zx_lay zM0, 308)) _
  refine zx_E.go 2 (s' := (33, [some (.inr (some (33, 0, 0, 0))), some (.inr (some (0, 0, 0, 0))), some (.inr (some (25, 0, 0, 0))), some (.inl 0)], [.inl (a0 &&& 31)], (zx_lay zM0, 308))) rfl ?_
  refine zx_E.one (s' := (zx_pick (a0 &&& 31) 0 [136, 211, 224, 247, 270, 293, 316, 339, 372, 405, 438, 471, 494, 517, 560, 573, 606, 639, 652, 685, 698, 711] 734, [some (.inr (some (33, 0, 0, 0))), some (.inr (some (0, 0, 0, 0))), some (.inr (some (25, 0, 0, 0))), some (.inl 0)], [], (zx_lay zM0, 308))) rfl ?_
  refine zx_E.pick (k' := 1) (by decide) (fun hn => absurd hn (fun q => absurd (hk.symm.trans q) (by decide))) (fun _ => ?_)
  refine zx_E.pick (k' := 2) (by decide) (fun hn => absurd hn (fun q => absurd (hk.symm.trans q) (by decide))) (fun _ => ?_)
  refine zx_E.pick (k' := 3) (by decide) (fun hn => absurd hn (fun q => absurd (hk.symm.trans q) (by decide))) (fun _ => ?_)
  refine zx_E.pick (k' := 4) (by decide) (fun hn => absurd hn (fun q => absurd (hk.symm.trans q) (by decide))) (fun _ => ?_)
  refine zx_E.pick (k' := 5) (by decide) (fun hn => absurd hn (fun q => absurd (hk.symm.trans q) (by decide))) (fun _ => ?_)
  refine zx_E.pick (k' := 6) (by decide) (fun hn => absurd hn (fun q => absurd (hk.symm.trans q) (by decide))) (fun _ => ?_)
  refine zx_E.pick (k' := 7) (by decide) (fun hn => absurd hn (fun q => absurd (hk.symm.trans q) (by decide))) (fun _ => ?_)
  refine zx_E.pick (k' := 8) (by decide) (fun hn => absurd hn (fun q => absurd (hk.symm.trans q) (by decide))) (fun _ => ?_)
  refine zx_E.pick (k' := 9) (by decide) (fun hn => absurd hn (fun q => absurd (hk.symm.trans q) (by decide))) (fun _ => ?_)
  refine zx_E.pick (k' := 10) (by decide) (fun hn => absurd hn (fun q => absurd (hk.symm.trans q) (by decide))) (fun _ => ?_)
  refine zx_E.pick (k' := 11) (by decide) (fun hn => absurd hn (fun q => absurd (hk.symm.trans q) (by decide))) (fun _ => ?_)
  refine zx_E.pick (k' := 12) (by decide) (fun hn => absurd hn (fun q => absurd (hk.symm.trans q) (by decide))) (fun _ => ?_)
  refine zx_E.pick (k' := 13) (by decide) (fun hn => absurd hn (fun q => absurd (hk.symm.trans q) (by decide))) (fun _ => ?_)
  refine zx_E.pick (k' := 14) (by decide) (fun hn => absurd hn (fun q => absurd (hk.symm.trans q) (by decide))) (fun _ => ?_)
  refine zx_E.pick (k' := 15) (by decide) (fun hn => absurd hn (fun q => absurd (hk.symm.trans q) (by decide))) (fun _ => ?_)
  refine zx_E.pick (k' := 16) (by decide) (fun hn => absurd hn (fun q => absurd (hk.symm.trans q) (by decide))) (fun _ => ?_)
  refine zx_E.pick (k' := 17) (by decide) (fun hn => absurd hn (fun q => absurd (hk.symm.trans q) (by decide))) (fun _ => ?_)
  refine zx_E.pick (k' := 18) (by decide) (fun _ => ?_) (fun hn => absurd hk hn)
  refine zx_E.go 1 (s' := (640, [some (.inr (some (33, 0, 0, 0))), some (.inr (some (0, 0, 0, 0))), some (.inr (some (25, 0, 0, 0))), some (.inl 0)], [.inr (some (0, 0, 0, 0))], (zx_lay zM0, 308))) rfl ?_
  refine zx_E.call1 (y := 111) (as := [.inr (some (0, 0, 0, 0))]) (rest := []) (v := .inl 0) (μ' := (zx_lay zM0, 308)) rfl (zx_run_of zc_X10_conflicts [some (.inr (some (0, 0, 0, 0))), none, none] rfl rfl (by
    refine zx_E.go 6 (s' := (7, [some (.inr (some (0, 0, 0, 0))), some (.inl 0), some (.inl 0)], [.inl 7, .inl 0], (zx_lay zM0, 308))) rfl ?_
    refine zx_E.bf (c := 7 ≤ 0) (s1 := (38, [some (.inr (some (0, 0, 0, 0))), some (.inl 0), some (.inl 0)], [], (zx_lay zM0, 308))) (s2 := (10, [some (.inr (some (0, 0, 0, 0))), some (.inl 0), some (.inl 0)], [], (zx_lay zM0, 308))) rfl (by decide) ?_
    refine zx_E.go 3 (s' := (15, [some (.inr (some (0, 0, 0, 0))), some (.inl 0), some (.inl 0)], [.inl 0, .inr (some (1, 0, 0, 0))], (zx_lay zM0, 308))) rfl ?_
    refine zx_E.call1 (y := 17) (as := [.inr (some (1, 0, 0, 0)), .inl 0]) (rest := []) (v := .inl 0) (μ' := (zx_lay zM0, 308)) rfl (zx_run_of zc_X2_hasBlock [some (.inr (some (1, 0, 0, 0))), some (.inl 0)] rfl rfl (by
      refine zx_E.go 1 (s' := (1, [some (.inr (some (1, 0, 0, 0))), some (.inl 0)], [.inl 0], (zx_lay zM0, 308))) rfl ?_
      refine zx_E.bf (c := 0 < 0) (s1 := (24, [some (.inr (some (1, 0, 0, 0))), some (.inl 0)], [], (zx_lay zM0, 308))) (s2 := (4, [some (.inr (some (1, 0, 0, 0))), some (.inl 0)], [], (zx_lay zM0, 308))) rfl (by decide) ?_
      refine zx_E.go 4 (s' := (10, [some (.inr (some (1, 0, 0, 0))), some (.inl 0)], [.inl 1, .inl 0, .inl 0], (zx_lay zM0, 308))) rfl ?_
      refine zx_E.go 1 (s' := (11, [some (.inr (some (1, 0, 0, 0))), some (.inl 0)], [.inl (-1), .inl 0], (zx_lay zM0, 308))) rfl ?_
      refine zx_E.bt (c := (-1) ≤ 0) (s1 := (24, [some (.inr (some (1, 0, 0, 0))), some (.inl 0)], [], (zx_lay zM0, 308))) (s2 := (14, [some (.inr (some (1, 0, 0, 0))), some (.inl 0)], [], (zx_lay zM0, 308))) rfl (by decide) ?_
      refine zx_E.go 1 (s' := (25, [some (.inr (some (1, 0, 0, 0))), some (.inl 0)], [.inl 0], (zx_lay zM0, 308))) rfl ?_
      exact zx_E.iret rfl (fun _ => Or.inl rfl) rfl)) ?_
    show zx_E _ _ _ (18, [some (.inr (some (0, 0, 0, 0))), some (.inl 0), some (.inl 0)], [.inl 0], (zx_lay zM0, 308)) _
    refine zx_E.bt (c := 0 = 0) (s1 := (32, [some (.inr (some (0, 0, 0, 0))), some (.inl 0), some (.inl 0)], [], (zx_lay zM0, 308))) (s2 := (21, [some (.inr (some (0, 0, 0, 0))), some (.inl 0), some (.inl 0)], [], (zx_lay zM0, 308))) rfl (by decide) ?_
    refine zx_E.go 4 (s' := (7, [some (.inr (some (0, 0, 0, 0))), some (.inl 0), some (.inl 1)], [.inl 7, .inl 1], (zx_lay zM0, 308))) rfl ?_
    refine zx_E.bf (c := 7 ≤ 1) (s1 := (38, [some (.inr (some (0, 0, 0, 0))), some (.inl 0), some (.inl 1)], [], (zx_lay zM0, 308))) (s2 := (10, [some (.inr (some (0, 0, 0, 0))), some (.inl 0), some (.inl 1)], [], (zx_lay zM0, 308))) rfl (by decide) ?_
    refine zx_E.go 3 (s' := (15, [some (.inr (some (0, 0, 0, 0))), some (.inl 0), some (.inl 1)], [.inl 1, .inr (some (1, 0, 0, 0))], (zx_lay zM0, 308))) rfl ?_
    refine zx_E.call1 (y := 17) (as := [.inr (some (1, 0, 0, 0)), .inl 1]) (rest := []) (v := .inl 0) (μ' := (zx_lay zM0, 308)) rfl (zx_run_of zc_X2_hasBlock [some (.inr (some (1, 0, 0, 0))), some (.inl 1)] rfl rfl (by
      refine zx_E.go 1 (s' := (1, [some (.inr (some (1, 0, 0, 0))), some (.inl 1)], [.inl 1], (zx_lay zM0, 308))) rfl ?_
      refine zx_E.bf (c := 1 < 0) (s1 := (24, [some (.inr (some (1, 0, 0, 0))), some (.inl 1)], [], (zx_lay zM0, 308))) (s2 := (4, [some (.inr (some (1, 0, 0, 0))), some (.inl 1)], [], (zx_lay zM0, 308))) rfl (by decide) ?_
      refine zx_E.go 4 (s' := (10, [some (.inr (some (1, 0, 0, 0))), some (.inl 1)], [.inl 1, .inl 0, .inl 1], (zx_lay zM0, 308))) rfl ?_
      refine zx_E.go 1 (s' := (11, [some (.inr (some (1, 0, 0, 0))), some (.inl 1)], [.inl (-1), .inl 1], (zx_lay zM0, 308))) rfl ?_
      refine zx_E.bt (c := (-1) ≤ 1) (s1 := (24, [some (.inr (some (1, 0, 0, 0))), some (.inl 1)], [], (zx_lay zM0, 308))) (s2 := (14, [some (.inr (some (1, 0, 0, 0))), some (.inl 1)], [], (zx_lay zM0, 308))) rfl (by decide) ?_
      refine zx_E.go 1 (s' := (25, [some (.inr (some (1, 0, 0, 0))), some (.inl 1)], [.inl 0], (zx_lay zM0, 308))) rfl ?_
      exact zx_E.iret rfl (fun _ => Or.inl rfl) rfl)) ?_
    show zx_E _ _ _ (18, [some (.inr (some (0, 0, 0, 0))), some (.inl 0), some (.inl 1)], [.inl 0], (zx_lay zM0, 308)) _
    refine zx_E.bt (c := 0 = 0) (s1 := (32, [some (.inr (some (0, 0, 0, 0))), some (.inl 0), some (.inl 1)], [], (zx_lay zM0, 308))) (s2 := (21, [some (.inr (some (0, 0, 0, 0))), some (.inl 0), some (.inl 1)], [], (zx_lay zM0, 308))) rfl (by decide) ?_
    refine zx_E.go 4 (s' := (7, [some (.inr (some (0, 0, 0, 0))), some (.inl 0), some (.inl 2)], [.inl 7, .inl 2], (zx_lay zM0, 308))) rfl ?_
    refine zx_E.bf (c := 7 ≤ 2) (s1 := (38, [some (.inr (some (0, 0, 0, 0))), some (.inl 0), some (.inl 2)], [], (zx_lay zM0, 308))) (s2 := (10, [some (.inr (some (0, 0, 0, 0))), some (.inl 0), some (.inl 2)], [], (zx_lay zM0, 308))) rfl (by decide) ?_
    refine zx_E.go 3 (s' := (15, [some (.inr (some (0, 0, 0, 0))), some (.inl 0), some (.inl 2)], [.inl 2, .inr (some (1, 0, 0, 0))], (zx_lay zM0, 308))) rfl ?_
    refine zx_E.call1 (y := 17) (as := [.inr (some (1, 0, 0, 0)), .inl 2]) (rest := []) (v := .inl 0) (μ' := (zx_lay zM0, 308)) rfl (zx_run_of zc_X2_hasBlock [some (.inr (some (1, 0, 0, 0))), some (.inl 2)] rfl rfl (by
      refine zx_E.go 1 (s' := (1, [some (.inr (some (1, 0, 0, 0))), some (.inl 2)], [.inl 2], (zx_lay zM0, 308))) rfl ?_
      refine zx_E.bf (c := 2 < 0) (s1 := (24, [some (.inr (some (1, 0, 0, 0))), some (.inl 2)], [], (zx_lay zM0, 308))) (s2 := (4, [some (.inr (some (1, 0, 0, 0))), some (.inl 2)], [], (zx_lay zM0, 308))) rfl (by decide) ?_
      refine zx_E.go 4 (s' := (10, [some (.inr (some (1, 0, 0, 0))), some (.inl 2)], [.inl 1, .inl 0, .inl 2], (zx_lay zM0, 308))) rfl ?_
      refine zx_E.go 1 (s' := (11, [some (.inr (some (1, 0, 0, 0))), some (.inl 2)], [.inl (-1), .inl 2], (zx_lay zM0, 308))) rfl ?_
      refine zx_E.bt (c := (-1) ≤ 2) (s1 := (24, [some (.inr (some (1, 0, 0, 0))), some (.inl 2)], [], (zx_lay zM0, 308))) (s2 := (14, [some (.inr (some (1, 0, 0, 0))), some (.inl 2)], [], (zx_lay zM0, 308))) rfl (by decide) ?_
      refine zx_E.go 1 (s' := (25, [some (.inr (some (1, 0, 0, 0))), some (.inl 2)], [.inl 0], (zx_lay zM0, 308))) rfl ?_
      exact zx_E.iret rfl (fun _ => Or.inl rfl) rfl)) ?_
    show zx_E _ _ _ (18, [some (.inr (some (0, 0, 0, 0))), some (.inl 0), some (.inl 2)], [.inl 0], (zx_lay zM0, 308)) _
    refine zx_E.bt (c := 0 = 0) (s1 := (32, [some (.inr (some (0, 0, 0, 0))), some (.inl 0), some (.inl 2)], [], (zx_lay zM0, 308))) (s2 := (21, [some (.inr (some (0, 0, 0, 0))), some (.inl 0), some (.inl 2)], [], (zx_lay zM0, 308))) rfl (by decide) ?_
    refine zx_E.go 4 (s' := (7, [some (.inr (some (0, 0, 0, 0))), some (.inl 0), some (.inl 3)], [.inl 7, .inl 3], (zx_lay zM0, 308))) rfl ?_
    refine zx_E.bf (c := 7 ≤ 3) (s1 := (38, [some (.inr (some (0, 0, 0, 0))), some (.inl 0), some (.inl 3)], [], (zx_lay zM0, 308))) (s2 := (10, [some (.inr (some (0, 0, 0, 0))), some (.inl 0), some (.inl 3)], [], (zx_lay zM0, 308))) rfl (by decide) ?_
    refine zx_E.go 3 (s' := (15, [some (.inr (some (0, 0, 0, 0))), some (.inl 0), some (.inl 3)], [.inl 3, .inr (some (1, 0, 0, 0))], (zx_lay zM0, 308))) rfl ?_
    refine zx_E.call1 (y := 17) (as := [.inr (some (1, 0, 0, 0)), .inl 3]) (rest := []) (v := .inl 0) (μ' := (zx_lay zM0, 308)) rfl (zx_run_of zc_X2_hasBlock [some (.inr (some (1, 0, 0, 0))), some (.inl 3)] rfl rfl (by
      refine zx_E.go 1 (s' := (1, [some (.inr (some (1, 0, 0, 0))), some (.inl 3)], [.inl 3], (zx_lay zM0, 308))) rfl ?_
      refine zx_E.bf (c := 3 < 0) (s1 := (24, [some (.inr (some (1, 0, 0, 0))), some (.inl 3)], [], (zx_lay zM0, 308))) (s2 := (4, [some (.inr (some (1, 0, 0, 0))), some (.inl 3)], [], (zx_lay zM0, 308))) rfl (by decide) ?_
      refine zx_E.go 4 (s' := (10, [some (.inr (some (1, 0, 0, 0))), some (.inl 3)], [.inl 1, .inl 0, .inl 3], (zx_lay zM0, 308))) rfl ?_
      refine zx_E.go 1 (s' := (11, [some (.inr (some (1, 0, 0, 0))), some (.inl 3)], [.inl (-1), .inl 3], (zx_lay zM0, 308))) rfl ?_
      refine zx_E.bt (c := (-1) ≤ 3) (s1 := (24, [some (.inr (some (1, 0, 0, 0))), some (.inl 3)], [], (zx_lay zM0, 308))) (s2 := (14, [some (.inr (some (1, 0, 0, 0))), some (.inl 3)], [], (zx_lay zM0, 308))) rfl (by decide) ?_
      refine zx_E.go 1 (s' := (25, [some (.inr (some (1, 0, 0, 0))), some (.inl 3)], [.inl 0], (zx_lay zM0, 308))) rfl ?_
      exact zx_E.iret rfl (fun _ => Or.inl rfl) rfl)) ?_
    show zx_E _ _ _ (18, [some (.inr (some (0, 0, 0, 0))), some (.inl 0), some (.inl 3)], [.inl 0], (zx_lay zM0, 308)) _
    refine zx_E.bt (c := 0 = 0) (s1 := (32, [some (.inr (some (0, 0, 0, 0))), some (.inl 0), some (.inl 3)], [], (zx_lay zM0, 308))) (s2 := (21, [some (.inr (some (0, 0, 0, 0))), some (.inl 0), some (.inl 3)], [], (zx_lay zM0, 308))) rfl (by decide) ?_
    refine zx_E.go 4 (s' := (7, [some (.inr (some (0, 0, 0, 0))), some (.inl 0), some (.inl 4)], [.inl 7, .inl 4], (zx_lay zM0, 308))) rfl ?_
    refine zx_E.bf (c := 7 ≤ 4) (s1 := (38, [some (.inr (some (0, 0, 0, 0))), some (.inl 0), some (.inl 4)], [], (zx_lay zM0, 308))) (s2 := (10, [some (.inr (some (0, 0, 0, 0))), some (.inl 0), some (.inl 4)], [], (zx_lay zM0, 308))) rfl (by decide) ?_
    refine zx_E.go 3 (s' := (15, [some (.inr (some (0, 0, 0, 0))), some (.inl 0), some (.inl 4)], [.inl 4, .inr (some (1, 0, 0, 0))], (zx_lay zM0, 308))) rfl ?_
    refine zx_E.call1 (y := 17) (as := [.inr (some (1, 0, 0, 0)), .inl 4]) (rest := []) (v := .inl 0) (μ' := (zx_lay zM0, 308)) rfl (zx_run_of zc_X2_hasBlock [some (.inr (some (1, 0, 0, 0))), some (.inl 4)] rfl rfl (by
      refine zx_E.go 1 (s' := (1, [some (.inr (some (1, 0, 0, 0))), some (.inl 4)], [.inl 4], (zx_lay zM0, 308))) rfl ?_
      refine zx_E.bf (c := 4 < 0) (s1 := (24, [some (.inr (some (1, 0, 0, 0))), some (.inl 4)], [], (zx_lay zM0, 308))) (s2 := (4, [some (.inr (some (1, 0, 0, 0))), some (.inl 4)], [], (zx_lay zM0, 308))) rfl (by decide) ?_
      refine zx_E.go 4 (s' := (10, [some (.inr (some (1, 0, 0, 0))), some (.inl 4)], [.inl 1, .inl 0, .inl 4], (zx_lay zM0, 308))) rfl ?_
      refine zx_E.go 1 (s' := (11, [some (.inr (some (1, 0, 0, 0))), some (.inl 4)], [.inl (-1), .inl 4], (zx_lay zM0, 308))) rfl ?_
      refine zx_E.bt (c := (-1) ≤ 4) (s1 := (24, [some (.inr (some (1, 0, 0, 0))), some (.inl 4)], [], (zx_lay zM0, 308))) (s2 := (14, [some (.inr (some (1, 0, 0, 0))), some (.inl 4)], [], (zx_lay zM0, 308))) rfl (by decide) ?_
      refine zx_E.go 1 (s' := (25, [some (.inr (some (1, 0, 0, 0))), some (.inl 4)], [.inl 0], (zx_lay zM0, 308))) rfl ?_
      exact zx_E.iret rfl (fun _ => Or.inl rfl) rfl)) ?_
    show zx_E _ _ _ (18, [some (.inr (some (0, 0, 0, 0))), some (.inl 0), some (.inl 4)], [.inl 0], (zx_lay zM0, 308)) _
    refine zx_E.bt (c := 0 = 0) (s1 := (32, [some (.inr (some (0, 0, 0, 0))), some (.inl 0), some (.inl 4)], [], (zx_lay zM0, 308))) (s2 := (21, [some (.inr (some (0, 0, 0, 0))), some (.inl 0), some (.inl 4)], [], (zx_lay zM0, 308))) rfl (by decide) ?_
    refine zx_E.go 4 (s' := (7, [some (.inr (some (0, 0, 0, 0))), some (.inl 0), some (.inl 5)], [.inl 7, .inl 5], (zx_lay zM0, 308))) rfl ?_
    refine zx_E.bf (c := 7 ≤ 5) (s1 := (38, [some (.inr (some (0, 0, 0, 0))), some (.inl 0), some (.inl 5)], [], (zx_lay zM0, 308))) (s2 := (10, [some (.inr (some (0, 0, 0, 0))), some (.inl 0), some (.inl 5)], [], (zx_lay zM0, 308))) rfl (by decide) ?_
    refine zx_E.go 3 (s' := (15, [some (.inr (some (0, 0, 0, 0))), some (.inl 0), some (.inl 5)], [.inl 5, .inr (some (1, 0, 0, 0))], (zx_lay zM0, 308))) rfl ?_
    refine zx_E.call1 (y := 17) (as := [.inr (some (1, 0, 0, 0)), .inl 5]) (rest := []) (v := .inl 0) (μ' := (zx_lay zM0, 308)) rfl (zx_run_of zc_X2_hasBlock [some (.inr (some (1, 0, 0, 0))), some (.inl 5)] rfl rfl (by
      refine zx_E.go 1 (s' := (1, [some (.inr (some (1, 0, 0, 0))), some (.inl 5)], [.inl 5], (zx_lay zM0, 308))) rfl ?_
      refine zx_E.bf (c := 5 < 0) (s1 := (24, [some (.inr (some (1, 0, 0, 0))), some (.inl 5)], [], (zx_lay zM0, 308))) (s2 := (4, [some (.inr (some (1, 0, 0, 0))), some (.inl 5)], [], (zx_lay zM0, 308))) rfl (by decide) ?_
      refine zx_E.go 4 (s' := (10, [some (.inr (some (1, 0, 0, 0))), some (.inl 5)], [.inl 1, .inl 0, .inl 5], (zx_lay zM0, 308))) rfl ?_
      refine zx_E.go 1 (s' := (11, [some (.inr (some (1, 0, 0, 0))), some (.inl 5)], [.inl (-1), .inl 5], (zx_lay zM0, 308))) rfl ?_
      refine zx_E.bt (c := (-1) ≤ 5) (s1 := (24, [some (.inr (some (1, 0, 0, 0))), some (.inl 5)], [], (zx_lay zM0, 308))) (s2 := (14, [some (.inr (some (1, 0, 0, 0))), some (.inl 5)], [], (zx_lay zM0, 308))) rfl (by decide) ?_
      refine zx_E.go 1 (s' := (25, [some (.inr (some (1, 0, 0, 0))), some (.inl 5)], [.inl 0], (zx_lay zM0, 308))) rfl ?_
      exact zx_E.iret rfl (fun _ => Or.inl rfl) rfl)) ?_
    show zx_E _ _ _ (18, [some (.inr (some (0, 0, 0, 0))), some (.inl 0), some (.inl 5)], [.inl 0], (zx_lay zM0, 308)) _
    refine zx_E.bt (c := 0 = 0) (s1 := (32, [some (.inr (some (0, 0, 0, 0))), some (.inl 0), some (.inl 5)], [], (zx_lay zM0, 308))) (s2 := (21, [some (.inr (some (0, 0, 0, 0))), some (.inl 0), some (.inl 5)], [], (zx_lay zM0, 308))) rfl (by decide) ?_
    refine zx_E.go 4 (s' := (7, [some (.inr (some (0, 0, 0, 0))), some (.inl 0), some (.inl 6)], [.inl 7, .inl 6], (zx_lay zM0, 308))) rfl ?_
    refine zx_E.bf (c := 7 ≤ 6) (s1 := (38, [some (.inr (some (0, 0, 0, 0))), some (.inl 0), some (.inl 6)], [], (zx_lay zM0, 308))) (s2 := (10, [some (.inr (some (0, 0, 0, 0))), some (.inl 0), some (.inl 6)], [], (zx_lay zM0, 308))) rfl (by decide) ?_
    refine zx_E.go 3 (s' := (15, [some (.inr (some (0, 0, 0, 0))), some (.inl 0), some (.inl 6)], [.inl 6, .inr (some (1, 0, 0, 0))], (zx_lay zM0, 308))) rfl ?_
    refine zx_E.call1 (y := 17) (as := [.inr (some (1, 0, 0, 0)), .inl 6]) (rest := []) (v := .inl 0) (μ' := (zx_lay zM0, 308)) rfl (zx_run_of zc_X2_hasBlock [some (.inr (some (1, 0, 0, 0))), some (.inl 6)] rfl rfl (by
      refine zx_E.go 1 (s' := (1, [some (.inr (some (1, 0, 0, 0))), some (.inl 6)], [.inl 6], (zx_lay zM0, 308))) rfl ?_
      refine zx_E.bf (c := 6 < 0) (s1 := (24, [some (.inr (some (1, 0, 0, 0))), some (.inl 6)], [], (zx_lay zM0, 308))) (s2 := (4, [some (.inr (some (1, 0, 0, 0))), some (.inl 6)], [], (zx_lay zM0, 308))) rfl (by decide) ?_
      refine zx_E.go 4 (s' := (10, [some (.inr (some (1, 0, 0, 0))), some (.inl 6)], [.inl 1, .inl 0, .inl 6], (zx_lay zM0, 308))) rfl ?_
      refine zx_E.go 1 (s' := (11, [some (.inr (some (1, 0, 0, 0))), some (.inl 6)], [.inl (-1), .inl 6], (zx_lay zM0, 308))) rfl ?_
      refine zx_E.bt (c := (-1) ≤ 6) (s1 := (24, [some (.inr (some (1, 0, 0, 0))), some (.inl 6)], [], (zx_lay zM0, 308))) (s2 := (14, [some (.inr (some (1, 0, 0, 0))), some (.inl 6)], [], (zx_lay zM0, 308))) rfl (by decide) ?_
      refine zx_E.go 1 (s' := (25, [some (.inr (some (1, 0, 0, 0))), some (.inl 6)], [.inl 0], (zx_lay zM0, 308))) rfl ?_
      exact zx_E.iret rfl (fun _ => Or.inl rfl) rfl)) ?_
    show zx_E _ _ _ (18, [some (.inr (some (0, 0, 0, 0))), some (.inl 0), some (.inl 6)], [.inl 0], (zx_lay zM0, 308)) _
    refine zx_E.bt (c := 0 = 0) (s1 := (32, [some (.inr (some (0, 0, 0, 0))), some (.inl 0), some (.inl 6)], [], (zx_lay zM0, 308))) (s2 := (21, [some (.inr (some (0, 0, 0, 0))), some (.inl 0), some (.inl 6)], [], (zx_lay zM0, 308))) rfl (by decide) ?_
    refine zx_E.go 4 (s' := (7, [some (.inr (some (0, 0, 0, 0))), some (.inl 0), some (.inl 7)], [.inl 7, .inl 7], (zx_lay zM0, 308))) rfl ?_
    refine zx_E.bt (c := 7 ≤ 7) (s1 := (38, [some (.inr (some (0, 0, 0, 0))), some (.inl 0), some (.inl 7)], [], (zx_lay zM0, 308))) (s2 := (10, [some (.inr (some (0, 0, 0, 0))), some (.inl 0), some (.inl 7)], [], (zx_lay zM0, 308))) rfl (by decide) ?_
    refine zx_E.go 1 (s' := (39, [some (.inr (some (0, 0, 0, 0))), some (.inl 0), some (.inl 7)], [.inl 0], (zx_lay zM0, 308))) rfl ?_
    exact zx_E.iret rfl (fun h => absurd h (by decide)) rfl)) ?_
  show zx_E _ _ _ (643, [some (.inr (some (33, 0, 0, 0))), some (.inr (some (0, 0, 0, 0))), some (.inr (some (25, 0, 0, 0))), some (.inl 0)], [.inl 0], (zx_lay zM0, 308)) _
  refine zx_E.go 1 (s' := (644, [some (.inr (some (33, 0, 0, 0))), some (.inr (some (0, 0, 0, 0))), some (.inr (some (25, 0, 0, 0))), some (.inl 0)], [.inr (some (25, 0, 0, 0)), .inl 0], (zx_lay zM0, 308))) rfl ?_
  refine zx_E.call1 (y := 194) (as := [.inr (some (25, 0, 0, 0))]) (rest := [.inl 0]) (v := .inl 0) (μ' := (zx_lay zM0, 308)) rfl (zx_run_of zc_X11_conflicts [some (.inr (some (25, 0, 0, 0))), none, none, none, none, none] rfl rfl (by
    refine zx_E.go 8 (s' := (10, [some (.inr (some (25, 0, 0, 0))), some (.inl 0), some (.inl 0), none, none, none], [.inl 1, .inr (some (26, 0, 0, 0)), .inl 0], (zx_lay zM0, 308))) rfl ?_
    refine zx_E.iald' (k := 1) (h := (26, 0, 0, 0)) (v := 0) rfl rfl rfl (by decide) rfl ?_
    show zx_E _ _ _ (11, [some (.inr (some (25, 0, 0, 0))), some (.inl 0), some (.inl 0), none, none, none], [.inl 0, .inl 0], (zx_lay zM0, 308)) _
    refine zx_E.go 2 (s' := (13, [some (.inr (some (25, 0, 0, 0))), some (.inl 0), some (.inl 0), none, none, none], [.inl (-1), .inl 0], (zx_lay zM0, 308))) rfl ?_
    refine zx_E.bt (c := (-1) ≤ 0) (s1 := (139, [some (.inr (some (25, 0, 0, 0))), some (.inl 0), some (.inl 0), none, none, none], [], (zx_lay zM0, 308))) (s2 := (16, [some (.inr (some (25, 0, 0, 0))), some (.inl 0), some (.inl 0), none, none, none], [], (zx_lay zM0, 308))) rfl (by decide) ?_
    refine zx_E.go 1 (s' := (140, [some (.inr (some (25, 0, 0, 0))), some (.inl 0), some (.inl 0), none, none, none], [.inl 0], (zx_lay zM0, 308))) rfl ?_
    exact zx_E.iret rfl (fun h => absurd h (by decide)) rfl)) ?_
  show zx_E _ _ _ (647, [some (.inr (some (33, 0, 0, 0))), some (.inr (some (0, 0, 0, 0))), some (.inr (some (25, 0, 0, 0))), some (.inl 0)], [.inl 0, .inl 0], (zx_lay zM0, 308)) _
  refine zx_E.bt (c := 0 = 0) (s1 := (734, [some (.inr (some (33, 0, 0, 0))), some (.inr (some (0, 0, 0, 0))), some (.inr (some (25, 0, 0, 0))), some (.inl 0)], [], (zx_lay zM0, 308))) (s2 := (650, [some (.inr (some (33, 0, 0, 0))), some (.inr (some (0, 0, 0, 0))), some (.inr (some (25, 0, 0, 0))), some (.inl 0)], [], (zx_lay zM0, 308))) rfl (by decide) ?_
  refine zx_E.go 6 (s' := (23, [some (.inr (some (33, 0, 0, 0))), some (.inr (some (0, 0, 0, 0))), some (.inr (some (25, 0, 0, 0))), some (.inl 7)], [.inl 7, .inl 7, .inl 7], (zx_lay zM0, 308))) rfl ?_
  refine zx_E.go 1 (s' := (24, [some (.inr (some (33, 0, 0, 0))), some (.inr (some (0, 0, 0, 0))), some (.inr (some (25, 0, 0, 0))), some (.inl 7)], [.inl 0, .inl 7], (zx_lay zM0, 308))) rfl ?_
  refine zx_E.bt (c := 0 < 7) (s1 := (740, [some (.inr (some (33, 0, 0, 0))), some (.inr (some (0, 0, 0, 0))), some (.inr (some (25, 0, 0, 0))), some (.inl 7)], [], (zx_lay zM0, 308))) (s2 := (27, [some (.inr (some (33, 0, 0, 0))), some (.inr (some (0, 0, 0, 0))), some (.inr (some (25, 0, 0, 0))), some (.inl 7)], [], (zx_lay zM0, 308))) rfl (by decide) ?_
  refine zx_E.go 1 (s' := (741, [some (.inr (some (33, 0, 0, 0))), some (.inr (some (0, 0, 0, 0))), some (.inr (some (25, 0, 0, 0))), some (.inl 7)], [.inl 1], (zx_lay zM0, 308))) rfl ?_
  exact zx_E.iret rfl (fun _ => Or.inr rfl) rfl
set_option maxRecDepth 100000 in
set_option maxHeartbeats 4000000 in
theorem p1_op_18 {xs : Nat → Int32} {a0 a1 a2 a3 a4 a5 a6 : Int32} (e0 : xs 0 = a0) (e1 : xs 1 = a1) (e2 : xs 2 = a2) (e3 : xs 3 = a3) (e4 : xs 4 = a4) (e5 : xs 5 = a5) (e6 : xs 6 = a6) (hk : (a0 &&& 31) = 18) :
    ∃ μ : zx_M, μ.2 ≤ 308 ∧ zx_E (7, xs) 11 zc_L_law (18, [some (.inr (some (33, 0, 0, 0))), some (.inr (some (0, 0, 0, 0))), some (.inr (some (25, 0, 0, 0))), some (.inl 0)], [], (zx_lay zM0, 308)) (some (.inl 1), μ) := by
  by_cases h1 : a1 < 0
  · skip
    refine ⟨(zx_lay zM0, 308), Nat.le_refl _, ?_⟩
    refine zx_E.go 4 (s' := (23, [some (.inr (some (33, 0, 0, 0))), some (.inr (some (0, 0, 0, 0))), some (.inr (some (25, 0, 0, 0))), some (.inl 0)], [.inl 7, .inl 7, .inl 0], (zx_lay zM0, 308))) rfl ?_
    refine zx_E.go 1 (s' := (24, [some (.inr (some (33, 0, 0, 0))), some (.inr (some (0, 0, 0, 0))), some (.inr (some (25, 0, 0, 0))), some (.inl 0)], [.inl 0, .inl 0], (zx_lay zM0, 308))) rfl ?_
    refine zx_E.bf (c := 0 < 0) (s1 := (740, [some (.inr (some (33, 0, 0, 0))), some (.inr (some (0, 0, 0, 0))), some (.inr (some (25, 0, 0, 0))), some (.inl 0)], [], (zx_lay zM0, 308))) (s2 := (27, [some (.inr (some (33, 0, 0, 0))), some (.inr (some (0, 0, 0, 0))), some (.inr (some (25, 0, 0, 0))), some (.inl 0)], [], (zx_lay zM0, 308))) rfl (by decide) ?_
    refine zx_E.go 2 (s' := (29, [some (.inr (some (33, 0, 0, 0))), some (.inr (some (0, 0, 0, 0))), some (.inr (some (25, 0, 0, 0))), some (.inl 0)], [.inl 0, .inr (some (33, 0, 0, 0))], (zx_lay zM0, 308))) rfl ?_
    refine zx_E.sld' (k := 0) (v := a0) rfl rfl (by omega) (by decide) e0 ?_
    show zx_E _ _ _ (30, [some (.inr (some (33, 0, 0, 0))), some (.inr (some (0, 0, 0, 0))), some (.inr (some (25, 0, 0, 0))), some (.inl 0)], [.inl a0], (zx_lay zM0, 308)) _
    refine zx_E.go 2 (s' := (33, [some (.inr (some (33, 0, 0, 0))), some (.inr (some (0, 0, 0, 0))), some (.inr (some (25, 0, 0, 0))), some (.inl 0)], [.inl (a0 &&& 31)], (zx_lay zM0, 308))) rfl ?_
    refine zx_E.one (s' := (zx_pick (a0 &&& 31) 0 [136, 211, 224, 247, 270, 293, 316, 339, 372, 405, 438, 471, 494, 517, 560, 573, 606, 639, 652, 685, 698, 711] 734, [some (.inr (some (33, 0, 0, 0))), some (.inr (some (0, 0, 0, 0))), some (.inr (some (25, 0, 0, 0))), some (.inl 0)], [], (zx_lay zM0, 308))) rfl ?_
    refine zx_E.pick (k' := 1) (by decide) (fun hn => absurd hn (fun q => absurd (hk.symm.trans q) (by decide))) (fun _ => ?_)
    refine zx_E.pick (k' := 2) (by decide) (fun hn => absurd hn (fun q => absurd (hk.symm.trans q) (by decide))) (fun _ => ?_)
    refine zx_E.pick (k' := 3) (by decide) (fun hn => absurd hn (fun q => absurd (hk.symm.trans q) (by decide))) (fun _ => ?_)
    refine zx_E.pick (k' := 4) (by decide) (fun hn => absurd hn (fun q => absurd (hk.symm.trans q) (by decide))) (fun _ => ?_)
    refine zx_E.pick (k' := 5) (by decide) (fun hn => absurd hn (fun q => absurd (hk.symm.trans q) (by decide))) (fun _ => ?_)
    refine zx_E.pick (k' := 6) (by decide) (fun hn => absurd hn (fun q => absurd (hk.symm.trans q) (by decide))) (fun _ => ?_)
    refine zx_E.pick (k' := 7) (by decide) (fun hn => absurd hn (fun q => absurd (hk.symm.trans q) (by decide))) (fun _ => ?_)
    refine zx_E.pick (k' := 8) (by decide) (fun hn => absurd hn (fun q => absurd (hk.symm.trans q) (by decide))) (fun _ => ?_)
    refine zx_E.pick (k' := 9) (by decide) (fun hn => absurd hn (fun q => absurd (hk.symm.trans q) (by decide))) (fun _ => ?_)
    refine zx_E.pick (k' := 10) (by decide) (fun hn => absurd hn (fun q => absurd (hk.symm.trans q) (by decide))) (fun _ => ?_)
    refine zx_E.pick (k' := 11) (by decide) (fun hn => absurd hn (fun q => absurd (hk.symm.trans q) (by decide))) (fun _ => ?_)
    refine zx_E.pick (k' := 12) (by decide) (fun hn => absurd hn (fun q => absurd (hk.symm.trans q) (by decide))) (fun _ => ?_)
    refine zx_E.pick (k' := 13) (by decide) (fun hn => absurd hn (fun q => absurd (hk.symm.trans q) (by decide))) (fun _ => ?_)
    refine zx_E.pick (k' := 14) (by decide) (fun hn => absurd hn (fun q => absurd (hk.symm.trans q) (by decide))) (fun _ => ?_)
    refine zx_E.pick (k' := 15) (by decide) (fun hn => absurd hn (fun q => absurd (hk.symm.trans q) (by decide))) (fun _ => ?_)
    refine zx_E.pick (k' := 16) (by decide) (fun hn => absurd hn (fun q => absurd (hk.symm.trans q) (by decide))) (fun _ => ?_)
    refine zx_E.pick (k' := 17) (by decide) (fun hn => absurd hn (fun q => absurd (hk.symm.trans q) (by decide))) (fun _ => ?_)
    refine zx_E.pick (k' := 18) (by decide) (fun hn => absurd hn (fun q => absurd (hk.symm.trans q) (by decide))) (fun _ => ?_)
    refine zx_E.pick (k' := 19) (by decide) (fun _ => ?_) (fun hn => absurd hk hn)
    refine zx_E.go 5 (s' := (657, [some (.inr (some (33, 0, 0, 0))), some (.inr (some (0, 0, 0, 0))), some (.inr (some (25, 0, 0, 0))), some (.inl 0)], [.inl 1, .inr (some (33, 0, 0, 0)), .inr (some (0, 0, 0, 0))], (zx_lay zM0, 308))) rfl ?_
    refine zx_E.sld' (k := 1) (v := a1) rfl rfl (by omega) (by decide) e1 ?_
    show zx_E _ _ _ (658, [some (.inr (some (33, 0, 0, 0))), some (.inr (some (0, 0, 0, 0))), some (.inr (some (25, 0, 0, 0))), some (.inl 0)], [.inl a1, .inr (some (0, 0, 0, 0))], (zx_lay zM0, 308)) _
    refine zx_E.go 4 (s' := (662, [some (.inr (some (33, 0, 0, 0))), some (.inr (some (0, 0, 0, 0))), some (.inr (some (25, 0, 0, 0))), some (.inl 0)], [.inl 2, .inr (some (33, 0, 0, 0)), .inl a1, .inr (some (0, 0, 0, 0))], (zx_lay zM0, 308))) rfl ?_
    refine zx_E.sld' (k := 2) (v := a2) rfl rfl (by omega) (by decide) e2 ?_
    show zx_E _ _ _ (663, [some (.inr (some (33, 0, 0, 0))), some (.inr (some (0, 0, 0, 0))), some (.inr (some (25, 0, 0, 0))), some (.inl 0)], [.inl a2, .inl a1, .inr (some (0, 0, 0, 0))], (zx_lay zM0, 308)) _
    refine zx_E.call1 (y := 112) (as := [.inr (some (0, 0, 0, 0)), .inl a1, .inl a2]) (rest := []) (v := .inl (-1)) (μ' := (zx_lay zM0, 308)) rfl (zx_run_of zc_X10_account [some (.inr (some (0, 0, 0, 0))), some (.inl a1), some (.inl a2), none] rfl rfl (by
      refine zx_E.go 3 (s' := (5, [some (.inr (some (0, 0, 0, 0))), some (.inl a1), some (.inl a2), none], [.inl a1, .inr (some (1, 0, 0, 0))], (zx_lay zM0, 308))) rfl ?_
      refine zx_E.call1 (y := 18) (as := [.inr (some (1, 0, 0, 0)), .inl a1]) (rest := []) (v := .inr none) (μ' := (zx_lay zM0, 308)) rfl (zx_run_of zc_X2_trainWith [some (.inr (some (1, 0, 0, 0))), some (.inl a1)] rfl rfl (by
        refine zx_E.go 1 (s' := (1, [some (.inr (some (1, 0, 0, 0))), some (.inl a1)], [.inl a1], (zx_lay zM0, 308))) rfl ?_
        refine zx_E.bt (c := a1 < 0) (s1 := (27, [some (.inr (some (1, 0, 0, 0))), some (.inl a1)], [], (zx_lay zM0, 308))) (s2 := (4, [some (.inr (some (1, 0, 0, 0))), some (.inl a1)], [], (zx_lay zM0, 308))) rfl h1 ?_
        refine zx_E.go 1 (s' := (28, [some (.inr (some (1, 0, 0, 0))), some (.inl a1)], [.inr none], (zx_lay zM0, 308))) rfl ?_
        exact zx_E.ret rfl)) ?_
      show zx_E _ _ _ (8, [some (.inr (some (0, 0, 0, 0))), some (.inl a1), some (.inl a2), none], [.inr none], (zx_lay zM0, 308)) _
      refine zx_E.go 4 (s' := (22, [some (.inr (some (0, 0, 0, 0))), some (.inl a1), some (.inl a2), some (.inr none)], [.inl (-1)], (zx_lay zM0, 308))) rfl ?_
      exact zx_E.iret rfl (fun h => absurd h (by decide)) rfl)) ?_
    show zx_E _ _ _ (666, [some (.inr (some (33, 0, 0, 0))), some (.inr (some (0, 0, 0, 0))), some (.inr (some (25, 0, 0, 0))), some (.inl 0)], [.inl (-1)], (zx_lay zM0, 308)) _
    refine zx_E.go 5 (s' := (671, [some (.inr (some (33, 0, 0, 0))), some (.inr (some (0, 0, 0, 0))), some (.inr (some (25, 0, 0, 0))), some (.inl 0)], [.inl 1, .inr (some (33, 0, 0, 0)), .inr (some (25, 0, 0, 0)), .inl (-1)], (zx_lay zM0, 308))) rfl ?_
    refine zx_E.sld' (k := 1) (v := a1) rfl rfl (by omega) (by decide) e1 ?_
    show zx_E _ _ _ (672, [some (.inr (some (33, 0, 0, 0))), some (.inr (some (0, 0, 0, 0))), some (.inr (some (25, 0, 0, 0))), some (.inl 0)], [.inl a1, .inr (some (25, 0, 0, 0)), .inl (-1)], (zx_lay zM0, 308)) _
    refine zx_E.go 4 (s' := (676, [some (.inr (some (33, 0, 0, 0))), some (.inr (some (0, 0, 0, 0))), some (.inr (some (25, 0, 0, 0))), some (.inl 0)], [.inl 2, .inr (some (33, 0, 0, 0)), .inl a1, .inr (some (25, 0, 0, 0)), .inl (-1)], (zx_lay zM0, 308))) rfl ?_
    refine zx_E.sld' (k := 2) (v := a2) rfl rfl (by omega) (by decide) e2 ?_
    show zx_E _ _ _ (677, [some (.inr (some (33, 0, 0, 0))), some (.inr (some (0, 0, 0, 0))), some (.inr (some (25, 0, 0, 0))), some (.inl 0)], [.inl a2, .inl a1, .inr (some (25, 0, 0, 0)), .inl (-1)], (zx_lay zM0, 308)) _
    refine zx_E.call1 (y := 196) (as := [.inr (some (25, 0, 0, 0)), .inl a1, .inl a2]) (rest := [.inl (-1)]) (v := .inl (-1)) (μ' := (zx_lay zM0, 308)) rfl (zx_run_of zc_X11_account_ [some (.inr (some (25, 0, 0, 0))), some (.inl a1), some (.inl a2), none, none] rfl rfl (by
      refine zx_E.go 2 (s' := (2, [some (.inr (some (25, 0, 0, 0))), some (.inl a1), some (.inl a2), none, none], [.inl a1, .inr (some (25, 0, 0, 0))], (zx_lay zM0, 308))) rfl ?_
      refine zx_E.call1 (y := 124) (as := [.inr (some (25, 0, 0, 0)), .inl a1]) (rest := []) (v := .inl 0) (μ' := (zx_lay zM0, 308)) rfl (zx_run_of zc_X11_isTrain [some (.inr (some (25, 0, 0, 0))), some (.inl a1)] rfl rfl (by
        refine zx_E.go 5 (s' := (8, [some (.inr (some (25, 0, 0, 0))), some (.inl a1)], [.inl 27, .inr (some (26, 0, 0, 0)), .inl 0, .inl a1], (zx_lay zM0, 308))) rfl ?_
        refine zx_E.iald' (k := 27) (h := (26, 0, 0, 0)) (v := 0) rfl rfl rfl (by decide) rfl ?_
        show zx_E _ _ _ (9, [some (.inr (some (25, 0, 0, 0))), some (.inl a1)], [.inl 0, .inl 0, .inl a1], (zx_lay zM0, 308)) _
        refine zx_E.go 2 (s' := (11, [some (.inr (some (25, 0, 0, 0))), some (.inl a1)], [.inl (-1), .inl 0, .inl a1], (zx_lay zM0, 308))) rfl ?_
        refine zx_E.call1 (y := 121) (as := [.inl a1, .inl 0, .inl (-1)]) (rest := []) (v := .inl 0) (μ' := (zx_lay zM0, 308)) rfl (zx_run_of zc_X11_isIn [some (.inl a1), some (.inl 0), some (.inl (-1))] rfl rfl (by
          refine zx_E.go 2 (s' := (2, [some (.inl a1), some (.inl 0), some (.inl (-1))], [.inl 0, .inl a1], (zx_lay zM0, 308))) rfl ?_
          refine zx_E.bt (c := a1 < 0) (s1 := (14, [some (.inl a1), some (.inl 0), some (.inl (-1))], [], (zx_lay zM0, 308))) (s2 := (5, [some (.inl a1), some (.inl 0), some (.inl (-1))], [], (zx_lay zM0, 308))) rfl h1 ?_
          refine zx_E.go 1 (s' := (15, [some (.inl a1), some (.inl 0), some (.inl (-1))], [.inl 0], (zx_lay zM0, 308))) rfl ?_
          exact zx_E.iret rfl (fun _ => Or.inl rfl) rfl)) ?_
        show zx_E _ _ _ (14, [some (.inr (some (25, 0, 0, 0))), some (.inl a1)], [.inl 0], (zx_lay zM0, 308)) _
        exact zx_E.iret rfl (fun _ => Or.inl rfl) rfl)) ?_
      show zx_E _ _ _ (5, [some (.inr (some (25, 0, 0, 0))), some (.inl a1), some (.inl a2), none, none], [.inl 0], (zx_lay zM0, 308)) _
      refine zx_E.bt (c := 0 = 0) (s1 := (27, [some (.inr (some (25, 0, 0, 0))), some (.inl a1), some (.inl a2), none, none], [], (zx_lay zM0, 308))) (s2 := (8, [some (.inr (some (25, 0, 0, 0))), some (.inl a1), some (.inl a2), none, none], [], (zx_lay zM0, 308))) rfl (by decide) ?_
      refine zx_E.go 1 (s' := (28, [some (.inr (some (25, 0, 0, 0))), some (.inl a1), some (.inl a2), none, none], [.inl (-1)], (zx_lay zM0, 308))) rfl ?_
      exact zx_E.iret rfl (fun h => absurd h (by decide)) rfl)) ?_
    show zx_E _ _ _ (680, [some (.inr (some (33, 0, 0, 0))), some (.inr (some (0, 0, 0, 0))), some (.inr (some (25, 0, 0, 0))), some (.inl 0)], [.inl (-1), .inl (-1)], (zx_lay zM0, 308)) _
    refine zx_E.bt (c := (-1) = (-1)) (s1 := (734, [some (.inr (some (33, 0, 0, 0))), some (.inr (some (0, 0, 0, 0))), some (.inr (some (25, 0, 0, 0))), some (.inl 0)], [], (zx_lay zM0, 308))) (s2 := (683, [some (.inr (some (33, 0, 0, 0))), some (.inr (some (0, 0, 0, 0))), some (.inr (some (25, 0, 0, 0))), some (.inl 0)], [], (zx_lay zM0, 308))) rfl (by decide) ?_
    refine zx_E.go 6 (s' := (23, [some (.inr (some (33, 0, 0, 0))), some (.inr (some (0, 0, 0, 0))), some (.inr (some (25, 0, 0, 0))), some (.inl 7)], [.inl 7, .inl 7, .inl 7], (zx_lay zM0, 308))) rfl ?_
    refine zx_E.go 1 (s' := (24, [some (.inr (some (33, 0, 0, 0))), some (.inr (some (0, 0, 0, 0))), some (.inr (some (25, 0, 0, 0))), some (.inl 7)], [.inl 0, .inl 7], (zx_lay zM0, 308))) rfl ?_
    refine zx_E.bt (c := 0 < 7) (s1 := (740, [some (.inr (some (33, 0, 0, 0))), some (.inr (some (0, 0, 0, 0))), some (.inr (some (25, 0, 0, 0))), some (.inl 7)], [], (zx_lay zM0, 308))) (s2 := (27, [some (.inr (some (33, 0, 0, 0))), some (.inr (some (0, 0, 0, 0))), some (.inr (some (25, 0, 0, 0))), some (.inl 7)], [], (zx_lay zM0, 308))) rfl (by decide) ?_
    refine zx_E.go 1 (s' := (741, [some (.inr (some (33, 0, 0, 0))), some (.inr (some (0, 0, 0, 0))), some (.inr (some (25, 0, 0, 0))), some (.inl 7)], [.inl 1], (zx_lay zM0, 308))) rfl ?_
    exact zx_E.iret rfl (fun _ => Or.inr rfl) rfl
  · skip
    refine ⟨(zx_lay zM0, 308), Nat.le_refl _, ?_⟩
    refine zx_E.go 4 (s' := (23, [some (.inr (some (33, 0, 0, 0))), some (.inr (some (0, 0, 0, 0))), some (.inr (some (25, 0, 0, 0))), some (.inl 0)], [.inl 7, .inl 7, .inl 0], (zx_lay zM0, 308))) rfl ?_
    refine zx_E.go 1 (s' := (24, [some (.inr (some (33, 0, 0, 0))), some (.inr (some (0, 0, 0, 0))), some (.inr (some (25, 0, 0, 0))), some (.inl 0)], [.inl 0, .inl 0], (zx_lay zM0, 308))) rfl ?_
    refine zx_E.bf (c := 0 < 0) (s1 := (740, [some (.inr (some (33, 0, 0, 0))), some (.inr (some (0, 0, 0, 0))), some (.inr (some (25, 0, 0, 0))), some (.inl 0)], [], (zx_lay zM0, 308))) (s2 := (27, [some (.inr (some (33, 0, 0, 0))), some (.inr (some (0, 0, 0, 0))), some (.inr (some (25, 0, 0, 0))), some (.inl 0)], [], (zx_lay zM0, 308))) rfl (by decide) ?_
    refine zx_E.go 2 (s' := (29, [some (.inr (some (33, 0, 0, 0))), some (.inr (some (0, 0, 0, 0))), some (.inr (some (25, 0, 0, 0))), some (.inl 0)], [.inl 0, .inr (some (33, 0, 0, 0))], (zx_lay zM0, 308))) rfl ?_
    refine zx_E.sld' (k := 0) (v := a0) rfl rfl (by omega) (by decide) e0 ?_
    show zx_E _ _ _ (30, [some (.inr (some (33, 0, 0, 0))), some (.inr (some (0, 0, 0, 0))), some (.inr (some (25, 0, 0, 0))), some (.inl 0)], [.inl a0], (zx_lay zM0, 308)) _
    refine zx_E.go 2 (s' := (33, [some (.inr (some (33, 0, 0, 0))), some (.inr (some (0, 0, 0, 0))), some (.inr (some (25, 0, 0, 0))), some (.inl 0)], [.inl (a0 &&& 31)], (zx_lay zM0, 308))) rfl ?_
    refine zx_E.one (s' := (zx_pick (a0 &&& 31) 0 [136, 211, 224, 247, 270, 293, 316, 339, 372, 405, 438, 471, 494, 517, 560, 573, 606, 639, 652, 685, 698, 711] 734, [some (.inr (some (33, 0, 0, 0))), some (.inr (some (0, 0, 0, 0))), some (.inr (some (25, 0, 0, 0))), some (.inl 0)], [], (zx_lay zM0, 308))) rfl ?_
    refine zx_E.pick (k' := 1) (by decide) (fun hn => absurd hn (fun q => absurd (hk.symm.trans q) (by decide))) (fun _ => ?_)
    refine zx_E.pick (k' := 2) (by decide) (fun hn => absurd hn (fun q => absurd (hk.symm.trans q) (by decide))) (fun _ => ?_)
    refine zx_E.pick (k' := 3) (by decide) (fun hn => absurd hn (fun q => absurd (hk.symm.trans q) (by decide))) (fun _ => ?_)
    refine zx_E.pick (k' := 4) (by decide) (fun hn => absurd hn (fun q => absurd (hk.symm.trans q) (by decide))) (fun _ => ?_)
    refine zx_E.pick (k' := 5) (by decide) (fun hn => absurd hn (fun q => absurd (hk.symm.trans q) (by decide))) (fun _ => ?_)
    refine zx_E.pick (k' := 6) (by decide) (fun hn => absurd hn (fun q => absurd (hk.symm.trans q) (by decide))) (fun _ => ?_)
    refine zx_E.pick (k' := 7) (by decide) (fun hn => absurd hn (fun q => absurd (hk.symm.trans q) (by decide))) (fun _ => ?_)
    refine zx_E.pick (k' := 8) (by decide) (fun hn => absurd hn (fun q => absurd (hk.symm.trans q) (by decide))) (fun _ => ?_)
    refine zx_E.pick (k' := 9) (by decide) (fun hn => absurd hn (fun q => absurd (hk.symm.trans q) (by decide))) (fun _ => ?_)
    refine zx_E.pick (k' := 10) (by decide) (fun hn => absurd hn (fun q => absurd (hk.symm.trans q) (by decide))) (fun _ => ?_)
    refine zx_E.pick (k' := 11) (by decide) (fun hn => absurd hn (fun q => absurd (hk.symm.trans q) (by decide))) (fun _ => ?_)
    refine zx_E.pick (k' := 12) (by decide) (fun hn => absurd hn (fun q => absurd (hk.symm.trans q) (by decide))) (fun _ => ?_)
    refine zx_E.pick (k' := 13) (by decide) (fun hn => absurd hn (fun q => absurd (hk.symm.trans q) (by decide))) (fun _ => ?_)
    refine zx_E.pick (k' := 14) (by decide) (fun hn => absurd hn (fun q => absurd (hk.symm.trans q) (by decide))) (fun _ => ?_)
    refine zx_E.pick (k' := 15) (by decide) (fun hn => absurd hn (fun q => absurd (hk.symm.trans q) (by decide))) (fun _ => ?_)
    refine zx_E.pick (k' := 16) (by decide) (fun hn => absurd hn (fun q => absurd (hk.symm.trans q) (by decide))) (fun _ => ?_)
    refine zx_E.pick (k' := 17) (by decide) (fun hn => absurd hn (fun q => absurd (hk.symm.trans q) (by decide))) (fun _ => ?_)
    refine zx_E.pick (k' := 18) (by decide) (fun hn => absurd hn (fun q => absurd (hk.symm.trans q) (by decide))) (fun _ => ?_)
    refine zx_E.pick (k' := 19) (by decide) (fun _ => ?_) (fun hn => absurd hk hn)
    refine zx_E.go 5 (s' := (657, [some (.inr (some (33, 0, 0, 0))), some (.inr (some (0, 0, 0, 0))), some (.inr (some (25, 0, 0, 0))), some (.inl 0)], [.inl 1, .inr (some (33, 0, 0, 0)), .inr (some (0, 0, 0, 0))], (zx_lay zM0, 308))) rfl ?_
    refine zx_E.sld' (k := 1) (v := a1) rfl rfl (by omega) (by decide) e1 ?_
    show zx_E _ _ _ (658, [some (.inr (some (33, 0, 0, 0))), some (.inr (some (0, 0, 0, 0))), some (.inr (some (25, 0, 0, 0))), some (.inl 0)], [.inl a1, .inr (some (0, 0, 0, 0))], (zx_lay zM0, 308)) _
    refine zx_E.go 4 (s' := (662, [some (.inr (some (33, 0, 0, 0))), some (.inr (some (0, 0, 0, 0))), some (.inr (some (25, 0, 0, 0))), some (.inl 0)], [.inl 2, .inr (some (33, 0, 0, 0)), .inl a1, .inr (some (0, 0, 0, 0))], (zx_lay zM0, 308))) rfl ?_
    refine zx_E.sld' (k := 2) (v := a2) rfl rfl (by omega) (by decide) e2 ?_
    show zx_E _ _ _ (663, [some (.inr (some (33, 0, 0, 0))), some (.inr (some (0, 0, 0, 0))), some (.inr (some (25, 0, 0, 0))), some (.inl 0)], [.inl a2, .inl a1, .inr (some (0, 0, 0, 0))], (zx_lay zM0, 308)) _
    refine zx_E.call1 (y := 112) (as := [.inr (some (0, 0, 0, 0)), .inl a1, .inl a2]) (rest := []) (v := .inl (-1)) (μ' := (zx_lay zM0, 308)) rfl (zx_run_of zc_X10_account [some (.inr (some (0, 0, 0, 0))), some (.inl a1), some (.inl a2), none] rfl rfl (by
      refine zx_E.go 3 (s' := (5, [some (.inr (some (0, 0, 0, 0))), some (.inl a1), some (.inl a2), none], [.inl a1, .inr (some (1, 0, 0, 0))], (zx_lay zM0, 308))) rfl ?_
      refine zx_E.call1 (y := 18) (as := [.inr (some (1, 0, 0, 0)), .inl a1]) (rest := []) (v := .inr none) (μ' := (zx_lay zM0, 308)) rfl (zx_run_of zc_X2_trainWith [some (.inr (some (1, 0, 0, 0))), some (.inl a1)] rfl rfl (by
        refine zx_E.go 1 (s' := (1, [some (.inr (some (1, 0, 0, 0))), some (.inl a1)], [.inl a1], (zx_lay zM0, 308))) rfl ?_
        refine zx_E.bf (c := a1 < 0) (s1 := (27, [some (.inr (some (1, 0, 0, 0))), some (.inl a1)], [], (zx_lay zM0, 308))) (s2 := (4, [some (.inr (some (1, 0, 0, 0))), some (.inl a1)], [], (zx_lay zM0, 308))) rfl h1 ?_
        refine zx_E.go 3 (s' := (9, [some (.inr (some (1, 0, 0, 0))), some (.inl a1)], [.inl 0, .inl a1], (zx_lay zM0, 308))) rfl ?_
        refine zx_E.bt (c := 0 ≤ a1) (s1 := (27, [some (.inr (some (1, 0, 0, 0))), some (.inl a1)], [], (zx_lay zM0, 308))) (s2 := (12, [some (.inr (some (1, 0, 0, 0))), some (.inl a1)], [], (zx_lay zM0, 308))) rfl (Int32.not_lt.mp h1) ?_
        refine zx_E.go 1 (s' := (28, [some (.inr (some (1, 0, 0, 0))), some (.inl a1)], [.inr none], (zx_lay zM0, 308))) rfl ?_
        exact zx_E.ret rfl)) ?_
      show zx_E _ _ _ (8, [some (.inr (some (0, 0, 0, 0))), some (.inl a1), some (.inl a2), none], [.inr none], (zx_lay zM0, 308)) _
      refine zx_E.go 4 (s' := (22, [some (.inr (some (0, 0, 0, 0))), some (.inl a1), some (.inl a2), some (.inr none)], [.inl (-1)], (zx_lay zM0, 308))) rfl ?_
      exact zx_E.iret rfl (fun h => absurd h (by decide)) rfl)) ?_
    show zx_E _ _ _ (666, [some (.inr (some (33, 0, 0, 0))), some (.inr (some (0, 0, 0, 0))), some (.inr (some (25, 0, 0, 0))), some (.inl 0)], [.inl (-1)], (zx_lay zM0, 308)) _
    refine zx_E.go 5 (s' := (671, [some (.inr (some (33, 0, 0, 0))), some (.inr (some (0, 0, 0, 0))), some (.inr (some (25, 0, 0, 0))), some (.inl 0)], [.inl 1, .inr (some (33, 0, 0, 0)), .inr (some (25, 0, 0, 0)), .inl (-1)], (zx_lay zM0, 308))) rfl ?_
    refine zx_E.sld' (k := 1) (v := a1) rfl rfl (by omega) (by decide) e1 ?_
    show zx_E _ _ _ (672, [some (.inr (some (33, 0, 0, 0))), some (.inr (some (0, 0, 0, 0))), some (.inr (some (25, 0, 0, 0))), some (.inl 0)], [.inl a1, .inr (some (25, 0, 0, 0)), .inl (-1)], (zx_lay zM0, 308)) _
    refine zx_E.go 4 (s' := (676, [some (.inr (some (33, 0, 0, 0))), some (.inr (some (0, 0, 0, 0))), some (.inr (some (25, 0, 0, 0))), some (.inl 0)], [.inl 2, .inr (some (33, 0, 0, 0)), .inl a1, .inr (some (25, 0, 0, 0)), .inl (-1)], (zx_lay zM0, 308))) rfl ?_
    refine zx_E.sld' (k := 2) (v := a2) rfl rfl (by omega) (by decide) e2 ?_
    show zx_E _ _ _ (677, [some (.inr (some (33, 0, 0, 0))), some (.inr (some (0, 0, 0, 0))), some (.inr (some (25, 0, 0, 0))), some (.inl 0)], [.inl a2, .inl a1, .inr (some (25, 0, 0, 0)), .inl (-1)], (zx_lay zM0, 308)) _
    refine zx_E.call1 (y := 196) (as := [.inr (some (25, 0, 0, 0)), .inl a1, .inl a2]) (rest := [.inl (-1)]) (v := .inl (-1)) (μ' := (zx_lay zM0, 308)) rfl (zx_run_of zc_X11_account_ [some (.inr (some (25, 0, 0, 0))), some (.inl a1), some (.inl a2), none, none] rfl rfl (by
      refine zx_E.go 2 (s' := (2, [some (.inr (some (25, 0, 0, 0))), some (.inl a1), some (.inl a2), none, none], [.inl a1, .inr (some (25, 0, 0, 0))], (zx_lay zM0, 308))) rfl ?_
      refine zx_E.call1 (y := 124) (as := [.inr (some (25, 0, 0, 0)), .inl a1]) (rest := []) (v := .inl 0) (μ' := (zx_lay zM0, 308)) rfl (zx_run_of zc_X11_isTrain [some (.inr (some (25, 0, 0, 0))), some (.inl a1)] rfl rfl (by
        refine zx_E.go 5 (s' := (8, [some (.inr (some (25, 0, 0, 0))), some (.inl a1)], [.inl 27, .inr (some (26, 0, 0, 0)), .inl 0, .inl a1], (zx_lay zM0, 308))) rfl ?_
        refine zx_E.iald' (k := 27) (h := (26, 0, 0, 0)) (v := 0) rfl rfl rfl (by decide) rfl ?_
        show zx_E _ _ _ (9, [some (.inr (some (25, 0, 0, 0))), some (.inl a1)], [.inl 0, .inl 0, .inl a1], (zx_lay zM0, 308)) _
        refine zx_E.go 2 (s' := (11, [some (.inr (some (25, 0, 0, 0))), some (.inl a1)], [.inl (-1), .inl 0, .inl a1], (zx_lay zM0, 308))) rfl ?_
        refine zx_E.call1 (y := 121) (as := [.inl a1, .inl 0, .inl (-1)]) (rest := []) (v := .inl 0) (μ' := (zx_lay zM0, 308)) rfl (zx_run_of zc_X11_isIn [some (.inl a1), some (.inl 0), some (.inl (-1))] rfl rfl (by
          refine zx_E.go 2 (s' := (2, [some (.inl a1), some (.inl 0), some (.inl (-1))], [.inl 0, .inl a1], (zx_lay zM0, 308))) rfl ?_
          refine zx_E.bf (c := a1 < 0) (s1 := (14, [some (.inl a1), some (.inl 0), some (.inl (-1))], [], (zx_lay zM0, 308))) (s2 := (5, [some (.inl a1), some (.inl 0), some (.inl (-1))], [], (zx_lay zM0, 308))) rfl h1 ?_
          refine zx_E.go 2 (s' := (7, [some (.inl a1), some (.inl 0), some (.inl (-1))], [.inl (-1), .inl a1], (zx_lay zM0, 308))) rfl ?_
          refine zx_E.bt (c := (-1) < a1) (s1 := (14, [some (.inl a1), some (.inl 0), some (.inl (-1))], [], (zx_lay zM0, 308))) (s2 := (10, [some (.inl a1), some (.inl 0), some (.inl (-1))], [], (zx_lay zM0, 308))) rfl (zx_m1 h1) ?_
          refine zx_E.go 1 (s' := (15, [some (.inl a1), some (.inl 0), some (.inl (-1))], [.inl 0], (zx_lay zM0, 308))) rfl ?_
          exact zx_E.iret rfl (fun _ => Or.inl rfl) rfl)) ?_
        show zx_E _ _ _ (14, [some (.inr (some (25, 0, 0, 0))), some (.inl a1)], [.inl 0], (zx_lay zM0, 308)) _
        exact zx_E.iret rfl (fun _ => Or.inl rfl) rfl)) ?_
      show zx_E _ _ _ (5, [some (.inr (some (25, 0, 0, 0))), some (.inl a1), some (.inl a2), none, none], [.inl 0], (zx_lay zM0, 308)) _
      refine zx_E.bt (c := 0 = 0) (s1 := (27, [some (.inr (some (25, 0, 0, 0))), some (.inl a1), some (.inl a2), none, none], [], (zx_lay zM0, 308))) (s2 := (8, [some (.inr (some (25, 0, 0, 0))), some (.inl a1), some (.inl a2), none, none], [], (zx_lay zM0, 308))) rfl (by decide) ?_
      refine zx_E.go 1 (s' := (28, [some (.inr (some (25, 0, 0, 0))), some (.inl a1), some (.inl a2), none, none], [.inl (-1)], (zx_lay zM0, 308))) rfl ?_
      exact zx_E.iret rfl (fun h => absurd h (by decide)) rfl)) ?_
    show zx_E _ _ _ (680, [some (.inr (some (33, 0, 0, 0))), some (.inr (some (0, 0, 0, 0))), some (.inr (some (25, 0, 0, 0))), some (.inl 0)], [.inl (-1), .inl (-1)], (zx_lay zM0, 308)) _
    refine zx_E.bt (c := (-1) = (-1)) (s1 := (734, [some (.inr (some (33, 0, 0, 0))), some (.inr (some (0, 0, 0, 0))), some (.inr (some (25, 0, 0, 0))), some (.inl 0)], [], (zx_lay zM0, 308))) (s2 := (683, [some (.inr (some (33, 0, 0, 0))), some (.inr (some (0, 0, 0, 0))), some (.inr (some (25, 0, 0, 0))), some (.inl 0)], [], (zx_lay zM0, 308))) rfl (by decide) ?_
    refine zx_E.go 6 (s' := (23, [some (.inr (some (33, 0, 0, 0))), some (.inr (some (0, 0, 0, 0))), some (.inr (some (25, 0, 0, 0))), some (.inl 7)], [.inl 7, .inl 7, .inl 7], (zx_lay zM0, 308))) rfl ?_
    refine zx_E.go 1 (s' := (24, [some (.inr (some (33, 0, 0, 0))), some (.inr (some (0, 0, 0, 0))), some (.inr (some (25, 0, 0, 0))), some (.inl 7)], [.inl 0, .inl 7], (zx_lay zM0, 308))) rfl ?_
    refine zx_E.bt (c := 0 < 7) (s1 := (740, [some (.inr (some (33, 0, 0, 0))), some (.inr (some (0, 0, 0, 0))), some (.inr (some (25, 0, 0, 0))), some (.inl 7)], [], (zx_lay zM0, 308))) (s2 := (27, [some (.inr (some (33, 0, 0, 0))), some (.inr (some (0, 0, 0, 0))), some (.inr (some (25, 0, 0, 0))), some (.inl 7)], [], (zx_lay zM0, 308))) rfl (by decide) ?_
    refine zx_E.go 1 (s' := (741, [some (.inr (some (33, 0, 0, 0))), some (.inr (some (0, 0, 0, 0))), some (.inr (some (25, 0, 0, 0))), some (.inl 7)], [.inl 1], (zx_lay zM0, 308))) rfl ?_
    exact zx_E.iret rfl (fun _ => Or.inr rfl) rfl
set_option maxRecDepth 100000 in
set_option maxHeartbeats 4000000 in
theorem p1_op_20 {xs : Nat → Int32} {a0 a1 a2 a3 a4 a5 a6 : Int32} (e0 : xs 0 = a0) (e1 : xs 1 = a1) (e2 : xs 2 = a2) (e3 : xs 3 = a3) (e4 : xs 4 = a4) (e5 : xs 5 = a5) (e6 : xs 6 = a6) (hk : (a0 &&& 31) = 20) :
    ∃ μ : zx_M, μ.2 ≤ 308 ∧ zx_E (7, xs) 11 zc_L_law (18, [some (.inr (some (33, 0, 0, 0))), some (.inr (some (0, 0, 0, 0))), some (.inr (some (25, 0, 0, 0))), some (.inl 0)], [], (zx_lay zM0, 308)) (some (.inl 1), μ) := by
  refine ⟨(zx_lay zM0, 308), Nat.le_refl _, ?_⟩
  refine zx_E.go 4 (s' := (23, [some (.inr (some (33, 0, 0, 0))), some (.inr (some (0, 0, 0, 0))), some (.inr (some (25, 0, 0, 0))), some (.inl 0)], [.inl 7, .inl 7, .inl 0], (zx_lay zM0, 308))) rfl ?_
  refine zx_E.go 1 (s' := (24, [some (.inr (some (33, 0, 0, 0))), some (.inr (some (0, 0, 0, 0))), some (.inr (some (25, 0, 0, 0))), some (.inl 0)], [.inl 0, .inl 0], (zx_lay zM0, 308))) rfl ?_
  refine zx_E.bf (c := 0 < 0) (s1 := (740, [some (.inr (some (33, 0, 0, 0))), some (.inr (some (0, 0, 0, 0))), some (.inr (some (25, 0, 0, 0))), some (.inl 0)], [], (zx_lay zM0, 308))) (s2 := (27, [some (.inr (some (33, 0, 0, 0))), some (.inr (some (0, 0, 0, 0))), some (.inr (some (25, 0, 0, 0))), some (.inl 0)], [], (zx_lay zM0, 308))) rfl (by decide) ?_
  refine zx_E.go 2 (s' := (29, [some (.inr (some (33, 0, 0, 0))), some (.inr (some (0, 0, 0, 0))), some (.inr (some (25, 0, 0, 0))), some (.inl 0)], [.inl 0, .inr (some (33, 0, 0, 0))], (zx_lay zM0, 308))) rfl ?_
  refine zx_E.sld' (k := 0) (v := a0) rfl rfl (by omega) (by decide) e0 ?_
  show zx_E _ _ _ (30, [some (.inr (some (33, 0, 0, 0))), some (.inr (some (0, 0, 0, 0))), some (.inr (some (25, 0, 0, 0))), some (.inl 0)], [.inl a0], (zx_lay zM0, 308)) _
  refine zx_E.go 2 (s' := (33, [some (.inr (some (33, 0, 0, 0))), some (.inr (some (0, 0, 0, 0))), some (.inr (some (25, 0, 0, 0))), some (.inl 0)], [.inl (a0 &&& 31)], (zx_lay zM0, 308))) rfl ?_
  refine zx_E.one (s' := (zx_pick (a0 &&& 31) 0 [136, 211, 224, 247, 270, 293, 316, 339, 372, 405, 438, 471, 494, 517, 560, 573, 606, 639, 652, 685, 698, 711] 734, [some (.inr (some (33, 0, 0, 0))), some (.inr (some (0, 0, 0, 0))), some (.inr (some (25, 0, 0, 0))), some (.inl 0)], [], (zx_lay zM0, 308))) rfl ?_
  refine zx_E.pick (k' := 1) (by decide) (fun hn => absurd hn (fun q => absurd (hk.symm.trans q) (by decide))) (fun _ => ?_)
  refine zx_E.pick (k' := 2) (by decide) (fun hn => absurd hn (fun q => absurd (hk.symm.trans q) (by decide))) (fun _ => ?_)
  refine zx_E.pick (k' := 3) (by decide) (fun hn => absurd hn (fun q => absurd (hk.symm.trans q) (by decide))) (fun _ => ?_)
  refine zx_E.pick (k' := 4) (by decide) (fun hn => absurd hn (fun q => absurd (hk.symm.trans q) (by decide))) (fun _ => ?_)
  refine zx_E.pick (k' := 5) (by decide) (fun hn => absurd hn (fun q => absurd (hk.symm.trans q) (by decide))) (fun _ => ?_)
  refine zx_E.pick (k' := 6) (by decide) (fun hn => absurd hn (fun q => absurd (hk.symm.trans q) (by decide))) (fun _ => ?_)
  refine zx_E.pick (k' := 7) (by decide) (fun hn => absurd hn (fun q => absurd (hk.symm.trans q) (by decide))) (fun _ => ?_)
  refine zx_E.pick (k' := 8) (by decide) (fun hn => absurd hn (fun q => absurd (hk.symm.trans q) (by decide))) (fun _ => ?_)
  refine zx_E.pick (k' := 9) (by decide) (fun hn => absurd hn (fun q => absurd (hk.symm.trans q) (by decide))) (fun _ => ?_)
  refine zx_E.pick (k' := 10) (by decide) (fun hn => absurd hn (fun q => absurd (hk.symm.trans q) (by decide))) (fun _ => ?_)
  refine zx_E.pick (k' := 11) (by decide) (fun hn => absurd hn (fun q => absurd (hk.symm.trans q) (by decide))) (fun _ => ?_)
  refine zx_E.pick (k' := 12) (by decide) (fun hn => absurd hn (fun q => absurd (hk.symm.trans q) (by decide))) (fun _ => ?_)
  refine zx_E.pick (k' := 13) (by decide) (fun hn => absurd hn (fun q => absurd (hk.symm.trans q) (by decide))) (fun _ => ?_)
  refine zx_E.pick (k' := 14) (by decide) (fun hn => absurd hn (fun q => absurd (hk.symm.trans q) (by decide))) (fun _ => ?_)
  refine zx_E.pick (k' := 15) (by decide) (fun hn => absurd hn (fun q => absurd (hk.symm.trans q) (by decide))) (fun _ => ?_)
  refine zx_E.pick (k' := 16) (by decide) (fun hn => absurd hn (fun q => absurd (hk.symm.trans q) (by decide))) (fun _ => ?_)
  refine zx_E.pick (k' := 17) (by decide) (fun hn => absurd hn (fun q => absurd (hk.symm.trans q) (by decide))) (fun _ => ?_)
  refine zx_E.pick (k' := 18) (by decide) (fun hn => absurd hn (fun q => absurd (hk.symm.trans q) (by decide))) (fun _ => ?_)
  refine zx_E.pick (k' := 19) (by decide) (fun hn => absurd hn (fun q => absurd (hk.symm.trans q) (by decide))) (fun _ => ?_)
  refine zx_E.pick (k' := 20) (by decide) (fun hn => absurd hn (fun q => absurd (hk.symm.trans q) (by decide))) (fun _ => ?_)
  refine zx_E.pick (k' := 21) (by decide) (fun _ => ?_) (fun hn => absurd hk hn)
  refine zx_E.go 1 (s' := (699, [some (.inr (some (33, 0, 0, 0))), some (.inr (some (0, 0, 0, 0))), some (.inr (some (25, 0, 0, 0))), some (.inl 0)], [.inr (some (0, 0, 0, 0))], (zx_lay zM0, 308))) rfl ?_
  refine zx_E.call1 (y := 114) (as := [.inr (some (0, 0, 0, 0))]) (rest := []) (v := .inl (-3)) (μ' := (zx_lay zM0, 308)) rfl (zx_run_of zc_X10_undo [some (.inr (some (0, 0, 0, 0)))] rfl rfl (by
    refine zx_E.go 2 (s' := (4, [some (.inr (some (0, 0, 0, 0)))], [.inl 0], (zx_lay zM0, 308))) rfl ?_
    refine zx_E.bt (c := 0 = 0) (s1 := (7, [some (.inr (some (0, 0, 0, 0)))], [], (zx_lay zM0, 308))) (s2 := (10, [some (.inr (some (0, 0, 0, 0)))], [], (zx_lay zM0, 308))) rfl (by decide) ?_
    refine zx_E.go 1 (s' := (9, [some (.inr (some (0, 0, 0, 0)))], [.inl (-3)], (zx_lay zM0, 308))) rfl ?_
    exact zx_E.iret rfl (fun h => absurd h (by decide)) rfl)) ?_
  show zx_E _ _ _ (702, [some (.inr (some (33, 0, 0, 0))), some (.inr (some (0, 0, 0, 0))), some (.inr (some (25, 0, 0, 0))), some (.inl 0)], [.inl (-3)], (zx_lay zM0, 308)) _
  refine zx_E.go 1 (s' := (703, [some (.inr (some (33, 0, 0, 0))), some (.inr (some (0, 0, 0, 0))), some (.inr (some (25, 0, 0, 0))), some (.inl 0)], [.inr (some (25, 0, 0, 0)), .inl (-3)], (zx_lay zM0, 308))) rfl ?_
  refine zx_E.call1 (y := 198) (as := [.inr (some (25, 0, 0, 0))]) (rest := [.inl (-3)]) (v := .inl (-3)) (μ' := (zx_lay zM0, 308)) rfl (zx_run_of zc_X11_undo [some (.inr (some (25, 0, 0, 0)))] rfl rfl (by
    refine zx_E.go 2 (s' := (4, [some (.inr (some (25, 0, 0, 0)))], [.inl 0], (zx_lay zM0, 308))) rfl ?_
    refine zx_E.bt (c := 0 = 0) (s1 := (7, [some (.inr (some (25, 0, 0, 0)))], [], (zx_lay zM0, 308))) (s2 := (10, [some (.inr (some (25, 0, 0, 0)))], [], (zx_lay zM0, 308))) rfl (by decide) ?_
    refine zx_E.go 1 (s' := (9, [some (.inr (some (25, 0, 0, 0)))], [.inl (-3)], (zx_lay zM0, 308))) rfl ?_
    exact zx_E.iret rfl (fun h => absurd h (by decide)) rfl)) ?_
  show zx_E _ _ _ (706, [some (.inr (some (33, 0, 0, 0))), some (.inr (some (0, 0, 0, 0))), some (.inr (some (25, 0, 0, 0))), some (.inl 0)], [.inl (-3), .inl (-3)], (zx_lay zM0, 308)) _
  refine zx_E.bt (c := (-3) = (-3)) (s1 := (734, [some (.inr (some (33, 0, 0, 0))), some (.inr (some (0, 0, 0, 0))), some (.inr (some (25, 0, 0, 0))), some (.inl 0)], [], (zx_lay zM0, 308))) (s2 := (709, [some (.inr (some (33, 0, 0, 0))), some (.inr (some (0, 0, 0, 0))), some (.inr (some (25, 0, 0, 0))), some (.inl 0)], [], (zx_lay zM0, 308))) rfl (by decide) ?_
  refine zx_E.go 6 (s' := (23, [some (.inr (some (33, 0, 0, 0))), some (.inr (some (0, 0, 0, 0))), some (.inr (some (25, 0, 0, 0))), some (.inl 7)], [.inl 7, .inl 7, .inl 7], (zx_lay zM0, 308))) rfl ?_
  refine zx_E.go 1 (s' := (24, [some (.inr (some (33, 0, 0, 0))), some (.inr (some (0, 0, 0, 0))), some (.inr (some (25, 0, 0, 0))), some (.inl 7)], [.inl 0, .inl 7], (zx_lay zM0, 308))) rfl ?_
  refine zx_E.bt (c := 0 < 7) (s1 := (740, [some (.inr (some (33, 0, 0, 0))), some (.inr (some (0, 0, 0, 0))), some (.inr (some (25, 0, 0, 0))), some (.inl 7)], [], (zx_lay zM0, 308))) (s2 := (27, [some (.inr (some (33, 0, 0, 0))), some (.inr (some (0, 0, 0, 0))), some (.inr (some (25, 0, 0, 0))), some (.inl 7)], [], (zx_lay zM0, 308))) rfl (by decide) ?_
  refine zx_E.go 1 (s' := (741, [some (.inr (some (33, 0, 0, 0))), some (.inr (some (0, 0, 0, 0))), some (.inr (some (25, 0, 0, 0))), some (.inl 7)], [.inl 1], (zx_lay zM0, 308))) rfl ?_
  exact zx_E.iret rfl (fun _ => Or.inr rfl) rfl
set_option maxRecDepth 100000 in
set_option maxHeartbeats 4000000 in
theorem p1_op_21 {xs : Nat → Int32} {a0 a1 a2 a3 a4 a5 a6 : Int32} (e0 : xs 0 = a0) (e1 : xs 1 = a1) (e2 : xs 2 = a2) (e3 : xs 3 = a3) (e4 : xs 4 = a4) (e5 : xs 5 = a5) (e6 : xs 6 = a6) (hk : (a0 &&& 31) = 21) :
    ∃ μ : zx_M, μ.2 ≤ 308 ∧ zx_E (7, xs) 11 zc_L_law (18, [some (.inr (some (33, 0, 0, 0))), some (.inr (some (0, 0, 0, 0))), some (.inr (some (25, 0, 0, 0))), some (.inl 0)], [], (zx_lay zM0, 308)) (some (.inl 1), μ) := by
  by_cases h1 : a1 = 0
  · subst h1
    refine ⟨(zx_lay zM0, 308), Nat.le_refl _, ?_⟩
    refine zx_E.go 4 (s' := (23, [some (.inr (some (33, 0, 0, 0))), some (.inr (some (0, 0, 0, 0))), some (.inr (some (25, 0, 0, 0))), some (.inl 0)], [.inl 7, .inl 7, .inl 0], (zx_lay zM0, 308))) rfl ?_
    refine zx_E.go 1 (s' := (24, [some (.inr (some (33, 0, 0, 0))), some (.inr (some (0, 0, 0, 0))), some (.inr (some (25, 0, 0, 0))), some (.inl 0)], [.inl 0, .inl 0], (zx_lay zM0, 308))) rfl ?_
    refine zx_E.bf (c := 0 < 0) (s1 := (740, [some (.inr (some (33, 0, 0, 0))), some (.inr (some (0, 0, 0, 0))), some (.inr (some (25, 0, 0, 0))), some (.inl 0)], [], (zx_lay zM0, 308))) (s2 := (27, [some (.inr (some (33, 0, 0, 0))), some (.inr (some (0, 0, 0, 0))), some (.inr (some (25, 0, 0, 0))), some (.inl 0)], [], (zx_lay zM0, 308))) rfl (by decide) ?_
    refine zx_E.go 2 (s' := (29, [some (.inr (some (33, 0, 0, 0))), some (.inr (some (0, 0, 0, 0))), some (.inr (some (25, 0, 0, 0))), some (.inl 0)], [.inl 0, .inr (some (33, 0, 0, 0))], (zx_lay zM0, 308))) rfl ?_
    refine zx_E.sld' (k := 0) (v := a0) rfl rfl (by omega) (by decide) e0 ?_
    show zx_E _ _ _ (30, [some (.inr (some (33, 0, 0, 0))), some (.inr (some (0, 0, 0, 0))), some (.inr (some (25, 0, 0, 0))), some (.inl 0)], [.inl a0], (zx_lay zM0, 308)) _
    refine zx_E.go 2 (s' := (33, [some (.inr (some (33, 0, 0, 0))), some (.inr (some (0, 0, 0, 0))), some (.inr (some (25, 0, 0, 0))), some (.inl 0)], [.inl (a0 &&& 31)], (zx_lay zM0, 308))) rfl ?_
    refine zx_E.one (s' := (zx_pick (a0 &&& 31) 0 [136, 211, 224, 247, 270, 293, 316, 339, 372, 405, 438, 471, 494, 517, 560, 573, 606, 639, 652, 685, 698, 711] 734, [some (.inr (some (33, 0, 0, 0))), some (.inr (some (0, 0, 0, 0))), some (.inr (some (25, 0, 0, 0))), some (.inl 0)], [], (zx_lay zM0, 308))) rfl ?_
    refine zx_E.pick (k' := 1) (by decide) (fun hn => absurd hn (fun q => absurd (hk.symm.trans q) (by decide))) (fun _ => ?_)
    refine zx_E.pick (k' := 2) (by decide) (fun hn => absurd hn (fun q => absurd (hk.symm.trans q) (by decide))) (fun _ => ?_)
    refine zx_E.pick (k' := 3) (by decide) (fun hn => absurd hn (fun q => absurd (hk.symm.trans q) (by decide))) (fun _ => ?_)
    refine zx_E.pick (k' := 4) (by decide) (fun hn => absurd hn (fun q => absurd (hk.symm.trans q) (by decide))) (fun _ => ?_)
    refine zx_E.pick (k' := 5) (by decide) (fun hn => absurd hn (fun q => absurd (hk.symm.trans q) (by decide))) (fun _ => ?_)
    refine zx_E.pick (k' := 6) (by decide) (fun hn => absurd hn (fun q => absurd (hk.symm.trans q) (by decide))) (fun _ => ?_)
    refine zx_E.pick (k' := 7) (by decide) (fun hn => absurd hn (fun q => absurd (hk.symm.trans q) (by decide))) (fun _ => ?_)
    refine zx_E.pick (k' := 8) (by decide) (fun hn => absurd hn (fun q => absurd (hk.symm.trans q) (by decide))) (fun _ => ?_)
    refine zx_E.pick (k' := 9) (by decide) (fun hn => absurd hn (fun q => absurd (hk.symm.trans q) (by decide))) (fun _ => ?_)
    refine zx_E.pick (k' := 10) (by decide) (fun hn => absurd hn (fun q => absurd (hk.symm.trans q) (by decide))) (fun _ => ?_)
    refine zx_E.pick (k' := 11) (by decide) (fun hn => absurd hn (fun q => absurd (hk.symm.trans q) (by decide))) (fun _ => ?_)
    refine zx_E.pick (k' := 12) (by decide) (fun hn => absurd hn (fun q => absurd (hk.symm.trans q) (by decide))) (fun _ => ?_)
    refine zx_E.pick (k' := 13) (by decide) (fun hn => absurd hn (fun q => absurd (hk.symm.trans q) (by decide))) (fun _ => ?_)
    refine zx_E.pick (k' := 14) (by decide) (fun hn => absurd hn (fun q => absurd (hk.symm.trans q) (by decide))) (fun _ => ?_)
    refine zx_E.pick (k' := 15) (by decide) (fun hn => absurd hn (fun q => absurd (hk.symm.trans q) (by decide))) (fun _ => ?_)
    refine zx_E.pick (k' := 16) (by decide) (fun hn => absurd hn (fun q => absurd (hk.symm.trans q) (by decide))) (fun _ => ?_)
    refine zx_E.pick (k' := 17) (by decide) (fun hn => absurd hn (fun q => absurd (hk.symm.trans q) (by decide))) (fun _ => ?_)
    refine zx_E.pick (k' := 18) (by decide) (fun hn => absurd hn (fun q => absurd (hk.symm.trans q) (by decide))) (fun _ => ?_)
    refine zx_E.pick (k' := 19) (by decide) (fun hn => absurd hn (fun q => absurd (hk.symm.trans q) (by decide))) (fun _ => ?_)
    refine zx_E.pick (k' := 20) (by decide) (fun hn => absurd hn (fun q => absurd (hk.symm.trans q) (by decide))) (fun _ => ?_)
    refine zx_E.pick (k' := 21) (by decide) (fun hn => absurd hn (fun q => absurd (hk.symm.trans q) (by decide))) (fun _ => ?_)
    refine zx_E.pick (k' := 22) (by decide) (fun _ => ?_) (fun hn => absurd hk hn)
    refine zx_E.go 5 (s' := (716, [some (.inr (some (33, 0, 0, 0))), some (.inr (some (0, 0, 0, 0))), some (.inr (some (25, 0, 0, 0))), some (.inl 0)], [.inl 1, .inr (some (33, 0, 0, 0)), .inr (some (0, 0, 0, 0))], (zx_lay zM0, 308))) rfl ?_
    refine zx_E.sld' (k := 1) (v := 0) rfl rfl (by omega) (by decide) e1 ?_
    show zx_E _ _ _ (717, [some (.inr (some (33, 0, 0, 0))), some (.inr (some (0, 0, 0, 0))), some (.inr (some (25, 0, 0, 0))), some (.inl 0)], [.inl 0, .inr (some (0, 0, 0, 0))], (zx_lay zM0, 308)) _
    refine zx_E.call1 (y := 115) (as := [.inr (some (0, 0, 0, 0)), .inl 0]) (rest := []) (v := .inl 0) (μ' := (zx_lay zM0, 308)) rfl (zx_run_of zc_X10_count [some (.inr (some (0, 0, 0, 0))), some (.inl 0)] rfl rfl (by
      refine zx_E.go 1 (s' := (1, [some (.inr (some (0, 0, 0, 0))), some (.inl 0)], [.inl 0], (zx_lay zM0, 308))) rfl ?_
      refine zx_E.one (s' := (56, [some (.inr (some (0, 0, 0, 0))), some (.inl 0)], [], (zx_lay zM0, 308))) rfl ?_
      refine zx_E.go 3 (s' := (63, [some (.inr (some (0, 0, 0, 0))), some (.inl 0)], [.inl 0], (zx_lay zM0, 308))) rfl ?_
      exact zx_E.iret rfl (fun h => absurd h (by decide)) rfl)) ?_
    show zx_E _ _ _ (720, [some (.inr (some (33, 0, 0, 0))), some (.inr (some (0, 0, 0, 0))), some (.inr (some (25, 0, 0, 0))), some (.inl 0)], [.inl 0], (zx_lay zM0, 308)) _
    refine zx_E.go 5 (s' := (725, [some (.inr (some (33, 0, 0, 0))), some (.inr (some (0, 0, 0, 0))), some (.inr (some (25, 0, 0, 0))), some (.inl 0)], [.inl 1, .inr (some (33, 0, 0, 0)), .inr (some (25, 0, 0, 0)), .inl 0], (zx_lay zM0, 308))) rfl ?_
    refine zx_E.sld' (k := 1) (v := 0) rfl rfl (by omega) (by decide) e1 ?_
    show zx_E _ _ _ (726, [some (.inr (some (33, 0, 0, 0))), some (.inr (some (0, 0, 0, 0))), some (.inr (some (25, 0, 0, 0))), some (.inl 0)], [.inl 0, .inr (some (25, 0, 0, 0)), .inl 0], (zx_lay zM0, 308)) _
    refine zx_E.call1 (y := 200) (as := [.inr (some (25, 0, 0, 0)), .inl 0]) (rest := [.inl 0]) (v := .inl 0) (μ' := (zx_lay zM0, 308)) rfl (zx_run_of zc_X11_count [some (.inr (some (25, 0, 0, 0))), some (.inl 0)] rfl rfl (by
      refine zx_E.go 1 (s' := (1, [some (.inr (some (25, 0, 0, 0))), some (.inl 0)], [.inl 0], (zx_lay zM0, 308))) rfl ?_
      refine zx_E.one (s' := (56, [some (.inr (some (25, 0, 0, 0))), some (.inl 0)], [], (zx_lay zM0, 308))) rfl ?_
      refine zx_E.go 3 (s' := (61, [some (.inr (some (25, 0, 0, 0))), some (.inl 0)], [.inl 0, .inr (some (26, 0, 0, 0))], (zx_lay zM0, 308))) rfl ?_
      refine zx_E.iald' (k := 0) (h := (26, 0, 0, 0)) (v := 0) rfl rfl rfl (by decide) rfl ?_
      show zx_E _ _ _ (62, [some (.inr (some (25, 0, 0, 0))), some (.inl 0)], [.inl 0], (zx_lay zM0, 308)) _
      exact zx_E.iret rfl (fun h => absurd h (by decide)) rfl)) ?_
    show zx_E _ _ _ (729, [some (.inr (some (33, 0, 0, 0))), some (.inr (some (0, 0, 0, 0))), some (.inr (some (25, 0, 0, 0))), some (.inl 0)], [.inl 0, .inl 0], (zx_lay zM0, 308)) _
    refine zx_E.bt (c := 0 = 0) (s1 := (734, [some (.inr (some (33, 0, 0, 0))), some (.inr (some (0, 0, 0, 0))), some (.inr (some (25, 0, 0, 0))), some (.inl 0)], [], (zx_lay zM0, 308))) (s2 := (732, [some (.inr (some (33, 0, 0, 0))), some (.inr (some (0, 0, 0, 0))), some (.inr (some (25, 0, 0, 0))), some (.inl 0)], [], (zx_lay zM0, 308))) rfl (by decide) ?_
    refine zx_E.go 6 (s' := (23, [some (.inr (some (33, 0, 0, 0))), some (.inr (some (0, 0, 0, 0))), some (.inr (some (25, 0, 0, 0))), some (.inl 7)], [.inl 7, .inl 7, .inl 7], (zx_lay zM0, 308))) rfl ?_
    refine zx_E.go 1 (s' := (24, [some (.inr (some (33, 0, 0, 0))), some (.inr (some (0, 0, 0, 0))), some (.inr (some (25, 0, 0, 0))), some (.inl 7)], [.inl 0, .inl 7], (zx_lay zM0, 308))) rfl ?_
    refine zx_E.bt (c := 0 < 7) (s1 := (740, [some (.inr (some (33, 0, 0, 0))), some (.inr (some (0, 0, 0, 0))), some (.inr (some (25, 0, 0, 0))), some (.inl 7)], [], (zx_lay zM0, 308))) (s2 := (27, [some (.inr (some (33, 0, 0, 0))), some (.inr (some (0, 0, 0, 0))), some (.inr (some (25, 0, 0, 0))), some (.inl 7)], [], (zx_lay zM0, 308))) rfl (by decide) ?_
    refine zx_E.go 1 (s' := (741, [some (.inr (some (33, 0, 0, 0))), some (.inr (some (0, 0, 0, 0))), some (.inr (some (25, 0, 0, 0))), some (.inl 7)], [.inl 1], (zx_lay zM0, 308))) rfl ?_
    exact zx_E.iret rfl (fun _ => Or.inr rfl) rfl
  · skip
    by_cases h2 : a1 = 1
    · subst h2
      refine ⟨(zx_lay zM0, 308), Nat.le_refl _, ?_⟩
      refine zx_E.go 4 (s' := (23, [some (.inr (some (33, 0, 0, 0))), some (.inr (some (0, 0, 0, 0))), some (.inr (some (25, 0, 0, 0))), some (.inl 0)], [.inl 7, .inl 7, .inl 0], (zx_lay zM0, 308))) rfl ?_
      refine zx_E.go 1 (s' := (24, [some (.inr (some (33, 0, 0, 0))), some (.inr (some (0, 0, 0, 0))), some (.inr (some (25, 0, 0, 0))), some (.inl 0)], [.inl 0, .inl 0], (zx_lay zM0, 308))) rfl ?_
      refine zx_E.bf (c := 0 < 0) (s1 := (740, [some (.inr (some (33, 0, 0, 0))), some (.inr (some (0, 0, 0, 0))), some (.inr (some (25, 0, 0, 0))), some (.inl 0)], [], (zx_lay zM0, 308))) (s2 := (27, [some (.inr (some (33, 0, 0, 0))), some (.inr (some (0, 0, 0, 0))), some (.inr (some (25, 0, 0, 0))), some (.inl 0)], [], (zx_lay zM0, 308))) rfl (by decide) ?_
      refine zx_E.go 2 (s' := (29, [some (.inr (some (33, 0, 0, 0))), some (.inr (some (0, 0, 0, 0))), some (.inr (some (25, 0, 0, 0))), some (.inl 0)], [.inl 0, .inr (some (33, 0, 0, 0))], (zx_lay zM0, 308))) rfl ?_
      refine zx_E.sld' (k := 0) (v := a0) rfl rfl (by omega) (by decide) e0 ?_
      show zx_E _ _ _ (30, [some (.inr (some (33, 0, 0, 0))), some (.inr (some (0, 0, 0, 0))), some (.inr (some (25, 0, 0, 0))), some (.inl 0)], [.inl a0], (zx_lay zM0, 308)) _
      refine zx_E.go 2 (s' := (33, [some (.inr (some (33, 0, 0, 0))), some (.inr (some (0, 0, 0, 0))), some (.inr (some (25, 0, 0, 0))), some (.inl 0)], [.inl (a0 &&& 31)], (zx_lay zM0, 308))) rfl ?_
      refine zx_E.one (s' := (zx_pick (a0 &&& 31) 0 [136, 211, 224, 247, 270, 293, 316, 339, 372, 405, 438, 471, 494, 517, 560, 573, 606, 639, 652, 685, 698, 711] 734, [some (.inr (some (33, 0, 0, 0))), some (.inr (some (0, 0, 0, 0))), some (.inr (some (25, 0, 0, 0))), some (.inl 0)], [], (zx_lay zM0, 308))) rfl ?_
      refine zx_E.pick (k' := 1) (by decide) (fun hn => absurd hn (fun q => absurd (hk.symm.trans q) (by decide))) (fun _ => ?_)
      refine zx_E.pick (k' := 2) (by decide) (fun hn => absurd hn (fun q => absurd (hk.symm.trans q) (by decide))) (fun _ => ?_)
      refine zx_E.pick (k' := 3) (by decide) (fun hn => absurd hn (fun q => absurd (hk.symm.trans q) (by decide))) (fun _ => ?_)
      refine zx_E.pick (k' := 4) (by decide) (fun hn => absurd hn (fun q => absurd (hk.symm.trans q) (by decide))) (fun _ => ?_)
      refine zx_E.pick (k' := 5) (by decide) (fun hn => absurd hn (fun q => absurd (hk.symm.trans q) (by decide))) (fun _ => ?_)
      refine zx_E.pick (k' := 6) (by decide) (fun hn => absurd hn (fun q => absurd (hk.symm.trans q) (by decide))) (fun _ => ?_)
      refine zx_E.pick (k' := 7) (by decide) (fun hn => absurd hn (fun q => absurd (hk.symm.trans q) (by decide))) (fun _ => ?_)
      refine zx_E.pick (k' := 8) (by decide) (fun hn => absurd hn (fun q => absurd (hk.symm.trans q) (by decide))) (fun _ => ?_)
      refine zx_E.pick (k' := 9) (by decide) (fun hn => absurd hn (fun q => absurd (hk.symm.trans q) (by decide))) (fun _ => ?_)
      refine zx_E.pick (k' := 10) (by decide) (fun hn => absurd hn (fun q => absurd (hk.symm.trans q) (by decide))) (fun _ => ?_)
      refine zx_E.pick (k' := 11) (by decide) (fun hn => absurd hn (fun q => absurd (hk.symm.trans q) (by decide))) (fun _ => ?_)
      refine zx_E.pick (k' := 12) (by decide) (fun hn => absurd hn (fun q => absurd (hk.symm.trans q) (by decide))) (fun _ => ?_)
      refine zx_E.pick (k' := 13) (by decide) (fun hn => absurd hn (fun q => absurd (hk.symm.trans q) (by decide))) (fun _ => ?_)
      refine zx_E.pick (k' := 14) (by decide) (fun hn => absurd hn (fun q => absurd (hk.symm.trans q) (by decide))) (fun _ => ?_)
      refine zx_E.pick (k' := 15) (by decide) (fun hn => absurd hn (fun q => absurd (hk.symm.trans q) (by decide))) (fun _ => ?_)
      refine zx_E.pick (k' := 16) (by decide) (fun hn => absurd hn (fun q => absurd (hk.symm.trans q) (by decide))) (fun _ => ?_)
      refine zx_E.pick (k' := 17) (by decide) (fun hn => absurd hn (fun q => absurd (hk.symm.trans q) (by decide))) (fun _ => ?_)
      refine zx_E.pick (k' := 18) (by decide) (fun hn => absurd hn (fun q => absurd (hk.symm.trans q) (by decide))) (fun _ => ?_)
      refine zx_E.pick (k' := 19) (by decide) (fun hn => absurd hn (fun q => absurd (hk.symm.trans q) (by decide))) (fun _ => ?_)
      refine zx_E.pick (k' := 20) (by decide) (fun hn => absurd hn (fun q => absurd (hk.symm.trans q) (by decide))) (fun _ => ?_)
      refine zx_E.pick (k' := 21) (by decide) (fun hn => absurd hn (fun q => absurd (hk.symm.trans q) (by decide))) (fun _ => ?_)
      refine zx_E.pick (k' := 22) (by decide) (fun _ => ?_) (fun hn => absurd hk hn)
      refine zx_E.go 5 (s' := (716, [some (.inr (some (33, 0, 0, 0))), some (.inr (some (0, 0, 0, 0))), some (.inr (some (25, 0, 0, 0))), some (.inl 0)], [.inl 1, .inr (some (33, 0, 0, 0)), .inr (some (0, 0, 0, 0))], (zx_lay zM0, 308))) rfl ?_
      refine zx_E.sld' (k := 1) (v := 1) rfl rfl (by omega) (by decide) e1 ?_
      show zx_E _ _ _ (717, [some (.inr (some (33, 0, 0, 0))), some (.inr (some (0, 0, 0, 0))), some (.inr (some (25, 0, 0, 0))), some (.inl 0)], [.inl 1, .inr (some (0, 0, 0, 0))], (zx_lay zM0, 308)) _
      refine zx_E.call1 (y := 115) (as := [.inr (some (0, 0, 0, 0)), .inl 1]) (rest := []) (v := .inl 0) (μ' := (zx_lay zM0, 308)) rfl (zx_run_of zc_X10_count [some (.inr (some (0, 0, 0, 0))), some (.inl 1)] rfl rfl (by
        refine zx_E.go 1 (s' := (1, [some (.inr (some (0, 0, 0, 0))), some (.inl 1)], [.inl 1], (zx_lay zM0, 308))) rfl ?_
        refine zx_E.one (s' := (64, [some (.inr (some (0, 0, 0, 0))), some (.inl 1)], [], (zx_lay zM0, 308))) rfl ?_
        refine zx_E.go 3 (s' := (71, [some (.inr (some (0, 0, 0, 0))), some (.inl 1)], [.inl 0], (zx_lay zM0, 308))) rfl ?_
        exact zx_E.iret rfl (fun h => absurd h (by decide)) rfl)) ?_
      show zx_E _ _ _ (720, [some (.inr (some (33, 0, 0, 0))), some (.inr (some (0, 0, 0, 0))), some (.inr (some (25, 0, 0, 0))), some (.inl 0)], [.inl 0], (zx_lay zM0, 308)) _
      refine zx_E.go 5 (s' := (725, [some (.inr (some (33, 0, 0, 0))), some (.inr (some (0, 0, 0, 0))), some (.inr (some (25, 0, 0, 0))), some (.inl 0)], [.inl 1, .inr (some (33, 0, 0, 0)), .inr (some (25, 0, 0, 0)), .inl 0], (zx_lay zM0, 308))) rfl ?_
      refine zx_E.sld' (k := 1) (v := 1) rfl rfl (by omega) (by decide) e1 ?_
      show zx_E _ _ _ (726, [some (.inr (some (33, 0, 0, 0))), some (.inr (some (0, 0, 0, 0))), some (.inr (some (25, 0, 0, 0))), some (.inl 0)], [.inl 1, .inr (some (25, 0, 0, 0)), .inl 0], (zx_lay zM0, 308)) _
      refine zx_E.call1 (y := 200) (as := [.inr (some (25, 0, 0, 0)), .inl 1]) (rest := [.inl 0]) (v := .inl 0) (μ' := (zx_lay zM0, 308)) rfl (zx_run_of zc_X11_count [some (.inr (some (25, 0, 0, 0))), some (.inl 1)] rfl rfl (by
        refine zx_E.go 1 (s' := (1, [some (.inr (some (25, 0, 0, 0))), some (.inl 1)], [.inl 1], (zx_lay zM0, 308))) rfl ?_
        refine zx_E.one (s' := (63, [some (.inr (some (25, 0, 0, 0))), some (.inl 1)], [], (zx_lay zM0, 308))) rfl ?_
        refine zx_E.go 3 (s' := (68, [some (.inr (some (25, 0, 0, 0))), some (.inl 1)], [.inl 1, .inr (some (26, 0, 0, 0))], (zx_lay zM0, 308))) rfl ?_
        refine zx_E.iald' (k := 1) (h := (26, 0, 0, 0)) (v := 0) rfl rfl rfl (by decide) rfl ?_
        show zx_E _ _ _ (69, [some (.inr (some (25, 0, 0, 0))), some (.inl 1)], [.inl 0], (zx_lay zM0, 308)) _
        exact zx_E.iret rfl (fun h => absurd h (by decide)) rfl)) ?_
      show zx_E _ _ _ (729, [some (.inr (some (33, 0, 0, 0))), some (.inr (some (0, 0, 0, 0))), some (.inr (some (25, 0, 0, 0))), some (.inl 0)], [.inl 0, .inl 0], (zx_lay zM0, 308)) _
      refine zx_E.bt (c := 0 = 0) (s1 := (734, [some (.inr (some (33, 0, 0, 0))), some (.inr (some (0, 0, 0, 0))), some (.inr (some (25, 0, 0, 0))), some (.inl 0)], [], (zx_lay zM0, 308))) (s2 := (732, [some (.inr (some (33, 0, 0, 0))), some (.inr (some (0, 0, 0, 0))), some (.inr (some (25, 0, 0, 0))), some (.inl 0)], [], (zx_lay zM0, 308))) rfl (by decide) ?_
      refine zx_E.go 6 (s' := (23, [some (.inr (some (33, 0, 0, 0))), some (.inr (some (0, 0, 0, 0))), some (.inr (some (25, 0, 0, 0))), some (.inl 7)], [.inl 7, .inl 7, .inl 7], (zx_lay zM0, 308))) rfl ?_
      refine zx_E.go 1 (s' := (24, [some (.inr (some (33, 0, 0, 0))), some (.inr (some (0, 0, 0, 0))), some (.inr (some (25, 0, 0, 0))), some (.inl 7)], [.inl 0, .inl 7], (zx_lay zM0, 308))) rfl ?_
      refine zx_E.bt (c := 0 < 7) (s1 := (740, [some (.inr (some (33, 0, 0, 0))), some (.inr (some (0, 0, 0, 0))), some (.inr (some (25, 0, 0, 0))), some (.inl 7)], [], (zx_lay zM0, 308))) (s2 := (27, [some (.inr (some (33, 0, 0, 0))), some (.inr (some (0, 0, 0, 0))), some (.inr (some (25, 0, 0, 0))), some (.inl 7)], [], (zx_lay zM0, 308))) rfl (by decide) ?_
      refine zx_E.go 1 (s' := (741, [some (.inr (some (33, 0, 0, 0))), some (.inr (some (0, 0, 0, 0))), some (.inr (some (25, 0, 0, 0))), some (.inl 7)], [.inl 1], (zx_lay zM0, 308))) rfl ?_
      exact zx_E.iret rfl (fun _ => Or.inr rfl) rfl
    · skip
      by_cases h3 : a1 = 2
      · subst h3
        refine ⟨(zx_lay zM0, 308), Nat.le_refl _, ?_⟩
        refine zx_E.go 4 (s' := (23, [some (.inr (some (33, 0, 0, 0))), some (.inr (some (0, 0, 0, 0))), some (.inr (some (25, 0, 0, 0))), some (.inl 0)], [.inl 7, .inl 7, .inl 0], (zx_lay zM0, 308))) rfl ?_
        refine zx_E.go 1 (s' := (24, [some (.inr (some (33, 0, 0, 0))), some (.inr (some (0, 0, 0, 0))), some (.inr (some (25, 0, 0, 0))), some (.inl 0)], [.inl 0, .inl 0], (zx_lay zM0, 308))) rfl ?_
        refine zx_E.bf (c := 0 < 0) (s1 := (740, [some (.inr (some (33, 0, 0, 0))), some (.inr (some (0, 0, 0, 0))), some (.inr (some (25, 0, 0, 0))), some (.inl 0)], [], (zx_lay zM0, 308))) (s2 := (27, [some (.inr (some (33, 0, 0, 0))), some (.inr (some (0, 0, 0, 0))), some (.inr (some (25, 0, 0, 0))), some (.inl 0)], [], (zx_lay zM0, 308))) rfl (by decide) ?_
        refine zx_E.go 2 (s' := (29, [some (.inr (some (33, 0, 0, 0))), some (.inr (some (0, 0, 0, 0))), some (.inr (some (25, 0, 0, 0))), some (.inl 0)], [.inl 0, .inr (some (33, 0, 0, 0))], (zx_lay zM0, 308))) rfl ?_
        refine zx_E.sld' (k := 0) (v := a0) rfl rfl (by omega) (by decide) e0 ?_
        show zx_E _ _ _ (30, [some (.inr (some (33, 0, 0, 0))), some (.inr (some (0, 0, 0, 0))), some (.inr (some (25, 0, 0, 0))), some (.inl 0)], [.inl a0], (zx_lay zM0, 308)) _
        refine zx_E.go 2 (s' := (33, [some (.inr (some (33, 0, 0, 0))), some (.inr (some (0, 0, 0, 0))), some (.inr (some (25, 0, 0, 0))), some (.inl 0)], [.inl (a0 &&& 31)], (zx_lay zM0, 308))) rfl ?_
        refine zx_E.one (s' := (zx_pick (a0 &&& 31) 0 [136, 211, 224, 247, 270, 293, 316, 339, 372, 405, 438, 471, 494, 517, 560, 573, 606, 639, 652, 685, 698, 711] 734, [some (.inr (some (33, 0, 0, 0))), some (.inr (some (0, 0, 0, 0))), some (.inr (some (25, 0, 0, 0))), some (.inl 0)], [], (zx_lay zM0, 308))) rfl ?_
        refine zx_E.pick (k' := 1) (by decide) (fun hn => absurd hn (fun q => absurd (hk.symm.trans q) (by decide))) (fun _ => ?_)
        refine zx_E.pick (k' := 2) (by decide) (fun hn => absurd hn (fun q => absurd (hk.symm.trans q) (by decide))) (fun _ => ?_)
        refine zx_E.pick (k' := 3) (by decide) (fun hn => absurd hn (fun q => absurd (hk.symm.trans q) (by decide))) (fun _ => ?_)
        refine zx_E.pick (k' := 4) (by decide) (fun hn => absurd hn (fun q => absurd (hk.symm.trans q) (by decide))) (fun _ => ?_)
        refine zx_E.pick (k' := 5) (by decide) (fun hn => absurd hn (fun q => absurd (hk.symm.trans q) (by decide))) (fun _ => ?_)
        refine zx_E.pick (k' := 6) (by decide) (fun hn => absurd hn (fun q => absurd (hk.symm.trans q) (by decide))) (fun _ => ?_)
        refine zx_E.pick (k' := 7) (by decide) (fun hn => absurd hn (fun q => absurd (hk.symm.trans q) (by decide))) (fun _ => ?_)
        refine zx_E.pick (k' := 8) (by decide) (fun hn => absurd hn (fun q => absurd (hk.symm.trans q) (by decide))) (fun _ => ?_)
        refine zx_E.pick (k' := 9) (by decide) (fun hn => absurd hn (fun q => absurd (hk.symm.trans q) (by decide))) (fun _ => ?_)
        refine zx_E.pick (k' := 10) (by decide) (fun hn => absurd hn (fun q => absurd (hk.symm.trans q) (by decide))) (fun _ => ?_)
        refine zx_E.pick (k' := 11) (by decide) (fun hn => absurd hn (fun q => absurd (hk.symm.trans q) (by decide))) (fun _ => ?_)
        refine zx_E.pick (k' := 12) (by decide) (fun hn => absurd hn (fun q => absurd (hk.symm.trans q) (by decide))) (fun _ => ?_)
        refine zx_E.pick (k' := 13) (by decide) (fun hn => absurd hn (fun q => absurd (hk.symm.trans q) (by decide))) (fun _ => ?_)
        refine zx_E.pick (k' := 14) (by decide) (fun hn => absurd hn (fun q => absurd (hk.symm.trans q) (by decide))) (fun _ => ?_)
        refine zx_E.pick (k' := 15) (by decide) (fun hn => absurd hn (fun q => absurd (hk.symm.trans q) (by decide))) (fun _ => ?_)
        refine zx_E.pick (k' := 16) (by decide) (fun hn => absurd hn (fun q => absurd (hk.symm.trans q) (by decide))) (fun _ => ?_)
        refine zx_E.pick (k' := 17) (by decide) (fun hn => absurd hn (fun q => absurd (hk.symm.trans q) (by decide))) (fun _ => ?_)
        refine zx_E.pick (k' := 18) (by decide) (fun hn => absurd hn (fun q => absurd (hk.symm.trans q) (by decide))) (fun _ => ?_)
        refine zx_E.pick (k' := 19) (by decide) (fun hn => absurd hn (fun q => absurd (hk.symm.trans q) (by decide))) (fun _ => ?_)
        refine zx_E.pick (k' := 20) (by decide) (fun hn => absurd hn (fun q => absurd (hk.symm.trans q) (by decide))) (fun _ => ?_)
        refine zx_E.pick (k' := 21) (by decide) (fun hn => absurd hn (fun q => absurd (hk.symm.trans q) (by decide))) (fun _ => ?_)
        refine zx_E.pick (k' := 22) (by decide) (fun _ => ?_) (fun hn => absurd hk hn)
        refine zx_E.go 5 (s' := (716, [some (.inr (some (33, 0, 0, 0))), some (.inr (some (0, 0, 0, 0))), some (.inr (some (25, 0, 0, 0))), some (.inl 0)], [.inl 1, .inr (some (33, 0, 0, 0)), .inr (some (0, 0, 0, 0))], (zx_lay zM0, 308))) rfl ?_
        refine zx_E.sld' (k := 1) (v := 2) rfl rfl (by omega) (by decide) e1 ?_
        show zx_E _ _ _ (717, [some (.inr (some (33, 0, 0, 0))), some (.inr (some (0, 0, 0, 0))), some (.inr (some (25, 0, 0, 0))), some (.inl 0)], [.inl 2, .inr (some (0, 0, 0, 0))], (zx_lay zM0, 308)) _
        refine zx_E.call1 (y := 115) (as := [.inr (some (0, 0, 0, 0)), .inl 2]) (rest := []) (v := .inl 0) (μ' := (zx_lay zM0, 308)) rfl (zx_run_of zc_X10_count [some (.inr (some (0, 0, 0, 0))), some (.inl 2)] rfl rfl (by
          refine zx_E.go 1 (s' := (1, [some (.inr (some (0, 0, 0, 0))), some (.inl 2)], [.inl 2], (zx_lay zM0, 308))) rfl ?_
          refine zx_E.one (s' := (72, [some (.inr (some (0, 0, 0, 0))), some (.inl 2)], [], (zx_lay zM0, 308))) rfl ?_
          refine zx_E.go 3 (s' := (79, [some (.inr (some (0, 0, 0, 0))), some (.inl 2)], [.inl 0], (zx_lay zM0, 308))) rfl ?_
          exact zx_E.iret rfl (fun h => absurd h (by decide)) rfl)) ?_
        show zx_E _ _ _ (720, [some (.inr (some (33, 0, 0, 0))), some (.inr (some (0, 0, 0, 0))), some (.inr (some (25, 0, 0, 0))), some (.inl 0)], [.inl 0], (zx_lay zM0, 308)) _
        refine zx_E.go 5 (s' := (725, [some (.inr (some (33, 0, 0, 0))), some (.inr (some (0, 0, 0, 0))), some (.inr (some (25, 0, 0, 0))), some (.inl 0)], [.inl 1, .inr (some (33, 0, 0, 0)), .inr (some (25, 0, 0, 0)), .inl 0], (zx_lay zM0, 308))) rfl ?_
        refine zx_E.sld' (k := 1) (v := 2) rfl rfl (by omega) (by decide) e1 ?_
        show zx_E _ _ _ (726, [some (.inr (some (33, 0, 0, 0))), some (.inr (some (0, 0, 0, 0))), some (.inr (some (25, 0, 0, 0))), some (.inl 0)], [.inl 2, .inr (some (25, 0, 0, 0)), .inl 0], (zx_lay zM0, 308)) _
        refine zx_E.call1 (y := 200) (as := [.inr (some (25, 0, 0, 0)), .inl 2]) (rest := [.inl 0]) (v := .inl 0) (μ' := (zx_lay zM0, 308)) rfl (zx_run_of zc_X11_count [some (.inr (some (25, 0, 0, 0))), some (.inl 2)] rfl rfl (by
          refine zx_E.go 1 (s' := (1, [some (.inr (some (25, 0, 0, 0))), some (.inl 2)], [.inl 2], (zx_lay zM0, 308))) rfl ?_
          refine zx_E.one (s' := (70, [some (.inr (some (25, 0, 0, 0))), some (.inl 2)], [], (zx_lay zM0, 308))) rfl ?_
          refine zx_E.go 3 (s' := (76, [some (.inr (some (25, 0, 0, 0))), some (.inl 2)], [.inl 27, .inr (some (26, 0, 0, 0))], (zx_lay zM0, 308))) rfl ?_
          refine zx_E.iald' (k := 27) (h := (26, 0, 0, 0)) (v := 0) rfl rfl rfl (by decide) rfl ?_
          show zx_E _ _ _ (77, [some (.inr (some (25, 0, 0, 0))), some (.inl 2)], [.inl 0], (zx_lay zM0, 308)) _
          exact zx_E.iret rfl (fun h => absurd h (by decide)) rfl)) ?_
        show zx_E _ _ _ (729, [some (.inr (some (33, 0, 0, 0))), some (.inr (some (0, 0, 0, 0))), some (.inr (some (25, 0, 0, 0))), some (.inl 0)], [.inl 0, .inl 0], (zx_lay zM0, 308)) _
        refine zx_E.bt (c := 0 = 0) (s1 := (734, [some (.inr (some (33, 0, 0, 0))), some (.inr (some (0, 0, 0, 0))), some (.inr (some (25, 0, 0, 0))), some (.inl 0)], [], (zx_lay zM0, 308))) (s2 := (732, [some (.inr (some (33, 0, 0, 0))), some (.inr (some (0, 0, 0, 0))), some (.inr (some (25, 0, 0, 0))), some (.inl 0)], [], (zx_lay zM0, 308))) rfl (by decide) ?_
        refine zx_E.go 6 (s' := (23, [some (.inr (some (33, 0, 0, 0))), some (.inr (some (0, 0, 0, 0))), some (.inr (some (25, 0, 0, 0))), some (.inl 7)], [.inl 7, .inl 7, .inl 7], (zx_lay zM0, 308))) rfl ?_
        refine zx_E.go 1 (s' := (24, [some (.inr (some (33, 0, 0, 0))), some (.inr (some (0, 0, 0, 0))), some (.inr (some (25, 0, 0, 0))), some (.inl 7)], [.inl 0, .inl 7], (zx_lay zM0, 308))) rfl ?_
        refine zx_E.bt (c := 0 < 7) (s1 := (740, [some (.inr (some (33, 0, 0, 0))), some (.inr (some (0, 0, 0, 0))), some (.inr (some (25, 0, 0, 0))), some (.inl 7)], [], (zx_lay zM0, 308))) (s2 := (27, [some (.inr (some (33, 0, 0, 0))), some (.inr (some (0, 0, 0, 0))), some (.inr (some (25, 0, 0, 0))), some (.inl 7)], [], (zx_lay zM0, 308))) rfl (by decide) ?_
        refine zx_E.go 1 (s' := (741, [some (.inr (some (33, 0, 0, 0))), some (.inr (some (0, 0, 0, 0))), some (.inr (some (25, 0, 0, 0))), some (.inl 7)], [.inl 1], (zx_lay zM0, 308))) rfl ?_
        exact zx_E.iret rfl (fun _ => Or.inr rfl) rfl
      · skip
        by_cases h4 : a1 = 3
        · subst h4
          refine ⟨(zx_lay zM0, 308), Nat.le_refl _, ?_⟩
          refine zx_E.go 4 (s' := (23, [some (.inr (some (33, 0, 0, 0))), some (.inr (some (0, 0, 0, 0))), some (.inr (some (25, 0, 0, 0))), some (.inl 0)], [.inl 7, .inl 7, .inl 0], (zx_lay zM0, 308))) rfl ?_
          refine zx_E.go 1 (s' := (24, [some (.inr (some (33, 0, 0, 0))), some (.inr (some (0, 0, 0, 0))), some (.inr (some (25, 0, 0, 0))), some (.inl 0)], [.inl 0, .inl 0], (zx_lay zM0, 308))) rfl ?_
          refine zx_E.bf (c := 0 < 0) (s1 := (740, [some (.inr (some (33, 0, 0, 0))), some (.inr (some (0, 0, 0, 0))), some (.inr (some (25, 0, 0, 0))), some (.inl 0)], [], (zx_lay zM0, 308))) (s2 := (27, [some (.inr (some (33, 0, 0, 0))), some (.inr (some (0, 0, 0, 0))), some (.inr (some (25, 0, 0, 0))), some (.inl 0)], [], (zx_lay zM0, 308))) rfl (by decide) ?_
          refine zx_E.go 2 (s' := (29, [some (.inr (some (33, 0, 0, 0))), some (.inr (some (0, 0, 0, 0))), some (.inr (some (25, 0, 0, 0))), some (.inl 0)], [.inl 0, .inr (some (33, 0, 0, 0))], (zx_lay zM0, 308))) rfl ?_
          refine zx_E.sld' (k := 0) (v := a0) rfl rfl (by omega) (by decide) e0 ?_
          show zx_E _ _ _ (30, [some (.inr (some (33, 0, 0, 0))), some (.inr (some (0, 0, 0, 0))), some (.inr (some (25, 0, 0, 0))), some (.inl 0)], [.inl a0], (zx_lay zM0, 308)) _
          refine zx_E.go 2 (s' := (33, [some (.inr (some (33, 0, 0, 0))), some (.inr (some (0, 0, 0, 0))), some (.inr (some (25, 0, 0, 0))), some (.inl 0)], [.inl (a0 &&& 31)], (zx_lay zM0, 308))) rfl ?_
          refine zx_E.one (s' := (zx_pick (a0 &&& 31) 0 [136, 211, 224, 247, 270, 293, 316, 339, 372, 405, 438, 471, 494, 517, 560, 573, 606, 639, 652, 685, 698, 711] 734, [some (.inr (some (33, 0, 0, 0))), some (.inr (some (0, 0, 0, 0))), some (.inr (some (25, 0, 0, 0))), some (.inl 0)], [], (zx_lay zM0, 308))) rfl ?_
          refine zx_E.pick (k' := 1) (by decide) (fun hn => absurd hn (fun q => absurd (hk.symm.trans q) (by decide))) (fun _ => ?_)
          refine zx_E.pick (k' := 2) (by decide) (fun hn => absurd hn (fun q => absurd (hk.symm.trans q) (by decide))) (fun _ => ?_)
          refine zx_E.pick (k' := 3) (by decide) (fun hn => absurd hn (fun q => absurd (hk.symm.trans q) (by decide))) (fun _ => ?_)
          refine zx_E.pick (k' := 4) (by decide) (fun hn => absurd hn (fun q => absurd (hk.symm.trans q) (by decide))) (fun _ => ?_)
          refine zx_E.pick (k' := 5) (by decide) (fun hn => absurd hn (fun q => absurd (hk.symm.trans q) (by decide))) (fun _ => ?_)
          refine zx_E.pick (k' := 6) (by decide) (fun hn => absurd hn (fun q => absurd (hk.symm.trans q) (by decide))) (fun _ => ?_)
          refine zx_E.pick (k' := 7) (by decide) (fun hn => absurd hn (fun q => absurd (hk.symm.trans q) (by decide))) (fun _ => ?_)
          refine zx_E.pick (k' := 8) (by decide) (fun hn => absurd hn (fun q => absurd (hk.symm.trans q) (by decide))) (fun _ => ?_)
          refine zx_E.pick (k' := 9) (by decide) (fun hn => absurd hn (fun q => absurd (hk.symm.trans q) (by decide))) (fun _ => ?_)
          refine zx_E.pick (k' := 10) (by decide) (fun hn => absurd hn (fun q => absurd (hk.symm.trans q) (by decide))) (fun _ => ?_)
          refine zx_E.pick (k' := 11) (by decide) (fun hn => absurd hn (fun q => absurd (hk.symm.trans q) (by decide))) (fun _ => ?_)
          refine zx_E.pick (k' := 12) (by decide) (fun hn => absurd hn (fun q => absurd (hk.symm.trans q) (by decide))) (fun _ => ?_)
          refine zx_E.pick (k' := 13) (by decide) (fun hn => absurd hn (fun q => absurd (hk.symm.trans q) (by decide))) (fun _ => ?_)
          refine zx_E.pick (k' := 14) (by decide) (fun hn => absurd hn (fun q => absurd (hk.symm.trans q) (by decide))) (fun _ => ?_)
          refine zx_E.pick (k' := 15) (by decide) (fun hn => absurd hn (fun q => absurd (hk.symm.trans q) (by decide))) (fun _ => ?_)
          refine zx_E.pick (k' := 16) (by decide) (fun hn => absurd hn (fun q => absurd (hk.symm.trans q) (by decide))) (fun _ => ?_)
          refine zx_E.pick (k' := 17) (by decide) (fun hn => absurd hn (fun q => absurd (hk.symm.trans q) (by decide))) (fun _ => ?_)
          refine zx_E.pick (k' := 18) (by decide) (fun hn => absurd hn (fun q => absurd (hk.symm.trans q) (by decide))) (fun _ => ?_)
          refine zx_E.pick (k' := 19) (by decide) (fun hn => absurd hn (fun q => absurd (hk.symm.trans q) (by decide))) (fun _ => ?_)
          refine zx_E.pick (k' := 20) (by decide) (fun hn => absurd hn (fun q => absurd (hk.symm.trans q) (by decide))) (fun _ => ?_)
          refine zx_E.pick (k' := 21) (by decide) (fun hn => absurd hn (fun q => absurd (hk.symm.trans q) (by decide))) (fun _ => ?_)
          refine zx_E.pick (k' := 22) (by decide) (fun _ => ?_) (fun hn => absurd hk hn)
          refine zx_E.go 5 (s' := (716, [some (.inr (some (33, 0, 0, 0))), some (.inr (some (0, 0, 0, 0))), some (.inr (some (25, 0, 0, 0))), some (.inl 0)], [.inl 1, .inr (some (33, 0, 0, 0)), .inr (some (0, 0, 0, 0))], (zx_lay zM0, 308))) rfl ?_
          refine zx_E.sld' (k := 1) (v := 3) rfl rfl (by omega) (by decide) e1 ?_
          show zx_E _ _ _ (717, [some (.inr (some (33, 0, 0, 0))), some (.inr (some (0, 0, 0, 0))), some (.inr (some (25, 0, 0, 0))), some (.inl 0)], [.inl 3, .inr (some (0, 0, 0, 0))], (zx_lay zM0, 308)) _
          refine zx_E.call1 (y := 115) (as := [.inr (some (0, 0, 0, 0)), .inl 3]) (rest := []) (v := .inl 0) (μ' := (zx_lay zM0, 308)) rfl (zx_run_of zc_X10_count [some (.inr (some (0, 0, 0, 0))), some (.inl 3)] rfl rfl (by
            refine zx_E.go 1 (s' := (1, [some (.inr (some (0, 0, 0, 0))), some (.inl 3)], [.inl 3], (zx_lay zM0, 308))) rfl ?_
            refine zx_E.one (s' := (80, [some (.inr (some (0, 0, 0, 0))), some (.inl 3)], [], (zx_lay zM0, 308))) rfl ?_
            refine zx_E.go 3 (s' := (85, [some (.inr (some (0, 0, 0, 0))), some (.inl 3)], [.inl 0, .inr (some (1, 0, 0, 0))], (zx_lay zM0, 308))) rfl ?_
            refine zx_E.call1 (y := 40) (as := [.inr (some (1, 0, 0, 0)), .inl 0]) (rest := []) (v := .inl 0) (μ' := (zx_lay zM0, 308)) rfl (zx_run_of zc_X2_trainsThatAre [some (.inr (some (1, 0, 0, 0))), some (.inl 0), none, none] rfl rfl (by
              refine zx_E.go 7 (s' := (9, [some (.inr (some (1, 0, 0, 0))), some (.inl 0), some (.inl 0), some (.inl 0)], [.inl 0, .inl 0], (zx_lay zM0, 308))) rfl ?_
              refine zx_E.bt (c := 0 ≤ 0) (s1 := (34, [some (.inr (some (1, 0, 0, 0))), some (.inl 0), some (.inl 0), some (.inl 0)], [], (zx_lay zM0, 308))) (s2 := (12, [some (.inr (some (1, 0, 0, 0))), some (.inl 0), some (.inl 0), some (.inl 0)], [], (zx_lay zM0, 308))) rfl (by decide) ?_
              refine zx_E.go 1 (s' := (35, [some (.inr (some (1, 0, 0, 0))), some (.inl 0), some (.inl 0), some (.inl 0)], [.inl 0], (zx_lay zM0, 308))) rfl ?_
              exact zx_E.iret rfl (fun h => absurd h (by decide)) rfl)) ?_
            show zx_E _ _ _ (88, [some (.inr (some (0, 0, 0, 0))), some (.inl 3)], [.inl 0], (zx_lay zM0, 308)) _
            exact zx_E.iret rfl (fun h => absurd h (by decide)) rfl)) ?_
          show zx_E _ _ _ (720, [some (.inr (some (33, 0, 0, 0))), some (.inr (some (0, 0, 0, 0))), some (.inr (some (25, 0, 0, 0))), some (.inl 0)], [.inl 0], (zx_lay zM0, 308)) _
          refine zx_E.go 5 (s' := (725, [some (.inr (some (33, 0, 0, 0))), some (.inr (some (0, 0, 0, 0))), some (.inr (some (25, 0, 0, 0))), some (.inl 0)], [.inl 1, .inr (some (33, 0, 0, 0)), .inr (some (25, 0, 0, 0)), .inl 0], (zx_lay zM0, 308))) rfl ?_
          refine zx_E.sld' (k := 1) (v := 3) rfl rfl (by omega) (by decide) e1 ?_
          show zx_E _ _ _ (726, [some (.inr (some (33, 0, 0, 0))), some (.inr (some (0, 0, 0, 0))), some (.inr (some (25, 0, 0, 0))), some (.inl 0)], [.inl 3, .inr (some (25, 0, 0, 0)), .inl 0], (zx_lay zM0, 308)) _
          refine zx_E.call1 (y := 200) (as := [.inr (some (25, 0, 0, 0)), .inl 3]) (rest := [.inl 0]) (v := .inl 0) (μ' := (zx_lay zM0, 308)) rfl (zx_run_of zc_X11_count [some (.inr (some (25, 0, 0, 0))), some (.inl 3)] rfl rfl (by
            refine zx_E.go 1 (s' := (1, [some (.inr (some (25, 0, 0, 0))), some (.inl 3)], [.inl 3], (zx_lay zM0, 308))) rfl ?_
            refine zx_E.one (s' := (78, [some (.inr (some (25, 0, 0, 0))), some (.inl 3)], [], (zx_lay zM0, 308))) rfl ?_
            refine zx_E.go 2 (s' := (80, [some (.inr (some (25, 0, 0, 0))), some (.inl 3)], [.inl 0, .inr (some (25, 0, 0, 0))], (zx_lay zM0, 308))) rfl ?_
            refine zx_E.call1 (y := 188) (as := [.inr (some (25, 0, 0, 0)), .inl 0]) (rest := []) (v := .inl 0) (μ' := (zx_lay zM0, 308)) rfl (zx_run_of zc_X11_counted [some (.inr (some (25, 0, 0, 0))), some (.inl 0), none, none] rfl rfl (by
              refine zx_E.go 8 (s' := (11, [some (.inr (some (25, 0, 0, 0))), some (.inl 0), some (.inl 0), some (.inl 0)], [.inl 27, .inr (some (26, 0, 0, 0)), .inl 0], (zx_lay zM0, 308))) rfl ?_
              refine zx_E.iald' (k := 27) (h := (26, 0, 0, 0)) (v := 0) rfl rfl rfl (by decide) rfl ?_
              show zx_E _ _ _ (12, [some (.inr (some (25, 0, 0, 0))), some (.inl 0), some (.inl 0), some (.inl 0)], [.inl 0, .inl 0], (zx_lay zM0, 308)) _
              refine zx_E.bt (c := 0 ≤ 0) (s1 := (39, [some (.inr (some (25, 0, 0, 0))), some (.inl 0), some (.inl 0), some (.inl 0)], [], (zx_lay zM0, 308))) (s2 := (15, [some (.inr (some (25, 0, 0, 0))), some (.inl 0), some (.inl 0), some (.inl 0)], [], (zx_lay zM0, 308))) rfl (by decide) ?_
              refine zx_E.go 1 (s' := (40, [some (.inr (some (25, 0, 0, 0))), some (.inl 0), some (.inl 0), some (.inl 0)], [.inl 0], (zx_lay zM0, 308))) rfl ?_
              exact zx_E.iret rfl (fun h => absurd h (by decide)) rfl)) ?_
            show zx_E _ _ _ (83, [some (.inr (some (25, 0, 0, 0))), some (.inl 3)], [.inl 0], (zx_lay zM0, 308)) _
            exact zx_E.iret rfl (fun h => absurd h (by decide)) rfl)) ?_
          show zx_E _ _ _ (729, [some (.inr (some (33, 0, 0, 0))), some (.inr (some (0, 0, 0, 0))), some (.inr (some (25, 0, 0, 0))), some (.inl 0)], [.inl 0, .inl 0], (zx_lay zM0, 308)) _
          refine zx_E.bt (c := 0 = 0) (s1 := (734, [some (.inr (some (33, 0, 0, 0))), some (.inr (some (0, 0, 0, 0))), some (.inr (some (25, 0, 0, 0))), some (.inl 0)], [], (zx_lay zM0, 308))) (s2 := (732, [some (.inr (some (33, 0, 0, 0))), some (.inr (some (0, 0, 0, 0))), some (.inr (some (25, 0, 0, 0))), some (.inl 0)], [], (zx_lay zM0, 308))) rfl (by decide) ?_
          refine zx_E.go 6 (s' := (23, [some (.inr (some (33, 0, 0, 0))), some (.inr (some (0, 0, 0, 0))), some (.inr (some (25, 0, 0, 0))), some (.inl 7)], [.inl 7, .inl 7, .inl 7], (zx_lay zM0, 308))) rfl ?_
          refine zx_E.go 1 (s' := (24, [some (.inr (some (33, 0, 0, 0))), some (.inr (some (0, 0, 0, 0))), some (.inr (some (25, 0, 0, 0))), some (.inl 7)], [.inl 0, .inl 7], (zx_lay zM0, 308))) rfl ?_
          refine zx_E.bt (c := 0 < 7) (s1 := (740, [some (.inr (some (33, 0, 0, 0))), some (.inr (some (0, 0, 0, 0))), some (.inr (some (25, 0, 0, 0))), some (.inl 7)], [], (zx_lay zM0, 308))) (s2 := (27, [some (.inr (some (33, 0, 0, 0))), some (.inr (some (0, 0, 0, 0))), some (.inr (some (25, 0, 0, 0))), some (.inl 7)], [], (zx_lay zM0, 308))) rfl (by decide) ?_
          refine zx_E.go 1 (s' := (741, [some (.inr (some (33, 0, 0, 0))), some (.inr (some (0, 0, 0, 0))), some (.inr (some (25, 0, 0, 0))), some (.inl 7)], [.inl 1], (zx_lay zM0, 308))) rfl ?_
          exact zx_E.iret rfl (fun _ => Or.inr rfl) rfl
        · skip
          by_cases h5 : a1 = 4
          · subst h5
            refine ⟨(zx_lay zM0, 308), Nat.le_refl _, ?_⟩
            refine zx_E.go 4 (s' := (23, [some (.inr (some (33, 0, 0, 0))), some (.inr (some (0, 0, 0, 0))), some (.inr (some (25, 0, 0, 0))), some (.inl 0)], [.inl 7, .inl 7, .inl 0], (zx_lay zM0, 308))) rfl ?_
            refine zx_E.go 1 (s' := (24, [some (.inr (some (33, 0, 0, 0))), some (.inr (some (0, 0, 0, 0))), some (.inr (some (25, 0, 0, 0))), some (.inl 0)], [.inl 0, .inl 0], (zx_lay zM0, 308))) rfl ?_
            refine zx_E.bf (c := 0 < 0) (s1 := (740, [some (.inr (some (33, 0, 0, 0))), some (.inr (some (0, 0, 0, 0))), some (.inr (some (25, 0, 0, 0))), some (.inl 0)], [], (zx_lay zM0, 308))) (s2 := (27, [some (.inr (some (33, 0, 0, 0))), some (.inr (some (0, 0, 0, 0))), some (.inr (some (25, 0, 0, 0))), some (.inl 0)], [], (zx_lay zM0, 308))) rfl (by decide) ?_
            refine zx_E.go 2 (s' := (29, [some (.inr (some (33, 0, 0, 0))), some (.inr (some (0, 0, 0, 0))), some (.inr (some (25, 0, 0, 0))), some (.inl 0)], [.inl 0, .inr (some (33, 0, 0, 0))], (zx_lay zM0, 308))) rfl ?_
            refine zx_E.sld' (k := 0) (v := a0) rfl rfl (by omega) (by decide) e0 ?_
            show zx_E _ _ _ (30, [some (.inr (some (33, 0, 0, 0))), some (.inr (some (0, 0, 0, 0))), some (.inr (some (25, 0, 0, 0))), some (.inl 0)], [.inl a0], (zx_lay zM0, 308)) _
            refine zx_E.go 2 (s' := (33, [some (.inr (some (33, 0, 0, 0))), some (.inr (some (0, 0, 0, 0))), some (.inr (some (25, 0, 0, 0))), some (.inl 0)], [.inl (a0 &&& 31)], (zx_lay zM0, 308))) rfl ?_
            refine zx_E.one (s' := (zx_pick (a0 &&& 31) 0 [136, 211, 224, 247, 270, 293, 316, 339, 372, 405, 438, 471, 494, 517, 560, 573, 606, 639, 652, 685, 698, 711] 734, [some (.inr (some (33, 0, 0, 0))), some (.inr (some (0, 0, 0, 0))), some (.inr (some (25, 0, 0, 0))), some (.inl 0)], [], (zx_lay zM0, 308))) rfl ?_
            refine zx_E.pick (k' := 1) (by decide) (fun hn => absurd hn (fun q => absurd (hk.symm.trans q) (by decide))) (fun _ => ?_)
            refine zx_E.pick (k' := 2) (by decide) (fun hn => absurd hn (fun q => absurd (hk.symm.trans q) (by decide))) (fun _ => ?_)
            refine zx_E.pick (k' := 3) (by decide) (fun hn => absurd hn (fun q => absurd (hk.symm.trans q) (by decide))) (fun _ => ?_)
            refine zx_E.pick (k' := 4) (by decide) (fun hn => absurd hn (fun q => absurd (hk.symm.trans q) (by decide))) (fun _ => ?_)
            refine zx_E.pick (k' := 5) (by decide) (fun hn => absurd hn (fun q => absurd (hk.symm.trans q) (by decide))) (fun _ => ?_)
            refine zx_E.pick (k' := 6) (by decide) (fun hn => absurd hn (fun q => absurd (hk.symm.trans q) (by decide))) (fun _ => ?_)
            refine zx_E.pick (k' := 7) (by decide) (fun hn => absurd hn (fun q => absurd (hk.symm.trans q) (by decide))) (fun _ => ?_)
            refine zx_E.pick (k' := 8) (by decide) (fun hn => absurd hn (fun q => absurd (hk.symm.trans q) (by decide))) (fun _ => ?_)
            refine zx_E.pick (k' := 9) (by decide) (fun hn => absurd hn (fun q => absurd (hk.symm.trans q) (by decide))) (fun _ => ?_)
            refine zx_E.pick (k' := 10) (by decide) (fun hn => absurd hn (fun q => absurd (hk.symm.trans q) (by decide))) (fun _ => ?_)
            refine zx_E.pick (k' := 11) (by decide) (fun hn => absurd hn (fun q => absurd (hk.symm.trans q) (by decide))) (fun _ => ?_)
            refine zx_E.pick (k' := 12) (by decide) (fun hn => absurd hn (fun q => absurd (hk.symm.trans q) (by decide))) (fun _ => ?_)
            refine zx_E.pick (k' := 13) (by decide) (fun hn => absurd hn (fun q => absurd (hk.symm.trans q) (by decide))) (fun _ => ?_)
            refine zx_E.pick (k' := 14) (by decide) (fun hn => absurd hn (fun q => absurd (hk.symm.trans q) (by decide))) (fun _ => ?_)
            refine zx_E.pick (k' := 15) (by decide) (fun hn => absurd hn (fun q => absurd (hk.symm.trans q) (by decide))) (fun _ => ?_)
            refine zx_E.pick (k' := 16) (by decide) (fun hn => absurd hn (fun q => absurd (hk.symm.trans q) (by decide))) (fun _ => ?_)
            refine zx_E.pick (k' := 17) (by decide) (fun hn => absurd hn (fun q => absurd (hk.symm.trans q) (by decide))) (fun _ => ?_)
            refine zx_E.pick (k' := 18) (by decide) (fun hn => absurd hn (fun q => absurd (hk.symm.trans q) (by decide))) (fun _ => ?_)
            refine zx_E.pick (k' := 19) (by decide) (fun hn => absurd hn (fun q => absurd (hk.symm.trans q) (by decide))) (fun _ => ?_)
            refine zx_E.pick (k' := 20) (by decide) (fun hn => absurd hn (fun q => absurd (hk.symm.trans q) (by decide))) (fun _ => ?_)
            refine zx_E.pick (k' := 21) (by decide) (fun hn => absurd hn (fun q => absurd (hk.symm.trans q) (by decide))) (fun _ => ?_)
            refine zx_E.pick (k' := 22) (by decide) (fun _ => ?_) (fun hn => absurd hk hn)
            refine zx_E.go 5 (s' := (716, [some (.inr (some (33, 0, 0, 0))), some (.inr (some (0, 0, 0, 0))), some (.inr (some (25, 0, 0, 0))), some (.inl 0)], [.inl 1, .inr (some (33, 0, 0, 0)), .inr (some (0, 0, 0, 0))], (zx_lay zM0, 308))) rfl ?_
            refine zx_E.sld' (k := 1) (v := 4) rfl rfl (by omega) (by decide) e1 ?_
            show zx_E _ _ _ (717, [some (.inr (some (33, 0, 0, 0))), some (.inr (some (0, 0, 0, 0))), some (.inr (some (25, 0, 0, 0))), some (.inl 0)], [.inl 4, .inr (some (0, 0, 0, 0))], (zx_lay zM0, 308)) _
            refine zx_E.call1 (y := 115) (as := [.inr (some (0, 0, 0, 0)), .inl 4]) (rest := []) (v := .inl 0) (μ' := (zx_lay zM0, 308)) rfl (zx_run_of zc_X10_count [some (.inr (some (0, 0, 0, 0))), some (.inl 4)] rfl rfl (by
              refine zx_E.go 1 (s' := (1, [some (.inr (some (0, 0, 0, 0))), some (.inl 4)], [.inl 4], (zx_lay zM0, 308))) rfl ?_
              refine zx_E.one (s' := (89, [some (.inr (some (0, 0, 0, 0))), some (.inl 4)], [], (zx_lay zM0, 308))) rfl ?_
              refine zx_E.go 3 (s' := (94, [some (.inr (some (0, 0, 0, 0))), some (.inl 4)], [.inl 4, .inr (some (1, 0, 0, 0))], (zx_lay zM0, 308))) rfl ?_
              refine zx_E.call1 (y := 40) (as := [.inr (some (1, 0, 0, 0)), .inl 4]) (rest := []) (v := .inl 0) (μ' := (zx_lay zM0, 308)) rfl (zx_run_of zc_X2_trainsThatAre [some (.inr (some (1, 0, 0, 0))), some (.inl 4), none, none] rfl rfl (by
                refine zx_E.go 7 (s' := (9, [some (.inr (some (1, 0, 0, 0))), some (.inl 4), some (.inl 0), some (.inl 0)], [.inl 0, .inl 0], (zx_lay zM0, 308))) rfl ?_
                refine zx_E.bt (c := 0 ≤ 0) (s1 := (34, [some (.inr (some (1, 0, 0, 0))), some (.inl 4), some (.inl 0), some (.inl 0)], [], (zx_lay zM0, 308))) (s2 := (12, [some (.inr (some (1, 0, 0, 0))), some (.inl 4), some (.inl 0), some (.inl 0)], [], (zx_lay zM0, 308))) rfl (by decide) ?_
                refine zx_E.go 1 (s' := (35, [some (.inr (some (1, 0, 0, 0))), some (.inl 4), some (.inl 0), some (.inl 0)], [.inl 0], (zx_lay zM0, 308))) rfl ?_
                exact zx_E.iret rfl (fun h => absurd h (by decide)) rfl)) ?_
              show zx_E _ _ _ (97, [some (.inr (some (0, 0, 0, 0))), some (.inl 4)], [.inl 0], (zx_lay zM0, 308)) _
              exact zx_E.iret rfl (fun h => absurd h (by decide)) rfl)) ?_
            show zx_E _ _ _ (720, [some (.inr (some (33, 0, 0, 0))), some (.inr (some (0, 0, 0, 0))), some (.inr (some (25, 0, 0, 0))), some (.inl 0)], [.inl 0], (zx_lay zM0, 308)) _
            refine zx_E.go 5 (s' := (725, [some (.inr (some (33, 0, 0, 0))), some (.inr (some (0, 0, 0, 0))), some (.inr (some (25, 0, 0, 0))), some (.inl 0)], [.inl 1, .inr (some (33, 0, 0, 0)), .inr (some (25, 0, 0, 0)), .inl 0], (zx_lay zM0, 308))) rfl ?_
            refine zx_E.sld' (k := 1) (v := 4) rfl rfl (by omega) (by decide) e1 ?_
            show zx_E _ _ _ (726, [some (.inr (some (33, 0, 0, 0))), some (.inr (some (0, 0, 0, 0))), some (.inr (some (25, 0, 0, 0))), some (.inl 0)], [.inl 4, .inr (some (25, 0, 0, 0)), .inl 0], (zx_lay zM0, 308)) _
            refine zx_E.call1 (y := 200) (as := [.inr (some (25, 0, 0, 0)), .inl 4]) (rest := [.inl 0]) (v := .inl 0) (μ' := (zx_lay zM0, 308)) rfl (zx_run_of zc_X11_count [some (.inr (some (25, 0, 0, 0))), some (.inl 4)] rfl rfl (by
              refine zx_E.go 1 (s' := (1, [some (.inr (some (25, 0, 0, 0))), some (.inl 4)], [.inl 4], (zx_lay zM0, 308))) rfl ?_
              refine zx_E.one (s' := (84, [some (.inr (some (25, 0, 0, 0))), some (.inl 4)], [], (zx_lay zM0, 308))) rfl ?_
              refine zx_E.go 2 (s' := (86, [some (.inr (some (25, 0, 0, 0))), some (.inl 4)], [.inl 4, .inr (some (25, 0, 0, 0))], (zx_lay zM0, 308))) rfl ?_
              refine zx_E.call1 (y := 188) (as := [.inr (some (25, 0, 0, 0)), .inl 4]) (rest := []) (v := .inl 0) (μ' := (zx_lay zM0, 308)) rfl (zx_run_of zc_X11_counted [some (.inr (some (25, 0, 0, 0))), some (.inl 4), none, none] rfl rfl (by
                refine zx_E.go 8 (s' := (11, [some (.inr (some (25, 0, 0, 0))), some (.inl 4), some (.inl 0), some (.inl 0)], [.inl 27, .inr (some (26, 0, 0, 0)), .inl 0], (zx_lay zM0, 308))) rfl ?_
                refine zx_E.iald' (k := 27) (h := (26, 0, 0, 0)) (v := 0) rfl rfl rfl (by decide) rfl ?_
                show zx_E _ _ _ (12, [some (.inr (some (25, 0, 0, 0))), some (.inl 4), some (.inl 0), some (.inl 0)], [.inl 0, .inl 0], (zx_lay zM0, 308)) _
                refine zx_E.bt (c := 0 ≤ 0) (s1 := (39, [some (.inr (some (25, 0, 0, 0))), some (.inl 4), some (.inl 0), some (.inl 0)], [], (zx_lay zM0, 308))) (s2 := (15, [some (.inr (some (25, 0, 0, 0))), some (.inl 4), some (.inl 0), some (.inl 0)], [], (zx_lay zM0, 308))) rfl (by decide) ?_
                refine zx_E.go 1 (s' := (40, [some (.inr (some (25, 0, 0, 0))), some (.inl 4), some (.inl 0), some (.inl 0)], [.inl 0], (zx_lay zM0, 308))) rfl ?_
                exact zx_E.iret rfl (fun h => absurd h (by decide)) rfl)) ?_
              show zx_E _ _ _ (89, [some (.inr (some (25, 0, 0, 0))), some (.inl 4)], [.inl 0], (zx_lay zM0, 308)) _
              exact zx_E.iret rfl (fun h => absurd h (by decide)) rfl)) ?_
            show zx_E _ _ _ (729, [some (.inr (some (33, 0, 0, 0))), some (.inr (some (0, 0, 0, 0))), some (.inr (some (25, 0, 0, 0))), some (.inl 0)], [.inl 0, .inl 0], (zx_lay zM0, 308)) _
            refine zx_E.bt (c := 0 = 0) (s1 := (734, [some (.inr (some (33, 0, 0, 0))), some (.inr (some (0, 0, 0, 0))), some (.inr (some (25, 0, 0, 0))), some (.inl 0)], [], (zx_lay zM0, 308))) (s2 := (732, [some (.inr (some (33, 0, 0, 0))), some (.inr (some (0, 0, 0, 0))), some (.inr (some (25, 0, 0, 0))), some (.inl 0)], [], (zx_lay zM0, 308))) rfl (by decide) ?_
            refine zx_E.go 6 (s' := (23, [some (.inr (some (33, 0, 0, 0))), some (.inr (some (0, 0, 0, 0))), some (.inr (some (25, 0, 0, 0))), some (.inl 7)], [.inl 7, .inl 7, .inl 7], (zx_lay zM0, 308))) rfl ?_
            refine zx_E.go 1 (s' := (24, [some (.inr (some (33, 0, 0, 0))), some (.inr (some (0, 0, 0, 0))), some (.inr (some (25, 0, 0, 0))), some (.inl 7)], [.inl 0, .inl 7], (zx_lay zM0, 308))) rfl ?_
            refine zx_E.bt (c := 0 < 7) (s1 := (740, [some (.inr (some (33, 0, 0, 0))), some (.inr (some (0, 0, 0, 0))), some (.inr (some (25, 0, 0, 0))), some (.inl 7)], [], (zx_lay zM0, 308))) (s2 := (27, [some (.inr (some (33, 0, 0, 0))), some (.inr (some (0, 0, 0, 0))), some (.inr (some (25, 0, 0, 0))), some (.inl 7)], [], (zx_lay zM0, 308))) rfl (by decide) ?_
            refine zx_E.go 1 (s' := (741, [some (.inr (some (33, 0, 0, 0))), some (.inr (some (0, 0, 0, 0))), some (.inr (some (25, 0, 0, 0))), some (.inl 7)], [.inl 1], (zx_lay zM0, 308))) rfl ?_
            exact zx_E.iret rfl (fun _ => Or.inr rfl) rfl
          · skip
            by_cases h6 : a1 = 5
            · subst h6
              refine ⟨(zx_lay zM0, 308), Nat.le_refl _, ?_⟩
              refine zx_E.go 4 (s' := (23, [some (.inr (some (33, 0, 0, 0))), some (.inr (some (0, 0, 0, 0))), some (.inr (some (25, 0, 0, 0))), some (.inl 0)], [.inl 7, .inl 7, .inl 0], (zx_lay zM0, 308))) rfl ?_
              refine zx_E.go 1 (s' := (24, [some (.inr (some (33, 0, 0, 0))), some (.inr (some (0, 0, 0, 0))), some (.inr (some (25, 0, 0, 0))), some (.inl 0)], [.inl 0, .inl 0], (zx_lay zM0, 308))) rfl ?_
              refine zx_E.bf (c := 0 < 0) (s1 := (740, [some (.inr (some (33, 0, 0, 0))), some (.inr (some (0, 0, 0, 0))), some (.inr (some (25, 0, 0, 0))), some (.inl 0)], [], (zx_lay zM0, 308))) (s2 := (27, [some (.inr (some (33, 0, 0, 0))), some (.inr (some (0, 0, 0, 0))), some (.inr (some (25, 0, 0, 0))), some (.inl 0)], [], (zx_lay zM0, 308))) rfl (by decide) ?_
              refine zx_E.go 2 (s' := (29, [some (.inr (some (33, 0, 0, 0))), some (.inr (some (0, 0, 0, 0))), some (.inr (some (25, 0, 0, 0))), some (.inl 0)], [.inl 0, .inr (some (33, 0, 0, 0))], (zx_lay zM0, 308))) rfl ?_
              refine zx_E.sld' (k := 0) (v := a0) rfl rfl (by omega) (by decide) e0 ?_
              show zx_E _ _ _ (30, [some (.inr (some (33, 0, 0, 0))), some (.inr (some (0, 0, 0, 0))), some (.inr (some (25, 0, 0, 0))), some (.inl 0)], [.inl a0], (zx_lay zM0, 308)) _
              refine zx_E.go 2 (s' := (33, [some (.inr (some (33, 0, 0, 0))), some (.inr (some (0, 0, 0, 0))), some (.inr (some (25, 0, 0, 0))), some (.inl 0)], [.inl (a0 &&& 31)], (zx_lay zM0, 308))) rfl ?_
              refine zx_E.one (s' := (zx_pick (a0 &&& 31) 0 [136, 211, 224, 247, 270, 293, 316, 339, 372, 405, 438, 471, 494, 517, 560, 573, 606, 639, 652, 685, 698, 711] 734, [some (.inr (some (33, 0, 0, 0))), some (.inr (some (0, 0, 0, 0))), some (.inr (some (25, 0, 0, 0))), some (.inl 0)], [], (zx_lay zM0, 308))) rfl ?_
              refine zx_E.pick (k' := 1) (by decide) (fun hn => absurd hn (fun q => absurd (hk.symm.trans q) (by decide))) (fun _ => ?_)
              refine zx_E.pick (k' := 2) (by decide) (fun hn => absurd hn (fun q => absurd (hk.symm.trans q) (by decide))) (fun _ => ?_)
              refine zx_E.pick (k' := 3) (by decide) (fun hn => absurd hn (fun q => absurd (hk.symm.trans q) (by decide))) (fun _ => ?_)
              refine zx_E.pick (k' := 4) (by decide) (fun hn => absurd hn (fun q => absurd (hk.symm.trans q) (by decide))) (fun _ => ?_)
              refine zx_E.pick (k' := 5) (by decide) (fun hn => absurd hn (fun q => absurd (hk.symm.trans q) (by decide))) (fun _ => ?_)
              refine zx_E.pick (k' := 6) (by decide) (fun hn => absurd hn (fun q => absurd (hk.symm.trans q) (by decide))) (fun _ => ?_)
              refine zx_E.pick (k' := 7) (by decide) (fun hn => absurd hn (fun q => absurd (hk.symm.trans q) (by decide))) (fun _ => ?_)
              refine zx_E.pick (k' := 8) (by decide) (fun hn => absurd hn (fun q => absurd (hk.symm.trans q) (by decide))) (fun _ => ?_)
              refine zx_E.pick (k' := 9) (by decide) (fun hn => absurd hn (fun q => absurd (hk.symm.trans q) (by decide))) (fun _ => ?_)
              refine zx_E.pick (k' := 10) (by decide) (fun hn => absurd hn (fun q => absurd (hk.symm.trans q) (by decide))) (fun _ => ?_)
              refine zx_E.pick (k' := 11) (by decide) (fun hn => absurd hn (fun q => absurd (hk.symm.trans q) (by decide))) (fun _ => ?_)
              refine zx_E.pick (k' := 12) (by decide) (fun hn => absurd hn (fun q => absurd (hk.symm.trans q) (by decide))) (fun _ => ?_)
              refine zx_E.pick (k' := 13) (by decide) (fun hn => absurd hn (fun q => absurd (hk.symm.trans q) (by decide))) (fun _ => ?_)
              refine zx_E.pick (k' := 14) (by decide) (fun hn => absurd hn (fun q => absurd (hk.symm.trans q) (by decide))) (fun _ => ?_)
              refine zx_E.pick (k' := 15) (by decide) (fun hn => absurd hn (fun q => absurd (hk.symm.trans q) (by decide))) (fun _ => ?_)
              refine zx_E.pick (k' := 16) (by decide) (fun hn => absurd hn (fun q => absurd (hk.symm.trans q) (by decide))) (fun _ => ?_)
              refine zx_E.pick (k' := 17) (by decide) (fun hn => absurd hn (fun q => absurd (hk.symm.trans q) (by decide))) (fun _ => ?_)
              refine zx_E.pick (k' := 18) (by decide) (fun hn => absurd hn (fun q => absurd (hk.symm.trans q) (by decide))) (fun _ => ?_)
              refine zx_E.pick (k' := 19) (by decide) (fun hn => absurd hn (fun q => absurd (hk.symm.trans q) (by decide))) (fun _ => ?_)
              refine zx_E.pick (k' := 20) (by decide) (fun hn => absurd hn (fun q => absurd (hk.symm.trans q) (by decide))) (fun _ => ?_)
              refine zx_E.pick (k' := 21) (by decide) (fun hn => absurd hn (fun q => absurd (hk.symm.trans q) (by decide))) (fun _ => ?_)
              refine zx_E.pick (k' := 22) (by decide) (fun _ => ?_) (fun hn => absurd hk hn)
              refine zx_E.go 5 (s' := (716, [some (.inr (some (33, 0, 0, 0))), some (.inr (some (0, 0, 0, 0))), some (.inr (some (25, 0, 0, 0))), some (.inl 0)], [.inl 1, .inr (some (33, 0, 0, 0)), .inr (some (0, 0, 0, 0))], (zx_lay zM0, 308))) rfl ?_
              refine zx_E.sld' (k := 1) (v := 5) rfl rfl (by omega) (by decide) e1 ?_
              show zx_E _ _ _ (717, [some (.inr (some (33, 0, 0, 0))), some (.inr (some (0, 0, 0, 0))), some (.inr (some (25, 0, 0, 0))), some (.inl 0)], [.inl 5, .inr (some (0, 0, 0, 0))], (zx_lay zM0, 308)) _
              refine zx_E.call1 (y := 115) (as := [.inr (some (0, 0, 0, 0)), .inl 5]) (rest := []) (v := .inl 0) (μ' := (zx_lay zM0, 308)) rfl (zx_run_of zc_X10_count [some (.inr (some (0, 0, 0, 0))), some (.inl 5)] rfl rfl (by
                refine zx_E.go 1 (s' := (1, [some (.inr (some (0, 0, 0, 0))), some (.inl 5)], [.inl 5], (zx_lay zM0, 308))) rfl ?_
                refine zx_E.one (s' := (98, [some (.inr (some (0, 0, 0, 0))), some (.inl 5)], [], (zx_lay zM0, 308))) rfl ?_
                refine zx_E.go 3 (s' := (105, [some (.inr (some (0, 0, 0, 0))), some (.inl 5)], [.inl 0], (zx_lay zM0, 308))) rfl ?_
                exact zx_E.iret rfl (fun h => absurd h (by decide)) rfl)) ?_
              show zx_E _ _ _ (720, [some (.inr (some (33, 0, 0, 0))), some (.inr (some (0, 0, 0, 0))), some (.inr (some (25, 0, 0, 0))), some (.inl 0)], [.inl 0], (zx_lay zM0, 308)) _
              refine zx_E.go 5 (s' := (725, [some (.inr (some (33, 0, 0, 0))), some (.inr (some (0, 0, 0, 0))), some (.inr (some (25, 0, 0, 0))), some (.inl 0)], [.inl 1, .inr (some (33, 0, 0, 0)), .inr (some (25, 0, 0, 0)), .inl 0], (zx_lay zM0, 308))) rfl ?_
              refine zx_E.sld' (k := 1) (v := 5) rfl rfl (by omega) (by decide) e1 ?_
              show zx_E _ _ _ (726, [some (.inr (some (33, 0, 0, 0))), some (.inr (some (0, 0, 0, 0))), some (.inr (some (25, 0, 0, 0))), some (.inl 0)], [.inl 5, .inr (some (25, 0, 0, 0)), .inl 0], (zx_lay zM0, 308)) _
              refine zx_E.call1 (y := 200) (as := [.inr (some (25, 0, 0, 0)), .inl 5]) (rest := [.inl 0]) (v := .inl 0) (μ' := (zx_lay zM0, 308)) rfl (zx_run_of zc_X11_count [some (.inr (some (25, 0, 0, 0))), some (.inl 5)] rfl rfl (by
                refine zx_E.go 1 (s' := (1, [some (.inr (some (25, 0, 0, 0))), some (.inl 5)], [.inl 5], (zx_lay zM0, 308))) rfl ?_
                refine zx_E.one (s' := (90, [some (.inr (some (25, 0, 0, 0))), some (.inl 5)], [], (zx_lay zM0, 308))) rfl ?_
                refine zx_E.go 3 (s' := (96, [some (.inr (some (25, 0, 0, 0))), some (.inl 5)], [.inl 50, .inr (some (26, 0, 0, 0))], (zx_lay zM0, 308))) rfl ?_
                refine zx_E.iald' (k := 50) (h := (26, 0, 0, 0)) (v := 0) rfl rfl rfl (by decide) rfl ?_
                show zx_E _ _ _ (97, [some (.inr (some (25, 0, 0, 0))), some (.inl 5)], [.inl 0], (zx_lay zM0, 308)) _
                exact zx_E.iret rfl (fun h => absurd h (by decide)) rfl)) ?_
              show zx_E _ _ _ (729, [some (.inr (some (33, 0, 0, 0))), some (.inr (some (0, 0, 0, 0))), some (.inr (some (25, 0, 0, 0))), some (.inl 0)], [.inl 0, .inl 0], (zx_lay zM0, 308)) _
              refine zx_E.bt (c := 0 = 0) (s1 := (734, [some (.inr (some (33, 0, 0, 0))), some (.inr (some (0, 0, 0, 0))), some (.inr (some (25, 0, 0, 0))), some (.inl 0)], [], (zx_lay zM0, 308))) (s2 := (732, [some (.inr (some (33, 0, 0, 0))), some (.inr (some (0, 0, 0, 0))), some (.inr (some (25, 0, 0, 0))), some (.inl 0)], [], (zx_lay zM0, 308))) rfl (by decide) ?_
              refine zx_E.go 6 (s' := (23, [some (.inr (some (33, 0, 0, 0))), some (.inr (some (0, 0, 0, 0))), some (.inr (some (25, 0, 0, 0))), some (.inl 7)], [.inl 7, .inl 7, .inl 7], (zx_lay zM0, 308))) rfl ?_
              refine zx_E.go 1 (s' := (24, [some (.inr (some (33, 0, 0, 0))), some (.inr (some (0, 0, 0, 0))), some (.inr (some (25, 0, 0, 0))), some (.inl 7)], [.inl 0, .inl 7], (zx_lay zM0, 308))) rfl ?_
              refine zx_E.bt (c := 0 < 7) (s1 := (740, [some (.inr (some (33, 0, 0, 0))), some (.inr (some (0, 0, 0, 0))), some (.inr (some (25, 0, 0, 0))), some (.inl 7)], [], (zx_lay zM0, 308))) (s2 := (27, [some (.inr (some (33, 0, 0, 0))), some (.inr (some (0, 0, 0, 0))), some (.inr (some (25, 0, 0, 0))), some (.inl 7)], [], (zx_lay zM0, 308))) rfl (by decide) ?_
              refine zx_E.go 1 (s' := (741, [some (.inr (some (33, 0, 0, 0))), some (.inr (some (0, 0, 0, 0))), some (.inr (some (25, 0, 0, 0))), some (.inl 7)], [.inl 1], (zx_lay zM0, 308))) rfl ?_
              exact zx_E.iret rfl (fun _ => Or.inr rfl) rfl
            · skip
              by_cases h7 : a1 = 6
              · subst h7
                refine ⟨(zx_lay zM0, 308), Nat.le_refl _, ?_⟩
                refine zx_E.go 4 (s' := (23, [some (.inr (some (33, 0, 0, 0))), some (.inr (some (0, 0, 0, 0))), some (.inr (some (25, 0, 0, 0))), some (.inl 0)], [.inl 7, .inl 7, .inl 0], (zx_lay zM0, 308))) rfl ?_
                refine zx_E.go 1 (s' := (24, [some (.inr (some (33, 0, 0, 0))), some (.inr (some (0, 0, 0, 0))), some (.inr (some (25, 0, 0, 0))), some (.inl 0)], [.inl 0, .inl 0], (zx_lay zM0, 308))) rfl ?_
                refine zx_E.bf (c := 0 < 0) (s1 := (740, [some (.inr (some (33, 0, 0, 0))), some (.inr (some (0, 0, 0, 0))), some (.inr (some (25, 0, 0, 0))), some (.inl 0)], [], (zx_lay zM0, 308))) (s2 := (27, [some (.inr (some (33, 0, 0, 0))), some (.inr (some (0, 0, 0, 0))), some (.inr (some (25, 0, 0, 0))), some (.inl 0)], [], (zx_lay zM0, 308))) rfl (by decide) ?_
                refine zx_E.go 2 (s' := (29, [some (.inr (some (33, 0, 0, 0))), some (.inr (some (0, 0, 0, 0))), some (.inr (some (25, 0, 0, 0))), some (.inl 0)], [.inl 0, .inr (some (33, 0, 0, 0))], (zx_lay zM0, 308))) rfl ?_
                refine zx_E.sld' (k := 0) (v := a0) rfl rfl (by omega) (by decide) e0 ?_
                show zx_E _ _ _ (30, [some (.inr (some (33, 0, 0, 0))), some (.inr (some (0, 0, 0, 0))), some (.inr (some (25, 0, 0, 0))), some (.inl 0)], [.inl a0], (zx_lay zM0, 308)) _
                refine zx_E.go 2 (s' := (33, [some (.inr (some (33, 0, 0, 0))), some (.inr (some (0, 0, 0, 0))), some (.inr (some (25, 0, 0, 0))), some (.inl 0)], [.inl (a0 &&& 31)], (zx_lay zM0, 308))) rfl ?_
                refine zx_E.one (s' := (zx_pick (a0 &&& 31) 0 [136, 211, 224, 247, 270, 293, 316, 339, 372, 405, 438, 471, 494, 517, 560, 573, 606, 639, 652, 685, 698, 711] 734, [some (.inr (some (33, 0, 0, 0))), some (.inr (some (0, 0, 0, 0))), some (.inr (some (25, 0, 0, 0))), some (.inl 0)], [], (zx_lay zM0, 308))) rfl ?_
                refine zx_E.pick (k' := 1) (by decide) (fun hn => absurd hn (fun q => absurd (hk.symm.trans q) (by decide))) (fun _ => ?_)
                refine zx_E.pick (k' := 2) (by decide) (fun hn => absurd hn (fun q => absurd (hk.symm.trans q) (by decide))) (fun _ => ?_)
                refine zx_E.pick (k' := 3) (by decide) (fun hn => absurd hn (fun q => absurd (hk.symm.trans q) (by decide))) (fun _ => ?_)
                refine zx_E.pick (k' := 4) (by decide) (fun hn => absurd hn (fun q => absurd (hk.symm.trans q) (by decide))) (fun _ => ?_)
                refine zx_E.pick (k' := 5) (by decide) (fun hn => absurd hn (fun q => absurd (hk.symm.trans q) (by decide))) (fun _ => ?_)
                refine zx_E.pick (k' := 6) (by decide) (fun hn => absurd hn (fun q => absurd (hk.symm.trans q) (by decide))) (fun _ => ?_)
                refine zx_E.pick (k' := 7) (by decide) (fun hn => absurd hn (fun q => absurd (hk.symm.trans q) (by decide))) (fun _ => ?_)
                refine zx_E.pick (k' := 8) (by decide) (fun hn => absurd hn (fun q => absurd (hk.symm.trans q) (by decide))) (fun _ => ?_)
                refine zx_E.pick (k' := 9) (by decide) (fun hn => absurd hn (fun q => absurd (hk.symm.trans q) (by decide))) (fun _ => ?_)
                refine zx_E.pick (k' := 10) (by decide) (fun hn => absurd hn (fun q => absurd (hk.symm.trans q) (by decide))) (fun _ => ?_)
                refine zx_E.pick (k' := 11) (by decide) (fun hn => absurd hn (fun q => absurd (hk.symm.trans q) (by decide))) (fun _ => ?_)
                refine zx_E.pick (k' := 12) (by decide) (fun hn => absurd hn (fun q => absurd (hk.symm.trans q) (by decide))) (fun _ => ?_)
                refine zx_E.pick (k' := 13) (by decide) (fun hn => absurd hn (fun q => absurd (hk.symm.trans q) (by decide))) (fun _ => ?_)
                refine zx_E.pick (k' := 14) (by decide) (fun hn => absurd hn (fun q => absurd (hk.symm.trans q) (by decide))) (fun _ => ?_)
                refine zx_E.pick (k' := 15) (by decide) (fun hn => absurd hn (fun q => absurd (hk.symm.trans q) (by decide))) (fun _ => ?_)
                refine zx_E.pick (k' := 16) (by decide) (fun hn => absurd hn (fun q => absurd (hk.symm.trans q) (by decide))) (fun _ => ?_)
                refine zx_E.pick (k' := 17) (by decide) (fun hn => absurd hn (fun q => absurd (hk.symm.trans q) (by decide))) (fun _ => ?_)
                refine zx_E.pick (k' := 18) (by decide) (fun hn => absurd hn (fun q => absurd (hk.symm.trans q) (by decide))) (fun _ => ?_)
                refine zx_E.pick (k' := 19) (by decide) (fun hn => absurd hn (fun q => absurd (hk.symm.trans q) (by decide))) (fun _ => ?_)
                refine zx_E.pick (k' := 20) (by decide) (fun hn => absurd hn (fun q => absurd (hk.symm.trans q) (by decide))) (fun _ => ?_)
                refine zx_E.pick (k' := 21) (by decide) (fun hn => absurd hn (fun q => absurd (hk.symm.trans q) (by decide))) (fun _ => ?_)
                refine zx_E.pick (k' := 22) (by decide) (fun _ => ?_) (fun hn => absurd hk hn)
                refine zx_E.go 5 (s' := (716, [some (.inr (some (33, 0, 0, 0))), some (.inr (some (0, 0, 0, 0))), some (.inr (some (25, 0, 0, 0))), some (.inl 0)], [.inl 1, .inr (some (33, 0, 0, 0)), .inr (some (0, 0, 0, 0))], (zx_lay zM0, 308))) rfl ?_
                refine zx_E.sld' (k := 1) (v := 6) rfl rfl (by omega) (by decide) e1 ?_
                show zx_E _ _ _ (717, [some (.inr (some (33, 0, 0, 0))), some (.inr (some (0, 0, 0, 0))), some (.inr (some (25, 0, 0, 0))), some (.inl 0)], [.inl 6, .inr (some (0, 0, 0, 0))], (zx_lay zM0, 308)) _
                refine zx_E.call1 (y := 115) (as := [.inr (some (0, 0, 0, 0)), .inl 6]) (rest := []) (v := .inl 60) (μ' := (zx_lay zM0, 308)) rfl (zx_run_of zc_X10_count [some (.inr (some (0, 0, 0, 0))), some (.inl 6)] rfl rfl (by
                  refine zx_E.go 1 (s' := (1, [some (.inr (some (0, 0, 0, 0))), some (.inl 6)], [.inl 6], (zx_lay zM0, 308))) rfl ?_
                  refine zx_E.one (s' := (106, [some (.inr (some (0, 0, 0, 0))), some (.inl 6)], [], (zx_lay zM0, 308))) rfl ?_
                  refine zx_E.go 3 (s' := (113, [some (.inr (some (0, 0, 0, 0))), some (.inl 6)], [.inl 60], (zx_lay zM0, 308))) rfl ?_
                  exact zx_E.iret rfl (fun h => absurd h (by decide)) rfl)) ?_
                show zx_E _ _ _ (720, [some (.inr (some (33, 0, 0, 0))), some (.inr (some (0, 0, 0, 0))), some (.inr (some (25, 0, 0, 0))), some (.inl 0)], [.inl 60], (zx_lay zM0, 308)) _
                refine zx_E.go 5 (s' := (725, [some (.inr (some (33, 0, 0, 0))), some (.inr (some (0, 0, 0, 0))), some (.inr (some (25, 0, 0, 0))), some (.inl 0)], [.inl 1, .inr (some (33, 0, 0, 0)), .inr (some (25, 0, 0, 0)), .inl 60], (zx_lay zM0, 308))) rfl ?_
                refine zx_E.sld' (k := 1) (v := 6) rfl rfl (by omega) (by decide) e1 ?_
                show zx_E _ _ _ (726, [some (.inr (some (33, 0, 0, 0))), some (.inr (some (0, 0, 0, 0))), some (.inr (some (25, 0, 0, 0))), some (.inl 0)], [.inl 6, .inr (some (25, 0, 0, 0)), .inl 60], (zx_lay zM0, 308)) _
                refine zx_E.call1 (y := 200) (as := [.inr (some (25, 0, 0, 0)), .inl 6]) (rest := [.inl 60]) (v := .inl 60) (μ' := (zx_lay zM0, 308)) rfl (zx_run_of zc_X11_count [some (.inr (some (25, 0, 0, 0))), some (.inl 6)] rfl rfl (by
                  refine zx_E.go 1 (s' := (1, [some (.inr (some (25, 0, 0, 0))), some (.inl 6)], [.inl 6], (zx_lay zM0, 308))) rfl ?_
                  refine zx_E.one (s' := (98, [some (.inr (some (25, 0, 0, 0))), some (.inl 6)], [], (zx_lay zM0, 308))) rfl ?_
                  refine zx_E.go 3 (s' := (104, [some (.inr (some (25, 0, 0, 0))), some (.inl 6)], [.inl 25, .inr (some (26, 0, 0, 0))], (zx_lay zM0, 308))) rfl ?_
                  refine zx_E.iald' (k := 25) (h := (26, 0, 0, 0)) (v := 60) rfl rfl rfl (by decide) rfl ?_
                  show zx_E _ _ _ (105, [some (.inr (some (25, 0, 0, 0))), some (.inl 6)], [.inl 60], (zx_lay zM0, 308)) _
                  exact zx_E.iret rfl (fun h => absurd h (by decide)) rfl)) ?_
                show zx_E _ _ _ (729, [some (.inr (some (33, 0, 0, 0))), some (.inr (some (0, 0, 0, 0))), some (.inr (some (25, 0, 0, 0))), some (.inl 0)], [.inl 60, .inl 60], (zx_lay zM0, 308)) _
                refine zx_E.bt (c := 60 = 60) (s1 := (734, [some (.inr (some (33, 0, 0, 0))), some (.inr (some (0, 0, 0, 0))), some (.inr (some (25, 0, 0, 0))), some (.inl 0)], [], (zx_lay zM0, 308))) (s2 := (732, [some (.inr (some (33, 0, 0, 0))), some (.inr (some (0, 0, 0, 0))), some (.inr (some (25, 0, 0, 0))), some (.inl 0)], [], (zx_lay zM0, 308))) rfl (by decide) ?_
                refine zx_E.go 6 (s' := (23, [some (.inr (some (33, 0, 0, 0))), some (.inr (some (0, 0, 0, 0))), some (.inr (some (25, 0, 0, 0))), some (.inl 7)], [.inl 7, .inl 7, .inl 7], (zx_lay zM0, 308))) rfl ?_
                refine zx_E.go 1 (s' := (24, [some (.inr (some (33, 0, 0, 0))), some (.inr (some (0, 0, 0, 0))), some (.inr (some (25, 0, 0, 0))), some (.inl 7)], [.inl 0, .inl 7], (zx_lay zM0, 308))) rfl ?_
                refine zx_E.bt (c := 0 < 7) (s1 := (740, [some (.inr (some (33, 0, 0, 0))), some (.inr (some (0, 0, 0, 0))), some (.inr (some (25, 0, 0, 0))), some (.inl 7)], [], (zx_lay zM0, 308))) (s2 := (27, [some (.inr (some (33, 0, 0, 0))), some (.inr (some (0, 0, 0, 0))), some (.inr (some (25, 0, 0, 0))), some (.inl 7)], [], (zx_lay zM0, 308))) rfl (by decide) ?_
                refine zx_E.go 1 (s' := (741, [some (.inr (some (33, 0, 0, 0))), some (.inr (some (0, 0, 0, 0))), some (.inr (some (25, 0, 0, 0))), some (.inl 7)], [.inl 1], (zx_lay zM0, 308))) rfl ?_
                exact zx_E.iret rfl (fun _ => Or.inr rfl) rfl
              · skip
                by_cases h8 : a1 = 7
                · subst h8
                  refine ⟨(zx_lay zM0, 308), Nat.le_refl _, ?_⟩
                  refine zx_E.go 4 (s' := (23, [some (.inr (some (33, 0, 0, 0))), some (.inr (some (0, 0, 0, 0))), some (.inr (some (25, 0, 0, 0))), some (.inl 0)], [.inl 7, .inl 7, .inl 0], (zx_lay zM0, 308))) rfl ?_
                  refine zx_E.go 1 (s' := (24, [some (.inr (some (33, 0, 0, 0))), some (.inr (some (0, 0, 0, 0))), some (.inr (some (25, 0, 0, 0))), some (.inl 0)], [.inl 0, .inl 0], (zx_lay zM0, 308))) rfl ?_
                  refine zx_E.bf (c := 0 < 0) (s1 := (740, [some (.inr (some (33, 0, 0, 0))), some (.inr (some (0, 0, 0, 0))), some (.inr (some (25, 0, 0, 0))), some (.inl 0)], [], (zx_lay zM0, 308))) (s2 := (27, [some (.inr (some (33, 0, 0, 0))), some (.inr (some (0, 0, 0, 0))), some (.inr (some (25, 0, 0, 0))), some (.inl 0)], [], (zx_lay zM0, 308))) rfl (by decide) ?_
                  refine zx_E.go 2 (s' := (29, [some (.inr (some (33, 0, 0, 0))), some (.inr (some (0, 0, 0, 0))), some (.inr (some (25, 0, 0, 0))), some (.inl 0)], [.inl 0, .inr (some (33, 0, 0, 0))], (zx_lay zM0, 308))) rfl ?_
                  refine zx_E.sld' (k := 0) (v := a0) rfl rfl (by omega) (by decide) e0 ?_
                  show zx_E _ _ _ (30, [some (.inr (some (33, 0, 0, 0))), some (.inr (some (0, 0, 0, 0))), some (.inr (some (25, 0, 0, 0))), some (.inl 0)], [.inl a0], (zx_lay zM0, 308)) _
                  refine zx_E.go 2 (s' := (33, [some (.inr (some (33, 0, 0, 0))), some (.inr (some (0, 0, 0, 0))), some (.inr (some (25, 0, 0, 0))), some (.inl 0)], [.inl (a0 &&& 31)], (zx_lay zM0, 308))) rfl ?_
                  refine zx_E.one (s' := (zx_pick (a0 &&& 31) 0 [136, 211, 224, 247, 270, 293, 316, 339, 372, 405, 438, 471, 494, 517, 560, 573, 606, 639, 652, 685, 698, 711] 734, [some (.inr (some (33, 0, 0, 0))), some (.inr (some (0, 0, 0, 0))), some (.inr (some (25, 0, 0, 0))), some (.inl 0)], [], (zx_lay zM0, 308))) rfl ?_
                  refine zx_E.pick (k' := 1) (by decide) (fun hn => absurd hn (fun q => absurd (hk.symm.trans q) (by decide))) (fun _ => ?_)
                  refine zx_E.pick (k' := 2) (by decide) (fun hn => absurd hn (fun q => absurd (hk.symm.trans q) (by decide))) (fun _ => ?_)
                  refine zx_E.pick (k' := 3) (by decide) (fun hn => absurd hn (fun q => absurd (hk.symm.trans q) (by decide))) (fun _ => ?_)
                  refine zx_E.pick (k' := 4) (by decide) (fun hn => absurd hn (fun q => absurd (hk.symm.trans q) (by decide))) (fun _ => ?_)
                  refine zx_E.pick (k' := 5) (by decide) (fun hn => absurd hn (fun q => absurd (hk.symm.trans q) (by decide))) (fun _ => ?_)
                  refine zx_E.pick (k' := 6) (by decide) (fun hn => absurd hn (fun q => absurd (hk.symm.trans q) (by decide))) (fun _ => ?_)
                  refine zx_E.pick (k' := 7) (by decide) (fun hn => absurd hn (fun q => absurd (hk.symm.trans q) (by decide))) (fun _ => ?_)
                  refine zx_E.pick (k' := 8) (by decide) (fun hn => absurd hn (fun q => absurd (hk.symm.trans q) (by decide))) (fun _ => ?_)
                  refine zx_E.pick (k' := 9) (by decide) (fun hn => absurd hn (fun q => absurd (hk.symm.trans q) (by decide))) (fun _ => ?_)
                  refine zx_E.pick (k' := 10) (by decide) (fun hn => absurd hn (fun q => absurd (hk.symm.trans q) (by decide))) (fun _ => ?_)
                  refine zx_E.pick (k' := 11) (by decide) (fun hn => absurd hn (fun q => absurd (hk.symm.trans q) (by decide))) (fun _ => ?_)
                  refine zx_E.pick (k' := 12) (by decide) (fun hn => absurd hn (fun q => absurd (hk.symm.trans q) (by decide))) (fun _ => ?_)
                  refine zx_E.pick (k' := 13) (by decide) (fun hn => absurd hn (fun q => absurd (hk.symm.trans q) (by decide))) (fun _ => ?_)
                  refine zx_E.pick (k' := 14) (by decide) (fun hn => absurd hn (fun q => absurd (hk.symm.trans q) (by decide))) (fun _ => ?_)
                  refine zx_E.pick (k' := 15) (by decide) (fun hn => absurd hn (fun q => absurd (hk.symm.trans q) (by decide))) (fun _ => ?_)
                  refine zx_E.pick (k' := 16) (by decide) (fun hn => absurd hn (fun q => absurd (hk.symm.trans q) (by decide))) (fun _ => ?_)
                  refine zx_E.pick (k' := 17) (by decide) (fun hn => absurd hn (fun q => absurd (hk.symm.trans q) (by decide))) (fun _ => ?_)
                  refine zx_E.pick (k' := 18) (by decide) (fun hn => absurd hn (fun q => absurd (hk.symm.trans q) (by decide))) (fun _ => ?_)
                  refine zx_E.pick (k' := 19) (by decide) (fun hn => absurd hn (fun q => absurd (hk.symm.trans q) (by decide))) (fun _ => ?_)
                  refine zx_E.pick (k' := 20) (by decide) (fun hn => absurd hn (fun q => absurd (hk.symm.trans q) (by decide))) (fun _ => ?_)
                  refine zx_E.pick (k' := 21) (by decide) (fun hn => absurd hn (fun q => absurd (hk.symm.trans q) (by decide))) (fun _ => ?_)
                  refine zx_E.pick (k' := 22) (by decide) (fun _ => ?_) (fun hn => absurd hk hn)
                  refine zx_E.go 5 (s' := (716, [some (.inr (some (33, 0, 0, 0))), some (.inr (some (0, 0, 0, 0))), some (.inr (some (25, 0, 0, 0))), some (.inl 0)], [.inl 1, .inr (some (33, 0, 0, 0)), .inr (some (0, 0, 0, 0))], (zx_lay zM0, 308))) rfl ?_
                  refine zx_E.sld' (k := 1) (v := 7) rfl rfl (by omega) (by decide) e1 ?_
                  show zx_E _ _ _ (717, [some (.inr (some (33, 0, 0, 0))), some (.inr (some (0, 0, 0, 0))), some (.inr (some (25, 0, 0, 0))), some (.inl 0)], [.inl 7, .inr (some (0, 0, 0, 0))], (zx_lay zM0, 308)) _
                  refine zx_E.call1 (y := 115) (as := [.inr (some (0, 0, 0, 0)), .inl 7]) (rest := []) (v := .inl 0) (μ' := (zx_lay zM0, 308)) rfl (zx_run_of zc_X10_count [some (.inr (some (0, 0, 0, 0))), some (.inl 7)] rfl rfl (by
                    refine zx_E.go 1 (s' := (1, [some (.inr (some (0, 0, 0, 0))), some (.inl 7)], [.inl 7], (zx_lay zM0, 308))) rfl ?_
                    refine zx_E.one (s' := (114, [some (.inr (some (0, 0, 0, 0))), some (.inl 7)], [], (zx_lay zM0, 308))) rfl ?_
                    refine zx_E.go 3 (s' := (121, [some (.inr (some (0, 0, 0, 0))), some (.inl 7)], [.inl 0], (zx_lay zM0, 308))) rfl ?_
                    exact zx_E.iret rfl (fun h => absurd h (by decide)) rfl)) ?_
                  show zx_E _ _ _ (720, [some (.inr (some (33, 0, 0, 0))), some (.inr (some (0, 0, 0, 0))), some (.inr (some (25, 0, 0, 0))), some (.inl 0)], [.inl 0], (zx_lay zM0, 308)) _
                  refine zx_E.go 5 (s' := (725, [some (.inr (some (33, 0, 0, 0))), some (.inr (some (0, 0, 0, 0))), some (.inr (some (25, 0, 0, 0))), some (.inl 0)], [.inl 1, .inr (some (33, 0, 0, 0)), .inr (some (25, 0, 0, 0)), .inl 0], (zx_lay zM0, 308))) rfl ?_
                  refine zx_E.sld' (k := 1) (v := 7) rfl rfl (by omega) (by decide) e1 ?_
                  show zx_E _ _ _ (726, [some (.inr (some (33, 0, 0, 0))), some (.inr (some (0, 0, 0, 0))), some (.inr (some (25, 0, 0, 0))), some (.inl 0)], [.inl 7, .inr (some (25, 0, 0, 0)), .inl 0], (zx_lay zM0, 308)) _
                  refine zx_E.call1 (y := 200) (as := [.inr (some (25, 0, 0, 0)), .inl 7]) (rest := [.inl 0]) (v := .inl 0) (μ' := (zx_lay zM0, 308)) rfl (zx_run_of zc_X11_count [some (.inr (some (25, 0, 0, 0))), some (.inl 7)] rfl rfl (by
                    refine zx_E.go 1 (s' := (1, [some (.inr (some (25, 0, 0, 0))), some (.inl 7)], [.inl 7], (zx_lay zM0, 308))) rfl ?_
                    refine zx_E.one (s' := (106, [some (.inr (some (25, 0, 0, 0))), some (.inl 7)], [], (zx_lay zM0, 308))) rfl ?_
                    refine zx_E.go 2 (s' := (110, [some (.inr (some (25, 0, 0, 0))), some (.inl 7)], [.inl 0], (zx_lay zM0, 308))) rfl ?_
                    exact zx_E.iret rfl (fun h => absurd h (by decide)) rfl)) ?_
                  show zx_E _ _ _ (729, [some (.inr (some (33, 0, 0, 0))), some (.inr (some (0, 0, 0, 0))), some (.inr (some (25, 0, 0, 0))), some (.inl 0)], [.inl 0, .inl 0], (zx_lay zM0, 308)) _
                  refine zx_E.bt (c := 0 = 0) (s1 := (734, [some (.inr (some (33, 0, 0, 0))), some (.inr (some (0, 0, 0, 0))), some (.inr (some (25, 0, 0, 0))), some (.inl 0)], [], (zx_lay zM0, 308))) (s2 := (732, [some (.inr (some (33, 0, 0, 0))), some (.inr (some (0, 0, 0, 0))), some (.inr (some (25, 0, 0, 0))), some (.inl 0)], [], (zx_lay zM0, 308))) rfl (by decide) ?_
                  refine zx_E.go 6 (s' := (23, [some (.inr (some (33, 0, 0, 0))), some (.inr (some (0, 0, 0, 0))), some (.inr (some (25, 0, 0, 0))), some (.inl 7)], [.inl 7, .inl 7, .inl 7], (zx_lay zM0, 308))) rfl ?_
                  refine zx_E.go 1 (s' := (24, [some (.inr (some (33, 0, 0, 0))), some (.inr (some (0, 0, 0, 0))), some (.inr (some (25, 0, 0, 0))), some (.inl 7)], [.inl 0, .inl 7], (zx_lay zM0, 308))) rfl ?_
                  refine zx_E.bt (c := 0 < 7) (s1 := (740, [some (.inr (some (33, 0, 0, 0))), some (.inr (some (0, 0, 0, 0))), some (.inr (some (25, 0, 0, 0))), some (.inl 7)], [], (zx_lay zM0, 308))) (s2 := (27, [some (.inr (some (33, 0, 0, 0))), some (.inr (some (0, 0, 0, 0))), some (.inr (some (25, 0, 0, 0))), some (.inl 7)], [], (zx_lay zM0, 308))) rfl (by decide) ?_
                  refine zx_E.go 1 (s' := (741, [some (.inr (some (33, 0, 0, 0))), some (.inr (some (0, 0, 0, 0))), some (.inr (some (25, 0, 0, 0))), some (.inl 7)], [.inl 1], (zx_lay zM0, 308))) rfl ?_
                  exact zx_E.iret rfl (fun _ => Or.inr rfl) rfl
                · skip
                  by_cases h9 : a1 = 8
                  · subst h9
                    refine ⟨(zx_lay zM0, 308), Nat.le_refl _, ?_⟩
                    refine zx_E.go 4 (s' := (23, [some (.inr (some (33, 0, 0, 0))), some (.inr (some (0, 0, 0, 0))), some (.inr (some (25, 0, 0, 0))), some (.inl 0)], [.inl 7, .inl 7, .inl 0], (zx_lay zM0, 308))) rfl ?_
                    refine zx_E.go 1 (s' := (24, [some (.inr (some (33, 0, 0, 0))), some (.inr (some (0, 0, 0, 0))), some (.inr (some (25, 0, 0, 0))), some (.inl 0)], [.inl 0, .inl 0], (zx_lay zM0, 308))) rfl ?_
                    refine zx_E.bf (c := 0 < 0) (s1 := (740, [some (.inr (some (33, 0, 0, 0))), some (.inr (some (0, 0, 0, 0))), some (.inr (some (25, 0, 0, 0))), some (.inl 0)], [], (zx_lay zM0, 308))) (s2 := (27, [some (.inr (some (33, 0, 0, 0))), some (.inr (some (0, 0, 0, 0))), some (.inr (some (25, 0, 0, 0))), some (.inl 0)], [], (zx_lay zM0, 308))) rfl (by decide) ?_
                    refine zx_E.go 2 (s' := (29, [some (.inr (some (33, 0, 0, 0))), some (.inr (some (0, 0, 0, 0))), some (.inr (some (25, 0, 0, 0))), some (.inl 0)], [.inl 0, .inr (some (33, 0, 0, 0))], (zx_lay zM0, 308))) rfl ?_
                    refine zx_E.sld' (k := 0) (v := a0) rfl rfl (by omega) (by decide) e0 ?_
                    show zx_E _ _ _ (30, [some (.inr (some (33, 0, 0, 0))), some (.inr (some (0, 0, 0, 0))), some (.inr (some (25, 0, 0, 0))), some (.inl 0)], [.inl a0], (zx_lay zM0, 308)) _
                    refine zx_E.go 2 (s' := (33, [some (.inr (some (33, 0, 0, 0))), some (.inr (some (0, 0, 0, 0))), some (.inr (some (25, 0, 0, 0))), some (.inl 0)], [.inl (a0 &&& 31)], (zx_lay zM0, 308))) rfl ?_
                    refine zx_E.one (s' := (zx_pick (a0 &&& 31) 0 [136, 211, 224, 247, 270, 293, 316, 339, 372, 405, 438, 471, 494, 517, 560, 573, 606, 639, 652, 685, 698, 711] 734, [some (.inr (some (33, 0, 0, 0))), some (.inr (some (0, 0, 0, 0))), some (.inr (some (25, 0, 0, 0))), some (.inl 0)], [], (zx_lay zM0, 308))) rfl ?_
                    refine zx_E.pick (k' := 1) (by decide) (fun hn => absurd hn (fun q => absurd (hk.symm.trans q) (by decide))) (fun _ => ?_)
                    refine zx_E.pick (k' := 2) (by decide) (fun hn => absurd hn (fun q => absurd (hk.symm.trans q) (by decide))) (fun _ => ?_)
                    refine zx_E.pick (k' := 3) (by decide) (fun hn => absurd hn (fun q => absurd (hk.symm.trans q) (by decide))) (fun _ => ?_)
                    refine zx_E.pick (k' := 4) (by decide) (fun hn => absurd hn (fun q => absurd (hk.symm.trans q) (by decide))) (fun _ => ?_)
                    refine zx_E.pick (k' := 5) (by decide) (fun hn => absurd hn (fun q => absurd (hk.symm.trans q) (by decide))) (fun _ => ?_)
                    refine zx_E.pick (k' := 6) (by decide) (fun hn => absurd hn (fun q => absurd (hk.symm.trans q) (by decide))) (fun _ => ?_)
                    refine zx_E.pick (k' := 7) (by decide) (fun hn => absurd hn (fun q => absurd (hk.symm.trans q) (by decide))) (fun _ => ?_)
                    refine zx_E.pick (k' := 8) (by decide) (fun hn => absurd hn (fun q => absurd (hk.symm.trans q) (by decide))) (fun _ => ?_)
                    refine zx_E.pick (k' := 9) (by decide) (fun hn => absurd hn (fun q => absurd (hk.symm.trans q) (by decide))) (fun _ => ?_)
                    refine zx_E.pick (k' := 10) (by decide) (fun hn => absurd hn (fun q => absurd (hk.symm.trans q) (by decide))) (fun _ => ?_)
                    refine zx_E.pick (k' := 11) (by decide) (fun hn => absurd hn (fun q => absurd (hk.symm.trans q) (by decide))) (fun _ => ?_)
                    refine zx_E.pick (k' := 12) (by decide) (fun hn => absurd hn (fun q => absurd (hk.symm.trans q) (by decide))) (fun _ => ?_)
                    refine zx_E.pick (k' := 13) (by decide) (fun hn => absurd hn (fun q => absurd (hk.symm.trans q) (by decide))) (fun _ => ?_)
                    refine zx_E.pick (k' := 14) (by decide) (fun hn => absurd hn (fun q => absurd (hk.symm.trans q) (by decide))) (fun _ => ?_)
                    refine zx_E.pick (k' := 15) (by decide) (fun hn => absurd hn (fun q => absurd (hk.symm.trans q) (by decide))) (fun _ => ?_)
                    refine zx_E.pick (k' := 16) (by decide) (fun hn => absurd hn (fun q => absurd (hk.symm.trans q) (by decide))) (fun _ => ?_)
                    refine zx_E.pick (k' := 17) (by decide) (fun hn => absurd hn (fun q => absurd (hk.symm.trans q) (by decide))) (fun _ => ?_)
                    refine zx_E.pick (k' := 18) (by decide) (fun hn => absurd hn (fun q => absurd (hk.symm.trans q) (by decide))) (fun _ => ?_)
                    refine zx_E.pick (k' := 19) (by decide) (fun hn => absurd hn (fun q => absurd (hk.symm.trans q) (by decide))) (fun _ => ?_)
                    refine zx_E.pick (k' := 20) (by decide) (fun hn => absurd hn (fun q => absurd (hk.symm.trans q) (by decide))) (fun _ => ?_)
                    refine zx_E.pick (k' := 21) (by decide) (fun hn => absurd hn (fun q => absurd (hk.symm.trans q) (by decide))) (fun _ => ?_)
                    refine zx_E.pick (k' := 22) (by decide) (fun _ => ?_) (fun hn => absurd hk hn)
                    refine zx_E.go 5 (s' := (716, [some (.inr (some (33, 0, 0, 0))), some (.inr (some (0, 0, 0, 0))), some (.inr (some (25, 0, 0, 0))), some (.inl 0)], [.inl 1, .inr (some (33, 0, 0, 0)), .inr (some (0, 0, 0, 0))], (zx_lay zM0, 308))) rfl ?_
                    refine zx_E.sld' (k := 1) (v := 8) rfl rfl (by omega) (by decide) e1 ?_
                    show zx_E _ _ _ (717, [some (.inr (some (33, 0, 0, 0))), some (.inr (some (0, 0, 0, 0))), some (.inr (some (25, 0, 0, 0))), some (.inl 0)], [.inl 8, .inr (some (0, 0, 0, 0))], (zx_lay zM0, 308)) _
                    refine zx_E.call1 (y := 115) (as := [.inr (some (0, 0, 0, 0)), .inl 8]) (rest := []) (v := .inl 10) (μ' := (zx_lay zM0, 308)) rfl (zx_run_of zc_X10_count [some (.inr (some (0, 0, 0, 0))), some (.inl 8)] rfl rfl (by
                      refine zx_E.go 1 (s' := (1, [some (.inr (some (0, 0, 0, 0))), some (.inl 8)], [.inl 8], (zx_lay zM0, 308))) rfl ?_
                      refine zx_E.one (s' := (122, [some (.inr (some (0, 0, 0, 0))), some (.inl 8)], [], (zx_lay zM0, 308))) rfl ?_
                      refine zx_E.go 3 (s' := (129, [some (.inr (some (0, 0, 0, 0))), some (.inl 8)], [.inl 10], (zx_lay zM0, 308))) rfl ?_
                      exact zx_E.iret rfl (fun h => absurd h (by decide)) rfl)) ?_
                    show zx_E _ _ _ (720, [some (.inr (some (33, 0, 0, 0))), some (.inr (some (0, 0, 0, 0))), some (.inr (some (25, 0, 0, 0))), some (.inl 0)], [.inl 10], (zx_lay zM0, 308)) _
                    refine zx_E.go 5 (s' := (725, [some (.inr (some (33, 0, 0, 0))), some (.inr (some (0, 0, 0, 0))), some (.inr (some (25, 0, 0, 0))), some (.inl 0)], [.inl 1, .inr (some (33, 0, 0, 0)), .inr (some (25, 0, 0, 0)), .inl 10], (zx_lay zM0, 308))) rfl ?_
                    refine zx_E.sld' (k := 1) (v := 8) rfl rfl (by omega) (by decide) e1 ?_
                    show zx_E _ _ _ (726, [some (.inr (some (33, 0, 0, 0))), some (.inr (some (0, 0, 0, 0))), some (.inr (some (25, 0, 0, 0))), some (.inl 0)], [.inl 8, .inr (some (25, 0, 0, 0)), .inl 10], (zx_lay zM0, 308)) _
                    refine zx_E.call1 (y := 200) (as := [.inr (some (25, 0, 0, 0)), .inl 8]) (rest := [.inl 10]) (v := .inl 10) (μ' := (zx_lay zM0, 308)) rfl (zx_run_of zc_X11_count [some (.inr (some (25, 0, 0, 0))), some (.inl 8)] rfl rfl (by
                      refine zx_E.go 1 (s' := (1, [some (.inr (some (25, 0, 0, 0))), some (.inl 8)], [.inl 8], (zx_lay zM0, 308))) rfl ?_
                      refine zx_E.one (s' := (111, [some (.inr (some (25, 0, 0, 0))), some (.inl 8)], [], (zx_lay zM0, 308))) rfl ?_
                      refine zx_E.go 3 (s' := (117, [some (.inr (some (25, 0, 0, 0))), some (.inl 8)], [.inl 26, .inr (some (26, 0, 0, 0))], (zx_lay zM0, 308))) rfl ?_
                      refine zx_E.iald' (k := 26) (h := (26, 0, 0, 0)) (v := 10) rfl rfl rfl (by decide) rfl ?_
                      show zx_E _ _ _ (118, [some (.inr (some (25, 0, 0, 0))), some (.inl 8)], [.inl 10], (zx_lay zM0, 308)) _
                      exact zx_E.iret rfl (fun h => absurd h (by decide)) rfl)) ?_
                    show zx_E _ _ _ (729, [some (.inr (some (33, 0, 0, 0))), some (.inr (some (0, 0, 0, 0))), some (.inr (some (25, 0, 0, 0))), some (.inl 0)], [.inl 10, .inl 10], (zx_lay zM0, 308)) _
                    refine zx_E.bt (c := 10 = 10) (s1 := (734, [some (.inr (some (33, 0, 0, 0))), some (.inr (some (0, 0, 0, 0))), some (.inr (some (25, 0, 0, 0))), some (.inl 0)], [], (zx_lay zM0, 308))) (s2 := (732, [some (.inr (some (33, 0, 0, 0))), some (.inr (some (0, 0, 0, 0))), some (.inr (some (25, 0, 0, 0))), some (.inl 0)], [], (zx_lay zM0, 308))) rfl (by decide) ?_
                    refine zx_E.go 6 (s' := (23, [some (.inr (some (33, 0, 0, 0))), some (.inr (some (0, 0, 0, 0))), some (.inr (some (25, 0, 0, 0))), some (.inl 7)], [.inl 7, .inl 7, .inl 7], (zx_lay zM0, 308))) rfl ?_
                    refine zx_E.go 1 (s' := (24, [some (.inr (some (33, 0, 0, 0))), some (.inr (some (0, 0, 0, 0))), some (.inr (some (25, 0, 0, 0))), some (.inl 7)], [.inl 0, .inl 7], (zx_lay zM0, 308))) rfl ?_
                    refine zx_E.bt (c := 0 < 7) (s1 := (740, [some (.inr (some (33, 0, 0, 0))), some (.inr (some (0, 0, 0, 0))), some (.inr (some (25, 0, 0, 0))), some (.inl 7)], [], (zx_lay zM0, 308))) (s2 := (27, [some (.inr (some (33, 0, 0, 0))), some (.inr (some (0, 0, 0, 0))), some (.inr (some (25, 0, 0, 0))), some (.inl 7)], [], (zx_lay zM0, 308))) rfl (by decide) ?_
                    refine zx_E.go 1 (s' := (741, [some (.inr (some (33, 0, 0, 0))), some (.inr (some (0, 0, 0, 0))), some (.inr (some (25, 0, 0, 0))), some (.inl 7)], [.inl 1], (zx_lay zM0, 308))) rfl ?_
                    exact zx_E.iret rfl (fun _ => Or.inr rfl) rfl
                  · skip
                    by_cases h10 : a1 = 9
                    · subst h10
                      refine ⟨(zx_lay zM0, 308), Nat.le_refl _, ?_⟩
                      refine zx_E.go 4 (s' := (23, [some (.inr (some (33, 0, 0, 0))), some (.inr (some (0, 0, 0, 0))), some (.inr (some (25, 0, 0, 0))), some (.inl 0)], [.inl 7, .inl 7, .inl 0], (zx_lay zM0, 308))) rfl ?_
                      refine zx_E.go 1 (s' := (24, [some (.inr (some (33, 0, 0, 0))), some (.inr (some (0, 0, 0, 0))), some (.inr (some (25, 0, 0, 0))), some (.inl 0)], [.inl 0, .inl 0], (zx_lay zM0, 308))) rfl ?_
                      refine zx_E.bf (c := 0 < 0) (s1 := (740, [some (.inr (some (33, 0, 0, 0))), some (.inr (some (0, 0, 0, 0))), some (.inr (some (25, 0, 0, 0))), some (.inl 0)], [], (zx_lay zM0, 308))) (s2 := (27, [some (.inr (some (33, 0, 0, 0))), some (.inr (some (0, 0, 0, 0))), some (.inr (some (25, 0, 0, 0))), some (.inl 0)], [], (zx_lay zM0, 308))) rfl (by decide) ?_
                      refine zx_E.go 2 (s' := (29, [some (.inr (some (33, 0, 0, 0))), some (.inr (some (0, 0, 0, 0))), some (.inr (some (25, 0, 0, 0))), some (.inl 0)], [.inl 0, .inr (some (33, 0, 0, 0))], (zx_lay zM0, 308))) rfl ?_
                      refine zx_E.sld' (k := 0) (v := a0) rfl rfl (by omega) (by decide) e0 ?_
                      show zx_E _ _ _ (30, [some (.inr (some (33, 0, 0, 0))), some (.inr (some (0, 0, 0, 0))), some (.inr (some (25, 0, 0, 0))), some (.inl 0)], [.inl a0], (zx_lay zM0, 308)) _
                      refine zx_E.go 2 (s' := (33, [some (.inr (some (33, 0, 0, 0))), some (.inr (some (0, 0, 0, 0))), some (.inr (some (25, 0, 0, 0))), some (.inl 0)], [.inl (a0 &&& 31)], (zx_lay zM0, 308))) rfl ?_
                      refine zx_E.one (s' := (zx_pick (a0 &&& 31) 0 [136, 211, 224, 247, 270, 293, 316, 339, 372, 405, 438, 471, 494, 517, 560, 573, 606, 639, 652, 685, 698, 711] 734, [some (.inr (some (33, 0, 0, 0))), some (.inr (some (0, 0, 0, 0))), some (.inr (some (25, 0, 0, 0))), some (.inl 0)], [], (zx_lay zM0, 308))) rfl ?_
                      refine zx_E.pick (k' := 1) (by decide) (fun hn => absurd hn (fun q => absurd (hk.symm.trans q) (by decide))) (fun _ => ?_)
                      refine zx_E.pick (k' := 2) (by decide) (fun hn => absurd hn (fun q => absurd (hk.symm.trans q) (by decide))) (fun _ => ?_)
                      refine zx_E.pick (k' := 3) (by decide) (fun hn => absurd hn (fun q => absurd (hk.symm.trans q) (by decide))) (fun _ => ?_)
                      refine zx_E.pick (k' := 4) (by decide) (fun hn => absurd hn (fun q => absurd (hk.symm.trans q) (by decide))) (fun _ => ?_)
                      refine zx_E.pick (k' := 5) (by decide) (fun hn => absurd hn (fun q => absurd (hk.symm.trans q) (by decide))) (fun _ => ?_)
                      refine zx_E.pick (k' := 6) (by decide) (fun hn => absurd hn (fun q => absurd (hk.symm.trans q) (by decide))) (fun _ => ?_)
                      refine zx_E.pick (k' := 7) (by decide) (fun hn => absurd hn (fun q => absurd (hk.symm.trans q) (by decide))) (fun _ => ?_)
                      refine zx_E.pick (k' := 8) (by decide) (fun hn => absurd hn (fun q => absurd (hk.symm.trans q) (by decide))) (fun _ => ?_)
                      refine zx_E.pick (k' := 9) (by decide) (fun hn => absurd hn (fun q => absurd (hk.symm.trans q) (by decide))) (fun _ => ?_)
                      refine zx_E.pick (k' := 10) (by decide) (fun hn => absurd hn (fun q => absurd (hk.symm.trans q) (by decide))) (fun _ => ?_)
                      refine zx_E.pick (k' := 11) (by decide) (fun hn => absurd hn (fun q => absurd (hk.symm.trans q) (by decide))) (fun _ => ?_)
                      refine zx_E.pick (k' := 12) (by decide) (fun hn => absurd hn (fun q => absurd (hk.symm.trans q) (by decide))) (fun _ => ?_)
                      refine zx_E.pick (k' := 13) (by decide) (fun hn => absurd hn (fun q => absurd (hk.symm.trans q) (by decide))) (fun _ => ?_)
                      refine zx_E.pick (k' := 14) (by decide) (fun hn => absurd hn (fun q => absurd (hk.symm.trans q) (by decide))) (fun _ => ?_)
                      refine zx_E.pick (k' := 15) (by decide) (fun hn => absurd hn (fun q => absurd (hk.symm.trans q) (by decide))) (fun _ => ?_)
                      refine zx_E.pick (k' := 16) (by decide) (fun hn => absurd hn (fun q => absurd (hk.symm.trans q) (by decide))) (fun _ => ?_)
                      refine zx_E.pick (k' := 17) (by decide) (fun hn => absurd hn (fun q => absurd (hk.symm.trans q) (by decide))) (fun _ => ?_)
                      refine zx_E.pick (k' := 18) (by decide) (fun hn => absurd hn (fun q => absurd (hk.symm.trans q) (by decide))) (fun _ => ?_)
                      refine zx_E.pick (k' := 19) (by decide) (fun hn => absurd hn (fun q => absurd (hk.symm.trans q) (by decide))) (fun _ => ?_)
                      refine zx_E.pick (k' := 20) (by decide) (fun hn => absurd hn (fun q => absurd (hk.symm.trans q) (by decide))) (fun _ => ?_)
                      refine zx_E.pick (k' := 21) (by decide) (fun hn => absurd hn (fun q => absurd (hk.symm.trans q) (by decide))) (fun _ => ?_)
                      refine zx_E.pick (k' := 22) (by decide) (fun _ => ?_) (fun hn => absurd hk hn)
                      refine zx_E.go 5 (s' := (716, [some (.inr (some (33, 0, 0, 0))), some (.inr (some (0, 0, 0, 0))), some (.inr (some (25, 0, 0, 0))), some (.inl 0)], [.inl 1, .inr (some (33, 0, 0, 0)), .inr (some (0, 0, 0, 0))], (zx_lay zM0, 308))) rfl ?_
                      refine zx_E.sld' (k := 1) (v := 9) rfl rfl (by omega) (by decide) e1 ?_
                      show zx_E _ _ _ (717, [some (.inr (some (33, 0, 0, 0))), some (.inr (some (0, 0, 0, 0))), some (.inr (some (25, 0, 0, 0))), some (.inl 0)], [.inl 9, .inr (some (0, 0, 0, 0))], (zx_lay zM0, 308)) _
                      refine zx_E.call1 (y := 115) (as := [.inr (some (0, 0, 0, 0)), .inl 9]) (rest := []) (v := .inl 0) (μ' := (zx_lay zM0, 308)) rfl (zx_run_of zc_X10_count [some (.inr (some (0, 0, 0, 0))), some (.inl 9)] rfl rfl (by
                        refine zx_E.go 1 (s' := (1, [some (.inr (some (0, 0, 0, 0))), some (.inl 9)], [.inl 9], (zx_lay zM0, 308))) rfl ?_
                        refine zx_E.one (s' := (130, [some (.inr (some (0, 0, 0, 0))), some (.inl 9)], [], (zx_lay zM0, 308))) rfl ?_
                        refine zx_E.go 2 (s' := (134, [some (.inr (some (0, 0, 0, 0))), some (.inl 9)], [.inr (some (1, 0, 0, 0))], (zx_lay zM0, 308))) rfl ?_
                        refine zx_E.call1 (y := 41) (as := [.inr (some (1, 0, 0, 0))]) (rest := []) (v := .inl 0) (μ' := (zx_lay zM0, 308)) rfl (zx_run_of zc_X2_longestStay [some (.inr (some (1, 0, 0, 0))), none, none] rfl rfl (by
                          refine zx_E.go 7 (s' := (9, [some (.inr (some (1, 0, 0, 0))), some (.inl 0), some (.inl 0)], [.inl 0, .inl 0], (zx_lay zM0, 308))) rfl ?_
                          refine zx_E.bt (c := 0 ≤ 0) (s1 := (49, [some (.inr (some (1, 0, 0, 0))), some (.inl 0), some (.inl 0)], [], (zx_lay zM0, 308))) (s2 := (12, [some (.inr (some (1, 0, 0, 0))), some (.inl 0), some (.inl 0)], [], (zx_lay zM0, 308))) rfl (by decide) ?_
                          refine zx_E.go 1 (s' := (50, [some (.inr (some (1, 0, 0, 0))), some (.inl 0), some (.inl 0)], [.inl 0], (zx_lay zM0, 308))) rfl ?_
                          exact zx_E.iret rfl (fun h => absurd h (by decide)) rfl)) ?_
                        show zx_E _ _ _ (137, [some (.inr (some (0, 0, 0, 0))), some (.inl 9)], [.inl 0], (zx_lay zM0, 308)) _
                        exact zx_E.iret rfl (fun h => absurd h (by decide)) rfl)) ?_
                      show zx_E _ _ _ (720, [some (.inr (some (33, 0, 0, 0))), some (.inr (some (0, 0, 0, 0))), some (.inr (some (25, 0, 0, 0))), some (.inl 0)], [.inl 0], (zx_lay zM0, 308)) _
                      refine zx_E.go 5 (s' := (725, [some (.inr (some (33, 0, 0, 0))), some (.inr (some (0, 0, 0, 0))), some (.inr (some (25, 0, 0, 0))), some (.inl 0)], [.inl 1, .inr (some (33, 0, 0, 0)), .inr (some (25, 0, 0, 0)), .inl 0], (zx_lay zM0, 308))) rfl ?_
                      refine zx_E.sld' (k := 1) (v := 9) rfl rfl (by omega) (by decide) e1 ?_
                      show zx_E _ _ _ (726, [some (.inr (some (33, 0, 0, 0))), some (.inr (some (0, 0, 0, 0))), some (.inr (some (25, 0, 0, 0))), some (.inl 0)], [.inl 9, .inr (some (25, 0, 0, 0)), .inl 0], (zx_lay zM0, 308)) _
                      refine zx_E.call1 (y := 200) (as := [.inr (some (25, 0, 0, 0)), .inl 9]) (rest := [.inl 0]) (v := .inl 0) (μ' := (zx_lay zM0, 308)) rfl (zx_run_of zc_X11_count [some (.inr (some (25, 0, 0, 0))), some (.inl 9)] rfl rfl (by
                        refine zx_E.go 1 (s' := (1, [some (.inr (some (25, 0, 0, 0))), some (.inl 9)], [.inl 9], (zx_lay zM0, 308))) rfl ?_
                        refine zx_E.one (s' := (119, [some (.inr (some (25, 0, 0, 0))), some (.inl 9)], [], (zx_lay zM0, 308))) rfl ?_
                        refine zx_E.go 1 (s' := (120, [some (.inr (some (25, 0, 0, 0))), some (.inl 9)], [.inr (some (25, 0, 0, 0))], (zx_lay zM0, 308))) rfl ?_
                        refine zx_E.call1 (y := 199) (as := [.inr (some (25, 0, 0, 0))]) (rest := []) (v := .inl 0) (μ' := (zx_lay zM0, 308)) rfl (zx_run_of zc_X11_longestStay [some (.inr (some (25, 0, 0, 0))), none, none, none] rfl rfl (by
                          refine zx_E.go 8 (s' := (11, [some (.inr (some (25, 0, 0, 0))), some (.inl 0), some (.inl 0), none], [.inl 27, .inr (some (26, 0, 0, 0)), .inl 0], (zx_lay zM0, 308))) rfl ?_
                          refine zx_E.iald' (k := 27) (h := (26, 0, 0, 0)) (v := 0) rfl rfl rfl (by decide) rfl ?_
                          show zx_E _ _ _ (12, [some (.inr (some (25, 0, 0, 0))), some (.inl 0), some (.inl 0), none], [.inl 0, .inl 0], (zx_lay zM0, 308)) _
                          refine zx_E.bt (c := 0 ≤ 0) (s1 := (74, [some (.inr (some (25, 0, 0, 0))), some (.inl 0), some (.inl 0), none], [], (zx_lay zM0, 308))) (s2 := (15, [some (.inr (some (25, 0, 0, 0))), some (.inl 0), some (.inl 0), none], [], (zx_lay zM0, 308))) rfl (by decide) ?_
                          refine zx_E.go 1 (s' := (75, [some (.inr (some (25, 0, 0, 0))), some (.inl 0), some (.inl 0), none], [.inl 0], (zx_lay zM0, 308))) rfl ?_
                          exact zx_E.iret rfl (fun h => absurd h (by decide)) rfl)) ?_
                        show zx_E _ _ _ (123, [some (.inr (some (25, 0, 0, 0))), some (.inl 9)], [.inl 0], (zx_lay zM0, 308)) _
                        exact zx_E.iret rfl (fun h => absurd h (by decide)) rfl)) ?_
                      show zx_E _ _ _ (729, [some (.inr (some (33, 0, 0, 0))), some (.inr (some (0, 0, 0, 0))), some (.inr (some (25, 0, 0, 0))), some (.inl 0)], [.inl 0, .inl 0], (zx_lay zM0, 308)) _
                      refine zx_E.bt (c := 0 = 0) (s1 := (734, [some (.inr (some (33, 0, 0, 0))), some (.inr (some (0, 0, 0, 0))), some (.inr (some (25, 0, 0, 0))), some (.inl 0)], [], (zx_lay zM0, 308))) (s2 := (732, [some (.inr (some (33, 0, 0, 0))), some (.inr (some (0, 0, 0, 0))), some (.inr (some (25, 0, 0, 0))), some (.inl 0)], [], (zx_lay zM0, 308))) rfl (by decide) ?_
                      refine zx_E.go 6 (s' := (23, [some (.inr (some (33, 0, 0, 0))), some (.inr (some (0, 0, 0, 0))), some (.inr (some (25, 0, 0, 0))), some (.inl 7)], [.inl 7, .inl 7, .inl 7], (zx_lay zM0, 308))) rfl ?_
                      refine zx_E.go 1 (s' := (24, [some (.inr (some (33, 0, 0, 0))), some (.inr (some (0, 0, 0, 0))), some (.inr (some (25, 0, 0, 0))), some (.inl 7)], [.inl 0, .inl 7], (zx_lay zM0, 308))) rfl ?_
                      refine zx_E.bt (c := 0 < 7) (s1 := (740, [some (.inr (some (33, 0, 0, 0))), some (.inr (some (0, 0, 0, 0))), some (.inr (some (25, 0, 0, 0))), some (.inl 7)], [], (zx_lay zM0, 308))) (s2 := (27, [some (.inr (some (33, 0, 0, 0))), some (.inr (some (0, 0, 0, 0))), some (.inr (some (25, 0, 0, 0))), some (.inl 7)], [], (zx_lay zM0, 308))) rfl (by decide) ?_
                      refine zx_E.go 1 (s' := (741, [some (.inr (some (33, 0, 0, 0))), some (.inr (some (0, 0, 0, 0))), some (.inr (some (25, 0, 0, 0))), some (.inl 7)], [.inl 1], (zx_lay zM0, 308))) rfl ?_
                      exact zx_E.iret rfl (fun _ => Or.inr rfl) rfl
                    · skip
                      refine ⟨(zx_lay zM0, 308), Nat.le_refl _, ?_⟩
                      refine zx_E.go 4 (s' := (23, [some (.inr (some (33, 0, 0, 0))), some (.inr (some (0, 0, 0, 0))), some (.inr (some (25, 0, 0, 0))), some (.inl 0)], [.inl 7, .inl 7, .inl 0], (zx_lay zM0, 308))) rfl ?_
                      refine zx_E.go 1 (s' := (24, [some (.inr (some (33, 0, 0, 0))), some (.inr (some (0, 0, 0, 0))), some (.inr (some (25, 0, 0, 0))), some (.inl 0)], [.inl 0, .inl 0], (zx_lay zM0, 308))) rfl ?_
                      refine zx_E.bf (c := 0 < 0) (s1 := (740, [some (.inr (some (33, 0, 0, 0))), some (.inr (some (0, 0, 0, 0))), some (.inr (some (25, 0, 0, 0))), some (.inl 0)], [], (zx_lay zM0, 308))) (s2 := (27, [some (.inr (some (33, 0, 0, 0))), some (.inr (some (0, 0, 0, 0))), some (.inr (some (25, 0, 0, 0))), some (.inl 0)], [], (zx_lay zM0, 308))) rfl (by decide) ?_
                      refine zx_E.go 2 (s' := (29, [some (.inr (some (33, 0, 0, 0))), some (.inr (some (0, 0, 0, 0))), some (.inr (some (25, 0, 0, 0))), some (.inl 0)], [.inl 0, .inr (some (33, 0, 0, 0))], (zx_lay zM0, 308))) rfl ?_
                      refine zx_E.sld' (k := 0) (v := a0) rfl rfl (by omega) (by decide) e0 ?_
                      show zx_E _ _ _ (30, [some (.inr (some (33, 0, 0, 0))), some (.inr (some (0, 0, 0, 0))), some (.inr (some (25, 0, 0, 0))), some (.inl 0)], [.inl a0], (zx_lay zM0, 308)) _
                      refine zx_E.go 2 (s' := (33, [some (.inr (some (33, 0, 0, 0))), some (.inr (some (0, 0, 0, 0))), some (.inr (some (25, 0, 0, 0))), some (.inl 0)], [.inl (a0 &&& 31)], (zx_lay zM0, 308))) rfl ?_
                      refine zx_E.one (s' := (zx_pick (a0 &&& 31) 0 [136, 211, 224, 247, 270, 293, 316, 339, 372, 405, 438, 471, 494, 517, 560, 573, 606, 639, 652, 685, 698, 711] 734, [some (.inr (some (33, 0, 0, 0))), some (.inr (some (0, 0, 0, 0))), some (.inr (some (25, 0, 0, 0))), some (.inl 0)], [], (zx_lay zM0, 308))) rfl ?_
                      refine zx_E.pick (k' := 1) (by decide) (fun hn => absurd hn (fun q => absurd (hk.symm.trans q) (by decide))) (fun _ => ?_)
                      refine zx_E.pick (k' := 2) (by decide) (fun hn => absurd hn (fun q => absurd (hk.symm.trans q) (by decide))) (fun _ => ?_)
                      refine zx_E.pick (k' := 3) (by decide) (fun hn => absurd hn (fun q => absurd (hk.symm.trans q) (by decide))) (fun _ => ?_)
                      refine zx_E.pick (k' := 4) (by decide) (fun hn => absurd hn (fun q => absurd (hk.symm.trans q) (by decide))) (fun _ => ?_)
                      refine zx_E.pick (k' := 5) (by decide) (fun hn => absurd hn (fun q => absurd (hk.symm.trans q) (by decide))) (fun _ => ?_)
                      refine zx_E.pick (k' := 6) (by decide) (fun hn => absurd hn (fun q => absurd (hk.symm.trans q) (by decide))) (fun _ => ?_)
                      refine zx_E.pick (k' := 7) (by decide) (fun hn => absurd hn (fun q => absurd (hk.symm.trans q) (by decide))) (fun _ => ?_)
                      refine zx_E.pick (k' := 8) (by decide) (fun hn => absurd hn (fun q => absurd (hk.symm.trans q) (by decide))) (fun _ => ?_)
                      refine zx_E.pick (k' := 9) (by decide) (fun hn => absurd hn (fun q => absurd (hk.symm.trans q) (by decide))) (fun _ => ?_)
                      refine zx_E.pick (k' := 10) (by decide) (fun hn => absurd hn (fun q => absurd (hk.symm.trans q) (by decide))) (fun _ => ?_)
                      refine zx_E.pick (k' := 11) (by decide) (fun hn => absurd hn (fun q => absurd (hk.symm.trans q) (by decide))) (fun _ => ?_)
                      refine zx_E.pick (k' := 12) (by decide) (fun hn => absurd hn (fun q => absurd (hk.symm.trans q) (by decide))) (fun _ => ?_)
                      refine zx_E.pick (k' := 13) (by decide) (fun hn => absurd hn (fun q => absurd (hk.symm.trans q) (by decide))) (fun _ => ?_)
                      refine zx_E.pick (k' := 14) (by decide) (fun hn => absurd hn (fun q => absurd (hk.symm.trans q) (by decide))) (fun _ => ?_)
                      refine zx_E.pick (k' := 15) (by decide) (fun hn => absurd hn (fun q => absurd (hk.symm.trans q) (by decide))) (fun _ => ?_)
                      refine zx_E.pick (k' := 16) (by decide) (fun hn => absurd hn (fun q => absurd (hk.symm.trans q) (by decide))) (fun _ => ?_)
                      refine zx_E.pick (k' := 17) (by decide) (fun hn => absurd hn (fun q => absurd (hk.symm.trans q) (by decide))) (fun _ => ?_)
                      refine zx_E.pick (k' := 18) (by decide) (fun hn => absurd hn (fun q => absurd (hk.symm.trans q) (by decide))) (fun _ => ?_)
                      refine zx_E.pick (k' := 19) (by decide) (fun hn => absurd hn (fun q => absurd (hk.symm.trans q) (by decide))) (fun _ => ?_)
                      refine zx_E.pick (k' := 20) (by decide) (fun hn => absurd hn (fun q => absurd (hk.symm.trans q) (by decide))) (fun _ => ?_)
                      refine zx_E.pick (k' := 21) (by decide) (fun hn => absurd hn (fun q => absurd (hk.symm.trans q) (by decide))) (fun _ => ?_)
                      refine zx_E.pick (k' := 22) (by decide) (fun _ => ?_) (fun hn => absurd hk hn)
                      refine zx_E.go 5 (s' := (716, [some (.inr (some (33, 0, 0, 0))), some (.inr (some (0, 0, 0, 0))), some (.inr (some (25, 0, 0, 0))), some (.inl 0)], [.inl 1, .inr (some (33, 0, 0, 0)), .inr (some (0, 0, 0, 0))], (zx_lay zM0, 308))) rfl ?_
                      refine zx_E.sld' (k := 1) (v := a1) rfl rfl (by omega) (by decide) e1 ?_
                      show zx_E _ _ _ (717, [some (.inr (some (33, 0, 0, 0))), some (.inr (some (0, 0, 0, 0))), some (.inr (some (25, 0, 0, 0))), some (.inl 0)], [.inl a1, .inr (some (0, 0, 0, 0))], (zx_lay zM0, 308)) _
                      refine zx_E.call1 (y := 115) (as := [.inr (some (0, 0, 0, 0)), .inl a1]) (rest := []) (v := .inl (-1)) (μ' := (zx_lay zM0, 308)) rfl (zx_run_of zc_X10_count [some (.inr (some (0, 0, 0, 0))), some (.inl a1)] rfl rfl (by
                        refine zx_E.go 1 (s' := (1, [some (.inr (some (0, 0, 0, 0))), some (.inl a1)], [.inl a1], (zx_lay zM0, 308))) rfl ?_
                        refine zx_E.one (s' := (zx_pick a1 0 [56, 64, 72, 80, 89, 98, 106, 114, 122, 130] 138, [some (.inr (some (0, 0, 0, 0))), some (.inl a1)], [], (zx_lay zM0, 308))) rfl ?_
                        refine zx_E.pick (k' := 1) (by decide) (fun hn => absurd hn h1) (fun _ => ?_)
                        refine zx_E.pick (k' := 2) (by decide) (fun hn => absurd hn h2) (fun _ => ?_)
                        refine zx_E.pick (k' := 3) (by decide) (fun hn => absurd hn h3) (fun _ => ?_)
                        refine zx_E.pick (k' := 4) (by decide) (fun hn => absurd hn h4) (fun _ => ?_)
                        refine zx_E.pick (k' := 5) (by decide) (fun hn => absurd hn h5) (fun _ => ?_)
                        refine zx_E.pick (k' := 6) (by decide) (fun hn => absurd hn h6) (fun _ => ?_)
                        refine zx_E.pick (k' := 7) (by decide) (fun hn => absurd hn h7) (fun _ => ?_)
                        refine zx_E.pick (k' := 8) (by decide) (fun hn => absurd hn h8) (fun _ => ?_)
                        refine zx_E.pick (k' := 9) (by decide) (fun hn => absurd hn h9) (fun _ => ?_)
                        refine zx_E.pick (k' := 10) (by decide) (fun hn => absurd hn h10) (fun _ => ?_)
                        show zx_E _ _ _ (138, [some (.inr (some (0, 0, 0, 0))), some (.inl a1)], [], (zx_lay zM0, 308)) _
                        refine zx_E.go 1 (s' := (139, [some (.inr (some (0, 0, 0, 0))), some (.inl a1)], [.inl (-1)], (zx_lay zM0, 308))) rfl ?_
                        exact zx_E.iret rfl (fun h => absurd h (by decide)) rfl)) ?_
                      show zx_E _ _ _ (720, [some (.inr (some (33, 0, 0, 0))), some (.inr (some (0, 0, 0, 0))), some (.inr (some (25, 0, 0, 0))), some (.inl 0)], [.inl (-1)], (zx_lay zM0, 308)) _
                      refine zx_E.go 5 (s' := (725, [some (.inr (some (33, 0, 0, 0))), some (.inr (some (0, 0, 0, 0))), some (.inr (some (25, 0, 0, 0))), some (.inl 0)], [.inl 1, .inr (some (33, 0, 0, 0)), .inr (some (25, 0, 0, 0)), .inl (-1)], (zx_lay zM0, 308))) rfl ?_
                      refine zx_E.sld' (k := 1) (v := a1) rfl rfl (by omega) (by decide) e1 ?_
                      show zx_E _ _ _ (726, [some (.inr (some (33, 0, 0, 0))), some (.inr (some (0, 0, 0, 0))), some (.inr (some (25, 0, 0, 0))), some (.inl 0)], [.inl a1, .inr (some (25, 0, 0, 0)), .inl (-1)], (zx_lay zM0, 308)) _
                      refine zx_E.call1 (y := 200) (as := [.inr (some (25, 0, 0, 0)), .inl a1]) (rest := [.inl (-1)]) (v := .inl (-1)) (μ' := (zx_lay zM0, 308)) rfl (zx_run_of zc_X11_count [some (.inr (some (25, 0, 0, 0))), some (.inl a1)] rfl rfl (by
                        refine zx_E.go 1 (s' := (1, [some (.inr (some (25, 0, 0, 0))), some (.inl a1)], [.inl a1], (zx_lay zM0, 308))) rfl ?_
                        refine zx_E.one (s' := (zx_pick a1 0 [56, 63, 70, 78, 84, 90, 98, 106, 111, 119] 124, [some (.inr (some (25, 0, 0, 0))), some (.inl a1)], [], (zx_lay zM0, 308))) rfl ?_
                        refine zx_E.pick (k' := 1) (by decide) (fun hn => absurd hn h1) (fun _ => ?_)
                        refine zx_E.pick (k' := 2) (by decide) (fun hn => absurd hn h2) (fun _ => ?_)
                        refine zx_E.pick (k' := 3) (by decide) (fun hn => absurd hn h3) (fun _ => ?_)
                        refine zx_E.pick (k' := 4) (by decide) (fun hn => absurd hn h4) (fun _ => ?_)
                        refine zx_E.pick (k' := 5) (by decide) (fun hn => absurd hn h5) (fun _ => ?_)
                        refine zx_E.pick (k' := 6) (by decide) (fun hn => absurd hn h6) (fun _ => ?_)
                        refine zx_E.pick (k' := 7) (by decide) (fun hn => absurd hn h7) (fun _ => ?_)
                        refine zx_E.pick (k' := 8) (by decide) (fun hn => absurd hn h8) (fun _ => ?_)
                        refine zx_E.pick (k' := 9) (by decide) (fun hn => absurd hn h9) (fun _ => ?_)
                        refine zx_E.pick (k' := 10) (by decide) (fun hn => absurd hn h10) (fun _ => ?_)
                        show zx_E _ _ _ (124, [some (.inr (some (25, 0, 0, 0))), some (.inl a1)], [], (zx_lay zM0, 308)) _
                        refine zx_E.go 1 (s' := (125, [some (.inr (some (25, 0, 0, 0))), some (.inl a1)], [.inl (-1)], (zx_lay zM0, 308))) rfl ?_
                        exact zx_E.iret rfl (fun h => absurd h (by decide)) rfl)) ?_
                      show zx_E _ _ _ (729, [some (.inr (some (33, 0, 0, 0))), some (.inr (some (0, 0, 0, 0))), some (.inr (some (25, 0, 0, 0))), some (.inl 0)], [.inl (-1), .inl (-1)], (zx_lay zM0, 308)) _
                      refine zx_E.bt (c := (-1) = (-1)) (s1 := (734, [some (.inr (some (33, 0, 0, 0))), some (.inr (some (0, 0, 0, 0))), some (.inr (some (25, 0, 0, 0))), some (.inl 0)], [], (zx_lay zM0, 308))) (s2 := (732, [some (.inr (some (33, 0, 0, 0))), some (.inr (some (0, 0, 0, 0))), some (.inr (some (25, 0, 0, 0))), some (.inl 0)], [], (zx_lay zM0, 308))) rfl (by decide) ?_
                      refine zx_E.go 6 (s' := (23, [some (.inr (some (33, 0, 0, 0))), some (.inr (some (0, 0, 0, 0))), some (.inr (some (25, 0, 0, 0))), some (.inl 7)], [.inl 7, .inl 7, .inl 7], (zx_lay zM0, 308))) rfl ?_
                      refine zx_E.go 1 (s' := (24, [some (.inr (some (33, 0, 0, 0))), some (.inr (some (0, 0, 0, 0))), some (.inr (some (25, 0, 0, 0))), some (.inl 7)], [.inl 0, .inl 7], (zx_lay zM0, 308))) rfl ?_
                      refine zx_E.bt (c := 0 < 7) (s1 := (740, [some (.inr (some (33, 0, 0, 0))), some (.inr (some (0, 0, 0, 0))), some (.inr (some (25, 0, 0, 0))), some (.inl 7)], [], (zx_lay zM0, 308))) (s2 := (27, [some (.inr (some (33, 0, 0, 0))), some (.inr (some (0, 0, 0, 0))), some (.inr (some (25, 0, 0, 0))), some (.inl 7)], [], (zx_lay zM0, 308))) rfl (by decide) ?_
                      refine zx_E.go 1 (s' := (741, [some (.inr (some (33, 0, 0, 0))), some (.inr (some (0, 0, 0, 0))), some (.inr (some (25, 0, 0, 0))), some (.inl 7)], [.inl 1], (zx_lay zM0, 308))) rfl ?_
                      exact zx_E.iret rfl (fun _ => Or.inr rfl) rfl
set_option maxRecDepth 100000 in
set_option maxHeartbeats 4000000 in
theorem p1_op_22 {xs : Nat → Int32} {a0 a1 a2 a3 a4 a5 a6 : Int32} (e0 : xs 0 = a0) (e1 : xs 1 = a1) (e2 : xs 2 = a2) (e3 : xs 3 = a3) (e4 : xs 4 = a4) (e5 : xs 5 = a5) (e6 : xs 6 = a6) (hk0 : ¬ (a0 &&& 31) = 0) (hk1 : ¬ (a0 &&& 31) = 1) (hk2 : ¬ (a0 &&& 31) = 2) (hk3 : ¬ (a0 &&& 31) = 3) (hk4 : ¬ (a0 &&& 31) = 4) (hk5 : ¬ (a0 &&& 31) = 5) (hk6 : ¬ (a0 &&& 31) = 6) (hk7 : ¬ (a0 &&& 31) = 7) (hk8 : ¬ (a0 &&& 31) = 8) (hk9 : ¬ (a0 &&& 31) = 9) (hk10 : ¬ (a0 &&& 31) = 10) (hk11 : ¬ (a0 &&& 31) = 11) (hk12 : ¬ (a0 &&& 31) = 12) (hk13 : ¬ (a0 &&& 31) = 13) (hk14 : ¬ (a0 &&& 31) = 14) (hk15 : ¬ (a0 &&& 31) = 15) (hk16 : ¬ (a0 &&& 31) = 16) (hk17 : ¬ (a0 &&& 31) = 17) (hk18 : ¬ (a0 &&& 31) = 18) (hk19 : ¬ (a0 &&& 31) = 19) (hk20 : ¬ (a0 &&& 31) = 20) (hk21 : ¬ (a0 &&& 31) = 21) :
    ∃ μ : zx_M, μ.2 ≤ 308 ∧ zx_E (7, xs) 11 zc_L_law (18, [some (.inr (some (33, 0, 0, 0))), some (.inr (some (0, 0, 0, 0))), some (.inr (some (25, 0, 0, 0))), some (.inl 0)], [], (zx_lay zM0, 308)) (some (.inl 1), μ) := by
  refine ⟨(zx_lay zM0, 308), Nat.le_refl _, ?_⟩
  refine zx_E.go 4 (s' := (23, [some (.inr (some (33, 0, 0, 0))), some (.inr (some (0, 0, 0, 0))), some (.inr (some (25, 0, 0, 0))), some (.inl 0)], [.inl 7, .inl 7, .inl 0], (zx_lay zM0, 308))) rfl ?_
  refine zx_E.go 1 (s' := (24, [some (.inr (some (33, 0, 0, 0))), some (.inr (some (0, 0, 0, 0))), some (.inr (some (25, 0, 0, 0))), some (.inl 0)], [.inl 0, .inl 0], (zx_lay zM0, 308))) rfl ?_
  refine zx_E.bf (c := 0 < 0) (s1 := (740, [some (.inr (some (33, 0, 0, 0))), some (.inr (some (0, 0, 0, 0))), some (.inr (some (25, 0, 0, 0))), some (.inl 0)], [], (zx_lay zM0, 308))) (s2 := (27, [some (.inr (some (33, 0, 0, 0))), some (.inr (some (0, 0, 0, 0))), some (.inr (some (25, 0, 0, 0))), some (.inl 0)], [], (zx_lay zM0, 308))) rfl (by decide) ?_
  refine zx_E.go 2 (s' := (29, [some (.inr (some (33, 0, 0, 0))), some (.inr (some (0, 0, 0, 0))), some (.inr (some (25, 0, 0, 0))), some (.inl 0)], [.inl 0, .inr (some (33, 0, 0, 0))], (zx_lay zM0, 308))) rfl ?_
  refine zx_E.sld' (k := 0) (v := a0) rfl rfl (by omega) (by decide) e0 ?_
  show zx_E _ _ _ (30, [some (.inr (some (33, 0, 0, 0))), some (.inr (some (0, 0, 0, 0))), some (.inr (some (25, 0, 0, 0))), some (.inl 0)], [.inl a0], (zx_lay zM0, 308)) _
  refine zx_E.go 2 (s' := (33, [some (.inr (some (33, 0, 0, 0))), some (.inr (some (0, 0, 0, 0))), some (.inr (some (25, 0, 0, 0))), some (.inl 0)], [.inl (a0 &&& 31)], (zx_lay zM0, 308))) rfl ?_
  refine zx_E.one (s' := (zx_pick (a0 &&& 31) 0 [136, 211, 224, 247, 270, 293, 316, 339, 372, 405, 438, 471, 494, 517, 560, 573, 606, 639, 652, 685, 698, 711] 734, [some (.inr (some (33, 0, 0, 0))), some (.inr (some (0, 0, 0, 0))), some (.inr (some (25, 0, 0, 0))), some (.inl 0)], [], (zx_lay zM0, 308))) rfl ?_
  refine zx_E.pick (k' := 1) (by decide) (fun hn => absurd hn hk0) (fun _ => ?_)
  refine zx_E.pick (k' := 2) (by decide) (fun hn => absurd hn hk1) (fun _ => ?_)
  refine zx_E.pick (k' := 3) (by decide) (fun hn => absurd hn hk2) (fun _ => ?_)
  refine zx_E.pick (k' := 4) (by decide) (fun hn => absurd hn hk3) (fun _ => ?_)
  refine zx_E.pick (k' := 5) (by decide) (fun hn => absurd hn hk4) (fun _ => ?_)
  refine zx_E.pick (k' := 6) (by decide) (fun hn => absurd hn hk5) (fun _ => ?_)
  refine zx_E.pick (k' := 7) (by decide) (fun hn => absurd hn hk6) (fun _ => ?_)
  refine zx_E.pick (k' := 8) (by decide) (fun hn => absurd hn hk7) (fun _ => ?_)
  refine zx_E.pick (k' := 9) (by decide) (fun hn => absurd hn hk8) (fun _ => ?_)
  refine zx_E.pick (k' := 10) (by decide) (fun hn => absurd hn hk9) (fun _ => ?_)
  refine zx_E.pick (k' := 11) (by decide) (fun hn => absurd hn hk10) (fun _ => ?_)
  refine zx_E.pick (k' := 12) (by decide) (fun hn => absurd hn hk11) (fun _ => ?_)
  refine zx_E.pick (k' := 13) (by decide) (fun hn => absurd hn hk12) (fun _ => ?_)
  refine zx_E.pick (k' := 14) (by decide) (fun hn => absurd hn hk13) (fun _ => ?_)
  refine zx_E.pick (k' := 15) (by decide) (fun hn => absurd hn hk14) (fun _ => ?_)
  refine zx_E.pick (k' := 16) (by decide) (fun hn => absurd hn hk15) (fun _ => ?_)
  refine zx_E.pick (k' := 17) (by decide) (fun hn => absurd hn hk16) (fun _ => ?_)
  refine zx_E.pick (k' := 18) (by decide) (fun hn => absurd hn hk17) (fun _ => ?_)
  refine zx_E.pick (k' := 19) (by decide) (fun hn => absurd hn hk18) (fun _ => ?_)
  refine zx_E.pick (k' := 20) (by decide) (fun hn => absurd hn hk19) (fun _ => ?_)
  refine zx_E.pick (k' := 21) (by decide) (fun hn => absurd hn hk20) (fun _ => ?_)
  refine zx_E.pick (k' := 22) (by decide) (fun hn => absurd hn hk21) (fun _ => ?_)
  show zx_E _ _ _ (734, [some (.inr (some (33, 0, 0, 0))), some (.inr (some (0, 0, 0, 0))), some (.inr (some (25, 0, 0, 0))), some (.inl 0)], [], (zx_lay zM0, 308)) _
  refine zx_E.go 6 (s' := (23, [some (.inr (some (33, 0, 0, 0))), some (.inr (some (0, 0, 0, 0))), some (.inr (some (25, 0, 0, 0))), some (.inl 7)], [.inl 7, .inl 7, .inl 7], (zx_lay zM0, 308))) rfl ?_
  refine zx_E.go 1 (s' := (24, [some (.inr (some (33, 0, 0, 0))), some (.inr (some (0, 0, 0, 0))), some (.inr (some (25, 0, 0, 0))), some (.inl 7)], [.inl 0, .inl 7], (zx_lay zM0, 308))) rfl ?_
  refine zx_E.bt (c := 0 < 7) (s1 := (740, [some (.inr (some (33, 0, 0, 0))), some (.inr (some (0, 0, 0, 0))), some (.inr (some (25, 0, 0, 0))), some (.inl 7)], [], (zx_lay zM0, 308))) (s2 := (27, [some (.inr (some (33, 0, 0, 0))), some (.inr (some (0, 0, 0, 0))), some (.inr (some (25, 0, 0, 0))), some (.inl 7)], [], (zx_lay zM0, 308))) rfl (by decide) ?_
  refine zx_E.go 1 (s' := (741, [some (.inr (some (33, 0, 0, 0))), some (.inr (some (0, 0, 0, 0))), some (.inr (some (25, 0, 0, 0))), some (.inl 7)], [.inl 1], (zx_lay zM0, 308))) rfl ?_
  exact zx_E.iret rfl (fun _ => Or.inr rfl) rfl
