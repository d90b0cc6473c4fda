set_option maxRecDepth 100000 in
set_option maxHeartbeats 4000000 in
theorem p1_op_6 {xs : Nat → Int32} {a0 a1 a2 a3 a4 a5 a6 : Int32} (e0 : xs 0 = a0) (e1 : xs 1 = a1) (e2 : xs 2 = a2) (e3 : xs 3 = a3) (e4 : xs 4 = a4) (e5 : xs 5 = a5) (e6 : xs 6 = a6) (hk : (a0 &&& 31) = 6) :
    ∃ μ : zx_M, μ.2 ≤ 308 ∧ zx_E (7, xs) 11 zc_L_law (18, [some (.inr (some (33, 0, 0, 0))), some (.inr (some (0, 0, 0, 0))), some (.inr (some (25, 0, 0, 0))), some (.inl 0)], [], (zx_lay zM0, 308)) (some (.inl 1), μ) := by
  refine ⟨(zx_lay zM0, 308), Nat.le_refl _, ?_⟩
  refine zx_E.go 4 (s' := (23, [some (.inr (some (33, 0, 0, 0))), some (.inr (some (0, 0, 0, 0))), some (.inr (some (25, 0, 0, 0))), some (.inl 0)], [.inl 7, .inl 7, .inl 0], (zx_lay zM0, 308))) rfl ?_
  refine zx_E.go 1 (s' := (24, [some (.inr (some (33, 0, 0, 0))), some (.inr (some (0, 0, 0, 0))), some (.inr (some (25, 0, 0, 0))), some (.inl 0)], [.inl 0, .inl 0], (zx_lay zM0, 308))) rfl ?_
  refine zx_E.bf (c := 0 < 0) (s1 := (740, [some (.inr (some (33, 0, 0, 0))), some (.inr (some (0, 0, 0, 0))), some (.inr (some (25, 0, 0, 0))), some (.inl 0)], [], (zx_lay zM0, 308))) (s2 := (27, [some (.inr (some (33, 0, 0, 0))), some (.inr (some (0, 0, 0, 0))), some (.inr (some (25, 0, 0, 0))), some (.inl 0)], [], (zx_lay zM0, 308))) rfl (by decide) ?_
  refine zx_E.go 2 (s' := (29, [some (.inr (some (33, 0, 0, 0))), some (.inr (some (0, 0, 0, 0))), some (.inr (some (25, 0, 0, 0))), some (.inl 0)], [.inl 0, .inr (some (33, 0, 0, 0))], (zx_lay zM0, 308))) rfl ?_
  refine zx_E.sld' (k := 0) (v := a0) rfl rfl (by omega) (by decide) e0 ?_
  show zx_E _ _ _ (30, [some (.inr (some (33, 0, 0, 0))), some (.inr (some (0, 0, 0, 0))), some (.inr (some (25, 0, 0, 0))), some (.inl 0)], [.inl a0], (zx_lay zM0, 308)) _
  refine zx_E.go 2 (s' := (33, [some (.inr (some (33, 0, 0, 0))), some (.inr (some (0, 0, 0, 0))), some (.inr (some (25, 0, 0, 0))), some (.inl 0)], [.inl (a0 &&& 31)], (zx_lay zM0, 308))) rfl ?_
  refine zx_E.one (s' := (zx_pick (a0 &&& 31) 0 [136, 211, 224, 247, 270, 293, 316, 339, 372, 405, 438, 471, 494, 517, 560, 573, 606, 639, 652, 685, 698, 711] 734, [some (.inr (some (33, 0, 0, 0))), some (.inr (some (0, 0, 0, 0))), some (.inr (some (25, 0, 0, 0))), some (.inl 0)], [], (zx_lay zM0, 308))) rfl ?_
  refine zx_E.pick (k' := 1) (by decide) (fun hn => absurd hn (fun q => absurd (hk.symm.trans q) (by decide))) (fun _ => ?_)
  refine zx_E.pick (k' := 2) (by decide) (fun hn => absurd hn (fun q => absurd (hk.symm.trans q) (by decide))) (fun _ => ?_)
  refine zx_E.pick (k' := 3) (by decide) (fun hn => absurd hn (fun q => absurd (hk.symm.trans q) (by decide))) (fun _ => ?_)
  refine zx_E.pick (k' := 4) (by decide) (fun hn => absurd hn (fun q => absurd (hk.symm.trans q) (by decide))) (fun _ => ?_)
  refine zx_E.pick (k' := 5) (by decide) (fun hn => absurd hn (fun q => absurd (hk.symm.trans q) (by decide))) (fun _ => ?_)
  refine zx_E.pick (k' := 6) (by decide) (fun hn => absurd hn (fun q => absurd (hk.symm.trans q) (by decide))) (fun _ => ?_)
  refine zx_E.pick (k' := 7) (by decide) (fun _ => ?_) (fun hn => absurd hk hn)
  refine zx_E.go 5 (s' := (321, [some (.inr (some (33, 0, 0, 0))), some (.inr (some (0, 0, 0, 0))), some (.inr (some (25, 0, 0, 0))), some (.inl 0)], [.inl 1, .inr (some (33, 0, 0, 0)), .inr (some (0, 0, 0, 0))], (zx_lay zM0, 308))) rfl ?_
  refine zx_E.sld' (k := 1) (v := a1) rfl rfl (by omega) (by decide) e1 ?_
  show zx_E _ _ _ (322, [some (.inr (some (33, 0, 0, 0))), some (.inr (some (0, 0, 0, 0))), some (.inr (some (25, 0, 0, 0))), some (.inl 0)], [.inl a1, .inr (some (0, 0, 0, 0))], (zx_lay zM0, 308)) _
  refine zx_E.call1 (y := 100) (as := [.inr (some (0, 0, 0, 0)), .inl a1]) (rest := []) (v := .inl (-3)) (μ' := (zx_lay zM0, 308)) rfl (zx_run_of zc_X10_pass [some (.inr (some (0, 0, 0, 0))), some (.inl a1)] rfl rfl (by
    refine zx_E.go 2 (s' := (4, [some (.inr (some (0, 0, 0, 0))), some (.inl a1)], [.inr (some (1, 0, 0, 0))], (zx_lay zM0, 308))) rfl ?_
    refine zx_E.call1 (y := 15) (as := [.inr (some (1, 0, 0, 0))]) (rest := []) (v := .inl 0) (μ' := (zx_lay zM0, 308)) rfl (zx_run_of zc_X2_exists [some (.inr (some (1, 0, 0, 0)))] rfl rfl (by
      refine zx_E.go 2 (s' := (4, [some (.inr (some (1, 0, 0, 0)))], [.inl 0], (zx_lay zM0, 308))) rfl ?_
      refine zx_E.bt (c := 0 ≤ 0) (s1 := (11, [some (.inr (some (1, 0, 0, 0)))], [], (zx_lay zM0, 308))) (s2 := (7, [some (.inr (some (1, 0, 0, 0)))], [], (zx_lay zM0, 308))) rfl (by decide) ?_
      refine zx_E.go 1 (s' := (12, [some (.inr (some (1, 0, 0, 0)))], [.inl 0], (zx_lay zM0, 308))) rfl ?_
      exact zx_E.iret rfl (fun _ => Or.inl rfl) rfl)) ?_
    show zx_E _ _ _ (7, [some (.inr (some (0, 0, 0, 0))), some (.inl a1)], [.inl 0], (zx_lay zM0, 308)) _
    refine zx_E.bt (c := 0 = 0) (s1 := (10, [some (.inr (some (0, 0, 0, 0))), some (.inl a1)], [], (zx_lay zM0, 308))) (s2 := (13, [some (.inr (some (0, 0, 0, 0))), some (.inl a1)], [], (zx_lay zM0, 308))) rfl (by decide) ?_
    refine zx_E.go 1 (s' := (12, [some (.inr (some (0, 0, 0, 0))), some (.inl a1)], [.inl (-3)], (zx_lay zM0, 308))) rfl ?_
    exact zx_E.iret rfl (fun h => absurd h (by decide)) rfl)) ?_
  show zx_E _ _ _ (325, [some (.inr (some (33, 0, 0, 0))), some (.inr (some (0, 0, 0, 0))), some (.inr (some (25, 0, 0, 0))), some (.inl 0)], [.inl (-3)], (zx_lay zM0, 308)) _
  refine zx_E.go 5 (s' := (330, [some (.inr (some (33, 0, 0, 0))), some (.inr (some (0, 0, 0, 0))), some (.inr (some (25, 0, 0, 0))), some (.inl 0)], [.inl 1, .inr (some (33, 0, 0, 0)), .inr (some (25, 0, 0, 0)), .inl (-3)], (zx_lay zM0, 308))) rfl ?_
  refine zx_E.sld' (k := 1) (v := a1) rfl rfl (by omega) (by decide) e1 ?_
  show zx_E _ _ _ (331, [some (.inr (some (33, 0, 0, 0))), some (.inr (some (0, 0, 0, 0))), some (.inr (some (25, 0, 0, 0))), some (.inl 0)], [.inl a1, .inr (some (25, 0, 0, 0)), .inl (-3)], (zx_lay zM0, 308)) _
  refine zx_E.call1 (y := 150) (as := [.inr (some (25, 0, 0, 0)), .inl a1]) (rest := [.inl (-3)]) (v := .inl (-3)) (μ' := (zx_lay zM0, 308)) rfl (zx_run_of zc_X11_pass [some (.inr (some (25, 0, 0, 0))), some (.inl a1), none] rfl rfl (by
    refine zx_E.go 3 (s' := (5, [some (.inr (some (25, 0, 0, 0))), some (.inl a1), none], [.inl 1, .inr (some (26, 0, 0, 0))], (zx_lay zM0, 308))) rfl ?_
    refine zx_E.iald' (k := 1) (h := (26, 0, 0, 0)) (v := 0) rfl rfl rfl (by decide) rfl ?_
    show zx_E _ _ _ (6, [some (.inr (some (25, 0, 0, 0))), some (.inl a1), none], [.inl 0], (zx_lay zM0, 308)) _
    refine zx_E.bt (c := 0 = 0) (s1 := (9, [some (.inr (some (25, 0, 0, 0))), some (.inl a1), none], [], (zx_lay zM0, 308))) (s2 := (12, [some (.inr (some (25, 0, 0, 0))), some (.inl a1), none], [], (zx_lay zM0, 308))) rfl (by decide) ?_
    refine zx_E.go 1 (s' := (11, [some (.inr (some (25, 0, 0, 0))), some (.inl a1), none], [.inl (-3)], (zx_lay zM0, 308))) rfl ?_
    exact zx_E.iret rfl (fun h => absurd h (by decide)) rfl)) ?_
  show zx_E _ _ _ (334, [some (.inr (some (33, 0, 0, 0))), some (.inr (some (0, 0, 0, 0))), some (.inr (some (25, 0, 0, 0))), some (.inl 0)], [.inl (-3), .inl (-3)], (zx_lay zM0, 308)) _
  refine zx_E.bt (c := (-3) = (-3)) (s1 := (734, [some (.inr (some (33, 0, 0, 0))), some (.inr (some (0, 0, 0, 0))), some (.inr (some (25, 0, 0, 0))), some (.inl 0)], [], (zx_lay zM0, 308))) (s2 := (337, [some (.inr (some (33, 0, 0, 0))), some (.inr (some (0, 0, 0, 0))), some (.inr (some (25, 0, 0, 0))), some (.inl 0)], [], (zx_lay zM0, 308))) rfl (by decide) ?_
  refine zx_E.go 6 (s' := (23, [some (.inr (some (33, 0, 0, 0))), some (.inr (some (0, 0, 0, 0))), some (.inr (some (25, 0, 0, 0))), some (.inl 7)], [.inl 7, .inl 7, .inl 7], (zx_lay zM0, 308))) rfl ?_
  refine zx_E.go 1 (s' := (24, [some (.inr (some (33, 0, 0, 0))), some (.inr (some (0, 0, 0, 0))), some (.inr (some (25, 0, 0, 0))), some (.inl 7)], [.inl 0, .inl 7], (zx_lay zM0, 308))) rfl ?_
  refine zx_E.bt (c := 0 < 7) (s1 := (740, [some (.inr (some (33, 0, 0, 0))), some (.inr (some (0, 0, 0, 0))), some (.inr (some (25, 0, 0, 0))), some (.inl 7)], [], (zx_lay zM0, 308))) (s2 := (27, [some (.inr (some (33, 0, 0, 0))), some (.inr (some (0, 0, 0, 0))), some (.inr (some (25, 0, 0, 0))), some (.inl 7)], [], (zx_lay zM0, 308))) rfl (by decide) ?_
  refine zx_E.go 1 (s' := (741, [some (.inr (some (33, 0, 0, 0))), some (.inr (some (0, 0, 0, 0))), some (.inr (some (25, 0, 0, 0))), some (.inl 7)], [.inl 1], (zx_lay zM0, 308))) rfl ?_
  exact zx_E.iret rfl (fun _ => Or.inr rfl) rfl
set_option maxRecDepth 100000 in
set_option maxHeartbeats 4000000 in
theorem p1_op_12 {xs : Nat → Int32} {a0 a1 a2 a3 a4 a5 a6 : Int32} (e0 : xs 0 = a0) (e1 : xs 1 = a1) (e2 : xs 2 = a2) (e3 : xs 3 = a3) (e4 : xs 4 = a4) (e5 : xs 5 = a5) (e6 : xs 6 = a6) (hk : (a0 &&& 31) = 12) :
    ∃ μ : zx_M, μ.2 ≤ 308 ∧ zx_E (7, xs) 11 zc_L_law (18, [some (.inr (some (33, 0, 0, 0))), some (.inr (some (0, 0, 0, 0))), some (.inr (some (25, 0, 0, 0))), some (.inl 0)], [], (zx_lay zM0, 308)) (some (.inl 1), μ) := by
  refine ⟨(zx_lay zM0, 308), Nat.le_refl _, ?_⟩
  refine zx_E.go 4 (s' := (23, [some (.inr (some (33, 0, 0, 0))), some (.inr (some (0, 0, 0, 0))), some (.inr (some (25, 0, 0, 0))), some (.inl 0)], [.inl 7, .inl 7, .inl 0], (zx_lay zM0, 308))) rfl ?_
  refine zx_E.go 1 (s' := (24, [some (.inr (some (33, 0, 0, 0))), some (.inr (some (0, 0, 0, 0))), some (.inr (some (25, 0, 0, 0))), some (.inl 0)], [.inl 0, .inl 0], (zx_lay zM0, 308))) rfl ?_
  refine zx_E.bf (c := 0 < 0) (s1 := (740, [some (.inr (some (33, 0, 0, 0))), some (.inr (some (0, 0, 0, 0))), some (.inr (some (25, 0, 0, 0))), some (.inl 0)], [], (zx_lay zM0, 308))) (s2 := (27, [some (.inr (some (33, 0, 0, 0))), some (.inr (some (0, 0, 0, 0))), some (.inr (some (25, 0, 0, 0))), some (.inl 0)], [], (zx_lay zM0, 308))) rfl (by decide) ?_
  refine zx_E.go 2 (s' := (29, [some (.inr (some (33, 0, 0, 0))), some (.inr (some (0, 0, 0, 0))), some (.inr (some (25, 0, 0, 0))), some (.inl 0)], [.inl 0, .inr (some (33, 0, 0, 0))], (zx_lay zM0, 308))) rfl ?_
  refine zx_E.sld' (k := 0) (v := a0) rfl rfl (by omega) (by decide) e0 ?_
  show zx_E _ _ _ (30, [some (.inr (some (33, 0, 0, 0))), some (.inr (some (0, 0, 0, 0))), some (.inr (some (25, 0, 0, 0))), some (.inl 0)], [.inl a0], (zx_lay zM0, 308)) _
  refine zx_E.go 2 (s' := (33, [some (.inr (some (33, 0, 0, 0))), some (.inr (some (0, 0, 0, 0))), some (.inr (some (25, 0, 0, 0))), some (.inl 0)], [.inl (a0 &&& 31)], (zx_lay zM0, 308))) rfl ?_
  refine zx_E.one (s' := (zx_pick (a0 &&& 31) 0 [136, 211, 224, 247, 270, 293, 316, 339, 372, 405, 438, 471, 494, 517, 560, 573, 606, 639, 652, 685, 698, 711] 734, [some (.inr (some (33, 0, 0, 0))), some (.inr (some (0, 0, 0, 0))), some (.inr (some (25, 0, 0, 0))), some (.inl 0)], [], (zx_lay zM0, 308))) rfl ?_
  refine zx_E.pick (k' := 1) (by decide) (fun hn => absurd hn (fun q => absurd (hk.symm.trans q) (by decide))) (fun _ => ?_)
  refine zx_E.pick (k' := 2) (by decide) (fun hn => absurd hn (fun q => absurd (hk.symm.trans q) (by decide))) (fun _ => ?_)
  refine zx_E.pick (k' := 3) (by decide) (fun hn => absurd hn (fun q => absurd (hk.symm.trans q) (by decide))) (fun _ => ?_)
  refine zx_E.pick (k' := 4) (by decide) (fun hn => absurd hn (fun q => absurd (hk.symm.trans q) (by decide))) (fun _ => ?_)
  refine zx_E.pick (k' := 5) (by decide) (fun hn => absurd hn (fun q => absurd (hk.symm.trans q) (by decide))) (fun _ => ?_)
  refine zx_E.pick (k' := 6) (by decide) (fun hn => absurd hn (fun q => absurd (hk.symm.trans q) (by decide))) (fun _ => ?_)
  refine zx_E.pick (k' := 7) (by decide) (fun hn => absurd hn (fun q => absurd (hk.symm.trans q) (by decide))) (fun _ => ?_)
  refine zx_E.pick (k' := 8) (by decide) (fun hn => absurd hn (fun q => absurd (hk.symm.trans q) (by decide))) (fun _ => ?_)
  refine zx_E.pick (k' := 9) (by decide) (fun hn => absurd hn (fun q => absurd (hk.symm.trans q) (by decide))) (fun _ => ?_)
  refine zx_E.pick (k' := 10) (by decide) (fun hn => absurd hn (fun q => absurd (hk.symm.trans q) (by decide))) (fun _ => ?_)
  refine zx_E.pick (k' := 11) (by decide) (fun hn => absurd hn (fun q => absurd (hk.symm.trans q) (by decide))) (fun _ => ?_)
  refine zx_E.pick (k' := 12) (by decide) (fun hn => absurd hn (fun q => absurd (hk.symm.trans q) (by decide))) (fun _ => ?_)
  refine zx_E.pick (k' := 13) (by decide) (fun _ => ?_) (fun hn => absurd hk hn)
  refine zx_E.go 5 (s' := (499, [some (.inr (some (33, 0, 0, 0))), some (.inr (some (0, 0, 0, 0))), some (.inr (some (25, 0, 0, 0))), some (.inl 0)], [.inl 1, .inr (some (33, 0, 0, 0)), .inr (some (0, 0, 0, 0))], (zx_lay zM0, 308))) rfl ?_
  refine zx_E.sld' (k := 1) (v := a1) rfl rfl (by omega) (by decide) e1 ?_
  show zx_E _ _ _ (500, [some (.inr (some (33, 0, 0, 0))), some (.inr (some (0, 0, 0, 0))), some (.inr (some (25, 0, 0, 0))), some (.inl 0)], [.inl a1, .inr (some (0, 0, 0, 0))], (zx_lay zM0, 308)) _
  refine zx_E.call1 (y := 106) (as := [.inr (some (0, 0, 0, 0)), .inl a1]) (rest := []) (v := .inl (-3)) (μ' := (zx_lay zM0, 308)) rfl (zx_run_of zc_X10_plan [some (.inr (some (0, 0, 0, 0))), some (.inl a1)] rfl rfl (by
    refine zx_E.go 2 (s' := (4, [some (.inr (some (0, 0, 0, 0))), some (.inl a1)], [.inr (some (1, 0, 0, 0))], (zx_lay zM0, 308))) rfl ?_
    refine zx_E.call1 (y := 15) (as := [.inr (some (1, 0, 0, 0))]) (rest := []) (v := .inl 0) (μ' := (zx_lay zM0, 308)) rfl (zx_run_of zc_X2_exists [some (.inr (some (1, 0, 0, 0)))] rfl rfl (by
      refine zx_E.go 2 (s' := (4, [some (.inr (some (1, 0, 0, 0)))], [.inl 0], (zx_lay zM0, 308))) rfl ?_
      refine zx_E.bt (c := 0 ≤ 0) (s1 := (11, [some (.inr (some (1, 0, 0, 0)))], [], (zx_lay zM0, 308))) (s2 := (7, [some (.inr (some (1, 0, 0, 0)))], [], (zx_lay zM0, 308))) rfl (by decide) ?_
      refine zx_E.go 1 (s' := (12, [some (.inr (some (1, 0, 0, 0)))], [.inl 0], (zx_lay zM0, 308))) rfl ?_
      exact zx_E.iret rfl (fun _ => Or.inl rfl) rfl)) ?_
    show zx_E _ _ _ (7, [some (.inr (some (0, 0, 0, 0))), some (.inl a1)], [.inl 0], (zx_lay zM0, 308)) _
    refine zx_E.bt (c := 0 = 0) (s1 := (10, [some (.inr (some (0, 0, 0, 0))), some (.inl a1)], [], (zx_lay zM0, 308))) (s2 := (13, [some (.inr (some (0, 0, 0, 0))), some (.inl a1)], [], (zx_lay zM0, 308))) rfl (by decide) ?_
    refine zx_E.go 1 (s' := (12, [some (.inr (some (0, 0, 0, 0))), some (.inl a1)], [.inl (-3)], (zx_lay zM0, 308))) rfl ?_
    exact zx_E.iret rfl (fun h => absurd h (by decide)) rfl)) ?_
  show zx_E _ _ _ (503, [some (.inr (some (33, 0, 0, 0))), some (.inr (some (0, 0, 0, 0))), some (.inr (some (25, 0, 0, 0))), some (.inl 0)], [.inl (-3)], (zx_lay zM0, 308)) _
  refine zx_E.go 5 (s' := (508, [some (.inr (some (33, 0, 0, 0))), some (.inr (some (0, 0, 0, 0))), some (.inr (some (25, 0, 0, 0))), some (.inl 0)], [.inl 1, .inr (some (33, 0, 0, 0)), .inr (some (25, 0, 0, 0)), .inl (-3)], (zx_lay zM0, 308))) rfl ?_
  refine zx_E.sld' (k := 1) (v := a1) rfl rfl (by omega) (by decide) e1 ?_
  show zx_E _ _ _ (509, [some (.inr (some (33, 0, 0, 0))), some (.inr (some (0, 0, 0, 0))), some (.inr (some (25, 0, 0, 0))), some (.inl 0)], [.inl a1, .inr (some (25, 0, 0, 0)), .inl (-3)], (zx_lay zM0, 308)) _
  refine zx_E.call1 (y := 185) (as := [.inr (some (25, 0, 0, 0)), .inl a1]) (rest := [.inl (-3)]) (v := .inl (-3)) (μ' := (zx_lay zM0, 308)) rfl (zx_run_of zc_X11_plan [some (.inr (some (25, 0, 0, 0))), some (.inl a1), none, none, none, none, none] rfl rfl (by
    refine zx_E.go 3 (s' := (5, [some (.inr (some (25, 0, 0, 0))), some (.inl a1), none, none, none, none, none], [.inl 1, .inr (some (26, 0, 0, 0))], (zx_lay zM0, 308))) rfl ?_
    refine zx_E.iald' (k := 1) (h := (26, 0, 0, 0)) (v := 0) rfl rfl rfl (by decide) rfl ?_
    show zx_E _ _ _ (6, [some (.inr (some (25, 0, 0, 0))), some (.inl a1), none, none, none, none, none], [.inl 0], (zx_lay zM0, 308)) _
    refine zx_E.bt (c := 0 = 0) (s1 := (9, [some (.inr (some (25, 0, 0, 0))), some (.inl a1), none, none, none, none, none], [], (zx_lay zM0, 308))) (s2 := (12, [some (.inr (some (25, 0, 0, 0))), some (.inl a1), none, none, none, none, none], [], (zx_lay zM0, 308))) rfl (by decide) ?_
    refine zx_E.go 1 (s' := (11, [some (.inr (some (25, 0, 0, 0))), some (.inl a1), none, none, none, none, none], [.inl (-3)], (zx_lay zM0, 308))) rfl ?_
    exact zx_E.iret rfl (fun h => absurd h (by decide)) rfl)) ?_
  show zx_E _ _ _ (512, [some (.inr (some (33, 0, 0, 0))), some (.inr (some (0, 0, 0, 0))), some (.inr (some (25, 0, 0, 0))), some (.inl 0)], [.inl (-3), .inl (-3)], (zx_lay zM0, 308)) _
  refine zx_E.bt (c := (-3) = (-3)) (s1 := (734, [some (.inr (some (33, 0, 0, 0))), some (.inr (some (0, 0, 0, 0))), some (.inr (some (25, 0, 0, 0))), some (.inl 0)], [], (zx_lay zM0, 308))) (s2 := (515, [some (.inr (some (33, 0, 0, 0))), some (.inr (some (0, 0, 0, 0))), some (.inr (some (25, 0, 0, 0))), some (.inl 0)], [], (zx_lay zM0, 308))) rfl (by decide) ?_
  refine zx_E.go 6 (s' := (23, [some (.inr (some (33, 0, 0, 0))), some (.inr (some (0, 0, 0, 0))), some (.inr (some (25, 0, 0, 0))), some (.inl 7)], [.inl 7, .inl 7, .inl 7], (zx_lay zM0, 308))) rfl ?_
  refine zx_E.go 1 (s' := (24, [some (.inr (some (33, 0, 0, 0))), some (.inr (some (0, 0, 0, 0))), some (.inr (some (25, 0, 0, 0))), some (.inl 7)], [.inl 0, .inl 7], (zx_lay zM0, 308))) rfl ?_
  refine zx_E.bt (c := 0 < 7) (s1 := (740, [some (.inr (some (33, 0, 0, 0))), some (.inr (some (0, 0, 0, 0))), some (.inr (some (25, 0, 0, 0))), some (.inl 7)], [], (zx_lay zM0, 308))) (s2 := (27, [some (.inr (some (33, 0, 0, 0))), some (.inr (some (0, 0, 0, 0))), some (.inr (some (25, 0, 0, 0))), some (.inl 7)], [], (zx_lay zM0, 308))) rfl (by decide) ?_
  refine zx_E.go 1 (s' := (741, [some (.inr (some (33, 0, 0, 0))), some (.inr (some (0, 0, 0, 0))), some (.inr (some (25, 0, 0, 0))), some (.inl 7)], [.inl 1], (zx_lay zM0, 308))) rfl ?_
  exact zx_E.iret rfl (fun _ => Or.inr rfl) rfl
set_option maxRecDepth 100000 in
set_option maxHeartbeats 4000000 in
theorem p1_op_14 {xs : Nat → Int32} {a0 a1 a2 a3 a4 a5 a6 : Int32} (e0 : xs 0 = a0) (e1 : xs 1 = a1) (e2 : xs 2 = a2) (e3 : xs 3 = a3) (e4 : xs 4 = a4) (e5 : xs 5 = a5) (e6 : xs 6 = a6) (hk : (a0 &&& 31) = 14) :
    ∃ μ : zx_M, μ.2 ≤ 308 ∧ zx_E (7, xs) 11 zc_L_law (18, [some (.inr (some (33, 0, 0, 0))), some (.inr (some (0, 0, 0, 0))), some (.inr (some (25, 0, 0, 0))), some (.inl 0)], [], (zx_lay zM0, 308)) (some (.inl 1), μ) := by
  refine ⟨(zx_lay zM0, 308), Nat.le_refl _, ?_⟩
  refine zx_E.go 4 (s' := (23, [some (.inr (some (33, 0, 0, 0))), some (.inr (some (0, 0, 0, 0))), some (.inr (some (25, 0, 0, 0))), some (.inl 0)], [.inl 7, .inl 7, .inl 0], (zx_lay zM0, 308))) rfl ?_
  refine zx_E.go 1 (s' := (24, [some (.inr (some (33, 0, 0, 0))), some (.inr (some (0, 0, 0, 0))), some (.inr (some (25, 0, 0, 0))), some (.inl 0)], [.inl 0, .inl 0], (zx_lay zM0, 308))) rfl ?_
  refine zx_E.bf (c := 0 < 0) (s1 := (740, [some (.inr (some (33, 0, 0, 0))), some (.inr (some (0, 0, 0, 0))), some (.inr (some (25, 0, 0, 0))), some (.inl 0)], [], (zx_lay zM0, 308))) (s2 := (27, [some (.inr (some (33, 0, 0, 0))), some (.inr (some (0, 0, 0, 0))), some (.inr (some (25, 0, 0, 0))), some (.inl 0)], [], (zx_lay zM0, 308))) rfl (by decide) ?_
  refine zx_E.go 2 (s' := (29, [some (.inr (some (33, 0, 0, 0))), some (.inr (some (0, 0, 0, 0))), some (.inr (some (25, 0, 0, 0))), some (.inl 0)], [.inl 0, .inr (some (33, 0, 0, 0))], (zx_lay zM0, 308))) rfl ?_
  refine zx_E.sld' (k := 0) (v := a0) rfl rfl (by omega) (by decide) e0 ?_
  show zx_E _ _ _ (30, [some (.inr (some (33, 0, 0, 0))), some (.inr (some (0, 0, 0, 0))), some (.inr (some (25, 0, 0, 0))), some (.inl 0)], [.inl a0], (zx_lay zM0, 308)) _
  refine zx_E.go 2 (s' := (33, [some (.inr (some (33, 0, 0, 0))), some (.inr (some (0, 0, 0, 0))), some (.inr (some (25, 0, 0, 0))), some (.inl 0)], [.inl (a0 &&& 31)], (zx_lay zM0, 308))) rfl ?_
  refine zx_E.one (s' := (zx_pick (a0 &&& 31) 0 [136, 211, 224, 247, 270, 293, 316, 339, 372, 405, 438, 471, 494, 517, 560, 573, 606, 639, 652, 685, 698, 711] 734, [some (.inr (some (33, 0, 0, 0))), some (.inr (some (0, 0, 0, 0))), some (.inr (some (25, 0, 0, 0))), some (.inl 0)], [], (zx_lay zM0, 308))) rfl ?_
  refine zx_E.pick (k' := 1) (by decide) (fun hn => absurd hn (fun q => absurd (hk.symm.trans q) (by decide))) (fun _ => ?_)
  refine zx_E.pick (k' := 2) (by decide) (fun hn => absurd hn (fun q => absurd (hk.symm.trans q) (by decide))) (fun _ => ?_)
  refine zx_E.pick (k' := 3) (by decide) (fun hn => absurd hn (fun q => absurd (hk.symm.trans q) (by decide))) (fun _ => ?_)
  refine zx_E.pick (k' := 4) (by decide) (fun hn => absurd hn (fun q => absurd (hk.symm.trans q) (by decide))) (fun _ => ?_)
  refine zx_E.pick (k' := 5) (by decide) (fun hn => absurd hn (fun q => absurd (hk.symm.trans q) (by decide))) (fun _ => ?_)
  refine zx_E.pick (k' := 6) (by decide) (fun hn => absurd hn (fun q => absurd (hk.symm.trans q) (by decide))) (fun _ => ?_)
  refine zx_E.pick (k' := 7) (by decide) (fun hn => absurd hn (fun q => absurd (hk.symm.trans q) (by decide))) (fun _ => ?_)
  refine zx_E.pick (k' := 8) (by decide) (fun hn => absurd hn (fun q => absurd (hk.symm.trans q) (by decide))) (fun _ => ?_)
  refine zx_E.pick (k' := 9) (by decide) (fun hn => absurd hn (fun q => absurd (hk.symm.trans q) (by decide))) (fun _ => ?_)
  refine zx_E.pick (k' := 10) (by decide) (fun hn => absurd hn (fun q => absurd (hk.symm.trans q) (by decide))) (fun _ => ?_)
  refine zx_E.pick (k' := 11) (by decide) (fun hn => absurd hn (fun q => absurd (hk.symm.trans q) (by decide))) (fun _ => ?_)
  refine zx_E.pick (k' := 12) (by decide) (fun hn => absurd hn (fun q => absurd (hk.symm.trans q) (by decide))) (fun _ => ?_)
  refine zx_E.pick (k' := 13) (by decide) (fun hn => absurd hn (fun q => absurd (hk.symm.trans q) (by decide))) (fun _ => ?_)
  refine zx_E.pick (k' := 14) (by decide) (fun hn => absurd hn (fun q => absurd (hk.symm.trans q) (by decide))) (fun _ => ?_)
  refine zx_E.pick (k' := 15) (by decide) (fun _ => ?_) (fun hn => absurd hk hn)
  refine zx_E.go 1 (s' := (561, [some (.inr (some (33, 0, 0, 0))), some (.inr (some (0, 0, 0, 0))), some (.inr (some (25, 0, 0, 0))), some (.inl 0)], [.inr (some (0, 0, 0, 0))], (zx_lay zM0, 308))) rfl ?_
  refine zx_E.call1 (y := 108) (as := [.inr (some (0, 0, 0, 0))]) (rest := []) (v := .inl (-5)) (μ' := (zx_lay zM0, 308)) rfl (zx_run_of zc_X10_drift [some (.inr (some (0, 0, 0, 0)))] rfl rfl (by
    refine zx_E.go 3 (s' := (7, [some (.inr (some (0, 0, 0, 0)))], [.inl 0], (zx_lay zM0, 308))) rfl ?_
    refine zx_E.bt (c := 0 = 0) (s1 := (24, [some (.inr (some (0, 0, 0, 0)))], [], (zx_lay zM0, 308))) (s2 := (10, [some (.inr (some (0, 0, 0, 0)))], [], (zx_lay zM0, 308))) rfl (by decide) ?_
    refine zx_E.go 1 (s' := (26, [some (.inr (some (0, 0, 0, 0)))], [.inl (-5)], (zx_lay zM0, 308))) rfl ?_
    exact zx_E.iret rfl (fun h => absurd h (by decide)) rfl)) ?_
  show zx_E _ _ _ (564, [some (.inr (some (33, 0, 0, 0))), some (.inr (some (0, 0, 0, 0))), some (.inr (some (25, 0, 0, 0))), some (.inl 0)], [.inl (-5)], (zx_lay zM0, 308)) _
  refine zx_E.go 1 (s' := (565, [some (.inr (some (33, 0, 0, 0))), some (.inr (some (0, 0, 0, 0))), some (.inr (some (25, 0, 0, 0))), some (.inl 0)], [.inr (some (25, 0, 0, 0)), .inl (-5)], (zx_lay zM0, 308))) rfl ?_
  refine zx_E.call1 (y := 187) (as := [.inr (some (25, 0, 0, 0))]) (rest := [.inl (-5)]) (v := .inl (-5)) (μ' := (zx_lay zM0, 308)) rfl (zx_run_of zc_X11_drift [some (.inr (some (25, 0, 0, 0))), none, none, none, none, none, none, none, none] rfl rfl (by
    refine zx_E.go 3 (s' := (7, [some (.inr (some (25, 0, 0, 0))), none, none, none, none, none, none, none, none], [.inl 476, .inr (some (26, 0, 0, 0))], (zx_lay zM0, 308))) rfl ?_
    refine zx_E.iald' (k := 476) (h := (26, 0, 0, 0)) (v := 0) rfl rfl rfl (by decide) rfl ?_
    show zx_E _ _ _ (8, [some (.inr (some (25, 0, 0, 0))), none, none, none, none, none, none, none, none], [.inl 0], (zx_lay zM0, 308)) _
    refine zx_E.bt (c := 0 = 0) (s1 := (11, [some (.inr (some (25, 0, 0, 0))), none, none, none, none, none, none, none, none], [], (zx_lay zM0, 308))) (s2 := (14, [some (.inr (some (25, 0, 0, 0))), none, none, none, none, none, none, none, none], [], (zx_lay zM0, 308))) rfl (by decide) ?_
    refine zx_E.go 1 (s' := (13, [some (.inr (some (25, 0, 0, 0))), none, none, none, none, none, none, none, none], [.inl (-5)], (zx_lay zM0, 308))) rfl ?_
    exact zx_E.iret rfl (fun h => absurd h (by decide)) rfl)) ?_
  show zx_E _ _ _ (568, [some (.inr (some (33, 0, 0, 0))), some (.inr (some (0, 0, 0, 0))), some (.inr (some (25, 0, 0, 0))), some (.inl 0)], [.inl (-5), .inl (-5)], (zx_lay zM0, 308)) _
  refine zx_E.bt (c := (-5) = (-5)) (s1 := (734, [some (.inr (some (33, 0, 0, 0))), some (.inr (some (0, 0, 0, 0))), some (.inr (some (25, 0, 0, 0))), some (.inl 0)], [], (zx_lay zM0, 308))) (s2 := (571, [some (.inr (some (33, 0, 0, 0))), some (.inr (some (0, 0, 0, 0))), some (.inr (some (25, 0, 0, 0))), some (.inl 0)], [], (zx_lay zM0, 308))) rfl (by decide) ?_
  refine zx_E.go 6 (s' := (23, [some (.inr (some (33, 0, 0, 0))), some (.inr (some (0, 0, 0, 0))), some (.inr (some (25, 0, 0, 0))), some (.inl 7)], [.inl 7, .inl 7, .inl 7], (zx_lay zM0, 308))) rfl ?_
  refine zx_E.go 1 (s' := (24, [some (.inr (some (33, 0, 0, 0))), some (.inr (some (0, 0, 0, 0))), some (.inr (some (25, 0, 0, 0))), some (.inl 7)], [.inl 0, .inl 7], (zx_lay zM0, 308))) rfl ?_
  refine zx_E.bt (c := 0 < 7) (s1 := (740, [some (.inr (some (33, 0, 0, 0))), some (.inr (some (0, 0, 0, 0))), some (.inr (some (25, 0, 0, 0))), some (.inl 7)], [], (zx_lay zM0, 308))) (s2 := (27, [some (.inr (some (33, 0, 0, 0))), some (.inr (some (0, 0, 0, 0))), some (.inr (some (25, 0, 0, 0))), some (.inl 7)], [], (zx_lay zM0, 308))) rfl (by decide) ?_
  refine zx_E.go 1 (s' := (741, [some (.inr (some (33, 0, 0, 0))), some (.inr (some (0, 0, 0, 0))), some (.inr (some (25, 0, 0, 0))), some (.inl 7)], [.inl 1], (zx_lay zM0, 308))) rfl ?_
  exact zx_E.iret rfl (fun _ => Or.inr rfl) rfl
set_option maxRecDepth 100000 in
set_option maxHeartbeats 4000000 in
theorem p1_op_22 {xs : Nat → Int32} {a0 a1 a2 a3 a4 a5 a6 : Int32} (e0 : xs 0 = a0) (e1 : xs 1 = a1) (e2 : xs 2 = a2) (e3 : xs 3 = a3) (e4 : xs 4 = a4) (e5 : xs 5 = a5) (e6 : xs 6 = a6) (hk0 : ¬ (a0 &&& 31) = 0) (hk1 : ¬ (a0 &&& 31) = 1) (hk2 : ¬ (a0 &&& 31) = 2) (hk3 : ¬ (a0 &&& 31) = 3) (hk4 : ¬ (a0 &&& 31) = 4) (hk5 : ¬ (a0 &&& 31) = 5) (hk6 : ¬ (a0 &&& 31) = 6) (hk7 : ¬ (a0 &&& 31) = 7) (hk8 : ¬ (a0 &&& 31) = 8) (hk9 : ¬ (a0 &&& 31) = 9) (hk10 : ¬ (a0 &&& 31) = 10) (hk11 : ¬ (a0 &&& 31) = 11) (hk12 : ¬ (a0 &&& 31) = 12) (hk13 : ¬ (a0 &&& 31) = 13) (hk14 : ¬ (a0 &&& 31) = 14) (hk15 : ¬ (a0 &&& 31) = 15) (hk16 : ¬ (a0 &&& 31) = 16) (hk17 : ¬ (a0 &&& 31) = 17) (hk18 : ¬ (a0 &&& 31) = 18) (hk19 : ¬ (a0 &&& 31) = 19) (hk20 : ¬ (a0 &&& 31) = 20) (hk21 : ¬ (a0 &&& 31) = 21) :
    ∃ μ : zx_M, μ.2 ≤ 308 ∧ zx_E (7, xs) 11 zc_L_law (18, [some (.inr (some (33, 0, 0, 0))), some (.inr (some (0, 0, 0, 0))), some (.inr (some (25, 0, 0, 0))), some (.inl 0)], [], (zx_lay zM0, 308)) (some (.inl 1), μ) := by
  refine ⟨(zx_lay zM0, 308), Nat.le_refl _, ?_⟩
  refine zx_E.go 4 (s' := (23, [some (.inr (some (33, 0, 0, 0))), some (.inr (some (0, 0, 0, 0))), some (.inr (some (25, 0, 0, 0))), some (.inl 0)], [.inl 7, .inl 7, .inl 0], (zx_lay zM0, 308))) rfl ?_
  refine zx_E.go 1 (s' := (24, [some (.inr (some (33, 0, 0, 0))), some (.inr (some (0, 0, 0, 0))), some (.inr (some (25, 0, 0, 0))), some (.inl 0)], [.inl 0, .inl 0], (zx_lay zM0, 308))) rfl ?_
  refine zx_E.bf (c := 0 < 0) (s1 := (740, [some (.inr (some (33, 0, 0, 0))), some (.inr (some (0, 0, 0, 0))), some (.inr (some (25, 0, 0, 0))), some (.inl 0)], [], (zx_lay zM0, 308))) (s2 := (27, [some (.inr (some (33, 0, 0, 0))), some (.inr (some (0, 0, 0, 0))), some (.inr (some (25, 0, 0, 0))), some (.inl 0)], [], (zx_lay zM0, 308))) rfl (by decide) ?_
  refine zx_E.go 2 (s' := (29, [some (.inr (some (33, 0, 0, 0))), some (.inr (some (0, 0, 0, 0))), some (.inr (some (25, 0, 0, 0))), some (.inl 0)], [.inl 0, .inr (some (33, 0, 0, 0))], (zx_lay zM0, 308))) rfl ?_
  refine zx_E.sld' (k := 0) (v := a0) rfl rfl (by omega) (by decide) e0 ?_
  show zx_E _ _ _ (30, [some (.inr (some (33, 0, 0, 0))), some (.inr (some (0, 0, 0, 0))), some (.inr (some (25, 0, 0, 0))), some (.inl 0)], [.inl a0], (zx_lay zM0, 308)) _
  refine zx_E.go 2 (s' := (33, [some (.inr (some (33, 0, 0, 0))), some (.inr (some (0, 0, 0, 0))), some (.inr (some (25, 0, 0, 0))), some (.inl 0)], [.inl (a0 &&& 31)], (zx_lay zM0, 308))) rfl ?_
  refine zx_E.one (s' := (zx_pick (a0 &&& 31) 0 [136, 211, 224, 247, 270, 293, 316, 339, 372, 405, 438, 471, 494, 517, 560, 573, 606, 639, 652, 685, 698, 711] 734, [some (.inr (some (33, 0, 0, 0))), some (.inr (some (0, 0, 0, 0))), some (.inr (some (25, 0, 0, 0))), some (.inl 0)], [], (zx_lay zM0, 308))) rfl ?_
  refine zx_E.pick (k' := 1) (by decide) (fun hn => absurd hn hk0) (fun _ => ?_)
  refine zx_E.pick (k' := 2) (by decide) (fun hn => absurd hn hk1) (fun _ => ?_)
  refine zx_E.pick (k' := 3) (by decide) (fun hn => absurd hn hk2) (fun _ => ?_)
  refine zx_E.pick (k' := 4) (by decide) (fun hn => absurd hn hk3) (fun _ => ?_)
  refine zx_E.pick (k' := 5) (by decide) (fun hn => absurd hn hk4) (fun _ => ?_)
  refine zx_E.pick (k' := 6) (by decide) (fun hn => absurd hn hk5) (fun _ => ?_)
  refine zx_E.pick (k' := 7) (by decide) (fun hn => absurd hn hk6) (fun _ => ?_)
  refine zx_E.pick (k' := 8) (by decide) (fun hn => absurd hn hk7) (fun _ => ?_)
  refine zx_E.pick (k' := 9) (by decide) (fun hn => absurd hn hk8) (fun _ => ?_)
  refine zx_E.pick (k' := 10) (by decide) (fun hn => absurd hn hk9) (fun _ => ?_)
  refine zx_E.pick (k' := 11) (by decide) (fun hn => absurd hn hk10) (fun _ => ?_)
  refine zx_E.pick (k' := 12) (by decide) (fun hn => absurd hn hk11) (fun _ => ?_)
  refine zx_E.pick (k' := 13) (by decide) (fun hn => absurd hn hk12) (fun _ => ?_)
  refine zx_E.pick (k' := 14) (by decide) (fun hn => absurd hn hk13) (fun _ => ?_)
  refine zx_E.pick (k' := 15) (by decide) (fun hn => absurd hn hk14) (fun _ => ?_)
  refine zx_E.pick (k' := 16) (by decide) (fun hn => absurd hn hk15) (fun _ => ?_)
  refine zx_E.pick (k' := 17) (by decide) (fun hn => absurd hn hk16) (fun _ => ?_)
  refine zx_E.pick (k' := 18) (by decide) (fun hn => absurd hn hk17) (fun _ => ?_)
  refine zx_E.pick (k' := 19) (by decide) (fun hn => absurd hn hk18) (fun _ => ?_)
  refine zx_E.pick (k' := 20) (by decide) (fun hn => absurd hn hk19) (fun _ => ?_)
  refine zx_E.pick (k' := 21) (by decide) (fun hn => absurd hn hk20) (fun _ => ?_)
  refine zx_E.pick (k' := 22) (by decide) (fun hn => absurd hn hk21) (fun _ => ?_)
  show zx_E _ _ _ (734, [some (.inr (some (33, 0, 0, 0))), some (.inr (some (0, 0, 0, 0))), some (.inr (some (25, 0, 0, 0))), some (.inl 0)], [], (zx_lay zM0, 308)) _
  refine zx_E.go 6 (s' := (23, [some (.inr (some (33, 0, 0, 0))), some (.inr (some (0, 0, 0, 0))), some (.inr (some (25, 0, 0, 0))), some (.inl 7)], [.inl 7, .inl 7, .inl 7], (zx_lay zM0, 308))) rfl ?_
  refine zx_E.go 1 (s' := (24, [some (.inr (some (33, 0, 0, 0))), some (.inr (some (0, 0, 0, 0))), some (.inr (some (25, 0, 0, 0))), some (.inl 7)], [.inl 0, .inl 7], (zx_lay zM0, 308))) rfl ?_
  refine zx_E.bt (c := 0 < 7) (s1 := (740, [some (.inr (some (33, 0, 0, 0))), some (.inr (some (0, 0, 0, 0))), some (.inr (some (25, 0, 0, 0))), some (.inl 7)], [], (zx_lay zM0, 308))) (s2 := (27, [some (.inr (some (33, 0, 0, 0))), some (.inr (some (0, 0, 0, 0))), some (.inr (some (25, 0, 0, 0))), some (.inl 7)], [], (zx_lay zM0, 308))) rfl (by decide) ?_
  refine zx_E.go 1 (s' := (741, [some (.inr (some (33, 0, 0, 0))), some (.inr (some (0, 0, 0, 0))), some (.inr (some (25, 0, 0, 0))), some (.inl 7)], [.inl 1], (zx_lay zM0, 308))) rfl ?_
  exact zx_E.iret rfl (fun _ => Or.inr rfl) rfl
set_option maxRecDepth 100000 in
set_option maxHeartbeats 4000000 in
theorem p1_op_3 {xs : Nat → Int32} {a0 a1 a2 a3 a4 a5 a6 : Int32} (e0 : xs 0 = a0) (e1 : xs 1 = a1) (e2 : xs 2 = a2) (e3 : xs 3 = a3) (e4 : xs 4 = a4) (e5 : xs 5 = a5) (e6 : xs 6 = a6) (hk : (a0 &&& 31) = 3) :
    ∃ μ : zx_M, μ.2 ≤ 308 ∧ zx_E (7, xs) 11 zc_L_law (18, [some (.inr (some (33, 0, 0, 0))), some (.inr (some (0, 0, 0, 0))), some (.inr (some (25, 0, 0, 0))), some (.inl 0)], [], (zx_lay zM0, 308)) (some (.inl 1), μ) := by
  by_cases h1 : a1 < 0
  · skip
    refine ⟨(zx_lay zM0, 308), Nat.le_refl _, ?_⟩
    refine zx_E.go 4 (s' := (23, [some (.inr (some (33, 0, 0, 0))), some (.inr (some (0, 0, 0, 0))), some (.inr (some (25, 0, 0, 0))), some (.inl 0)], [.inl 7, .inl 7, .inl 0], (zx_lay zM0, 308))) rfl ?_
    refine zx_E.go 1 (s' := (24, [some (.inr (some (33, 0, 0, 0))), some (.inr (some (0, 0, 0, 0))), some (.inr (some (25, 0, 0, 0))), some (.inl 0)], [.inl 0, .inl 0], (zx_lay zM0, 308))) rfl ?_
    refine zx_E.bf (c := 0 < 0) (s1 := (740, [some (.inr (some (33, 0, 0, 0))), some (.inr (some (0, 0, 0, 0))), some (.inr (some (25, 0, 0, 0))), some (.inl 0)], [], (zx_lay zM0, 308))) (s2 := (27, [some (.inr (some (33, 0, 0, 0))), some (.inr (some (0, 0, 0, 0))), some (.inr (some (25, 0, 0, 0))), some (.inl 0)], [], (zx_lay zM0, 308))) rfl (by decide) ?_
    refine zx_E.go 2 (s' := (29, [some (.inr (some (33, 0, 0, 0))), some (.inr (some (0, 0, 0, 0))), some (.inr (some (25, 0, 0, 0))), some (.inl 0)], [.inl 0, .inr (some (33, 0, 0, 0))], (zx_lay zM0, 308))) rfl ?_
    refine zx_E.sld' (k := 0) (v := a0) rfl rfl (by omega) (by decide) e0 ?_
    show zx_E _ _ _ (30, [some (.inr (some (33, 0, 0, 0))), some (.inr (some (0, 0, 0, 0))), some (.inr (some (25, 0, 0, 0))), some (.inl 0)], [.inl a0], (zx_lay zM0, 308)) _
    refine zx_E.go 2 (s' := (33, [some (.inr (some (33, 0, 0, 0))), some (.inr (some (0, 0, 0, 0))), some (.inr (some (25, 0, 0, 0))), some (.inl 0)], [.inl (a0 &&& 31)], (zx_lay zM0, 308))) rfl ?_
    refine zx_E.one (s' := (zx_pick (a0 &&& 31) 0 [136, 211, 224, 247, 270, 293, 316, 339, 372, 405, 438, 471, 494, 517, 560, 573, 606, 639, 652, 685, 698, 711] 734, [some (.inr (some (33, 0, 0, 0))), some (.inr (some (0, 0, 0, 0))), some (.inr (some (25, 0, 0, 0))), some (.inl 0)], [], (zx_lay zM0, 308))) rfl ?_
    refine zx_E.pick (k' := 1) (by decide) (fun hn => absurd hn (fun q => absurd (hk.symm.trans q) (by decide))) (fun _ => ?_)
    refine zx_E.pick (k' := 2) (by decide) (fun hn => absurd hn (fun q => absurd (hk.symm.trans q) (by decide))) (fun _ => ?_)
    refine zx_E.pick (k' := 3) (by decide) (fun hn => absurd hn (fun q => absurd (hk.symm.trans q) (by decide))) (fun _ => ?_)
    refine zx_E.pick (k' := 4) (by decide) (fun _ => ?_) (fun hn => absurd hk hn)
    refine zx_E.go 5 (s' := (252, [some (.inr (some (33, 0, 0, 0))), some (.inr (some (0, 0, 0, 0))), some (.inr (some (25, 0, 0, 0))), some (.inl 0)], [.inl 1, .inr (some (33, 0, 0, 0)), .inr (some (0, 0, 0, 0))], (zx_lay zM0, 308))) rfl ?_
    refine zx_E.sld' (k := 1) (v := a1) rfl rfl (by omega) (by decide) e1 ?_
    show zx_E _ _ _ (253, [some (.inr (some (33, 0, 0, 0))), some (.inr (some (0, 0, 0, 0))), some (.inr (some (25, 0, 0, 0))), some (.inl 0)], [.inl a1, .inr (some (0, 0, 0, 0))], (zx_lay zM0, 308)) _
    refine zx_E.call1 (y := 97) (as := [.inr (some (0, 0, 0, 0)), .inl a1]) (rest := []) (v := .inl (-2)) (μ' := (zx_lay zM0, 308)) rfl (zx_run_of zc_X10_relief [some (.inr (some (0, 0, 0, 0))), some (.inl a1), none] rfl rfl (by
      refine zx_E.go 1 (s' := (1, [some (.inr (some (0, 0, 0, 0))), some (.inl a1), none], [.inl a1], (zx_lay zM0, 308))) rfl ?_
      refine zx_E.bt (c := a1 < 0) (s1 := (10, [some (.inr (some (0, 0, 0, 0))), some (.inl a1), none], [], (zx_lay zM0, 308))) (s2 := (4, [some (.inr (some (0, 0, 0, 0))), some (.inl a1), none], [], (zx_lay zM0, 308))) rfl h1 ?_
      refine zx_E.go 1 (s' := (12, [some (.inr (some (0, 0, 0, 0))), some (.inl a1), none], [.inl (-2)], (zx_lay zM0, 308))) rfl ?_
      exact zx_E.iret rfl (fun h => absurd h (by decide)) rfl)) ?_
    show zx_E _ _ _ (256, [some (.inr (some (33, 0, 0, 0))), some (.inr (some (0, 0, 0, 0))), some (.inr (some (25, 0, 0, 0))), some (.inl 0)], [.inl (-2)], (zx_lay zM0, 308)) _
    refine zx_E.go 5 (s' := (261, [some (.inr (some (33, 0, 0, 0))), some (.inr (some (0, 0, 0, 0))), some (.inr (some (25, 0, 0, 0))), some (.inl 0)], [.inl 1, .inr (some (33, 0, 0, 0)), .inr (some (25, 0, 0, 0)), .inl (-2)], (zx_lay zM0, 308))) rfl ?_
    refine zx_E.sld' (k := 1) (v := a1) rfl rfl (by omega) (by decide) e1 ?_
    show zx_E _ _ _ (262, [some (.inr (some (33, 0, 0, 0))), some (.inr (some (0, 0, 0, 0))), some (.inr (some (25, 0, 0, 0))), some (.inl 0)], [.inl a1, .inr (some (25, 0, 0, 0)), .inl (-2)], (zx_lay zM0, 308)) _
    refine zx_E.call1 (y := 173) (as := [.inr (some (25, 0, 0, 0)), .inl a1]) (rest := [.inl (-2)]) (v := .inl (-2)) (μ' := (zx_lay zM0, 308)) rfl (zx_run_of zc_X11_relief [some (.inr (some (25, 0, 0, 0))), some (.inl a1), none] rfl rfl (by
      refine zx_E.go 3 (s' := (4, [some (.inr (some (25, 0, 0, 0))), some (.inl a1), none], [.inl 60, .inl 0, .inl a1], (zx_lay zM0, 308))) rfl ?_
      refine zx_E.call1 (y := 121) (as := [.inl a1, .inl 0, .inl 60]) (rest := []) (v := .inl 0) (μ' := (zx_lay zM0, 308)) rfl (zx_run_of zc_X11_isIn [some (.inl a1), some (.inl 0), some (.inl 60)] rfl rfl (by
        refine zx_E.go 2 (s' := (2, [some (.inl a1), some (.inl 0), some (.inl 60)], [.inl 0, .inl a1], (zx_lay zM0, 308))) rfl ?_
        refine zx_E.bt (c := a1 < 0) (s1 := (14, [some (.inl a1), some (.inl 0), some (.inl 60)], [], (zx_lay zM0, 308))) (s2 := (5, [some (.inl a1), some (.inl 0), some (.inl 60)], [], (zx_lay zM0, 308))) rfl h1 ?_
        refine zx_E.go 1 (s' := (15, [some (.inl a1), some (.inl 0), some (.inl 60)], [.inl 0], (zx_lay zM0, 308))) rfl ?_
        exact zx_E.iret rfl (fun _ => Or.inl rfl) rfl)) ?_
      show zx_E _ _ _ (7, [some (.inr (some (25, 0, 0, 0))), some (.inl a1), none], [.inl 0], (zx_lay zM0, 308)) _
      refine zx_E.bt (c := 0 = 0) (s1 := (10, [some (.inr (some (25, 0, 0, 0))), some (.inl a1), none], [], (zx_lay zM0, 308))) (s2 := (13, [some (.inr (some (25, 0, 0, 0))), some (.inl a1), none], [], (zx_lay zM0, 308))) rfl (by decide) ?_
      refine zx_E.go 1 (s' := (12, [some (.inr (some (25, 0, 0, 0))), some (.inl a1), none], [.inl (-2)], (zx_lay zM0, 308))) rfl ?_
      exact zx_E.iret rfl (fun h => absurd h (by decide)) rfl)) ?_
    show zx_E _ _ _ (265, [some (.inr (some (33, 0, 0, 0))), some (.inr (some (0, 0, 0, 0))), some (.inr (some (25, 0, 0, 0))), some (.inl 0)], [.inl (-2), .inl (-2)], (zx_lay zM0, 308)) _
    refine zx_E.bt (c := (-2) = (-2)) (s1 := (734, [some (.inr (some (33, 0, 0, 0))), some (.inr (some (0, 0, 0, 0))), some (.inr (some (25, 0, 0, 0))), some (.inl 0)], [], (zx_lay zM0, 308))) (s2 := (268, [some (.inr (some (33, 0, 0, 0))), some (.inr (some (0, 0, 0, 0))), some (.inr (some (25, 0, 0, 0))), some (.inl 0)], [], (zx_lay zM0, 308))) rfl (by decide) ?_
    refine zx_E.go 6 (s' := (23, [some (.inr (some (33, 0, 0, 0))), some (.inr (some (0, 0, 0, 0))), some (.inr (some (25, 0, 0, 0))), some (.inl 7)], [.inl 7, .inl 7, .inl 7], (zx_lay zM0, 308))) rfl ?_
    refine zx_E.go 1 (s' := (24, [some (.inr (some (33, 0, 0, 0))), some (.inr (some (0, 0, 0, 0))), some (.inr (some (25, 0, 0, 0))), some (.inl 7)], [.inl 0, .inl 7], (zx_lay zM0, 308))) rfl ?_
    refine zx_E.bt (c := 0 < 7) (s1 := (740, [some (.inr (some (33, 0, 0, 0))), some (.inr (some (0, 0, 0, 0))), some (.inr (some (25, 0, 0, 0))), some (.inl 7)], [], (zx_lay zM0, 308))) (s2 := (27, [some (.inr (some (33, 0, 0, 0))), some (.inr (some (0, 0, 0, 0))), some (.inr (some (25, 0, 0, 0))), some (.inl 7)], [], (zx_lay zM0, 308))) rfl (by decide) ?_
    refine zx_E.go 1 (s' := (741, [some (.inr (some (33, 0, 0, 0))), some (.inr (some (0, 0, 0, 0))), some (.inr (some (25, 0, 0, 0))), some (.inl 7)], [.inl 1], (zx_lay zM0, 308))) rfl ?_
    exact zx_E.iret rfl (fun _ => Or.inr rfl) rfl
  · skip
    by_cases h2 : a1 ≤ 60
    · skip
      refine ⟨(zx_lay (zx_up (zx_up zM0 (1, 0, 0, 0) 2 a1) (26, 0, 0, 0) 26 a1), 308), Nat.le_refl _, ?_⟩
      refine zx_E.go 4 (s' := (23, [some (.inr (some (33, 0, 0, 0))), some (.inr (some (0, 0, 0, 0))), some (.inr (some (25, 0, 0, 0))), some (.inl 0)], [.inl 7, .inl 7, .inl 0], (zx_lay zM0, 308))) rfl ?_
      refine zx_E.go 1 (s' := (24, [some (.inr (some (33, 0, 0, 0))), some (.inr (some (0, 0, 0, 0))), some (.inr (some (25, 0, 0, 0))), some (.inl 0)], [.inl 0, .inl 0], (zx_lay zM0, 308))) rfl ?_
      refine zx_E.bf (c := 0 < 0) (s1 := (740, [some (.inr (some (33, 0, 0, 0))), some (.inr (some (0, 0, 0, 0))), some (.inr (some (25, 0, 0, 0))), some (.inl 0)], [], (zx_lay zM0, 308))) (s2 := (27, [some (.inr (some (33, 0, 0, 0))), some (.inr (some (0, 0, 0, 0))), some (.inr (some (25, 0, 0, 0))), some (.inl 0)], [], (zx_lay zM0, 308))) rfl (by decide) ?_
      refine zx_E.go 2 (s' := (29, [some (.inr (some (33, 0, 0, 0))), some (.inr (some (0, 0, 0, 0))), some (.inr (some (25, 0, 0, 0))), some (.inl 0)], [.inl 0, .inr (some (33, 0, 0, 0))], (zx_lay zM0, 308))) rfl ?_
      refine zx_E.sld' (k := 0) (v := a0) rfl rfl (by omega) (by decide) e0 ?_
      show zx_E _ _ _ (30, [some (.inr (some (33, 0, 0, 0))), some (.inr (some (0, 0, 0, 0))), some (.inr (some (25, 0, 0, 0))), some (.inl 0)], [.inl a0], (zx_lay zM0, 308)) _
      refine zx_E.go 2 (s' := (33, [some (.inr (some (33, 0, 0, 0))), some (.inr (some (0, 0, 0, 0))), some (.inr (some (25, 0, 0, 0))), some (.inl 0)], [.inl (a0 &&& 31)], (zx_lay zM0, 308))) rfl ?_
      refine zx_E.one (s' := (zx_pick (a0 &&& 31) 0 [136, 211, 224, 247, 270, 293, 316, 339, 372, 405, 438, 471, 494, 517, 560, 573, 606, 639, 652, 685, 698, 711] 734, [some (.inr (some (33, 0, 0, 0))), some (.inr (some (0, 0, 0, 0))), some (.inr (some (25, 0, 0, 0))), some (.inl 0)], [], (zx_lay zM0, 308))) rfl ?_
      refine zx_E.pick (k' := 1) (by decide) (fun hn => absurd hn (fun q => absurd (hk.symm.trans q) (by decide))) (fun _ => ?_)
      refine zx_E.pick (k' := 2) (by decide) (fun hn => absurd hn (fun q => absurd (hk.symm.trans q) (by decide))) (fun _ => ?_)
      refine zx_E.pick (k' := 3) (by decide) (fun hn => absurd hn (fun q => absurd (hk.symm.trans q) (by decide))) (fun _ => ?_)
      refine zx_E.pick (k' := 4) (by decide) (fun _ => ?_) (fun hn => absurd hk hn)
      refine zx_E.go 5 (s' := (252, [some (.inr (some (33, 0, 0, 0))), some (.inr (some (0, 0, 0, 0))), some (.inr (some (25, 0, 0, 0))), some (.inl 0)], [.inl 1, .inr (some (33, 0, 0, 0)), .inr (some (0, 0, 0, 0))], (zx_lay zM0, 308))) rfl ?_
      refine zx_E.sld' (k := 1) (v := a1) rfl rfl (by omega) (by decide) e1 ?_
      show zx_E _ _ _ (253, [some (.inr (some (33, 0, 0, 0))), some (.inr (some (0, 0, 0, 0))), some (.inr (some (25, 0, 0, 0))), some (.inl 0)], [.inl a1, .inr (some (0, 0, 0, 0))], (zx_lay zM0, 308)) _
      refine zx_E.call1 (y := 97) (as := [.inr (some (0, 0, 0, 0)), .inl a1]) (rest := []) (v := .inl 10) (μ' := (zx_lay (zx_up zM0 (1, 0, 0, 0) 2 a1), 308)) rfl (zx_run_of zc_X10_relief [some (.inr (some (0, 0, 0, 0))), some (.inl a1), none] rfl rfl (by
        refine zx_E.go 1 (s' := (1, [some (.inr (some (0, 0, 0, 0))), some (.inl a1), none], [.inl a1], (zx_lay zM0, 308))) rfl ?_
        refine zx_E.bf (c := a1 < 0) (s1 := (10, [some (.inr (some (0, 0, 0, 0))), some (.inl a1), none], [], (zx_lay zM0, 308))) (s2 := (4, [some (.inr (some (0, 0, 0, 0))), some (.inl a1), none], [], (zx_lay zM0, 308))) rfl h1 ?_
        refine zx_E.go 2 (s' := (7, [some (.inr (some (0, 0, 0, 0))), some (.inl a1), none], [.inl 60, .inl a1], (zx_lay zM0, 308))) rfl ?_
        refine zx_E.bt (c := a1 ≤ 60) (s1 := (13, [some (.inr (some (0, 0, 0, 0))), some (.inl a1), none], [], (zx_lay zM0, 308))) (s2 := (10, [some (.inr (some (0, 0, 0, 0))), some (.inl a1), none], [], (zx_lay zM0, 308))) rfl h2 ?_
        refine zx_E.go 7 (s' := (26, [some (.inr (some (0, 0, 0, 0))), some (.inl a1), some (.inl 10)], [.inl a1, .inr (some (1, 0, 0, 0))], (zx_lay zM0, 308))) rfl ?_
        refine zx_E.put (h := (1, 0, 0, 0)) (b := 2) rfl rfl (fun h => absurd h (by decide)) ?_
        show zx_E _ _ _ (29, [some (.inr (some (0, 0, 0, 0))), some (.inl a1), some (.inl 10)], [], (zx_lay (zx_up zM0 (1, 0, 0, 0) 2 a1), 308)) _
        refine zx_E.go 1 (s' := (30, [some (.inr (some (0, 0, 0, 0))), some (.inl a1), some (.inl 10)], [.inl 10], (zx_lay (zx_up zM0 (1, 0, 0, 0) 2 a1), 308))) rfl ?_
        exact zx_E.iret rfl (fun h => absurd h (by decide)) rfl)) ?_
      show zx_E _ _ _ (256, [some (.inr (some (33, 0, 0, 0))), some (.inr (some (0, 0, 0, 0))), some (.inr (some (25, 0, 0, 0))), some (.inl 0)], [.inl 10], (zx_lay (zx_up zM0 (1, 0, 0, 0) 2 a1), 308)) _
      refine zx_E.go 5 (s' := (261, [some (.inr (some (33, 0, 0, 0))), some (.inr (some (0, 0, 0, 0))), some (.inr (some (25, 0, 0, 0))), some (.inl 0)], [.inl 1, .inr (some (33, 0, 0, 0)), .inr (some (25, 0, 0, 0)), .inl 10], (zx_lay (zx_up zM0 (1, 0, 0, 0) 2 a1), 308))) rfl ?_
      refine zx_E.sld' (k := 1) (v := a1) rfl rfl (by omega) (by decide) e1 ?_
      show zx_E _ _ _ (262, [some (.inr (some (33, 0, 0, 0))), some (.inr (some (0, 0, 0, 0))), some (.inr (some (25, 0, 0, 0))), some (.inl 0)], [.inl a1, .inr (some (25, 0, 0, 0)), .inl 10], (zx_lay (zx_up zM0 (1, 0, 0, 0) 2 a1), 308)) _
      refine zx_E.call1 (y := 173) (as := [.inr (some (25, 0, 0, 0)), .inl a1]) (rest := [.inl 10]) (v := .inl 10) (μ' := (zx_lay (zx_up (zx_up zM0 (1, 0, 0, 0) 2 a1) (26, 0, 0, 0) 26 a1), 308)) rfl (zx_run_of zc_X11_relief [some (.inr (some (25, 0, 0, 0))), some (.inl a1), none] rfl rfl (by
        refine zx_E.go 3 (s' := (4, [some (.inr (some (25, 0, 0, 0))), some (.inl a1), none], [.inl 60, .inl 0, .inl a1], (zx_lay (zx_up zM0 (1, 0, 0, 0) 2 a1), 308))) rfl ?_
        refine zx_E.call1 (y := 121) (as := [.inl a1, .inl 0, .inl 60]) (rest := []) (v := .inl 1) (μ' := (zx_lay (zx_up zM0 (1, 0, 0, 0) 2 a1), 308)) rfl (zx_run_of zc_X11_isIn [some (.inl a1), some (.inl 0), some (.inl 60)] rfl rfl (by
          refine zx_E.go 2 (s' := (2, [some (.inl a1), some (.inl 0), some (.inl 60)], [.inl 0, .inl a1], (zx_lay (zx_up zM0 (1, 0, 0, 0) 2 a1), 308))) rfl ?_
          refine zx_E.bf (c := a1 < 0) (s1 := (14, [some (.inl a1), some (.inl 0), some (.inl 60)], [], (zx_lay (zx_up zM0 (1, 0, 0, 0) 2 a1), 308))) (s2 := (5, [some (.inl a1), some (.inl 0), some (.inl 60)], [], (zx_lay (zx_up zM0 (1, 0, 0, 0) 2 a1), 308))) rfl h1 ?_
          refine zx_E.go 2 (s' := (7, [some (.inl a1), some (.inl 0), some (.inl 60)], [.inl 60, .inl a1], (zx_lay (zx_up zM0 (1, 0, 0, 0) 2 a1), 308))) rfl ?_
          refine zx_E.bf (c := 60 < a1) (s1 := (14, [some (.inl a1), some (.inl 0), some (.inl 60)], [], (zx_lay (zx_up zM0 (1, 0, 0, 0) 2 a1), 308))) (s2 := (10, [some (.inl a1), some (.inl 0), some (.inl 60)], [], (zx_lay (zx_up zM0 (1, 0, 0, 0) 2 a1), 308))) rfl (Int32.not_lt.mpr h2) ?_
          refine zx_E.go 2 (s' := (15, [some (.inl a1), some (.inl 0), some (.inl 60)], [.inl 1], (zx_lay (zx_up zM0 (1, 0, 0, 0) 2 a1), 308))) rfl ?_
          exact zx_E.iret rfl (fun _ => Or.inr rfl) rfl)) ?_
        show zx_E _ _ _ (7, [some (.inr (some (25, 0, 0, 0))), some (.inl a1), none], [.inl 1], (zx_lay (zx_up zM0 (1, 0, 0, 0) 2 a1), 308)) _
        refine zx_E.bf (c := 1 = 0) (s1 := (10, [some (.inr (some (25, 0, 0, 0))), some (.inl a1), none], [], (zx_lay (zx_up zM0 (1, 0, 0, 0) 2 a1), 308))) (s2 := (13, [some (.inr (some (25, 0, 0, 0))), some (.inl a1), none], [], (zx_lay (zx_up zM0 (1, 0, 0, 0) 2 a1), 308))) rfl (by decide) ?_
        refine zx_E.go 3 (s' := (19, [some (.inr (some (25, 0, 0, 0))), some (.inl a1), none], [.inl 26, .inr (some (26, 0, 0, 0))], (zx_lay (zx_up zM0 (1, 0, 0, 0) 2 a1), 308))) rfl ?_
        refine zx_E.iald' (k := 26) (h := (26, 0, 0, 0)) (v := 10) rfl rfl rfl (by decide) rfl ?_
        show zx_E _ _ _ (20, [some (.inr (some (25, 0, 0, 0))), some (.inl a1), none], [.inl 10], (zx_lay (zx_up zM0 (1, 0, 0, 0) 2 a1), 308)) _
        refine zx_E.go 5 (s' := (28, [some (.inr (some (25, 0, 0, 0))), some (.inl a1), some (.inl 10)], [.inl a1, .inl 26, .inr (some (26, 0, 0, 0))], (zx_lay (zx_up zM0 (1, 0, 0, 0) 2 a1), 308))) rfl ?_
        refine zx_E.iast (k := 26) (h := (26, 0, 0, 0)) rfl rfl rfl (by decide) ?_
        show zx_E _ _ _ (29, [some (.inr (some (25, 0, 0, 0))), some (.inl a1), some (.inl 10)], [], (zx_lay (zx_up (zx_up zM0 (1, 0, 0, 0) 2 a1) (26, 0, 0, 0) 26 a1), 308)) _
        refine zx_E.go 1 (s' := (30, [some (.inr (some (25, 0, 0, 0))), some (.inl a1), some (.inl 10)], [.inl 10], (zx_lay (zx_up (zx_up zM0 (1, 0, 0, 0) 2 a1) (26, 0, 0, 0) 26 a1), 308))) rfl ?_
        exact zx_E.iret rfl (fun h => absurd h (by decide)) rfl)) ?_
      show zx_E _ _ _ (265, [some (.inr (some (33, 0, 0, 0))), some (.inr (some (0, 0, 0, 0))), some (.inr (some (25, 0, 0, 0))), some (.inl 0)], [.inl 10, .inl 10], (zx_lay (zx_up (zx_up zM0 (1, 0, 0, 0) 2 a1) (26, 0, 0, 0) 26 a1), 308)) _
      refine zx_E.bt (c := 10 = 10) (s1 := (734, [some (.inr (some (33, 0, 0, 0))), some (.inr (some (0, 0, 0, 0))), some (.inr (some (25, 0, 0, 0))), some (.inl 0)], [], (zx_lay (zx_up (zx_up zM0 (1, 0, 0, 0) 2 a1) (26, 0, 0, 0) 26 a1), 308))) (s2 := (268, [some (.inr (some (33, 0, 0, 0))), some (.inr (some (0, 0, 0, 0))), some (.inr (some (25, 0, 0, 0))), some (.inl 0)], [], (zx_lay (zx_up (zx_up zM0 (1, 0, 0, 0) 2 a1) (26, 0, 0, 0) 26 a1), 308))) rfl (by decide) ?_
      refine zx_E.go 6 (s' := (23, [some (.inr (some (33, 0, 0, 0))), some (.inr (some (0, 0, 0, 0))), some (.inr (some (25, 0, 0, 0))), some (.inl 7)], [.inl 7, .inl 7, .inl 7], (zx_lay (zx_up (zx_up zM0 (1, 0, 0, 0) 2 a1) (26, 0, 0, 0) 26 a1), 308))) rfl ?_
      refine zx_E.go 1 (s' := (24, [some (.inr (some (33, 0, 0, 0))), some (.inr (some (0, 0, 0, 0))), some (.inr (some (25, 0, 0, 0))), some (.inl 7)], [.inl 0, .inl 7], (zx_lay (zx_up (zx_up zM0 (1, 0, 0, 0) 2 a1) (26, 0, 0, 0) 26 a1), 308))) rfl ?_
      refine zx_E.bt (c := 0 < 7) (s1 := (740, [some (.inr (some (33, 0, 0, 0))), some (.inr (some (0, 0, 0, 0))), some (.inr (some (25, 0, 0, 0))), some (.inl 7)], [], (zx_lay (zx_up (zx_up zM0 (1, 0, 0, 0) 2 a1) (26, 0, 0, 0) 26 a1), 308))) (s2 := (27, [some (.inr (some (33, 0, 0, 0))), some (.inr (some (0, 0, 0, 0))), some (.inr (some (25, 0, 0, 0))), some (.inl 7)], [], (zx_lay (zx_up (zx_up zM0 (1, 0, 0, 0) 2 a1) (26, 0, 0, 0) 26 a1), 308))) rfl (by decide) ?_
      refine zx_E.go 1 (s' := (741, [some (.inr (some (33, 0, 0, 0))), some (.inr (some (0, 0, 0, 0))), some (.inr (some (25, 0, 0, 0))), some (.inl 7)], [.inl 1], (zx_lay (zx_up (zx_up zM0 (1, 0, 0, 0) 2 a1) (26, 0, 0, 0) 26 a1), 308))) rfl ?_
      exact zx_E.iret rfl (fun _ => Or.inr rfl) rfl
    · skip
      refine ⟨(zx_lay zM0, 308), Nat.le_refl _, ?_⟩
      refine zx_E.go 4 (s' := (23, [some (.inr (some (33, 0, 0, 0))), some (.inr (some (0, 0, 0, 0))), some (.inr (some (25, 0, 0, 0))), some (.inl 0)], [.inl 7, .inl 7, .inl 0], (zx_lay zM0, 308))) rfl ?_
      refine zx_E.go 1 (s' := (24, [some (.inr (some (33, 0, 0, 0))), some (.inr (some (0, 0, 0, 0))), some (.inr (some (25, 0, 0, 0))), some (.inl 0)], [.inl 0, .inl 0], (zx_lay zM0, 308))) rfl ?_
      refine zx_E.bf (c := 0 < 0) (s1 := (740, [some (.inr (some (33, 0, 0, 0))), some (.inr (some (0, 0, 0, 0))), some (.inr (some (25, 0, 0, 0))), some (.inl 0)], [], (zx_lay zM0, 308))) (s2 := (27, [some (.inr (some (33, 0, 0, 0))), some (.inr (some (0, 0, 0, 0))), some (.inr (some (25, 0, 0, 0))), some (.inl 0)], [], (zx_lay zM0, 308))) rfl (by decide) ?_
      refine zx_E.go 2 (s' := (29, [some (.inr (some (33, 0, 0, 0))), some (.inr (some (0, 0, 0, 0))), some (.inr (some (25, 0, 0, 0))), some (.inl 0)], [.inl 0, .inr (some (33, 0, 0, 0))], (zx_lay zM0, 308))) rfl ?_
      refine zx_E.sld' (k := 0) (v := a0) rfl rfl (by omega) (by decide) e0 ?_
      show zx_E _ _ _ (30, [some (.inr (some (33, 0, 0, 0))), some (.inr (some (0, 0, 0, 0))), some (.inr (some (25, 0, 0, 0))), some (.inl 0)], [.inl a0], (zx_lay zM0, 308)) _
      refine zx_E.go 2 (s' := (33, [some (.inr (some (33, 0, 0, 0))), some (.inr (some (0, 0, 0, 0))), some (.inr (some (25, 0, 0, 0))), some (.inl 0)], [.inl (a0 &&& 31)], (zx_lay zM0, 308))) rfl ?_
      refine zx_E.one (s' := (zx_pick (a0 &&& 31) 0 [136, 211, 224, 247, 270, 293, 316, 339, 372, 405, 438, 471, 494, 517, 560, 573, 606, 639, 652, 685, 698, 711] 734, [some (.inr (some (33, 0, 0, 0))), some (.inr (some (0, 0, 0, 0))), some (.inr (some (25, 0, 0, 0))), some (.inl 0)], [], (zx_lay zM0, 308))) rfl ?_
      refine zx_E.pick (k' := 1) (by decide) (fun hn => absurd hn (fun q => absurd (hk.symm.trans q) (by decide))) (fun _ => ?_)
      refine zx_E.pick (k' := 2) (by decide) (fun hn => absurd hn (fun q => absurd (hk.symm.trans q) (by decide))) (fun _ => ?_)
      refine zx_E.pick (k' := 3) (by decide) (fun hn => absurd hn (fun q => absurd (hk.symm.trans q) (by decide))) (fun _ => ?_)
      refine zx_E.pick (k' := 4) (by decide) (fun _ => ?_) (fun hn => absurd hk hn)
      refine zx_E.go 5 (s' := (252, [some (.inr (some (33, 0, 0, 0))), some (.inr (some (0, 0, 0, 0))), some (.inr (some (25, 0, 0, 0))), some (.inl 0)], [.inl 1, .inr (some (33, 0, 0, 0)), .inr (some (0, 0, 0, 0))], (zx_lay zM0, 308))) rfl ?_
      refine zx_E.sld' (k := 1) (v := a1) rfl rfl (by omega) (by decide) e1 ?_
      show zx_E _ _ _ (253, [some (.inr (some (33, 0, 0, 0))), some (.inr (some (0, 0, 0, 0))), some (.inr (some (25, 0, 0, 0))), some (.inl 0)], [.inl a1, .inr (some (0, 0, 0, 0))], (zx_lay zM0, 308)) _
      refine zx_E.call1 (y := 97) (as := [.inr (some (0, 0, 0, 0)), .inl a1]) (rest := []) (v := .inl (-2)) (μ' := (zx_lay zM0, 308)) rfl (zx_run_of zc_X10_relief [some (.inr (some (0, 0, 0, 0))), some (.inl a1), none] rfl rfl (by
        refine zx_E.go 1 (s' := (1, [some (.inr (some (0, 0, 0, 0))), some (.inl a1), none], [.inl a1], (zx_lay zM0, 308))) rfl ?_
        refine zx_E.bf (c := a1 < 0) (s1 := (10, [some (.inr (some (0, 0, 0, 0))), some (.inl a1), none], [], (zx_lay zM0, 308))) (s2 := (4, [some (.inr (some (0, 0, 0, 0))), some (.inl a1), none], [], (zx_lay zM0, 308))) rfl h1 ?_
        refine zx_E.go 2 (s' := (7, [some (.inr (some (0, 0, 0, 0))), some (.inl a1), none], [.inl 60, .inl a1], (zx_lay zM0, 308))) rfl ?_
        refine zx_E.bf (c := a1 ≤ 60) (s1 := (13, [some (.inr (some (0, 0, 0, 0))), some (.inl a1), none], [], (zx_lay zM0, 308))) (s2 := (10, [some (.inr (some (0, 0, 0, 0))), some (.inl a1), none], [], (zx_lay zM0, 308))) rfl h2 ?_
        refine zx_E.go 1 (s' := (12, [some (.inr (some (0, 0, 0, 0))), some (.inl a1), none], [.inl (-2)], (zx_lay zM0, 308))) rfl ?_
        exact zx_E.iret rfl (fun h => absurd h (by decide)) rfl)) ?_
      show zx_E _ _ _ (256, [some (.inr (some (33, 0, 0, 0))), some (.inr (some (0, 0, 0, 0))), some (.inr (some (25, 0, 0, 0))), some (.inl 0)], [.inl (-2)], (zx_lay zM0, 308)) _
      refine zx_E.go 5 (s' := (261, [some (.inr (some (33, 0, 0, 0))), some (.inr (some (0, 0, 0, 0))), some (.inr (some (25, 0, 0, 0))), some (.inl 0)], [.inl 1, .inr (some (33, 0, 0, 0)), .inr (some (25, 0, 0, 0)), .inl (-2)], (zx_lay zM0, 308))) rfl ?_
      refine zx_E.sld' (k := 1) (v := a1) rfl rfl (by omega) (by decide) e1 ?_
      show zx_E _ _ _ (262, [some (.inr (some (33, 0, 0, 0))), some (.inr (some (0, 0, 0, 0))), some (.inr (some (25, 0, 0, 0))), some (.inl 0)], [.inl a1, .inr (some (25, 0, 0, 0)), .inl (-2)], (zx_lay zM0, 308)) _
      refine zx_E.call1 (y := 173) (as := [.inr (some (25, 0, 0, 0)), .inl a1]) (rest := [.inl (-2)]) (v := .inl (-2)) (μ' := (zx_lay zM0, 308)) rfl (zx_run_of zc_X11_relief [some (.inr (some (25, 0, 0, 0))), some (.inl a1), none] rfl rfl (by
        refine zx_E.go 3 (s' := (4, [some (.inr (some (25, 0, 0, 0))), some (.inl a1), none], [.inl 60, .inl 0, .inl a1], (zx_lay zM0, 308))) rfl ?_
        refine zx_E.call1 (y := 121) (as := [.inl a1, .inl 0, .inl 60]) (rest := []) (v := .inl 0) (μ' := (zx_lay zM0, 308)) rfl (zx_run_of zc_X11_isIn [some (.inl a1), some (.inl 0), some (.inl 60)] rfl rfl (by
          refine zx_E.go 2 (s' := (2, [some (.inl a1), some (.inl 0), some (.inl 60)], [.inl 0, .inl a1], (zx_lay zM0, 308))) rfl ?_
          refine zx_E.bf (c := a1 < 0) (s1 := (14, [some (.inl a1), some (.inl 0), some (.inl 60)], [], (zx_lay zM0, 308))) (s2 := (5, [some (.inl a1), some (.inl 0), some (.inl 60)], [], (zx_lay zM0, 308))) rfl h1 ?_
          refine zx_E.go 2 (s' := (7, [some (.inl a1), some (.inl 0), some (.inl 60)], [.inl 60, .inl a1], (zx_lay zM0, 308))) rfl ?_
          refine zx_E.bt (c := 60 < a1) (s1 := (14, [some (.inl a1), some (.inl 0), some (.inl 60)], [], (zx_lay zM0, 308))) (s2 := (10, [some (.inl a1), some (.inl 0), some (.inl 60)], [], (zx_lay zM0, 308))) rfl (Int32.not_le.mp h2) ?_
          refine zx_E.go 1 (s' := (15, [some (.inl a1), some (.inl 0), some (.inl 60)], [.inl 0], (zx_lay zM0, 308))) rfl ?_
          exact zx_E.iret rfl (fun _ => Or.inl rfl) rfl)) ?_
        show zx_E _ _ _ (7, [some (.inr (some (25, 0, 0, 0))), some (.inl a1), none], [.inl 0], (zx_lay zM0, 308)) _
        refine zx_E.bt (c := 0 = 0) (s1 := (10, [some (.inr (some (25, 0, 0, 0))), some (.inl a1), none], [], (zx_lay zM0, 308))) (s2 := (13, [some (.inr (some (25, 0, 0, 0))), some (.inl a1), none], [], (zx_lay zM0, 308))) rfl (by decide) ?_
        refine zx_E.go 1 (s' := (12, [some (.inr (some (25, 0, 0, 0))), some (.inl a1), none], [.inl (-2)], (zx_lay zM0, 308))) rfl ?_
        exact zx_E.iret rfl (fun h => absurd h (by decide)) rfl)) ?_
      show zx_E _ _ _ (265, [some (.inr (some (33, 0, 0, 0))), some (.inr (some (0, 0, 0, 0))), some (.inr (some (25, 0, 0, 0))), some (.inl 0)], [.inl (-2), .inl (-2)], (zx_lay zM0, 308)) _
      refine zx_E.bt (c := (-2) = (-2)) (s1 := (734, [some (.inr (some (33, 0, 0, 0))), some (.inr (some (0, 0, 0, 0))), some (.inr (some (25, 0, 0, 0))), some (.inl 0)], [], (zx_lay zM0, 308))) (s2 := (268, [some (.inr (some (33, 0, 0, 0))), some (.inr (some (0, 0, 0, 0))), some (.inr (some (25, 0, 0, 0))), some (.inl 0)], [], (zx_lay zM0, 308))) rfl (by decide) ?_
      refine zx_E.go 6 (s' := (23, [some (.inr (some (33, 0, 0, 0))), some (.inr (some (0, 0, 0, 0))), some (.inr (some (25, 0, 0, 0))), some (.inl 7)], [.inl 7, .inl 7, .inl 7], (zx_lay zM0, 308))) rfl ?_
      refine zx_E.go 1 (s' := (24, [some (.inr (some (33, 0, 0, 0))), some (.inr (some (0, 0, 0, 0))), some (.inr (some (25, 0, 0, 0))), some (.inl 7)], [.inl 0, .inl 7], (zx_lay zM0, 308))) rfl ?_
      refine zx_E.bt (c := 0 < 7) (s1 := (740, [some (.inr (some (33, 0, 0, 0))), some (.inr (some (0, 0, 0, 0))), some (.inr (some (25, 0, 0, 0))), some (.inl 7)], [], (zx_lay zM0, 308))) (s2 := (27, [some (.inr (some (33, 0, 0, 0))), some (.inr (some (0, 0, 0, 0))), some (.inr (some (25, 0, 0, 0))), some (.inl 7)], [], (zx_lay zM0, 308))) rfl (by decide) ?_
      refine zx_E.go 1 (s' := (741, [some (.inr (some (33, 0, 0, 0))), some (.inr (some (0, 0, 0, 0))), some (.inr (some (25, 0, 0, 0))), some (.inl 7)], [.inl 1], (zx_lay zM0, 308))) rfl ?_
      exact zx_E.iret rfl (fun _ => Or.inr rfl) rfl
set_option maxRecDepth 100000 in
set_option maxHeartbeats 4000000 in
theorem p1_op_2 {xs : Nat → Int32} {a0 a1 a2 a3 a4 a5 a6 : Int32} (e0 : xs 0 = a0) (e1 : xs 1 = a1) (e2 : xs 2 = a2) (e3 : xs 3 = a3) (e4 : xs 4 = a4) (e5 : xs 5 = a5) (e6 : xs 6 = a6) (hk : (a0 &&& 31) = 2) :
    ∃ μ : zx_M, μ.2 ≤ 308 ∧ zx_E (7, xs) 11 zc_L_law (18, [some (.inr (some (33, 0, 0, 0))), some (.inr (some (0, 0, 0, 0))), some (.inr (some (25, 0, 0, 0))), some (.inl 0)], [], (zx_lay zM0, 308)) (some (.inl 1), μ) := by
  by_cases h1 : a1 < 0
  · skip
    by_cases h2 : a1 = 0
    · subst h2
      exact absurd h1 (by decide)
    · skip
      by_cases h3 : a1 = 1
      · subst h3
        exact absurd h1 (by decide)
      · skip
        by_cases h4 : a1 = 2
        · subst h4
          exact absurd h1 (by decide)
        · skip
          refine ⟨(zx_lay zM0, 308), Nat.le_refl _, ?_⟩
          refine zx_E.go 4 (s' := (23, [some (.inr (some (33, 0, 0, 0))), some (.inr (some (0, 0, 0, 0))), some (.inr (some (25, 0, 0, 0))), some (.inl 0)], [.inl 7, .inl 7, .inl 0], (zx_lay zM0, 308))) rfl ?_
          refine zx_E.go 1 (s' := (24, [some (.inr (some (33, 0, 0, 0))), some (.inr (some (0, 0, 0, 0))), some (.inr (some (25, 0, 0, 0))), some (.inl 0)], [.inl 0, .inl 0], (zx_lay zM0, 308))) rfl ?_
          refine zx_E.bf (c := 0 < 0) (s1 := (740, [some (.inr (some (33, 0, 0, 0))), some (.inr (some (0, 0, 0, 0))), some (.inr (some (25, 0, 0, 0))), some (.inl 0)], [], (zx_lay zM0, 308))) (s2 := (27, [some (.inr (some (33, 0, 0, 0))), some (.inr (some (0, 0, 0, 0))), some (.inr (some (25, 0, 0, 0))), some (.inl 0)], [], (zx_lay zM0, 308))) rfl (by decide) ?_
          refine zx_E.go 2 (s' := (29, [some (.inr (some (33, 0, 0, 0))), some (.inr (some (0, 0, 0, 0))), some (.inr (some (25, 0, 0, 0))), some (.inl 0)], [.inl 0, .inr (some (33, 0, 0, 0))], (zx_lay zM0, 308))) rfl ?_
          refine zx_E.sld' (k := 0) (v := a0) rfl rfl (by omega) (by decide) e0 ?_
          show zx_E _ _ _ (30, [some (.inr (some (33, 0, 0, 0))), some (.inr (some (0, 0, 0, 0))), some (.inr (some (25, 0, 0, 0))), some (.inl 0)], [.inl a0], (zx_lay zM0, 308)) _
          refine zx_E.go 2 (s' := (33, [some (.inr (some (33, 0, 0, 0))), some (.inr (some (0, 0, 0, 0))), some (.inr (some (25, 0, 0, 0))), some (.inl 0)], [.inl (a0 &&& 31)], (zx_lay zM0, 308))) rfl ?_
          refine zx_E.one (s' := (zx_pick (a0 &&& 31) 0 [136, 211, 224, 247, 270, 293, 316, 339, 372, 405, 438, 471, 494, 517, 560, 573, 606, 639, 652, 685, 698, 711] 734, [some (.inr (some (33, 0, 0, 0))), some (.inr (some (0, 0, 0, 0))), some (.inr (some (25, 0, 0, 0))), some (.inl 0)], [], (zx_lay zM0, 308))) rfl ?_
          refine zx_E.pick (k' := 1) (by decide) (fun hn => absurd hn (fun q => absurd (hk.symm.trans q) (by decide))) (fun _ => ?_)
          refine zx_E.pick (k' := 2) (by decide) (fun hn => absurd hn (fun q => absurd (hk.symm.trans q) (by decide))) (fun _ => ?_)
          refine zx_E.pick (k' := 3) (by decide) (fun _ => ?_) (fun hn => absurd hk hn)
          refine zx_E.go 5 (s' := (229, [some (.inr (some (33, 0, 0, 0))), some (.inr (some (0, 0, 0, 0))), some (.inr (some (25, 0, 0, 0))), some (.inl 0)], [.inl 1, .inr (some (33, 0, 0, 0)), .inr (some (0, 0, 0, 0))], (zx_lay zM0, 308))) rfl ?_
          refine zx_E.sld' (k := 1) (v := a1) rfl rfl (by omega) (by decide) e1 ?_
          show zx_E _ _ _ (230, [some (.inr (some (33, 0, 0, 0))), some (.inr (some (0, 0, 0, 0))), some (.inr (some (25, 0, 0, 0))), some (.inl 0)], [.inl a1, .inr (some (0, 0, 0, 0))], (zx_lay zM0, 308)) _
          refine zx_E.call1 (y := 96) (as := [.inr (some (0, 0, 0, 0)), .inl a1]) (rest := []) (v := .inl (-1)) (μ' := (zx_lay zM0, 308)) rfl (zx_run_of zc_X10_refusal [some (.inr (some (0, 0, 0, 0))), some (.inl a1)] rfl rfl (by
            refine zx_E.go 3 (s' := (5, [some (.inr (some (0, 0, 0, 0))), some (.inl a1)], [.inl a1, .inr (some (19, 0, 0, 0))], (zx_lay zM0, 308))) rfl ?_
            refine zx_E.call1 (y := 59) (as := [.inr (some (19, 0, 0, 0)), .inl a1]) (rest := []) (v := .inl (-1)) (μ' := (zx_lay zM0, 308)) rfl (zx_run_of zc_X4_numberAt [some (.inr (some (19, 0, 0, 0))), some (.inl a1)] rfl rfl (by
              refine zx_E.go 1 (s' := (1, [some (.inr (some (19, 0, 0, 0))), some (.inl a1)], [.inl a1], (zx_lay zM0, 308))) rfl ?_
              refine zx_E.bt (c := a1 < 0) (s1 := (13, [some (.inr (some (19, 0, 0, 0))), some (.inl a1)], [], (zx_lay zM0, 308))) (s2 := (4, [some (.inr (some (19, 0, 0, 0))), some (.inl a1)], [], (zx_lay zM0, 308))) rfl h1 ?_
              refine zx_E.go 1 (s' := (14, [some (.inr (some (19, 0, 0, 0))), some (.inl a1)], [.inl (-1)], (zx_lay zM0, 308))) rfl ?_
              exact zx_E.iret rfl (fun h => absurd h (by decide)) rfl)) ?_
            show zx_E _ _ _ (8, [some (.inr (some (0, 0, 0, 0))), some (.inl a1)], [.inl (-1)], (zx_lay zM0, 308)) _
            exact zx_E.iret rfl (fun h => absurd h (by decide)) rfl)) ?_
          show zx_E _ _ _ (233, [some (.inr (some (33, 0, 0, 0))), some (.inr (some (0, 0, 0, 0))), some (.inr (some (25, 0, 0, 0))), some (.inl 0)], [.inl (-1)], (zx_lay zM0, 308)) _
          refine zx_E.go 5 (s' := (238, [some (.inr (some (33, 0, 0, 0))), some (.inr (some (0, 0, 0, 0))), some (.inr (some (25, 0, 0, 0))), some (.inl 0)], [.inl 1, .inr (some (33, 0, 0, 0)), .inr (some (25, 0, 0, 0)), .inl (-1)], (zx_lay zM0, 308))) rfl ?_
          refine zx_E.sld' (k := 1) (v := a1) rfl rfl (by omega) (by decide) e1 ?_
          show zx_E _ _ _ (239, [some (.inr (some (33, 0, 0, 0))), some (.inr (some (0, 0, 0, 0))), some (.inr (some (25, 0, 0, 0))), some (.inl 0)], [.inl a1, .inr (some (25, 0, 0, 0)), .inl (-1)], (zx_lay zM0, 308)) _
          refine zx_E.call1 (y := 172) (as := [.inr (some (25, 0, 0, 0)), .inl a1]) (rest := [.inl (-1)]) (v := .inl (-1)) (μ' := (zx_lay zM0, 308)) rfl (zx_run_of zc_X11_refusal [some (.inr (some (25, 0, 0, 0))), some (.inl a1)] rfl rfl (by
            refine zx_E.go 1 (s' := (1, [some (.inr (some (25, 0, 0, 0))), some (.inl a1)], [.inl a1], (zx_lay zM0, 308))) rfl ?_
            refine zx_E.bf (c := a1 = 0) (s1 := (4, [some (.inr (some (25, 0, 0, 0))), some (.inl a1)], [], (zx_lay zM0, 308))) (s2 := (11, [some (.inr (some (25, 0, 0, 0))), some (.inl a1)], [], (zx_lay zM0, 308))) rfl h2 ?_
            refine zx_E.go 2 (s' := (13, [some (.inr (some (25, 0, 0, 0))), some (.inl a1)], [.inl 1, .inl a1], (zx_lay zM0, 308))) rfl ?_
            refine zx_E.bf (c := a1 = 1) (s1 := (16, [some (.inr (some (25, 0, 0, 0))), some (.inl a1)], [], (zx_lay zM0, 308))) (s2 := (23, [some (.inr (some (25, 0, 0, 0))), some (.inl a1)], [], (zx_lay zM0, 308))) rfl h3 ?_
            refine zx_E.go 2 (s' := (25, [some (.inr (some (25, 0, 0, 0))), some (.inl a1)], [.inl 2, .inl a1], (zx_lay zM0, 308))) rfl ?_
            refine zx_E.bf (c := a1 = 2) (s1 := (28, [some (.inr (some (25, 0, 0, 0))), some (.inl a1)], [], (zx_lay zM0, 308))) (s2 := (48, [some (.inr (some (25, 0, 0, 0))), some (.inl a1)], [], (zx_lay zM0, 308))) rfl h4 ?_
            refine zx_E.go 1 (s' := (49, [some (.inr (some (25, 0, 0, 0))), some (.inl a1)], [.inl (-1)], (zx_lay zM0, 308))) rfl ?_
            exact zx_E.iret rfl (fun h => absurd h (by decide)) rfl)) ?_
          show zx_E _ _ _ (242, [some (.inr (some (33, 0, 0, 0))), some (.inr (some (0, 0, 0, 0))), some (.inr (some (25, 0, 0, 0))), some (.inl 0)], [.inl (-1), .inl (-1)], (zx_lay zM0, 308)) _
          refine zx_E.bt (c := (-1) = (-1)) (s1 := (734, [some (.inr (some (33, 0, 0, 0))), some (.inr (some (0, 0, 0, 0))), some (.inr (some (25, 0, 0, 0))), some (.inl 0)], [], (zx_lay zM0, 308))) (s2 := (245, [some (.inr (some (33, 0, 0, 0))), some (.inr (some (0, 0, 0, 0))), some (.inr (some (25, 0, 0, 0))), some (.inl 0)], [], (zx_lay zM0, 308))) rfl (by decide) ?_
          refine zx_E.go 6 (s' := (23, [some (.inr (some (33, 0, 0, 0))), some (.inr (some (0, 0, 0, 0))), some (.inr (some (25, 0, 0, 0))), some (.inl 7)], [.inl 7, .inl 7, .inl 7], (zx_lay zM0, 308))) rfl ?_
          refine zx_E.go 1 (s' := (24, [some (.inr (some (33, 0, 0, 0))), some (.inr (some (0, 0, 0, 0))), some (.inr (some (25, 0, 0, 0))), some (.inl 7)], [.inl 0, .inl 7], (zx_lay zM0, 308))) rfl ?_
          refine zx_E.bt (c := 0 < 7) (s1 := (740, [some (.inr (some (33, 0, 0, 0))), some (.inr (some (0, 0, 0, 0))), some (.inr (some (25, 0, 0, 0))), some (.inl 7)], [], (zx_lay zM0, 308))) (s2 := (27, [some (.inr (some (33, 0, 0, 0))), some (.inr (some (0, 0, 0, 0))), some (.inr (some (25, 0, 0, 0))), some (.inl 7)], [], (zx_lay zM0, 308))) rfl (by decide) ?_
          refine zx_E.go 1 (s' := (741, [some (.inr (some (33, 0, 0, 0))), some (.inr (some (0, 0, 0, 0))), some (.inr (some (25, 0, 0, 0))), some (.inl 7)], [.inl 1], (zx_lay zM0, 308))) rfl ?_
          exact zx_E.iret rfl (fun _ => Or.inr rfl) rfl
  · skip
    by_cases h5 : a1 < 3
    · skip
      by_cases h6 : a1 = 0
      · subst h6
        refine ⟨(zx_lay zM0, 308), Nat.le_refl _, ?_⟩
        refine zx_E.go 4 (s' := (23, [some (.inr (some (33, 0, 0, 0))), some (.inr (some (0, 0, 0, 0))), some (.inr (some (25, 0, 0, 0))), some (.inl 0)], [.inl 7, .inl 7, .inl 0], (zx_lay zM0, 308))) rfl ?_
        refine zx_E.go 1 (s' := (24, [some (.inr (some (33, 0, 0, 0))), some (.inr (some (0, 0, 0, 0))), some (.inr (some (25, 0, 0, 0))), some (.inl 0)], [.inl 0, .inl 0], (zx_lay zM0, 308))) rfl ?_
        refine zx_E.bf (c := 0 < 0) (s1 := (740, [some (.inr (some (33, 0, 0, 0))), some (.inr (some (0, 0, 0, 0))), some (.inr (some (25, 0, 0, 0))), some (.inl 0)], [], (zx_lay zM0, 308))) (s2 := (27, [some (.inr (some (33, 0, 0, 0))), some (.inr (some (0, 0, 0, 0))), some (.inr (some (25, 0, 0, 0))), some (.inl 0)], [], (zx_lay zM0, 308))) rfl (by decide) ?_
        refine zx_E.go 2 (s' := (29, [some (.inr (some (33, 0, 0, 0))), some (.inr (some (0, 0, 0, 0))), some (.inr (some (25, 0, 0, 0))), some (.inl 0)], [.inl 0, .inr (some (33, 0, 0, 0))], (zx_lay zM0, 308))) rfl ?_
        refine zx_E.sld' (k := 0) (v := a0) rfl rfl (by omega) (by decide) e0 ?_
        show zx_E _ _ _ (30, [some (.inr (some (33, 0, 0, 0))), some (.inr (some (0, 0, 0, 0))), some (.inr (some (25, 0, 0, 0))), some (.inl 0)], [.inl a0], (zx_lay zM0, 308)) _
        refine zx_E.go 2 (s' := (33, [some (.inr (some (33, 0, 0, 0))), some (.inr (some (0, 0, 0, 0))), some (.inr (some (25, 0, 0, 0))), some (.inl 0)], [.inl (a0 &&& 31)], (zx_lay zM0, 308))) rfl ?_
        refine zx_E.one (s' := (zx_pick (a0 &&& 31) 0 [136, 211, 224, 247, 270, 293, 316, 339, 372, 405, 438, 471, 494, 517, 560, 573, 606, 639, 652, 685, 698, 711] 734, [some (.inr (some (33, 0, 0, 0))), some (.inr (some (0, 0, 0, 0))), some (.inr (some (25, 0, 0, 0))), some (.inl 0)], [], (zx_lay zM0, 308))) rfl ?_
        refine zx_E.pick (k' := 1) (by decide) (fun hn => absurd hn (fun q => absurd (hk.symm.trans q) (by decide))) (fun _ => ?_)
        refine zx_E.pick (k' := 2) (by decide) (fun hn => absurd hn (fun q => absurd (hk.symm.trans q) (by decide))) (fun _ => ?_)
        refine zx_E.pick (k' := 3) (by decide) (fun _ => ?_) (fun hn => absurd hk hn)
        refine zx_E.go 5 (s' := (229, [some (.inr (some (33, 0, 0, 0))), some (.inr (some (0, 0, 0, 0))), some (.inr (some (25, 0, 0, 0))), some (.inl 0)], [.inl 1, .inr (some (33, 0, 0, 0)), .inr (some (0, 0, 0, 0))], (zx_lay zM0, 308))) rfl ?_
        refine zx_E.sld' (k := 1) (v := 0) rfl rfl (by omega) (by decide) e1 ?_
        show zx_E _ _ _ (230, [some (.inr (some (33, 0, 0, 0))), some (.inr (some (0, 0, 0, 0))), some (.inr (some (25, 0, 0, 0))), some (.inl 0)], [.inl 0, .inr (some (0, 0, 0, 0))], (zx_lay zM0, 308)) _
        refine zx_E.call1 (y := 96) (as := [.inr (some (0, 0, 0, 0)), .inl 0]) (rest := []) (v := .inl (-5)) (μ' := (zx_lay zM0, 308)) rfl (zx_run_of zc_X10_refusal [some (.inr (some (0, 0, 0, 0))), some (.inl 0)] rfl rfl (by
          refine zx_E.go 3 (s' := (5, [some (.inr (some (0, 0, 0, 0))), some (.inl 0)], [.inl 0, .inr (some (19, 0, 0, 0))], (zx_lay zM0, 308))) rfl ?_
          refine zx_E.call1 (y := 59) (as := [.inr (some (19, 0, 0, 0)), .inl 0]) (rest := []) (v := .inl (-5)) (μ' := (zx_lay zM0, 308)) rfl (zx_run_of zc_X4_numberAt [some (.inr (some (19, 0, 0, 0))), some (.inl 0)] rfl rfl (by
            refine zx_E.go 1 (s' := (1, [some (.inr (some (19, 0, 0, 0))), some (.inl 0)], [.inl 0], (zx_lay zM0, 308))) rfl ?_
            refine zx_E.bf (c := 0 < 0) (s1 := (13, [some (.inr (some (19, 0, 0, 0))), some (.inl 0)], [], (zx_lay zM0, 308))) (s2 := (4, [some (.inr (some (19, 0, 0, 0))), some (.inl 0)], [], (zx_lay zM0, 308))) rfl (by decide) ?_
            refine zx_E.go 4 (s' := (10, [some (.inr (some (19, 0, 0, 0))), some (.inl 0)], [.inl 3, .inl 0], (zx_lay zM0, 308))) rfl ?_
            refine zx_E.bt (c := 0 < 3) (s1 := (15, [some (.inr (some (19, 0, 0, 0))), some (.inl 0)], [], (zx_lay zM0, 308))) (s2 := (13, [some (.inr (some (19, 0, 0, 0))), some (.inl 0)], [], (zx_lay zM0, 308))) rfl (by decide) ?_
            refine zx_E.go 2 (s' := (19, [some (.inr (some (19, 0, 0, 0))), some (.inl 0)], [.inl 0], (zx_lay zM0, 308))) rfl ?_
            refine zx_E.bt (c := 0 = 0) (s1 := (31, [some (.inr (some (19, 0, 0, 0))), some (.inl 0)], [], (zx_lay zM0, 308))) (s2 := (22, [some (.inr (some (19, 0, 0, 0))), some (.inl 0)], [], (zx_lay zM0, 308))) rfl (by decide) ?_
            refine zx_E.go 1 (s' := (33, [some (.inr (some (19, 0, 0, 0))), some (.inl 0)], [.inl (-5)], (zx_lay zM0, 308))) rfl ?_
            exact zx_E.iret rfl (fun h => absurd h (by decide)) rfl)) ?_
          show zx_E _ _ _ (8, [some (.inr (some (0, 0, 0, 0))), some (.inl 0)], [.inl (-5)], (zx_lay zM0, 308)) _
          exact zx_E.iret rfl (fun h => absurd h (by decide)) rfl)) ?_
        show zx_E _ _ _ (233, [some (.inr (some (33, 0, 0, 0))), some (.inr (some (0, 0, 0, 0))), some (.inr (some (25, 0, 0, 0))), some (.inl 0)], [.inl (-5)], (zx_lay zM0, 308)) _
        refine zx_E.go 5 (s' := (238, [some (.inr (some (33, 0, 0, 0))), some (.inr (some (0, 0, 0, 0))), some (.inr (some (25, 0, 0, 0))), some (.inl 0)], [.inl 1, .inr (some (33, 0, 0, 0)), .inr (some (25, 0, 0, 0)), .inl (-5)], (zx_lay zM0, 308))) rfl ?_
        refine zx_E.sld' (k := 1) (v := 0) rfl rfl (by omega) (by decide) e1 ?_
        show zx_E _ _ _ (239, [some (.inr (some (33, 0, 0, 0))), some (.inr (some (0, 0, 0, 0))), some (.inr (some (25, 0, 0, 0))), some (.inl 0)], [.inl 0, .inr (some (25, 0, 0, 0)), .inl (-5)], (zx_lay zM0, 308)) _
        refine zx_E.call1 (y := 172) (as := [.inr (some (25, 0, 0, 0)), .inl 0]) (rest := [.inl (-5)]) (v := .inl (-5)) (μ' := (zx_lay zM0, 308)) rfl (zx_run_of zc_X11_refusal [some (.inr (some (25, 0, 0, 0))), some (.inl 0)] rfl rfl (by
          refine zx_E.go 1 (s' := (1, [some (.inr (some (25, 0, 0, 0))), some (.inl 0)], [.inl 0], (zx_lay zM0, 308))) rfl ?_
          refine zx_E.bt (c := 0 = 0) (s1 := (4, [some (.inr (some (25, 0, 0, 0))), some (.inl 0)], [], (zx_lay zM0, 308))) (s2 := (11, [some (.inr (some (25, 0, 0, 0))), some (.inl 0)], [], (zx_lay zM0, 308))) rfl (by decide) ?_
          refine zx_E.go 3 (s' := (49, [some (.inr (some (25, 0, 0, 0))), some (.inl 0)], [.inl (-5)], (zx_lay zM0, 308))) rfl ?_
          exact zx_E.iret rfl (fun h => absurd h (by decide)) rfl)) ?_
        show zx_E _ _ _ (242, [some (.inr (some (33, 0, 0, 0))), some (.inr (some (0, 0, 0, 0))), some (.inr (some (25, 0, 0, 0))), some (.inl 0)], [.inl (-5), .inl (-5)], (zx_lay zM0, 308)) _
        refine zx_E.bt (c := (-5) = (-5)) (s1 := (734, [some (.inr (some (33, 0, 0, 0))), some (.inr (some (0, 0, 0, 0))), some (.inr (some (25, 0, 0, 0))), some (.inl 0)], [], (zx_lay zM0, 308))) (s2 := (245, [some (.inr (some (33, 0, 0, 0))), some (.inr (some (0, 0, 0, 0))), some (.inr (some (25, 0, 0, 0))), some (.inl 0)], [], (zx_lay zM0, 308))) rfl (by decide) ?_
        refine zx_E.go 6 (s' := (23, [some (.inr (some (33, 0, 0, 0))), some (.inr (some (0, 0, 0, 0))), some (.inr (some (25, 0, 0, 0))), some (.inl 7)], [.inl 7, .inl 7, .inl 7], (zx_lay zM0, 308))) rfl ?_
        refine zx_E.go 1 (s' := (24, [some (.inr (some (33, 0, 0, 0))), some (.inr (some (0, 0, 0, 0))), some (.inr (some (25, 0, 0, 0))), some (.inl 7)], [.inl 0, .inl 7], (zx_lay zM0, 308))) rfl ?_
        refine zx_E.bt (c := 0 < 7) (s1 := (740, [some (.inr (some (33, 0, 0, 0))), some (.inr (some (0, 0, 0, 0))), some (.inr (some (25, 0, 0, 0))), some (.inl 7)], [], (zx_lay zM0, 308))) (s2 := (27, [some (.inr (some (33, 0, 0, 0))), some (.inr (some (0, 0, 0, 0))), some (.inr (some (25, 0, 0, 0))), some (.inl 7)], [], (zx_lay zM0, 308))) rfl (by decide) ?_
        refine zx_E.go 1 (s' := (741, [some (.inr (some (33, 0, 0, 0))), some (.inr (some (0, 0, 0, 0))), some (.inr (some (25, 0, 0, 0))), some (.inl 7)], [.inl 1], (zx_lay zM0, 308))) rfl ?_
        exact zx_E.iret rfl (fun _ => Or.inr rfl) rfl
      · skip
        by_cases h7 : a1 = 1
        · subst h7
          refine ⟨(zx_lay zM0, 308), Nat.le_refl _, ?_⟩
          refine zx_E.go 4 (s' := (23, [some (.inr (some (33, 0, 0, 0))), some (.inr (some (0, 0, 0, 0))), some (.inr (some (25, 0, 0, 0))), some (.inl 0)], [.inl 7, .inl 7, .inl 0], (zx_lay zM0, 308))) rfl ?_
          refine zx_E.go 1 (s' := (24, [some (.inr (some (33, 0, 0, 0))), some (.inr (some (0, 0, 0, 0))), some (.inr (some (25, 0, 0, 0))), some (.inl 0)], [.inl 0, .inl 0], (zx_lay zM0, 308))) rfl ?_
          refine zx_E.bf (c := 0 < 0) (s1 := (740, [some (.inr (some (33, 0, 0, 0))), some (.inr (some (0, 0, 0, 0))), some (.inr (some (25, 0, 0, 0))), some (.inl 0)], [], (zx_lay zM0, 308))) (s2 := (27, [some (.inr (some (33, 0, 0, 0))), some (.inr (some (0, 0, 0, 0))), some (.inr (some (25, 0, 0, 0))), some (.inl 0)], [], (zx_lay zM0, 308))) rfl (by decide) ?_
          refine zx_E.go 2 (s' := (29, [some (.inr (some (33, 0, 0, 0))), some (.inr (some (0, 0, 0, 0))), some (.inr (some (25, 0, 0, 0))), some (.inl 0)], [.inl 0, .inr (some (33, 0, 0, 0))], (zx_lay zM0, 308))) rfl ?_
          refine zx_E.sld' (k := 0) (v := a0) rfl rfl (by omega) (by decide) e0 ?_
          show zx_E _ _ _ (30, [some (.inr (some (33, 0, 0, 0))), some (.inr (some (0, 0, 0, 0))), some (.inr (some (25, 0, 0, 0))), some (.inl 0)], [.inl a0], (zx_lay zM0, 308)) _
          refine zx_E.go 2 (s' := (33, [some (.inr (some (33, 0, 0, 0))), some (.inr (some (0, 0, 0, 0))), some (.inr (some (25, 0, 0, 0))), some (.inl 0)], [.inl (a0 &&& 31)], (zx_lay zM0, 308))) rfl ?_
          refine zx_E.one (s' := (zx_pick (a0 &&& 31) 0 [136, 211, 224, 247, 270, 293, 316, 339, 372, 405, 438, 471, 494, 517, 560, 573, 606, 639, 652, 685, 698, 711] 734, [some (.inr (some (33, 0, 0, 0))), some (.inr (some (0, 0, 0, 0))), some (.inr (some (25, 0, 0, 0))), some (.inl 0)], [], (zx_lay zM0, 308))) rfl ?_
          refine zx_E.pick (k' := 1) (by decide) (fun hn => absurd hn (fun q => absurd (hk.symm.trans q) (by decide))) (fun _ => ?_)
          refine zx_E.pick (k' := 2) (by decide) (fun hn => absurd hn (fun q => absurd (hk.symm.trans q) (by decide))) (fun _ => ?_)
          refine zx_E.pick (k' := 3) (by decide) (fun _ => ?_) (fun hn => absurd hk hn)
          refine zx_E.go 5 (s' := (229, [some (.inr (some (33, 0, 0, 0))), some (.inr (some (0, 0, 0, 0))), some (.inr (some (25, 0, 0, 0))), some (.inl 0)], [.inl 1, .inr (some (33, 0, 0, 0)), .inr (some (0, 0, 0, 0))], (zx_lay zM0, 308))) rfl ?_
          refine zx_E.sld' (k := 1) (v := 1) rfl rfl (by omega) (by decide) e1 ?_
          show zx_E _ _ _ (230, [some (.inr (some (33, 0, 0, 0))), some (.inr (some (0, 0, 0, 0))), some (.inr (some (25, 0, 0, 0))), some (.inl 0)], [.inl 1, .inr (some (0, 0, 0, 0))], (zx_lay zM0, 308)) _
          refine zx_E.call1 (y := 96) (as := [.inr (some (0, 0, 0, 0)), .inl 1]) (rest := []) (v := .inl (-5)) (μ' := (zx_lay zM0, 308)) rfl (zx_run_of zc_X10_refusal [some (.inr (some (0, 0, 0, 0))), some (.inl 1)] rfl rfl (by
            refine zx_E.go 3 (s' := (5, [some (.inr (some (0, 0, 0, 0))), some (.inl 1)], [.inl 1, .inr (some (19, 0, 0, 0))], (zx_lay zM0, 308))) rfl ?_
            refine zx_E.call1 (y := 59) (as := [.inr (some (19, 0, 0, 0)), .inl 1]) (rest := []) (v := .inl (-5)) (μ' := (zx_lay zM0, 308)) rfl (zx_run_of zc_X4_numberAt [some (.inr (some (19, 0, 0, 0))), some (.inl 1)] rfl rfl (by
              refine zx_E.go 1 (s' := (1, [some (.inr (some (19, 0, 0, 0))), some (.inl 1)], [.inl 1], (zx_lay zM0, 308))) rfl ?_
              refine zx_E.bf (c := 1 < 0) (s1 := (13, [some (.inr (some (19, 0, 0, 0))), some (.inl 1)], [], (zx_lay zM0, 308))) (s2 := (4, [some (.inr (some (19, 0, 0, 0))), some (.inl 1)], [], (zx_lay zM0, 308))) rfl (by decide) ?_
              refine zx_E.go 4 (s' := (10, [some (.inr (some (19, 0, 0, 0))), some (.inl 1)], [.inl 3, .inl 1], (zx_lay zM0, 308))) rfl ?_
              refine zx_E.bt (c := 1 < 3) (s1 := (15, [some (.inr (some (19, 0, 0, 0))), some (.inl 1)], [], (zx_lay zM0, 308))) (s2 := (13, [some (.inr (some (19, 0, 0, 0))), some (.inl 1)], [], (zx_lay zM0, 308))) rfl (by decide) ?_
              refine zx_E.go 2 (s' := (19, [some (.inr (some (19, 0, 0, 0))), some (.inl 1)], [.inl 0], (zx_lay zM0, 308))) rfl ?_
              refine zx_E.bt (c := 0 = 0) (s1 := (31, [some (.inr (some (19, 0, 0, 0))), some (.inl 1)], [], (zx_lay zM0, 308))) (s2 := (22, [some (.inr (some (19, 0, 0, 0))), some (.inl 1)], [], (zx_lay zM0, 308))) rfl (by decide) ?_
              refine zx_E.go 1 (s' := (33, [some (.inr (some (19, 0, 0, 0))), some (.inl 1)], [.inl (-5)], (zx_lay zM0, 308))) rfl ?_
              exact zx_E.iret rfl (fun h => absurd h (by decide)) rfl)) ?_
            show zx_E _ _ _ (8, [some (.inr (some (0, 0, 0, 0))), some (.inl 1)], [.inl (-5)], (zx_lay zM0, 308)) _
            exact zx_E.iret rfl (fun h => absurd h (by decide)) rfl)) ?_
          show zx_E _ _ _ (233, [some (.inr (some (33, 0, 0, 0))), some (.inr (some (0, 0, 0, 0))), some (.inr (some (25, 0, 0, 0))), some (.inl 0)], [.inl (-5)], (zx_lay zM0, 308)) _
          refine zx_E.go 5 (s' := (238, [some (.inr (some (33, 0, 0, 0))), some (.inr (some (0, 0, 0, 0))), some (.inr (some (25, 0, 0, 0))), some (.inl 0)], [.inl 1, .inr (some (33, 0, 0, 0)), .inr (some (25, 0, 0, 0)), .inl (-5)], (zx_lay zM0, 308))) rfl ?_
          refine zx_E.sld' (k := 1) (v := 1) rfl rfl (by omega) (by decide) e1 ?_
          show zx_E _ _ _ (239, [some (.inr (some (33, 0, 0, 0))), some (.inr (some (0, 0, 0, 0))), some (.inr (some (25, 0, 0, 0))), some (.inl 0)], [.inl 1, .inr (some (25, 0, 0, 0)), .inl (-5)], (zx_lay zM0, 308)) _
          refine zx_E.call1 (y := 172) (as := [.inr (some (25, 0, 0, 0)), .inl 1]) (rest := [.inl (-5)]) (v := .inl (-5)) (μ' := (zx_lay zM0, 308)) rfl (zx_run_of zc_X11_refusal [some (.inr (some (25, 0, 0, 0))), some (.inl 1)] rfl rfl (by
            refine zx_E.go 1 (s' := (1, [some (.inr (some (25, 0, 0, 0))), some (.inl 1)], [.inl 1], (zx_lay zM0, 308))) rfl ?_
            refine zx_E.bf (c := 1 = 0) (s1 := (4, [some (.inr (some (25, 0, 0, 0))), some (.inl 1)], [], (zx_lay zM0, 308))) (s2 := (11, [some (.inr (some (25, 0, 0, 0))), some (.inl 1)], [], (zx_lay zM0, 308))) rfl (by decide) ?_
            refine zx_E.go 2 (s' := (13, [some (.inr (some (25, 0, 0, 0))), some (.inl 1)], [.inl 1, .inl 1], (zx_lay zM0, 308))) rfl ?_
            refine zx_E.bt (c := 1 = 1) (s1 := (16, [some (.inr (some (25, 0, 0, 0))), some (.inl 1)], [], (zx_lay zM0, 308))) (s2 := (23, [some (.inr (some (25, 0, 0, 0))), some (.inl 1)], [], (zx_lay zM0, 308))) rfl (by decide) ?_
            refine zx_E.go 3 (s' := (49, [some (.inr (some (25, 0, 0, 0))), some (.inl 1)], [.inl (-5)], (zx_lay zM0, 308))) rfl ?_
            exact zx_E.iret rfl (fun h => absurd h (by decide)) rfl)) ?_
          show zx_E _ _ _ (242, [some (.inr (some (33, 0, 0, 0))), some (.inr (some (0, 0, 0, 0))), some (.inr (some (25, 0, 0, 0))), some (.inl 0)], [.inl (-5), .inl (-5)], (zx_lay zM0, 308)) _
          refine zx_E.bt (c := (-5) = (-5)) (s1 := (734, [some (.inr (some (33, 0, 0, 0))), some (.inr (some (0, 0, 0, 0))), some (.inr (some (25, 0, 0, 0))), some (.inl 0)], [], (zx_lay zM0, 308))) (s2 := (245, [some (.inr (some (33, 0, 0, 0))), some (.inr (some (0, 0, 0, 0))), some (.inr (some (25, 0, 0, 0))), some (.inl 0)], [], (zx_lay zM0, 308))) rfl (by decide) ?_
          refine zx_E.go 6 (s' := (23, [some (.inr (some (33, 0, 0, 0))), some (.inr (some (0, 0, 0, 0))), some (.inr (some (25, 0, 0, 0))), some (.inl 7)], [.inl 7, .inl 7, .inl 7], (zx_lay zM0, 308))) rfl ?_
          refine zx_E.go 1 (s' := (24, [some (.inr (some (33, 0, 0, 0))), some (.inr (some (0, 0, 0, 0))), some (.inr (some (25, 0, 0, 0))), some (.inl 7)], [.inl 0, .inl 7], (zx_lay zM0, 308))) rfl ?_
          refine zx_E.bt (c := 0 < 7) (s1 := (740, [some (.inr (some (33, 0, 0, 0))), some (.inr (some (0, 0, 0, 0))), some (.inr (some (25, 0, 0, 0))), some (.inl 7)], [], (zx_lay zM0, 308))) (s2 := (27, [some (.inr (some (33, 0, 0, 0))), some (.inr (some (0, 0, 0, 0))), some (.inr (some (25, 0, 0, 0))), some (.inl 7)], [], (zx_lay zM0, 308))) rfl (by decide) ?_
          refine zx_E.go 1 (s' := (741, [some (.inr (some (33, 0, 0, 0))), some (.inr (some (0, 0, 0, 0))), some (.inr (some (25, 0, 0, 0))), some (.inl 7)], [.inl 1], (zx_lay zM0, 308))) rfl ?_
          exact zx_E.iret rfl (fun _ => Or.inr rfl) rfl
        · skip
          by_cases h8 : a1 = 2
          · subst h8
            refine ⟨(zx_lay zM0, 308), Nat.le_refl _, ?_⟩
            refine zx_E.go 4 (s' := (23, [some (.inr (some (33, 0, 0, 0))), some (.inr (some (0, 0, 0, 0))), some (.inr (some (25, 0, 0, 0))), some (.inl 0)], [.inl 7, .inl 7, .inl 0], (zx_lay zM0, 308))) rfl ?_
            refine zx_E.go 1 (s' := (24, [some (.inr (some (33, 0, 0, 0))), some (.inr (some (0, 0, 0, 0))), some (.inr (some (25, 0, 0, 0))), some (.inl 0)], [.inl 0, .inl 0], (zx_lay zM0, 308))) rfl ?_
            refine zx_E.bf (c := 0 < 0) (s1 := (740, [some (.inr (some (33, 0, 0, 0))), some (.inr (some (0, 0, 0, 0))), some (.inr (some (25, 0, 0, 0))), some (.inl 0)], [], (zx_lay zM0, 308))) (s2 := (27, [some (.inr (some (33, 0, 0, 0))), some (.inr (some (0, 0, 0, 0))), some (.inr (some (25, 0, 0, 0))), some (.inl 0)], [], (zx_lay zM0, 308))) rfl (by decide) ?_
            refine zx_E.go 2 (s' := (29, [some (.inr (some (33, 0, 0, 0))), some (.inr (some (0, 0, 0, 0))), some (.inr (some (25, 0, 0, 0))), some (.inl 0)], [.inl 0, .inr (some (33, 0, 0, 0))], (zx_lay zM0, 308))) rfl ?_
            refine zx_E.sld' (k := 0) (v := a0) rfl rfl (by omega) (by decide) e0 ?_
            show zx_E _ _ _ (30, [some (.inr (some (33, 0, 0, 0))), some (.inr (some (0, 0, 0, 0))), some (.inr (some (25, 0, 0, 0))), some (.inl 0)], [.inl a0], (zx_lay zM0, 308)) _
            refine zx_E.go 2 (s' := (33, [some (.inr (some (33, 0, 0, 0))), some (.inr (some (0, 0, 0, 0))), some (.inr (some (25, 0, 0, 0))), some (.inl 0)], [.inl (a0 &&& 31)], (zx_lay zM0, 308))) rfl ?_
            refine zx_E.one (s' := (zx_pick (a0 &&& 31) 0 [136, 211, 224, 247, 270, 293, 316, 339, 372, 405, 438, 471, 494, 517, 560, 573, 606, 639, 652, 685, 698, 711] 734, [some (.inr (some (33, 0, 0, 0))), some (.inr (some (0, 0, 0, 0))), some (.inr (some (25, 0, 0, 0))), some (.inl 0)], [], (zx_lay zM0, 308))) rfl ?_
            refine zx_E.pick (k' := 1) (by decide) (fun hn => absurd hn (fun q => absurd (hk.symm.trans q) (by decide))) (fun _ => ?_)
            refine zx_E.pick (k' := 2) (by decide) (fun hn => absurd hn (fun q => absurd (hk.symm.trans q) (by decide))) (fun _ => ?_)
            refine zx_E.pick (k' := 3) (by decide) (fun _ => ?_) (fun hn => absurd hk hn)
            refine zx_E.go 5 (s' := (229, [some (.inr (some (33, 0, 0, 0))), some (.inr (some (0, 0, 0, 0))), some (.inr (some (25, 0, 0, 0))), some (.inl 0)], [.inl 1, .inr (some (33, 0, 0, 0)), .inr (some (0, 0, 0, 0))], (zx_lay zM0, 308))) rfl ?_
            refine zx_E.sld' (k := 1) (v := 2) rfl rfl (by omega) (by decide) e1 ?_
            show zx_E _ _ _ (230, [some (.inr (some (33, 0, 0, 0))), some (.inr (some (0, 0, 0, 0))), some (.inr (some (25, 0, 0, 0))), some (.inl 0)], [.inl 2, .inr (some (0, 0, 0, 0))], (zx_lay zM0, 308)) _
            refine zx_E.call1 (y := 96) (as := [.inr (some (0, 0, 0, 0)), .inl 2]) (rest := []) (v := .inl (-5)) (μ' := (zx_lay zM0, 308)) rfl (zx_run_of zc_X10_refusal [some (.inr (some (0, 0, 0, 0))), some (.inl 2)] rfl rfl (by
              refine zx_E.go 3 (s' := (5, [some (.inr (some (0, 0, 0, 0))), some (.inl 2)], [.inl 2, .inr (some (19, 0, 0, 0))], (zx_lay zM0, 308))) rfl ?_
              refine zx_E.call1 (y := 59) (as := [.inr (some (19, 0, 0, 0)), .inl 2]) (rest := []) (v := .inl (-5)) (μ' := (zx_lay zM0, 308)) rfl (zx_run_of zc_X4_numberAt [some (.inr (some (19, 0, 0, 0))), some (.inl 2)] rfl rfl (by
                refine zx_E.go 1 (s' := (1, [some (.inr (some (19, 0, 0, 0))), some (.inl 2)], [.inl 2], (zx_lay zM0, 308))) rfl ?_
                refine zx_E.bf (c := 2 < 0) (s1 := (13, [some (.inr (some (19, 0, 0, 0))), some (.inl 2)], [], (zx_lay zM0, 308))) (s2 := (4, [some (.inr (some (19, 0, 0, 0))), some (.inl 2)], [], (zx_lay zM0, 308))) rfl (by decide) ?_
                refine zx_E.go 4 (s' := (10, [some (.inr (some (19, 0, 0, 0))), some (.inl 2)], [.inl 3, .inl 2], (zx_lay zM0, 308))) rfl ?_
                refine zx_E.bt (c := 2 < 3) (s1 := (15, [some (.inr (some (19, 0, 0, 0))), some (.inl 2)], [], (zx_lay zM0, 308))) (s2 := (13, [some (.inr (some (19, 0, 0, 0))), some (.inl 2)], [], (zx_lay zM0, 308))) rfl (by decide) ?_
                refine zx_E.go 2 (s' := (19, [some (.inr (some (19, 0, 0, 0))), some (.inl 2)], [.inl 0], (zx_lay zM0, 308))) rfl ?_
                refine zx_E.bt (c := 0 = 0) (s1 := (31, [some (.inr (some (19, 0, 0, 0))), some (.inl 2)], [], (zx_lay zM0, 308))) (s2 := (22, [some (.inr (some (19, 0, 0, 0))), some (.inl 2)], [], (zx_lay zM0, 308))) rfl (by decide) ?_
                refine zx_E.go 1 (s' := (33, [some (.inr (some (19, 0, 0, 0))), some (.inl 2)], [.inl (-5)], (zx_lay zM0, 308))) rfl ?_
                exact zx_E.iret rfl (fun h => absurd h (by decide)) rfl)) ?_
              show zx_E _ _ _ (8, [some (.inr (some (0, 0, 0, 0))), some (.inl 2)], [.inl (-5)], (zx_lay zM0, 308)) _
              exact zx_E.iret rfl (fun h => absurd h (by decide)) rfl)) ?_
            show zx_E _ _ _ (233, [some (.inr (some (33, 0, 0, 0))), some (.inr (some (0, 0, 0, 0))), some (.inr (some (25, 0, 0, 0))), some (.inl 0)], [.inl (-5)], (zx_lay zM0, 308)) _
            refine zx_E.go 5 (s' := (238, [some (.inr (some (33, 0, 0, 0))), some (.inr (some (0, 0, 0, 0))), some (.inr (some (25, 0, 0, 0))), some (.inl 0)], [.inl 1, .inr (some (33, 0, 0, 0)), .inr (some (25, 0, 0, 0)), .inl (-5)], (zx_lay zM0, 308))) rfl ?_
            refine zx_E.sld' (k := 1) (v := 2) rfl rfl (by omega) (by decide) e1 ?_
            show zx_E _ _ _ (239, [some (.inr (some (33, 0, 0, 0))), some (.inr (some (0, 0, 0, 0))), some (.inr (some (25, 0, 0, 0))), some (.inl 0)], [.inl 2, .inr (some (25, 0, 0, 0)), .inl (-5)], (zx_lay zM0, 308)) _
            refine zx_E.call1 (y := 172) (as := [.inr (some (25, 0, 0, 0)), .inl 2]) (rest := [.inl (-5)]) (v := .inl (-5)) (μ' := (zx_lay zM0, 308)) rfl (zx_run_of zc_X11_refusal [some (.inr (some (25, 0, 0, 0))), some (.inl 2)] rfl rfl (by
              refine zx_E.go 1 (s' := (1, [some (.inr (some (25, 0, 0, 0))), some (.inl 2)], [.inl 2], (zx_lay zM0, 308))) rfl ?_
              refine zx_E.bf (c := 2 = 0) (s1 := (4, [some (.inr (some (25, 0, 0, 0))), some (.inl 2)], [], (zx_lay zM0, 308))) (s2 := (11, [some (.inr (some (25, 0, 0, 0))), some (.inl 2)], [], (zx_lay zM0, 308))) rfl (by decide) ?_
              refine zx_E.go 2 (s' := (13, [some (.inr (some (25, 0, 0, 0))), some (.inl 2)], [.inl 1, .inl 2], (zx_lay zM0, 308))) rfl ?_
              refine zx_E.bf (c := 2 = 1) (s1 := (16, [some (.inr (some (25, 0, 0, 0))), some (.inl 2)], [], (zx_lay zM0, 308))) (s2 := (23, [some (.inr (some (25, 0, 0, 0))), some (.inl 2)], [], (zx_lay zM0, 308))) rfl (by decide) ?_
              refine zx_E.go 2 (s' := (25, [some (.inr (some (25, 0, 0, 0))), some (.inl 2)], [.inl 2, .inl 2], (zx_lay zM0, 308))) rfl ?_
              refine zx_E.bt (c := 2 = 2) (s1 := (28, [some (.inr (some (25, 0, 0, 0))), some (.inl 2)], [], (zx_lay zM0, 308))) (s2 := (48, [some (.inr (some (25, 0, 0, 0))), some (.inl 2)], [], (zx_lay zM0, 308))) rfl (by decide) ?_
              refine zx_E.go 3 (s' := (33, [some (.inr (some (25, 0, 0, 0))), some (.inl 2)], [.inl 1, .inl (-5)], (zx_lay zM0, 308))) rfl ?_
              refine zx_E.bf (c := (-5) = 1) (s1 := (36, [some (.inr (some (25, 0, 0, 0))), some (.inl 2)], [], (zx_lay zM0, 308))) (s2 := (41, [some (.inr (some (25, 0, 0, 0))), some (.inl 2)], [], (zx_lay zM0, 308))) rfl (by decide) ?_
              refine zx_E.go 3 (s' := (49, [some (.inr (some (25, 0, 0, 0))), some (.inl 2)], [.inl (-5)], (zx_lay zM0, 308))) rfl ?_
              exact zx_E.iret rfl (fun h => absurd h (by decide)) rfl)) ?_
            show zx_E _ _ _ (242, [some (.inr (some (33, 0, 0, 0))), some (.inr (some (0, 0, 0, 0))), some (.inr (some (25, 0, 0, 0))), some (.inl 0)], [.inl (-5), .inl (-5)], (zx_lay zM0, 308)) _
            refine zx_E.bt (c := (-5) = (-5)) (s1 := (734, [some (.inr (some (33, 0, 0, 0))), some (.inr (some (0, 0, 0, 0))), some (.inr (some (25, 0, 0, 0))), some (.inl 0)], [], (zx_lay zM0, 308))) (s2 := (245, [some (.inr (some (33, 0, 0, 0))), some (.inr (some (0, 0, 0, 0))), some (.inr (some (25, 0, 0, 0))), some (.inl 0)], [], (zx_lay zM0, 308))) rfl (by decide) ?_
            refine zx_E.go 6 (s' := (23, [some (.inr (some (33, 0, 0, 0))), some (.inr (some (0, 0, 0, 0))), some (.inr (some (25, 0, 0, 0))), some (.inl 7)], [.inl 7, .inl 7, .inl 7], (zx_lay zM0, 308))) rfl ?_
            refine zx_E.go 1 (s' := (24, [some (.inr (some (33, 0, 0, 0))), some (.inr (some (0, 0, 0, 0))), some (.inr (some (25, 0, 0, 0))), some (.inl 7)], [.inl 0, .inl 7], (zx_lay zM0, 308))) rfl ?_
            refine zx_E.bt (c := 0 < 7) (s1 := (740, [some (.inr (some (33, 0, 0, 0))), some (.inr (some (0, 0, 0, 0))), some (.inr (some (25, 0, 0, 0))), some (.inl 7)], [], (zx_lay zM0, 308))) (s2 := (27, [some (.inr (some (33, 0, 0, 0))), some (.inr (some (0, 0, 0, 0))), some (.inr (some (25, 0, 0, 0))), some (.inl 7)], [], (zx_lay zM0, 308))) rfl (by decide) ?_
            refine zx_E.go 1 (s' := (741, [some (.inr (some (33, 0, 0, 0))), some (.inr (some (0, 0, 0, 0))), some (.inr (some (25, 0, 0, 0))), some (.inl 7)], [.inl 1], (zx_lay zM0, 308))) rfl ?_
            exact zx_E.iret rfl (fun _ => Or.inr rfl) rfl
          · skip
            -- NOT 1: 0
            sorry
    · skip
      by_cases h9 : a1 = 0
      · subst h9
        exact absurd (by decide) h5
      · skip
        by_cases h10 : a1 = 1
        · subst h10
          exact absurd (by decide) h5
        · skip
          by_cases h11 : a1 = 2
          · subst h11
            exact absurd (by decide) h5
          · skip
            refine ⟨(zx_lay zM0, 308), Nat.le_refl _, ?_⟩
            refine zx_E.go 4 (s' := (23, [some (.inr (some (33, 0, 0, 0))), some (.inr (some (0, 0, 0, 0))), some (.inr (some (25, 0, 0, 0))), some (.inl 0)], [.inl 7, .inl 7, .inl 0], (zx_lay zM0, 308))) rfl ?_
            refine zx_E.go 1 (s' := (24, [some (.inr (some (33, 0, 0, 0))), some (.inr (some (0, 0, 0, 0))), some (.inr (some (25, 0, 0, 0))), some (.inl 0)], [.inl 0, .inl 0], (zx_lay zM0, 308))) rfl ?_
            refine zx_E.bf (c := 0 < 0) (s1 := (740, [some (.inr (some (33, 0, 0, 0))), some (.inr (some (0, 0, 0, 0))), some (.inr (some (25, 0, 0, 0))), some (.inl 0)], [], (zx_lay zM0, 308))) (s2 := (27, [some (.inr (some (33, 0, 0, 0))), some (.inr (some (0, 0, 0, 0))), some (.inr (some (25, 0, 0, 0))), some (.inl 0)], [], (zx_lay zM0, 308))) rfl (by decide) ?_
            refine zx_E.go 2 (s' := (29, [some (.inr (some (33, 0, 0, 0))), some (.inr (some (0, 0, 0, 0))), some (.inr (some (25, 0, 0, 0))), some (.inl 0)], [.inl 0, .inr (some (33, 0, 0, 0))], (zx_lay zM0, 308))) rfl ?_
            refine zx_E.sld' (k := 0) (v := a0) rfl rfl (by omega) (by decide) e0 ?_
            show zx_E _ _ _ (30, [some (.inr (some (33, 0, 0, 0))), some (.inr (some (0, 0, 0, 0))), some (.inr (some (25, 0, 0, 0))), some (.inl 0)], [.inl a0], (zx_lay zM0, 308)) _
            refine zx_E.go 2 (s' := (33, [some (.inr (some (33, 0, 0, 0))), some (.inr (some (0, 0, 0, 0))), some (.inr (some (25, 0, 0, 0))), some (.inl 0)], [.inl (a0 &&& 31)], (zx_lay zM0, 308))) rfl ?_
            refine zx_E.one (s' := (zx_pick (a0 &&& 31) 0 [136, 211, 224, 247, 270, 293, 316, 339, 372, 405, 438, 471, 494, 517, 560, 573, 606, 639, 652, 685, 698, 711] 734, [some (.inr (some (33, 0, 0, 0))), some (.inr (some (0, 0, 0, 0))), some (.inr (some (25, 0, 0, 0))), some (.inl 0)], [], (zx_lay zM0, 308))) rfl ?_
            refine zx_E.pick (k' := 1) (by decide) (fun hn => absurd hn (fun q => absurd (hk.symm.trans q) (by decide))) (fun _ => ?_)
            refine zx_E.pick (k' := 2) (by decide) (fun hn => absurd hn (fun q => absurd (hk.symm.trans q) (by decide))) (fun _ => ?_)
            refine zx_E.pick (k' := 3) (by decide) (fun _ => ?_) (fun hn => absurd hk hn)
            refine zx_E.go 5 (s' := (229, [some (.inr (some (33, 0, 0, 0))), some (.inr (some (0, 0, 0, 0))), some (.inr (some (25, 0, 0, 0))), some (.inl 0)], [.inl 1, .inr (some (33, 0, 0, 0)), .inr (some (0, 0, 0, 0))], (zx_lay zM0, 308))) rfl ?_
            refine zx_E.sld' (k := 1) (v := a1) rfl rfl (by omega) (by decide) e1 ?_
            show zx_E _ _ _ (230, [some (.inr (some (33, 0, 0, 0))), some (.inr (some (0, 0, 0, 0))), some (.inr (some (25, 0, 0, 0))), some (.inl 0)], [.inl a1, .inr (some (0, 0, 0, 0))], (zx_lay zM0, 308)) _
            refine zx_E.call1 (y := 96) (as := [.inr (some (0, 0, 0, 0)), .inl a1]) (rest := []) (v := .inl (-1)) (μ' := (zx_lay zM0, 308)) rfl (zx_run_of zc_X10_refusal [some (.inr (some (0, 0, 0, 0))), some (.inl a1)] rfl rfl (by
              refine zx_E.go 3 (s' := (5, [some (.inr (some (0, 0, 0, 0))), some (.inl a1)], [.inl a1, .inr (some (19, 0, 0, 0))], (zx_lay zM0, 308))) rfl ?_
              refine zx_E.call1 (y := 59) (as := [.inr (some (19, 0, 0, 0)), .inl a1]) (rest := []) (v := .inl (-1)) (μ' := (zx_lay zM0, 308)) rfl (zx_run_of zc_X4_numberAt [some (.inr (some (19, 0, 0, 0))), some (.inl a1)] rfl rfl (by
                refine zx_E.go 1 (s' := (1, [some (.inr (some (19, 0, 0, 0))), some (.inl a1)], [.inl a1], (zx_lay zM0, 308))) rfl ?_
                refine zx_E.bf (c := a1 < 0) (s1 := (13, [some (.inr (some (19, 0, 0, 0))), some (.inl a1)], [], (zx_lay zM0, 308))) (s2 := (4, [some (.inr (some (19, 0, 0, 0))), some (.inl a1)], [], (zx_lay zM0, 308))) rfl h1 ?_
                refine zx_E.go 4 (s' := (10, [some (.inr (some (19, 0, 0, 0))), some (.inl a1)], [.inl 3, .inl a1], (zx_lay zM0, 308))) rfl ?_
                refine zx_E.bf (c := a1 < 3) (s1 := (15, [some (.inr (some (19, 0, 0, 0))), some (.inl a1)], [], (zx_lay zM0, 308))) (s2 := (13, [some (.inr (some (19, 0, 0, 0))), some (.inl a1)], [], (zx_lay zM0, 308))) rfl h5 ?_
                refine zx_E.go 1 (s' := (14, [some (.inr (some (19, 0, 0, 0))), some (.inl a1)], [.inl (-1)], (zx_lay zM0, 308))) rfl ?_
                exact zx_E.iret rfl (fun h => absurd h (by decide)) rfl)) ?_
              show zx_E _ _ _ (8, [some (.inr (some (0, 0, 0, 0))), some (.inl a1)], [.inl (-1)], (zx_lay zM0, 308)) _
              exact zx_E.iret rfl (fun h => absurd h (by decide)) rfl)) ?_
            show zx_E _ _ _ (233, [some (.inr (some (33, 0, 0, 0))), some (.inr (some (0, 0, 0, 0))), some (.inr (some (25, 0, 0, 0))), some (.inl 0)], [.inl (-1)], (zx_lay zM0, 308)) _
            refine zx_E.go 5 (s' := (238, [some (.inr (some (33, 0, 0, 0))), some (.inr (some (0, 0, 0, 0))), some (.inr (some (25, 0, 0, 0))), some (.inl 0)], [.inl 1, .inr (some (33, 0, 0, 0)), .inr (some (25, 0, 0, 0)), .inl (-1)], (zx_lay zM0, 308))) rfl ?_
            refine zx_E.sld' (k := 1) (v := a1) rfl rfl (by omega) (by decide) e1 ?_
            show zx_E _ _ _ (239, [some (.inr (some (33, 0, 0, 0))), some (.inr (some (0, 0, 0, 0))), some (.inr (some (25, 0, 0, 0))), some (.inl 0)], [.inl a1, .inr (some (25, 0, 0, 0)), .inl (-1)], (zx_lay zM0, 308)) _
            refine zx_E.call1 (y := 172) (as := [.inr (some (25, 0, 0, 0)), .inl a1]) (rest := [.inl (-1)]) (v := .inl (-1)) (μ' := (zx_lay zM0, 308)) rfl (zx_run_of zc_X11_refusal [some (.inr (some (25, 0, 0, 0))), some (.inl a1)] rfl rfl (by
              refine zx_E.go 1 (s' := (1, [some (.inr (some (25, 0, 0, 0))), some (.inl a1)], [.inl a1], (zx_lay zM0, 308))) rfl ?_
              refine zx_E.bf (c := a1 = 0) (s1 := (4, [some (.inr (some (25, 0, 0, 0))), some (.inl a1)], [], (zx_lay zM0, 308))) (s2 := (11, [some (.inr (some (25, 0, 0, 0))), some (.inl a1)], [], (zx_lay zM0, 308))) rfl h9 ?_
              refine zx_E.go 2 (s' := (13, [some (.inr (some (25, 0, 0, 0))), some (.inl a1)], [.inl 1, .inl a1], (zx_lay zM0, 308))) rfl ?_
              refine zx_E.bf (c := a1 = 1) (s1 := (16, [some (.inr (some (25, 0, 0, 0))), some (.inl a1)], [], (zx_lay zM0, 308))) (s2 := (23, [some (.inr (some (25, 0, 0, 0))), some (.inl a1)], [], (zx_lay zM0, 308))) rfl h10 ?_
              refine zx_E.go 2 (s' := (25, [some (.inr (some (25, 0, 0, 0))), some (.inl a1)], [.inl 2, .inl a1], (zx_lay zM0, 308))) rfl ?_
              refine zx_E.bf (c := a1 = 2) (s1 := (28, [some (.inr (some (25, 0, 0, 0))), some (.inl a1)], [], (zx_lay zM0, 308))) (s2 := (48, [some (.inr (some (25, 0, 0, 0))), some (.inl a1)], [], (zx_lay zM0, 308))) rfl h11 ?_
              refine zx_E.go 1 (s' := (49, [some (.inr (some (25, 0, 0, 0))), some (.inl a1)], [.inl (-1)], (zx_lay zM0, 308))) rfl ?_
              exact zx_E.iret rfl (fun h => absurd h (by decide)) rfl)) ?_
            show zx_E _ _ _ (242, [some (.inr (some (33, 0, 0, 0))), some (.inr (some (0, 0, 0, 0))), some (.inr (some (25, 0, 0, 0))), some (.inl 0)], [.inl (-1), .inl (-1)], (zx_lay zM0, 308)) _
            refine zx_E.bt (c := (-1) = (-1)) (s1 := (734, [some (.inr (some (33, 0, 0, 0))), some (.inr (some (0, 0, 0, 0))), some (.inr (some (25, 0, 0, 0))), some (.inl 0)], [], (zx_lay zM0, 308))) (s2 := (245, [some (.inr (some (33, 0, 0, 0))), some (.inr (some (0, 0, 0, 0))), some (.inr (some (25, 0, 0, 0))), some (.inl 0)], [], (zx_lay zM0, 308))) rfl (by decide) ?_
            refine zx_E.go 6 (s' := (23, [some (.inr (some (33, 0, 0, 0))), some (.inr (some (0, 0, 0, 0))), some (.inr (some (25, 0, 0, 0))), some (.inl 7)], [.inl 7, .inl 7, .inl 7], (zx_lay zM0, 308))) rfl ?_
            refine zx_E.go 1 (s' := (24, [some (.inr (some (33, 0, 0, 0))), some (.inr (some (0, 0, 0, 0))), some (.inr (some (25, 0, 0, 0))), some (.inl 7)], [.inl 0, .inl 7], (zx_lay zM0, 308))) rfl ?_
            refine zx_E.bt (c := 0 < 7) (s1 := (740, [some (.inr (some (33, 0, 0, 0))), some (.inr (some (0, 0, 0, 0))), some (.inr (some (25, 0, 0, 0))), some (.inl 7)], [], (zx_lay zM0, 308))) (s2 := (27, [some (.inr (some (33, 0, 0, 0))), some (.inr (some (0, 0, 0, 0))), some (.inr (some (25, 0, 0, 0))), some (.inl 7)], [], (zx_lay zM0, 308))) rfl (by decide) ?_
            refine zx_E.go 1 (s' := (741, [some (.inr (some (33, 0, 0, 0))), some (.inr (some (0, 0, 0, 0))), some (.inr (some (25, 0, 0, 0))), some (.inl 7)], [.inl 1], (zx_lay zM0, 308))) rfl ?_
            exact zx_E.iret rfl (fun _ => Or.inr rfl) rfl
set_option maxRecDepth 100000 in
set_option maxHeartbeats 4000000 in
theorem p1_op_4 {xs : Nat → Int32} {a0 a1 a2 a3 a4 a5 a6 : Int32} (e0 : xs 0 = a0) (e1 : xs 1 = a1) (e2 : xs 2 = a2) (e3 : xs 3 = a3) (e4 : xs 4 = a4) (e5 : xs 5 = a5) (e6 : xs 6 = a6) (hk : (a0 &&& 31) = 4) :
    ∃ μ : zx_M, μ.2 ≤ 308 ∧ zx_E (7, xs) 11 zc_L_law (18, [some (.inr (some (33, 0, 0, 0))), some (.inr (some (0, 0, 0, 0))), some (.inr (some (25, 0, 0, 0))), some (.inl 0)], [], (zx_lay zM0, 308)) (some (.inl 1), μ) := by
  by_cases h1 : a1 < 0
  · skip
    refine ⟨(zx_lay zM0, 308), Nat.le_refl _, ?_⟩
    refine zx_E.go 4 (s' := (23, [some (.inr (some (33, 0, 0, 0))), some (.inr (some (0, 0, 0, 0))), some (.inr (some (25, 0, 0, 0))), some (.inl 0)], [.inl 7, .inl 7, .inl 0], (zx_lay zM0, 308))) rfl ?_
    refine zx_E.go 1 (s' := (24, [some (.inr (some (33, 0, 0, 0))), some (.inr (some (0, 0, 0, 0))), some (.inr (some (25, 0, 0, 0))), some (.inl 0)], [.inl 0, .inl 0], (zx_lay zM0, 308))) rfl ?_
    refine zx_E.bf (c := 0 < 0) (s1 := (740, [some (.inr (some (33, 0, 0, 0))), some (.inr (some (0, 0, 0, 0))), some (.inr (some (25, 0, 0, 0))), some (.inl 0)], [], (zx_lay zM0, 308))) (s2 := (27, [some (.inr (some (33, 0, 0, 0))), some (.inr (some (0, 0, 0, 0))), some (.inr (some (25, 0, 0, 0))), some (.inl 0)], [], (zx_lay zM0, 308))) rfl (by decide) ?_
    refine zx_E.go 2 (s' := (29, [some (.inr (some (33, 0, 0, 0))), some (.inr (some (0, 0, 0, 0))), some (.inr (some (25, 0, 0, 0))), some (.inl 0)], [.inl 0, .inr (some (33, 0, 0, 0))], (zx_lay zM0, 308))) rfl ?_
    refine zx_E.sld' (k := 0) (v := a0) rfl rfl (by omega) (by decide) e0 ?_
    show zx_E _ _ _ (30, [some (.inr (some (33, 0, 0, 0))), some (.inr (some (0, 0, 0, 0))), some (.inr (some (25, 0, 0, 0))), some (.inl 0)], [.inl a0], (zx_lay zM0, 308)) _
    refine zx_E.go 2 (s' := (33, [some (.inr (some (33, 0, 0, 0))), some (.inr (some (0, 0, 0, 0))), some (.inr (some (25, 0, 0, 0))), some (.inl 0)], [.inl (a0 &&& 31)], (zx_lay zM0, 308))) rfl ?_
    refine zx_E.one (s' := (zx_pick (a0 &&& 31) 0 [136, 211, 224, 247, 270, 293, 316, 339, 372, 405, 438, 471, 494, 517, 560, 573, 606, 639, 652, 685, 698, 711] 734, [some (.inr (some (33, 0, 0, 0))), some (.inr (some (0, 0, 0, 0))), some (.inr (some (25, 0, 0, 0))), some (.inl 0)], [], (zx_lay zM0, 308))) rfl ?_
    refine zx_E.pick (k' := 1) (by decide) (fun hn => absurd hn (fun q => absurd (hk.symm.trans q) (by decide))) (fun _ => ?_)
    refine zx_E.pick (k' := 2) (by decide) (fun hn => absurd hn (fun q => absurd (hk.symm.trans q) (by decide))) (fun _ => ?_)
    refine zx_E.pick (k' := 3) (by decide) (fun hn => absurd hn (fun q => absurd (hk.symm.trans q) (by decide))) (fun _ => ?_)
    refine zx_E.pick (k' := 4) (by decide) (fun hn => absurd hn (fun q => absurd (hk.symm.trans q) (by decide))) (fun _ => ?_)
    refine zx_E.pick (k' := 5) (by decide) (fun _ => ?_) (fun hn => absurd hk hn)
    refine zx_E.go 5 (s' := (275, [some (.inr (some (33, 0, 0, 0))), some (.inr (some (0, 0, 0, 0))), some (.inr (some (25, 0, 0, 0))), some (.inl 0)], [.inl 1, .inr (some (33, 0, 0, 0)), .inr (some (0, 0, 0, 0))], (zx_lay zM0, 308))) rfl ?_
    refine zx_E.sld' (k := 1) (v := a1) rfl rfl (by omega) (by decide) e1 ?_
    show zx_E _ _ _ (276, [some (.inr (some (33, 0, 0, 0))), some (.inr (some (0, 0, 0, 0))), some (.inr (some (25, 0, 0, 0))), some (.inl 0)], [.inl a1, .inr (some (0, 0, 0, 0))], (zx_lay zM0, 308)) _
    refine zx_E.call1 (y := 98) (as := [.inr (some (0, 0, 0, 0)), .inl a1]) (rest := []) (v := .inl (-1)) (μ' := (zx_lay zM0, 308)) rfl (zx_run_of zc_X10_cancel [some (.inr (some (0, 0, 0, 0))), some (.inl a1), none] rfl rfl (by
      refine zx_E.go 3 (s' := (5, [some (.inr (some (0, 0, 0, 0))), some (.inl a1), none], [.inl a1, .inr (some (1, 0, 0, 0))], (zx_lay zM0, 308))) rfl ?_
      refine zx_E.call1 (y := 18) (as := [.inr (some (1, 0, 0, 0)), .inl a1]) (rest := []) (v := .inr none) (μ' := (zx_lay zM0, 308)) rfl (zx_run_of zc_X2_trainWith [some (.inr (some (1, 0, 0, 0))), some (.inl a1)] rfl rfl (by
        refine zx_E.go 1 (s' := (1, [some (.inr (some (1, 0, 0, 0))), some (.inl a1)], [.inl a1], (zx_lay zM0, 308))) rfl ?_
        refine zx_E.bt (c := a1 < 0) (s1 := (27, [some (.inr (some (1, 0, 0, 0))), some (.inl a1)], [], (zx_lay zM0, 308))) (s2 := (4, [some (.inr (some (1, 0, 0, 0))), some (.inl a1)], [], (zx_lay zM0, 308))) rfl h1 ?_
        refine zx_E.go 1 (s' := (28, [some (.inr (some (1, 0, 0, 0))), some (.inl a1)], [.inr none], (zx_lay zM0, 308))) rfl ?_
        exact zx_E.ret rfl)) ?_
      show zx_E _ _ _ (8, [some (.inr (some (0, 0, 0, 0))), some (.inl a1), none], [.inr none], (zx_lay zM0, 308)) _
      refine zx_E.go 4 (s' := (22, [some (.inr (some (0, 0, 0, 0))), some (.inl a1), some (.inr none)], [.inl (-1)], (zx_lay zM0, 308))) rfl ?_
      exact zx_E.iret rfl (fun h => absurd h (by decide)) rfl)) ?_
    show zx_E _ _ _ (279, [some (.inr (some (33, 0, 0, 0))), some (.inr (some (0, 0, 0, 0))), some (.inr (some (25, 0, 0, 0))), some (.inl 0)], [.inl (-1)], (zx_lay zM0, 308)) _
    refine zx_E.go 5 (s' := (284, [some (.inr (some (33, 0, 0, 0))), some (.inr (some (0, 0, 0, 0))), some (.inr (some (25, 0, 0, 0))), some (.inl 0)], [.inl 1, .inr (some (33, 0, 0, 0)), .inr (some (25, 0, 0, 0)), .inl (-1)], (zx_lay zM0, 308))) rfl ?_
    refine zx_E.sld' (k := 1) (v := a1) rfl rfl (by omega) (by decide) e1 ?_
    show zx_E _ _ _ (285, [some (.inr (some (33, 0, 0, 0))), some (.inr (some (0, 0, 0, 0))), some (.inr (some (25, 0, 0, 0))), some (.inl 0)], [.inl a1, .inr (some (25, 0, 0, 0)), .inl (-1)], (zx_lay zM0, 308)) _
    refine zx_E.call1 (y := 174) (as := [.inr (some (25, 0, 0, 0)), .inl a1]) (rest := [.inl (-1)]) (v := .inl (-1)) (μ' := (zx_lay zM0, 308)) rfl (zx_run_of zc_X11_cancel [some (.inr (some (25, 0, 0, 0))), some (.inl a1)] rfl rfl (by
      refine zx_E.go 2 (s' := (2, [some (.inr (some (25, 0, 0, 0))), some (.inl a1)], [.inl a1, .inr (some (25, 0, 0, 0))], (zx_lay zM0, 308))) rfl ?_
      refine zx_E.call1 (y := 124) (as := [.inr (some (25, 0, 0, 0)), .inl a1]) (rest := []) (v := .inl 0) (μ' := (zx_lay zM0, 308)) rfl (zx_run_of zc_X11_isTrain [some (.inr (some (25, 0, 0, 0))), some (.inl a1)] rfl rfl (by
        refine zx_E.go 5 (s' := (8, [some (.inr (some (25, 0, 0, 0))), some (.inl a1)], [.inl 27, .inr (some (26, 0, 0, 0)), .inl 0, .inl a1], (zx_lay zM0, 308))) rfl ?_
        refine zx_E.iald' (k := 27) (h := (26, 0, 0, 0)) (v := 0) rfl rfl rfl (by decide) rfl ?_
        show zx_E _ _ _ (9, [some (.inr (some (25, 0, 0, 0))), some (.inl a1)], [.inl 0, .inl 0, .inl a1], (zx_lay zM0, 308)) _
        refine zx_E.go 2 (s' := (11, [some (.inr (some (25, 0, 0, 0))), some (.inl a1)], [.inl (-1), .inl 0, .inl a1], (zx_lay zM0, 308))) rfl ?_
        refine zx_E.call1 (y := 121) (as := [.inl a1, .inl 0, .inl (-1)]) (rest := []) (v := .inl 0) (μ' := (zx_lay zM0, 308)) rfl (zx_run_of zc_X11_isIn [some (.inl a1), some (.inl 0), some (.inl (-1))] rfl rfl (by
          refine zx_E.go 2 (s' := (2, [some (.inl a1), some (.inl 0), some (.inl (-1))], [.inl 0, .inl a1], (zx_lay zM0, 308))) rfl ?_
          refine zx_E.bt (c := a1 < 0) (s1 := (14, [some (.inl a1), some (.inl 0), some (.inl (-1))], [], (zx_lay zM0, 308))) (s2 := (5, [some (.inl a1), some (.inl 0), some (.inl (-1))], [], (zx_lay zM0, 308))) rfl h1 ?_
          refine zx_E.go 1 (s' := (15, [some (.inl a1), some (.inl 0), some (.inl (-1))], [.inl 0], (zx_lay zM0, 308))) rfl ?_
          exact zx_E.iret rfl (fun _ => Or.inl rfl) rfl)) ?_
        show zx_E _ _ _ (14, [some (.inr (some (25, 0, 0, 0))), some (.inl a1)], [.inl 0], (zx_lay zM0, 308)) _
        exact zx_E.iret rfl (fun _ => Or.inl rfl) rfl)) ?_
      show zx_E _ _ _ (5, [some (.inr (some (25, 0, 0, 0))), some (.inl a1)], [.inl 0], (zx_lay zM0, 308)) _
      refine zx_E.bt (c := 0 = 0) (s1 := (18, [some (.inr (some (25, 0, 0, 0))), some (.inl a1)], [], (zx_lay zM0, 308))) (s2 := (8, [some (.inr (some (25, 0, 0, 0))), some (.inl a1)], [], (zx_lay zM0, 308))) rfl (by decide) ?_
      refine zx_E.go 1 (s' := (19, [some (.inr (some (25, 0, 0, 0))), some (.inl a1)], [.inl (-1)], (zx_lay zM0, 308))) rfl ?_
      exact zx_E.iret rfl (fun h => absurd h (by decide)) rfl)) ?_
    show zx_E _ _ _ (288, [some (.inr (some (33, 0, 0, 0))), some (.inr (some (0, 0, 0, 0))), some (.inr (some (25, 0, 0, 0))), some (.inl 0)], [.inl (-1), .inl (-1)], (zx_lay zM0, 308)) _
    refine zx_E.bt (c := (-1) = (-1)) (s1 := (734, [some (.inr (some (33, 0, 0, 0))), some (.inr (some (0, 0, 0, 0))), some (.inr (some (25, 0, 0, 0))), some (.inl 0)], [], (zx_lay zM0, 308))) (s2 := (291, [some (.inr (some (33, 0, 0, 0))), some (.inr (some (0, 0, 0, 0))), some (.inr (some (25, 0, 0, 0))), some (.inl 0)], [], (zx_lay zM0, 308))) rfl (by decide) ?_
    refine zx_E.go 6 (s' := (23, [some (.inr (some (33, 0, 0, 0))), some (.inr (some (0, 0, 0, 0))), some (.inr (some (25, 0, 0, 0))), some (.inl 7)], [.inl 7, .inl 7, .inl 7], (zx_lay zM0, 308))) rfl ?_
    refine zx_E.go 1 (s' := (24, [some (.inr (some (33, 0, 0, 0))), some (.inr (some (0, 0, 0, 0))), some (.inr (some (25, 0, 0, 0))), some (.inl 7)], [.inl 0, .inl 7], (zx_lay zM0, 308))) rfl ?_
    refine zx_E.bt (c := 0 < 7) (s1 := (740, [some (.inr (some (33, 0, 0, 0))), some (.inr (some (0, 0, 0, 0))), some (.inr (some (25, 0, 0, 0))), some (.inl 7)], [], (zx_lay zM0, 308))) (s2 := (27, [some (.inr (some (33, 0, 0, 0))), some (.inr (some (0, 0, 0, 0))), some (.inr (some (25, 0, 0, 0))), some (.inl 7)], [], (zx_lay zM0, 308))) rfl (by decide) ?_
    refine zx_E.go 1 (s' := (741, [some (.inr (some (33, 0, 0, 0))), some (.inr (some (0, 0, 0, 0))), some (.inr (some (25, 0, 0, 0))), some (.inl 7)], [.inl 1], (zx_lay zM0, 308))) rfl ?_
    exact zx_E.iret rfl (fun _ => Or.inr rfl) rfl
  · skip
    refine ⟨(zx_lay zM0, 308), Nat.le_refl _, ?_⟩
    refine zx_E.go 4 (s' := (23, [some (.inr (some (33, 0, 0, 0))), some (.inr (some (0, 0, 0, 0))), some (.inr (some (25, 0, 0, 0))), some (.inl 0)], [.inl 7, .inl 7, .inl 0], (zx_lay zM0, 308))) rfl ?_
    refine zx_E.go 1 (s' := (24, [some (.inr (some (33, 0, 0, 0))), some (.inr (some (0, 0, 0, 0))), some (.inr (some (25, 0, 0, 0))), some (.inl 0)], [.inl 0, .inl 0], (zx_lay zM0, 308))) rfl ?_
    refine zx_E.bf (c := 0 < 0) (s1 := (740, [some (.inr (some (33, 0, 0, 0))), some (.inr (some (0, 0, 0, 0))), some (.inr (some (25, 0, 0, 0))), some (.inl 0)], [], (zx_lay zM0, 308))) (s2 := (27, [some (.inr (some (33, 0, 0, 0))), some (.inr (some (0, 0, 0, 0))), some (.inr (some (25, 0, 0, 0))), some (.inl 0)], [], (zx_lay zM0, 308))) rfl (by decide) ?_
    refine zx_E.go 2 (s' := (29, [some (.inr (some (33, 0, 0, 0))), some (.inr (some (0, 0, 0, 0))), some (.inr (some (25, 0, 0, 0))), some (.inl 0)], [.inl 0, .inr (some (33, 0, 0, 0))], (zx_lay zM0, 308))) rfl ?_
    refine zx_E.sld' (k := 0) (v := a0) rfl rfl (by omega) (by decide) e0 ?_
    show zx_E _ _ _ (30, [some (.inr (some (33, 0, 0, 0))), some (.inr (some (0, 0, 0, 0))), some (.inr (some (25, 0, 0, 0))), some (.inl 0)], [.inl a0], (zx_lay zM0, 308)) _
    refine zx_E.go 2 (s' := (33, [some (.inr (some (33, 0, 0, 0))), some (.inr (some (0, 0, 0, 0))), some (.inr (some (25, 0, 0, 0))), some (.inl 0)], [.inl (a0 &&& 31)], (zx_lay zM0, 308))) rfl ?_
    refine zx_E.one (s' := (zx_pick (a0 &&& 31) 0 [136, 211, 224, 247, 270, 293, 316, 339, 372, 405, 438, 471, 494, 517, 560, 573, 606, 639, 652, 685, 698, 711] 734, [some (.inr (some (33, 0, 0, 0))), some (.inr (some (0, 0, 0, 0))), some (.inr (some (25, 0, 0, 0))), some (.inl 0)], [], (zx_lay zM0, 308))) rfl ?_
    refine zx_E.pick (k' := 1) (by decide) (fun hn => absurd hn (fun q => absurd (hk.symm.trans q) (by decide))) (fun _ => ?_)
    refine zx_E.pick (k' := 2) (by decide) (fun hn => absurd hn (fun q => absurd (hk.symm.trans q) (by decide))) (fun _ => ?_)
    refine zx_E.pick (k' := 3) (by decide) (fun hn => absurd hn (fun q => absurd (hk.symm.trans q) (by decide))) (fun _ => ?_)
    refine zx_E.pick (k' := 4) (by decide) (fun hn => absurd hn (fun q => absurd (hk.symm.trans q) (by decide))) (fun _ => ?_)
    refine zx_E.pick (k' := 5) (by decide) (fun _ => ?_) (fun hn => absurd hk hn)
    refine zx_E.go 5 (s' := (275, [some (.inr (some (33, 0, 0, 0))), some (.inr (some (0, 0, 0, 0))), some (.inr (some (25, 0, 0, 0))), some (.inl 0)], [.inl 1, .inr (some (33, 0, 0, 0)), .inr (some (0, 0, 0, 0))], (zx_lay zM0, 308))) rfl ?_
    refine zx_E.sld' (k := 1) (v := a1) rfl rfl (by omega) (by decide) e1 ?_
    show zx_E _ _ _ (276, [some (.inr (some (33, 0, 0, 0))), some (.inr (some (0, 0, 0, 0))), some (.inr (some (25, 0, 0, 0))), some (.inl 0)], [.inl a1, .inr (some (0, 0, 0, 0))], (zx_lay zM0, 308)) _
    refine zx_E.call1 (y := 98) (as := [.inr (some (0, 0, 0, 0)), .inl a1]) (rest := []) (v := .inl (-1)) (μ' := (zx_lay zM0, 308)) rfl (zx_run_of zc_X10_cancel [some (.inr (some (0, 0, 0, 0))), some (.inl a1), none] rfl rfl (by
      refine zx_E.go 3 (s' := (5, [some (.inr (some (0, 0, 0, 0))), some (.inl a1), none], [.inl a1, .inr (some (1, 0, 0, 0))], (zx_lay zM0, 308))) rfl ?_
      refine zx_E.call1 (y := 18) (as := [.inr (some (1, 0, 0, 0)), .inl a1]) (rest := []) (v := .inr none) (μ' := (zx_lay zM0, 308)) rfl (zx_run_of zc_X2_trainWith [some (.inr (some (1, 0, 0, 0))), some (.inl a1)] rfl rfl (by
        refine zx_E.go 1 (s' := (1, [some (.inr (some (1, 0, 0, 0))), some (.inl a1)], [.inl a1], (zx_lay zM0, 308))) rfl ?_
        refine zx_E.bf (c := a1 < 0) (s1 := (27, [some (.inr (some (1, 0, 0, 0))), some (.inl a1)], [], (zx_lay zM0, 308))) (s2 := (4, [some (.inr (some (1, 0, 0, 0))), some (.inl a1)], [], (zx_lay zM0, 308))) rfl h1 ?_
        refine zx_E.go 3 (s' := (9, [some (.inr (some (1, 0, 0, 0))), some (.inl a1)], [.inl 0, .inl a1], (zx_lay zM0, 308))) rfl ?_
        refine zx_E.bt (c := 0 ≤ a1) (s1 := (27, [some (.inr (some (1, 0, 0, 0))), some (.inl a1)], [], (zx_lay zM0, 308))) (s2 := (12, [some (.inr (some (1, 0, 0, 0))), some (.inl a1)], [], (zx_lay zM0, 308))) rfl (Int32.not_lt.mp h1) ?_
        refine zx_E.go 1 (s' := (28, [some (.inr (some (1, 0, 0, 0))), some (.inl a1)], [.inr none], (zx_lay zM0, 308))) rfl ?_
        exact zx_E.ret rfl)) ?_
      show zx_E _ _ _ (8, [some (.inr (some (0, 0, 0, 0))), some (.inl a1), none], [.inr none], (zx_lay zM0, 308)) _
      refine zx_E.go 4 (s' := (22, [some (.inr (some (0, 0, 0, 0))), some (.inl a1), some (.inr none)], [.inl (-1)], (zx_lay zM0, 308))) rfl ?_
      exact zx_E.iret rfl (fun h => absurd h (by decide)) rfl)) ?_
    show zx_E _ _ _ (279, [some (.inr (some (33, 0, 0, 0))), some (.inr (some (0, 0, 0, 0))), some (.inr (some (25, 0, 0, 0))), some (.inl 0)], [.inl (-1)], (zx_lay zM0, 308)) _
    refine zx_E.go 5 (s' := (284, [some (.inr (some (33, 0, 0, 0))), some (.inr (some (0, 0, 0, 0))), some (.inr (some (25, 0, 0, 0))), some (.inl 0)], [.inl 1, .inr (some (33, 0, 0, 0)), .inr (some (25, 0, 0, 0)), .inl (-1)], (zx_lay zM0, 308))) rfl ?_
    refine zx_E.sld' (k := 1) (v := a1) rfl rfl (by omega) (by decide) e1 ?_
    show zx_E _ _ _ (285, [some (.inr (some (33, 0, 0, 0))), some (.inr (some (0, 0, 0, 0))), some (.inr (some (25, 0, 0, 0))), some (.inl 0)], [.inl a1, .inr (some (25, 0, 0, 0)), .inl (-1)], (zx_lay zM0, 308)) _
    refine zx_E.call1 (y := 174) (as := [.inr (some (25, 0, 0, 0)), .inl a1]) (rest := [.inl (-1)]) (v := .inl (-1)) (μ' := (zx_lay zM0, 308)) rfl (zx_run_of zc_X11_cancel [some (.inr (some (25, 0, 0, 0))), some (.inl a1)] rfl rfl (by
      refine zx_E.go 2 (s' := (2, [some (.inr (some (25, 0, 0, 0))), some (.inl a1)], [.inl a1, .inr (some (25, 0, 0, 0))], (zx_lay zM0, 308))) rfl ?_
      refine zx_E.call1 (y := 124) (as := [.inr (some (25, 0, 0, 0)), .inl a1]) (rest := []) (v := .inl 0) (μ' := (zx_lay zM0, 308)) rfl (zx_run_of zc_X11_isTrain [some (.inr (some (25, 0, 0, 0))), some (.inl a1)] rfl rfl (by
        refine zx_E.go 5 (s' := (8, [some (.inr (some (25, 0, 0, 0))), some (.inl a1)], [.inl 27, .inr (some (26, 0, 0, 0)), .inl 0, .inl a1], (zx_lay zM0, 308))) rfl ?_
        refine zx_E.iald' (k := 27) (h := (26, 0, 0, 0)) (v := 0) rfl rfl rfl (by decide) rfl ?_
        show zx_E _ _ _ (9, [some (.inr (some (25, 0, 0, 0))), some (.inl a1)], [.inl 0, .inl 0, .inl a1], (zx_lay zM0, 308)) _
        refine zx_E.go 2 (s' := (11, [some (.inr (some (25, 0, 0, 0))), some (.inl a1)], [.inl (-1), .inl 0, .inl a1], (zx_lay zM0, 308))) rfl ?_
        refine zx_E.call1 (y := 121) (as := [.inl a1, .inl 0, .inl (-1)]) (rest := []) (v := .inl 0) (μ' := (zx_lay zM0, 308)) rfl (zx_run_of zc_X11_isIn [some (.inl a1), some (.inl 0), some (.inl (-1))] rfl rfl (by
          refine zx_E.go 2 (s' := (2, [some (.inl a1), some (.inl 0), some (.inl (-1))], [.inl 0, .inl a1], (zx_lay zM0, 308))) rfl ?_
          refine zx_E.bf (c := a1 < 0) (s1 := (14, [some (.inl a1), some (.inl 0), some (.inl (-1))], [], (zx_lay zM0, 308))) (s2 := (5, [some (.inl a1), some (.inl 0), some (.inl (-1))], [], (zx_lay zM0, 308))) rfl h1 ?_
          refine zx_E.go 2 (s' := (7, [some (.inl a1), some (.inl 0), some (.inl (-1))], [.inl (-1), .inl a1], (zx_lay zM0, 308))) rfl ?_
          refine zx_E.bt (c := (-1) < a1) (s1 := (14, [some (.inl a1), some (.inl 0), some (.inl (-1))], [], (zx_lay zM0, 308))) (s2 := (10, [some (.inl a1), some (.inl 0), some (.inl (-1))], [], (zx_lay zM0, 308))) rfl (zx_m1 h1) ?_
          refine zx_E.go 1 (s' := (15, [some (.inl a1), some (.inl 0), some (.inl (-1))], [.inl 0], (zx_lay zM0, 308))) rfl ?_
          exact zx_E.iret rfl (fun _ => Or.inl rfl) rfl)) ?_
        show zx_E _ _ _ (14, [some (.inr (some (25, 0, 0, 0))), some (.inl a1)], [.inl 0], (zx_lay zM0, 308)) _
        exact zx_E.iret rfl (fun _ => Or.inl rfl) rfl)) ?_
      show zx_E _ _ _ (5, [some (.inr (some (25, 0, 0, 0))), some (.inl a1)], [.inl 0], (zx_lay zM0, 308)) _
      refine zx_E.bt (c := 0 = 0) (s1 := (18, [some (.inr (some (25, 0, 0, 0))), some (.inl a1)], [], (zx_lay zM0, 308))) (s2 := (8, [some (.inr (some (25, 0, 0, 0))), some (.inl a1)], [], (zx_lay zM0, 308))) rfl (by decide) ?_
      refine zx_E.go 1 (s' := (19, [some (.inr (some (25, 0, 0, 0))), some (.inl a1)], [.inl (-1)], (zx_lay zM0, 308))) rfl ?_
      exact zx_E.iret rfl (fun h => absurd h (by decide)) rfl)) ?_
    show zx_E _ _ _ (288, [some (.inr (some (33, 0, 0, 0))), some (.inr (some (0, 0, 0, 0))), some (.inr (some (25, 0, 0, 0))), some (.inl 0)], [.inl (-1), .inl (-1)], (zx_lay zM0, 308)) _
    refine zx_E.bt (c := (-1) = (-1)) (s1 := (734, [some (.inr (some (33, 0, 0, 0))), some (.inr (some (0, 0, 0, 0))), some (.inr (some (25, 0, 0, 0))), some (.inl 0)], [], (zx_lay zM0, 308))) (s2 := (291, [some (.inr (some (33, 0, 0, 0))), some (.inr (some (0, 0, 0, 0))), some (.inr (some (25, 0, 0, 0))), some (.inl 0)], [], (zx_lay zM0, 308))) rfl (by decide) ?_
    refine zx_E.go 6 (s' := (23, [some (.inr (some (33, 0, 0, 0))), some (.inr (some (0, 0, 0, 0))), some (.inr (some (25, 0, 0, 0))), some (.inl 7)], [.inl 7, .inl 7, .inl 7], (zx_lay zM0, 308))) rfl ?_
    refine zx_E.go 1 (s' := (24, [some (.inr (some (33, 0, 0, 0))), some (.inr (some (0, 0, 0, 0))), some (.inr (some (25, 0, 0, 0))), some (.inl 7)], [.inl 0, .inl 7], (zx_lay zM0, 308))) rfl ?_
    refine zx_E.bt (c := 0 < 7) (s1 := (740, [some (.inr (some (33, 0, 0, 0))), some (.inr (some (0, 0, 0, 0))), some (.inr (some (25, 0, 0, 0))), some (.inl 7)], [], (zx_lay zM0, 308))) (s2 := (27, [some (.inr (some (33, 0, 0, 0))), some (.inr (some (0, 0, 0, 0))), some (.inr (some (25, 0, 0, 0))), some (.inl 7)], [], (zx_lay zM0, 308))) rfl (by decide) ?_
    refine zx_E.go 1 (s' := (741, [some (.inr (some (33, 0, 0, 0))), some (.inr (some (0, 0, 0, 0))), some (.inr (some (25, 0, 0, 0))), some (.inl 7)], [.inl 1], (zx_lay zM0, 308))) rfl ?_
    exact zx_E.iret rfl (fun _ => Or.inr rfl) rfl
