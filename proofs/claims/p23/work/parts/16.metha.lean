def g_X10_isByte (M : zx_Y) (x0 : Int32) : Option Int32 := (if x0 < 0 then (some 0) else (if (127 : Int32) < x0 then (some 0) else (some 1)))
set_option maxRecDepth 100000 in
set_option maxHeartbeats 4000000 in
theorem r_X10_isByte {X : zx_X} {d n : Nat} {M : zx_Y} {x0 : Int32} {rv : Int32} (h : g_X10_isByte M x0 = some rv) : zx_run X (d + 1) 116 [.inl x0] (zx_lay M, n) (some (.inl rv), (zx_lay M, n)) := by
  refine zx_run_of zc_X10_isByte [some (.inl x0)] rfl rfl ?_
  unfold g_X10_isByte at h
  refine zx_E.go 1 (s' := (1, [some (.inl x0)], [.inl x0], (zx_lay M, n))) rfl ?_
  refine zx_E.brh (c := x0 < 0) (s1 := (14, [some (.inl x0)], [], (zx_lay M, n))) (s2 := (4, [some (.inl x0)], [], (zx_lay M, n))) h (zx_if_lt rfl) (fun _ h => ?_) (fun _ h => ?_)
  · refine zx_E.go 1 (s' := (15, [some (.inl x0)], [.inl 0], (zx_lay M, n))) rfl ?_
    exact zx_E.rp h rfl (fun _ => Or.inl rfl)
  · refine zx_E.go 2 (s' := (7, [some (.inl x0)], [.inl 127, .inl x0], (zx_lay M, n))) rfl ?_
    refine zx_E.brh (c := (127 : Int32) < x0) (s1 := (14, [some (.inl x0)], [], (zx_lay M, n))) (s2 := (10, [some (.inl x0)], [], (zx_lay M, n))) h (zx_ic_gt rfl) (fun _ h => ?_) (fun _ h => ?_)
    · refine zx_E.go 1 (s' := (15, [some (.inl x0)], [.inl 0], (zx_lay M, n))) rfl ?_
      exact zx_E.rp h rfl (fun _ => Or.inl rfl)
    · refine zx_E.go 2 (s' := (15, [some (.inl x0)], [.inl 1], (zx_lay M, n))) rfl ?_
      exact zx_E.rp h rfl (fun _ => Or.inr rfl)
def g_X8_append (M : zx_Y) (x0 : Int32) : Option zx_Y := (if (M (14, 0, 0, 0) 1) < 0 then (some M) else (if (M (14, 0, 0, 0) 1) < 60 then (zi (M (14, 0, 0, 0) 1) 60 fun k1 => (zl (zx_up M (15, 0, 0, 0) k1 x0) fun M1 => (zl (zx_up M1 (14, 0, 0, 0) 1 ((M1 (14, 0, 0, 0) 1) + 1)) fun M2 => (some M2)))) else (some M)))
set_option maxRecDepth 100000 in
set_option maxHeartbeats 4000000 in
theorem r_X8_append {X : zx_X} {d n : Nat} {M : zx_Y} {x0 : Int32} {rM : zx_Y} (h : g_X8_append M x0 = some rM) : zx_run X (d + 1) 67 [.inr (some (14, 0, 0, 0)), .inl x0] (zx_lay M, n) (none, (zx_lay rM, n)) := by
  refine zx_run_of zc_X8_append [some (.inr (some (14, 0, 0, 0))), some (.inl x0)] rfl rfl ?_
  unfold g_X8_append at h
  refine zx_E.go 2 (s' := (4, [some (.inr (some (14, 0, 0, 0))), some (.inl x0)], [.inl (M (14, 0, 0, 0) 1)], (zx_lay M, n))) rfl ?_
  refine zx_E.brh (c := (M (14, 0, 0, 0) 1) < 0) (s1 := (16, [some (.inr (some (14, 0, 0, 0))), some (.inl x0)], [], (zx_lay M, n))) (s2 := (7, [some (.inr (some (14, 0, 0, 0))), some (.inl x0)], [], (zx_lay M, n))) h (zx_if_lt rfl) (fun _ h => ?_) (fun _ h => ?_)
  · exact zx_E.r0 h rfl
  · refine zx_E.go 3 (s' := (13, [some (.inr (some (14, 0, 0, 0))), some (.inl x0)], [.inl 60, .inl (M (14, 0, 0, 0) 1)], (zx_lay M, n))) rfl ?_
    refine zx_E.brh (c := (M (14, 0, 0, 0) 1) < 60) (s1 := (17, [some (.inr (some (14, 0, 0, 0))), some (.inl x0)], [], (zx_lay M, n))) (s2 := (16, [some (.inr (some (14, 0, 0, 0))), some (.inl x0)], [], (zx_lay M, n))) h (zx_ic_lt rfl) (fun _ h => ?_) (fun _ h => ?_)
    · refine zx_E.go 5 (s' := (26, [some (.inr (some (14, 0, 0, 0))), some (.inl x0)], [.inl x0, .inl (M (14, 0, 0, 0) 1), .inr (some (15, 0, 0, 0))], (zx_lay M, n))) rfl ?_
      refine zx_E.ix h (fun k1 hx_k1 hl_k1 h => ?_)
      refine zx_E.ia h rfl rfl hx_k1 hl_k1 (fun M1 h => ?_)
      show zx_E _ _ _ (27, [some (.inr (some (14, 0, 0, 0))), some (.inl x0)], [], (zx_lay M1, n)) _
      refine zx_E.go 4 (s' := (33, [some (.inr (some (14, 0, 0, 0))), some (.inl x0)], [.inl 1, .inl (M1 (14, 0, 0, 0) 1), .inr (some (14, 0, 0, 0))], (zx_lay M1, n))) rfl ?_
      refine zx_E.go 1 (s' := (34, [some (.inr (some (14, 0, 0, 0))), some (.inl x0)], [.inl ((M1 (14, 0, 0, 0) 1) + 1), .inr (some (14, 0, 0, 0))], (zx_lay M1, n))) rfl ?_
      refine zx_E.pu h rfl rfl (fun h => absurd h (by decide)) (fun M2 h => ?_)
      show zx_E _ _ _ (37, [some (.inr (some (14, 0, 0, 0))), some (.inl x0)], [], (zx_lay M2, n)) _
      exact zx_E.r0 h rfl
    · exact zx_E.r0 h rfl
def g_X10_feed (M : zx_Y) (x0 : Int32) (x1 : Int32) (x2 : Int32) (x3 : Int32) (x4 : Int32) (x5 : Int32) : Option (Int32 × zx_Y) := (zb (g_X10_isByte M x1) fun v1 => (if v1 = 0 then (if x0 < 1 then (some ((-2), M)) else (if (5 : Int32) < x0 then (some ((-2), M)) else (some ((-2), M)))) else (zb (g_X10_isByte M x2) fun v2 => (if v2 = 0 then (if x0 < 1 then (some ((-2), M)) else (if (5 : Int32) < x0 then (some ((-2), M)) else (some ((-2), M)))) else (zb (g_X10_isByte M x3) fun v3 => (if v3 = 0 then (if x0 < 1 then (some ((-2), M)) else (if (5 : Int32) < x0 then (some ((-2), M)) else (some ((-2), M)))) else (zb (g_X10_isByte M x4) fun v4 => (if v4 = 0 then (if x0 < 1 then (some ((-2), M)) else (if (5 : Int32) < x0 then (some ((-2), M)) else (some ((-2), M)))) else (zb (g_X10_isByte M x5) fun v5 => (if v5 = 0 then (if x0 < 1 then (some ((-2), M)) else (if (5 : Int32) < x0 then (some ((-2), M)) else (some ((-2), M)))) else (if x0 < 1 then (some ((-2), M)) else (if (5 : Int32) < x0 then (some ((-2), M)) else (if ((M (14, 0, 0, 0) 1) + x0) ≤ 60 then (zm (g_X8_append M x1) fun M1 => (if x0 < 2 then (if x0 < 3 then (if x0 < 4 then (if x0 < 5 then (some ((M1 (14, 0, 0, 0) 1), M1)) else (zm (g_X8_append M1 x5) fun M2 => (some ((M2 (14, 0, 0, 0) 1), M2)))) else (zm (g_X8_append M1 x4) fun M3 => (if x0 < 5 then (some ((M3 (14, 0, 0, 0) 1), M3)) else (zm (g_X8_append M3 x5) fun M4 => (some ((M4 (14, 0, 0, 0) 1), M4)))))) else (zm (g_X8_append M1 x3) fun M5 => (if x0 < 4 then (if x0 < 5 then (some ((M5 (14, 0, 0, 0) 1), M5)) else (zm (g_X8_append M5 x5) fun M6 => (some ((M6 (14, 0, 0, 0) 1), M6)))) else (zm (g_X8_append M5 x4) fun M7 => (if x0 < 5 then (some ((M7 (14, 0, 0, 0) 1), M7)) else (zm (g_X8_append M7 x5) fun M8 => (some ((M8 (14, 0, 0, 0) 1), M8)))))))) else (zm (g_X8_append M1 x2) fun M9 => (if x0 < 3 then (if x0 < 4 then (if x0 < 5 then (some ((M9 (14, 0, 0, 0) 1), M9)) else (zm (g_X8_append M9 x5) fun M10 => (some ((M10 (14, 0, 0, 0) 1), M10)))) else (zm (g_X8_append M9 x4) fun M11 => (if x0 < 5 then (some ((M11 (14, 0, 0, 0) 1), M11)) else (zm (g_X8_append M11 x5) fun M12 => (some ((M12 (14, 0, 0, 0) 1), M12)))))) else (zm (g_X8_append M9 x3) fun M13 => (if x0 < 4 then (if x0 < 5 then (some ((M13 (14, 0, 0, 0) 1), M13)) else (zm (g_X8_append M13 x5) fun M14 => (some ((M14 (14, 0, 0, 0) 1), M14)))) else (zm (g_X8_append M13 x4) fun M15 => (if x0 < 5 then (some ((M15 (14, 0, 0, 0) 1), M15)) else (zm (g_X8_append M15 x5) fun M16 => (some ((M16 (14, 0, 0, 0) 1), M16))))))))))) else (some ((-4), M)))))))))))))))
set_option maxRecDepth 100000 in
set_option maxHeartbeats 4000000 in
theorem r_X10_feed {X : zx_X} {d n : Nat} {M : zx_Y} {x0 : Int32} {x1 : Int32} {x2 : Int32} {x3 : Int32} {x4 : Int32} {x5 : Int32} {rv : Int32} {rM : zx_Y} (h : g_X10_feed M x0 x1 x2 x3 x4 x5 = some (rv, rM)) : zx_run X (d + 2) 94 [.inr (some (0, 0, 0, 0)), .inl x0, .inl x1, .inl x2, .inl x3, .inl x4, .inl x5] (zx_lay M, n) (some (.inl rv), (zx_lay rM, n)) := by
  refine zx_run_of zc_X10_feed [some (.inr (some (0, 0, 0, 0))), some (.inl x0), some (.inl x1), some (.inl x2), some (.inl x3), some (.inl x4), some (.inl x5), none] rfl rfl ?_
  unfold g_X10_feed at h
  refine zx_E.go 1 (s' := (1, [some (.inr (some (0, 0, 0, 0))), some (.inl x0), some (.inl x1), some (.inl x2), some (.inl x3), some (.inl x4), some (.inl x5), none], [.inl x1], (zx_lay M, n))) rfl ?_
  refine zx_E.cb (y := 116) (as := [.inl x1]) (rest := []) h rfl (fun _ hv => zx_run_up (by omega) (r_X10_isByte (d := d) hv)) (fun v1 h => ?_)
  show zx_E _ _ _ (4, [some (.inr (some (0, 0, 0, 0))), some (.inl x0), some (.inl x1), some (.inl x2), some (.inl x3), some (.inl x4), some (.inl x5), none], [.inl v1], (zx_lay M, n)) _
  refine zx_E.brh (c := v1 = 0) (s1 := (42, [some (.inr (some (0, 0, 0, 0))), some (.inl x0), some (.inl x1), some (.inl x2), some (.inl x3), some (.inl x4), some (.inl x5), none], [], (zx_lay M, n))) (s2 := (7, [some (.inr (some (0, 0, 0, 0))), some (.inl x0), some (.inl x1), some (.inl x2), some (.inl x3), some (.inl x4), some (.inl x5), none], [], (zx_lay M, n))) h (zx_if_eq rfl) (fun _ h => ?_) (fun _ h => ?_)
  · refine zx_E.go 4 (s' := (47, [some (.inr (some (0, 0, 0, 0))), some (.inl x0), some (.inl x1), some (.inl x2), some (.inl x3), some (.inl x4), some (.inl x5), some (.inl 0)], [.inl 1, .inl x0], (zx_lay M, n))) rfl ?_
    refine zx_E.brh (c := x0 < 1) (s1 := (60, [some (.inr (some (0, 0, 0, 0))), some (.inl x0), some (.inl x1), some (.inl x2), some (.inl x3), some (.inl x4), some (.inl x5), some (.inl 0)], [], (zx_lay M, n))) (s2 := (50, [some (.inr (some (0, 0, 0, 0))), some (.inl x0), some (.inl x1), some (.inl x2), some (.inl x3), some (.inl x4), some (.inl x5), some (.inl 0)], [], (zx_lay M, n))) h (zx_ic_lt rfl) (fun _ h => ?_) (fun _ h => ?_)
    · refine zx_E.go 1 (s' := (62, [some (.inr (some (0, 0, 0, 0))), some (.inl x0), some (.inl x1), some (.inl x2), some (.inl x3), some (.inl x4), some (.inl x5), some (.inl 0)], [.inl (-2)], (zx_lay M, n))) rfl ?_
      exact zx_E.ri h rfl (fun h => absurd h (by decide))
    · refine zx_E.go 2 (s' := (52, [some (.inr (some (0, 0, 0, 0))), some (.inl x0), some (.inl x1), some (.inl x2), some (.inl x3), some (.inl x4), some (.inl x5), some (.inl 0)], [.inl 5, .inl x0], (zx_lay M, n))) rfl ?_
      refine zx_E.brh (c := (5 : Int32) < x0) (s1 := (60, [some (.inr (some (0, 0, 0, 0))), some (.inl x0), some (.inl x1), some (.inl x2), some (.inl x3), some (.inl x4), some (.inl x5), some (.inl 0)], [], (zx_lay M, n))) (s2 := (55, [some (.inr (some (0, 0, 0, 0))), some (.inl x0), some (.inl x1), some (.inl x2), some (.inl x3), some (.inl x4), some (.inl x5), some (.inl 0)], [], (zx_lay M, n))) h (zx_ic_gt rfl) (fun _ h => ?_) (fun _ h => ?_)
      · refine zx_E.go 1 (s' := (62, [some (.inr (some (0, 0, 0, 0))), some (.inl x0), some (.inl x1), some (.inl x2), some (.inl x3), some (.inl x4), some (.inl x5), some (.inl 0)], [.inl (-2)], (zx_lay M, n))) rfl ?_
        exact zx_E.ri h rfl (fun h => absurd h (by decide))
      · refine zx_E.go 1 (s' := (57, [some (.inr (some (0, 0, 0, 0))), some (.inl x0), some (.inl x1), some (.inl x2), some (.inl x3), some (.inl x4), some (.inl x5), some (.inl 0)], [.inl 0], (zx_lay M, n))) rfl ?_
        refine zx_E.bt (c := ((0 : Int32) = 0 : Prop)) (s1 := (60, [some (.inr (some (0, 0, 0, 0))), some (.inl x0), some (.inl x1), some (.inl x2), some (.inl x3), some (.inl x4), some (.inl x5), some (.inl 0)], [], (zx_lay M, n))) (s2 := (63, [some (.inr (some (0, 0, 0, 0))), some (.inl x0), some (.inl x1), some (.inl x2), some (.inl x3), some (.inl x4), some (.inl x5), some (.inl 0)], [], (zx_lay M, n))) (zx_if_ne rfl) (by decide) ?_
        refine zx_E.go 1 (s' := (62, [some (.inr (some (0, 0, 0, 0))), some (.inl x0), some (.inl x1), some (.inl x2), some (.inl x3), some (.inl x4), some (.inl x5), some (.inl 0)], [.inl (-2)], (zx_lay M, n))) rfl ?_
        exact zx_E.ri h rfl (fun h => absurd h (by decide))
  · refine zx_E.go 1 (s' := (8, [some (.inr (some (0, 0, 0, 0))), some (.inl x0), some (.inl x1), some (.inl x2), some (.inl x3), some (.inl x4), some (.inl x5), none], [.inl x2], (zx_lay M, n))) rfl ?_
    refine zx_E.cb (y := 116) (as := [.inl x2]) (rest := []) h rfl (fun _ hv => zx_run_up (by omega) (r_X10_isByte (d := d) hv)) (fun v2 h => ?_)
    show zx_E _ _ _ (11, [some (.inr (some (0, 0, 0, 0))), some (.inl x0), some (.inl x1), some (.inl x2), some (.inl x3), some (.inl x4), some (.inl x5), none], [.inl v2], (zx_lay M, n)) _
    refine zx_E.brh (c := v2 = 0) (s1 := (42, [some (.inr (some (0, 0, 0, 0))), some (.inl x0), some (.inl x1), some (.inl x2), some (.inl x3), some (.inl x4), some (.inl x5), none], [], (zx_lay M, n))) (s2 := (14, [some (.inr (some (0, 0, 0, 0))), some (.inl x0), some (.inl x1), some (.inl x2), some (.inl x3), some (.inl x4), some (.inl x5), none], [], (zx_lay M, n))) h (zx_if_eq rfl) (fun _ h => ?_) (fun _ h => ?_)
    · refine zx_E.go 4 (s' := (47, [some (.inr (some (0, 0, 0, 0))), some (.inl x0), some (.inl x1), some (.inl x2), some (.inl x3), some (.inl x4), some (.inl x5), some (.inl 0)], [.inl 1, .inl x0], (zx_lay M, n))) rfl ?_
      refine zx_E.brh (c := x0 < 1) (s1 := (60, [some (.inr (some (0, 0, 0, 0))), some (.inl x0), some (.inl x1), some (.inl x2), some (.inl x3), some (.inl x4), some (.inl x5), some (.inl 0)], [], (zx_lay M, n))) (s2 := (50, [some (.inr (some (0, 0, 0, 0))), some (.inl x0), some (.inl x1), some (.inl x2), some (.inl x3), some (.inl x4), some (.inl x5), some (.inl 0)], [], (zx_lay M, n))) h (zx_ic_lt rfl) (fun _ h => ?_) (fun _ h => ?_)
      · refine zx_E.go 1 (s' := (62, [some (.inr (some (0, 0, 0, 0))), some (.inl x0), some (.inl x1), some (.inl x2), some (.inl x3), some (.inl x4), some (.inl x5), some (.inl 0)], [.inl (-2)], (zx_lay M, n))) rfl ?_
        exact zx_E.ri h rfl (fun h => absurd h (by decide))
      · refine zx_E.go 2 (s' := (52, [some (.inr (some (0, 0, 0, 0))), some (.inl x0), some (.inl x1), some (.inl x2), some (.inl x3), some (.inl x4), some (.inl x5), some (.inl 0)], [.inl 5, .inl x0], (zx_lay M, n))) rfl ?_
        refine zx_E.brh (c := (5 : Int32) < x0) (s1 := (60, [some (.inr (some (0, 0, 0, 0))), some (.inl x0), some (.inl x1), some (.inl x2), some (.inl x3), some (.inl x4), some (.inl x5), some (.inl 0)], [], (zx_lay M, n))) (s2 := (55, [some (.inr (some (0, 0, 0, 0))), some (.inl x0), some (.inl x1), some (.inl x2), some (.inl x3), some (.inl x4), some (.inl x5), some (.inl 0)], [], (zx_lay M, n))) h (zx_ic_gt rfl) (fun _ h => ?_) (fun _ h => ?_)
        · refine zx_E.go 1 (s' := (62, [some (.inr (some (0, 0, 0, 0))), some (.inl x0), some (.inl x1), some (.inl x2), some (.inl x3), some (.inl x4), some (.inl x5), some (.inl 0)], [.inl (-2)], (zx_lay M, n))) rfl ?_
          exact zx_E.ri h rfl (fun h => absurd h (by decide))
        · refine zx_E.go 1 (s' := (57, [some (.inr (some (0, 0, 0, 0))), some (.inl x0), some (.inl x1), some (.inl x2), some (.inl x3), some (.inl x4), some (.inl x5), some (.inl 0)], [.inl 0], (zx_lay M, n))) rfl ?_
          refine zx_E.bt (c := ((0 : Int32) = 0 : Prop)) (s1 := (60, [some (.inr (some (0, 0, 0, 0))), some (.inl x0), some (.inl x1), some (.inl x2), some (.inl x3), some (.inl x4), some (.inl x5), some (.inl 0)], [], (zx_lay M, n))) (s2 := (63, [some (.inr (some (0, 0, 0, 0))), some (.inl x0), some (.inl x1), some (.inl x2), some (.inl x3), some (.inl x4), some (.inl x5), some (.inl 0)], [], (zx_lay M, n))) (zx_if_ne rfl) (by decide) ?_
          refine zx_E.go 1 (s' := (62, [some (.inr (some (0, 0, 0, 0))), some (.inl x0), some (.inl x1), some (.inl x2), some (.inl x3), some (.inl x4), some (.inl x5), some (.inl 0)], [.inl (-2)], (zx_lay M, n))) rfl ?_
          exact zx_E.ri h rfl (fun h => absurd h (by decide))
    · refine zx_E.go 1 (s' := (16, [some (.inr (some (0, 0, 0, 0))), some (.inl x0), some (.inl x1), some (.inl x2), some (.inl x3), some (.inl x4), some (.inl x5), none], [.inl x3], (zx_lay M, n))) rfl ?_
      refine zx_E.cb (y := 116) (as := [.inl x3]) (rest := []) h rfl (fun _ hv => zx_run_up (by omega) (r_X10_isByte (d := d) hv)) (fun v3 h => ?_)
      show zx_E _ _ _ (19, [some (.inr (some (0, 0, 0, 0))), some (.inl x0), some (.inl x1), some (.inl x2), some (.inl x3), some (.inl x4), some (.inl x5), none], [.inl v3], (zx_lay M, n)) _
      refine zx_E.brh (c := v3 = 0) (s1 := (42, [some (.inr (some (0, 0, 0, 0))), some (.inl x0), some (.inl x1), some (.inl x2), some (.inl x3), some (.inl x4), some (.inl x5), none], [], (zx_lay M, n))) (s2 := (22, [some (.inr (some (0, 0, 0, 0))), some (.inl x0), some (.inl x1), some (.inl x2), some (.inl x3), some (.inl x4), some (.inl x5), none], [], (zx_lay M, n))) h (zx_if_eq rfl) (fun _ h => ?_) (fun _ h => ?_)
      · refine zx_E.go 4 (s' := (47, [some (.inr (some (0, 0, 0, 0))), some (.inl x0), some (.inl x1), some (.inl x2), some (.inl x3), some (.inl x4), some (.inl x5), some (.inl 0)], [.inl 1, .inl x0], (zx_lay M, n))) rfl ?_
        refine zx_E.brh (c := x0 < 1) (s1 := (60, [some (.inr (some (0, 0, 0, 0))), some (.inl x0), some (.inl x1), some (.inl x2), some (.inl x3), some (.inl x4), some (.inl x5), some (.inl 0)], [], (zx_lay M, n))) (s2 := (50, [some (.inr (some (0, 0, 0, 0))), some (.inl x0), some (.inl x1), some (.inl x2), some (.inl x3), some (.inl x4), some (.inl x5), some (.inl 0)], [], (zx_lay M, n))) h (zx_ic_lt rfl) (fun _ h => ?_) (fun _ h => ?_)
        · refine zx_E.go 1 (s' := (62, [some (.inr (some (0, 0, 0, 0))), some (.inl x0), some (.inl x1), some (.inl x2), some (.inl x3), some (.inl x4), some (.inl x5), some (.inl 0)], [.inl (-2)], (zx_lay M, n))) rfl ?_
          exact zx_E.ri h rfl (fun h => absurd h (by decide))
        · refine zx_E.go 2 (s' := (52, [some (.inr (some (0, 0, 0, 0))), some (.inl x0), some (.inl x1), some (.inl x2), some (.inl x3), some (.inl x4), some (.inl x5), some (.inl 0)], [.inl 5, .inl x0], (zx_lay M, n))) rfl ?_
          refine zx_E.brh (c := (5 : Int32) < x0) (s1 := (60, [some (.inr (some (0, 0, 0, 0))), some (.inl x0), some (.inl x1), some (.inl x2), some (.inl x3), some (.inl x4), some (.inl x5), some (.inl 0)], [], (zx_lay M, n))) (s2 := (55, [some (.inr (some (0, 0, 0, 0))), some (.inl x0), some (.inl x1), some (.inl x2), some (.inl x3), some (.inl x4), some (.inl x5), some (.inl 0)], [], (zx_lay M, n))) h (zx_ic_gt rfl) (fun _ h => ?_) (fun _ h => ?_)
          · refine zx_E.go 1 (s' := (62, [some (.inr (some (0, 0, 0, 0))), some (.inl x0), some (.inl x1), some (.inl x2), some (.inl x3), some (.inl x4), some (.inl x5), some (.inl 0)], [.inl (-2)], (zx_lay M, n))) rfl ?_
            exact zx_E.ri h rfl (fun h => absurd h (by decide))
          · refine zx_E.go 1 (s' := (57, [some (.inr (some (0, 0, 0, 0))), some (.inl x0), some (.inl x1), some (.inl x2), some (.inl x3), some (.inl x4), some (.inl x5), some (.inl 0)], [.inl 0], (zx_lay M, n))) rfl ?_
            refine zx_E.bt (c := ((0 : Int32) = 0 : Prop)) (s1 := (60, [some (.inr (some (0, 0, 0, 0))), some (.inl x0), some (.inl x1), some (.inl x2), some (.inl x3), some (.inl x4), some (.inl x5), some (.inl 0)], [], (zx_lay M, n))) (s2 := (63, [some (.inr (some (0, 0, 0, 0))), some (.inl x0), some (.inl x1), some (.inl x2), some (.inl x3), some (.inl x4), some (.inl x5), some (.inl 0)], [], (zx_lay M, n))) (zx_if_ne rfl) (by decide) ?_
            refine zx_E.go 1 (s' := (62, [some (.inr (some (0, 0, 0, 0))), some (.inl x0), some (.inl x1), some (.inl x2), some (.inl x3), some (.inl x4), some (.inl x5), some (.inl 0)], [.inl (-2)], (zx_lay M, n))) rfl ?_
            exact zx_E.ri h rfl (fun h => absurd h (by decide))
      · refine zx_E.go 1 (s' := (24, [some (.inr (some (0, 0, 0, 0))), some (.inl x0), some (.inl x1), some (.inl x2), some (.inl x3), some (.inl x4), some (.inl x5), none], [.inl x4], (zx_lay M, n))) rfl ?_
        refine zx_E.cb (y := 116) (as := [.inl x4]) (rest := []) h rfl (fun _ hv => zx_run_up (by omega) (r_X10_isByte (d := d) hv)) (fun v4 h => ?_)
        show zx_E _ _ _ (27, [some (.inr (some (0, 0, 0, 0))), some (.inl x0), some (.inl x1), some (.inl x2), some (.inl x3), some (.inl x4), some (.inl x5), none], [.inl v4], (zx_lay M, n)) _
        refine zx_E.brh (c := v4 = 0) (s1 := (42, [some (.inr (some (0, 0, 0, 0))), some (.inl x0), some (.inl x1), some (.inl x2), some (.inl x3), some (.inl x4), some (.inl x5), none], [], (zx_lay M, n))) (s2 := (30, [some (.inr (some (0, 0, 0, 0))), some (.inl x0), some (.inl x1), some (.inl x2), some (.inl x3), some (.inl x4), some (.inl x5), none], [], (zx_lay M, n))) h (zx_if_eq rfl) (fun _ h => ?_) (fun _ h => ?_)
        · refine zx_E.go 4 (s' := (47, [some (.inr (some (0, 0, 0, 0))), some (.inl x0), some (.inl x1), some (.inl x2), some (.inl x3), some (.inl x4), some (.inl x5), some (.inl 0)], [.inl 1, .inl x0], (zx_lay M, n))) rfl ?_
          refine zx_E.brh (c := x0 < 1) (s1 := (60, [some (.inr (some (0, 0, 0, 0))), some (.inl x0), some (.inl x1), some (.inl x2), some (.inl x3), some (.inl x4), some (.inl x5), some (.inl 0)], [], (zx_lay M, n))) (s2 := (50, [some (.inr (some (0, 0, 0, 0))), some (.inl x0), some (.inl x1), some (.inl x2), some (.inl x3), some (.inl x4), some (.inl x5), some (.inl 0)], [], (zx_lay M, n))) h (zx_ic_lt rfl) (fun _ h => ?_) (fun _ h => ?_)
          · refine zx_E.go 1 (s' := (62, [some (.inr (some (0, 0, 0, 0))), some (.inl x0), some (.inl x1), some (.inl x2), some (.inl x3), some (.inl x4), some (.inl x5), some (.inl 0)], [.inl (-2)], (zx_lay M, n))) rfl ?_
            exact zx_E.ri h rfl (fun h => absurd h (by decide))
          · refine zx_E.go 2 (s' := (52, [some (.inr (some (0, 0, 0, 0))), some (.inl x0), some (.inl x1), some (.inl x2), some (.inl x3), some (.inl x4), some (.inl x5), some (.inl 0)], [.inl 5, .inl x0], (zx_lay M, n))) rfl ?_
            refine zx_E.brh (c := (5 : Int32) < x0) (s1 := (60, [some (.inr (some (0, 0, 0, 0))), some (.inl x0), some (.inl x1), some (.inl x2), some (.inl x3), some (.inl x4), some (.inl x5), some (.inl 0)], [], (zx_lay M, n))) (s2 := (55, [some (.inr (some (0, 0, 0, 0))), some (.inl x0), some (.inl x1), some (.inl x2), some (.inl x3), some (.inl x4), some (.inl x5), some (.inl 0)], [], (zx_lay M, n))) h (zx_ic_gt rfl) (fun _ h => ?_) (fun _ h => ?_)
            · refine zx_E.go 1 (s' := (62, [some (.inr (some (0, 0, 0, 0))), some (.inl x0), some (.inl x1), some (.inl x2), some (.inl x3), some (.inl x4), some (.inl x5), some (.inl 0)], [.inl (-2)], (zx_lay M, n))) rfl ?_
              exact zx_E.ri h rfl (fun h => absurd h (by decide))
            · refine zx_E.go 1 (s' := (57, [some (.inr (some (0, 0, 0, 0))), some (.inl x0), some (.inl x1), some (.inl x2), some (.inl x3), some (.inl x4), some (.inl x5), some (.inl 0)], [.inl 0], (zx_lay M, n))) rfl ?_
              refine zx_E.bt (c := ((0 : Int32) = 0 : Prop)) (s1 := (60, [some (.inr (some (0, 0, 0, 0))), some (.inl x0), some (.inl x1), some (.inl x2), some (.inl x3), some (.inl x4), some (.inl x5), some (.inl 0)], [], (zx_lay M, n))) (s2 := (63, [some (.inr (some (0, 0, 0, 0))), some (.inl x0), some (.inl x1), some (.inl x2), some (.inl x3), some (.inl x4), some (.inl x5), some (.inl 0)], [], (zx_lay M, n))) (zx_if_ne rfl) (by decide) ?_
              refine zx_E.go 1 (s' := (62, [some (.inr (some (0, 0, 0, 0))), some (.inl x0), some (.inl x1), some (.inl x2), some (.inl x3), some (.inl x4), some (.inl x5), some (.inl 0)], [.inl (-2)], (zx_lay M, n))) rfl ?_
              exact zx_E.ri h rfl (fun h => absurd h (by decide))
        · refine zx_E.go 1 (s' := (32, [some (.inr (some (0, 0, 0, 0))), some (.inl x0), some (.inl x1), some (.inl x2), some (.inl x3), some (.inl x4), some (.inl x5), none], [.inl x5], (zx_lay M, n))) rfl ?_
          refine zx_E.cb (y := 116) (as := [.inl x5]) (rest := []) h rfl (fun _ hv => zx_run_up (by omega) (r_X10_isByte (d := d) hv)) (fun v5 h => ?_)
          show zx_E _ _ _ (35, [some (.inr (some (0, 0, 0, 0))), some (.inl x0), some (.inl x1), some (.inl x2), some (.inl x3), some (.inl x4), some (.inl x5), none], [.inl v5], (zx_lay M, n)) _
          refine zx_E.brh (c := v5 = 0) (s1 := (42, [some (.inr (some (0, 0, 0, 0))), some (.inl x0), some (.inl x1), some (.inl x2), some (.inl x3), some (.inl x4), some (.inl x5), none], [], (zx_lay M, n))) (s2 := (38, [some (.inr (some (0, 0, 0, 0))), some (.inl x0), some (.inl x1), some (.inl x2), some (.inl x3), some (.inl x4), some (.inl x5), none], [], (zx_lay M, n))) h (zx_if_eq rfl) (fun _ h => ?_) (fun _ h => ?_)
          · refine zx_E.go 4 (s' := (47, [some (.inr (some (0, 0, 0, 0))), some (.inl x0), some (.inl x1), some (.inl x2), some (.inl x3), some (.inl x4), some (.inl x5), some (.inl 0)], [.inl 1, .inl x0], (zx_lay M, n))) rfl ?_
            refine zx_E.brh (c := x0 < 1) (s1 := (60, [some (.inr (some (0, 0, 0, 0))), some (.inl x0), some (.inl x1), some (.inl x2), some (.inl x3), some (.inl x4), some (.inl x5), some (.inl 0)], [], (zx_lay M, n))) (s2 := (50, [some (.inr (some (0, 0, 0, 0))), some (.inl x0), some (.inl x1), some (.inl x2), some (.inl x3), some (.inl x4), some (.inl x5), some (.inl 0)], [], (zx_lay M, n))) h (zx_ic_lt rfl) (fun _ h => ?_) (fun _ h => ?_)
            · refine zx_E.go 1 (s' := (62, [some (.inr (some (0, 0, 0, 0))), some (.inl x0), some (.inl x1), some (.inl x2), some (.inl x3), some (.inl x4), some (.inl x5), some (.inl 0)], [.inl (-2)], (zx_lay M, n))) rfl ?_
              exact zx_E.ri h rfl (fun h => absurd h (by decide))
            · refine zx_E.go 2 (s' := (52, [some (.inr (some (0, 0, 0, 0))), some (.inl x0), some (.inl x1), some (.inl x2), some (.inl x3), some (.inl x4), some (.inl x5), some (.inl 0)], [.inl 5, .inl x0], (zx_lay M, n))) rfl ?_
              refine zx_E.brh (c := (5 : Int32) < x0) (s1 := (60, [some (.inr (some (0, 0, 0, 0))), some (.inl x0), some (.inl x1), some (.inl x2), some (.inl x3), some (.inl x4), some (.inl x5), some (.inl 0)], [], (zx_lay M, n))) (s2 := (55, [some (.inr (some (0, 0, 0, 0))), some (.inl x0), some (.inl x1), some (.inl x2), some (.inl x3), some (.inl x4), some (.inl x5), some (.inl 0)], [], (zx_lay M, n))) h (zx_ic_gt rfl) (fun _ h => ?_) (fun _ h => ?_)
              · refine zx_E.go 1 (s' := (62, [some (.inr (some (0, 0, 0, 0))), some (.inl x0), some (.inl x1), some (.inl x2), some (.inl x3), some (.inl x4), some (.inl x5), some (.inl 0)], [.inl (-2)], (zx_lay M, n))) rfl ?_
                exact zx_E.ri h rfl (fun h => absurd h (by decide))
              · refine zx_E.go 1 (s' := (57, [some (.inr (some (0, 0, 0, 0))), some (.inl x0), some (.inl x1), some (.inl x2), some (.inl x3), some (.inl x4), some (.inl x5), some (.inl 0)], [.inl 0], (zx_lay M, n))) rfl ?_
                refine zx_E.bt (c := ((0 : Int32) = 0 : Prop)) (s1 := (60, [some (.inr (some (0, 0, 0, 0))), some (.inl x0), some (.inl x1), some (.inl x2), some (.inl x3), some (.inl x4), some (.inl x5), some (.inl 0)], [], (zx_lay M, n))) (s2 := (63, [some (.inr (some (0, 0, 0, 0))), some (.inl x0), some (.inl x1), some (.inl x2), some (.inl x3), some (.inl x4), some (.inl x5), some (.inl 0)], [], (zx_lay M, n))) (zx_if_ne rfl) (by decide) ?_
                refine zx_E.go 1 (s' := (62, [some (.inr (some (0, 0, 0, 0))), some (.inl x0), some (.inl x1), some (.inl x2), some (.inl x3), some (.inl x4), some (.inl x5), some (.inl 0)], [.inl (-2)], (zx_lay M, n))) rfl ?_
                exact zx_E.ri h rfl (fun h => absurd h (by decide))
          · refine zx_E.go 5 (s' := (47, [some (.inr (some (0, 0, 0, 0))), some (.inl x0), some (.inl x1), some (.inl x2), some (.inl x3), some (.inl x4), some (.inl x5), some (.inl 1)], [.inl 1, .inl x0], (zx_lay M, n))) rfl ?_
            refine zx_E.brh (c := x0 < 1) (s1 := (60, [some (.inr (some (0, 0, 0, 0))), some (.inl x0), some (.inl x1), some (.inl x2), some (.inl x3), some (.inl x4), some (.inl x5), some (.inl 1)], [], (zx_lay M, n))) (s2 := (50, [some (.inr (some (0, 0, 0, 0))), some (.inl x0), some (.inl x1), some (.inl x2), some (.inl x3), some (.inl x4), some (.inl x5), some (.inl 1)], [], (zx_lay M, n))) h (zx_ic_lt rfl) (fun _ h => ?_) (fun _ h => ?_)
            · refine zx_E.go 1 (s' := (62, [some (.inr (some (0, 0, 0, 0))), some (.inl x0), some (.inl x1), some (.inl x2), some (.inl x3), some (.inl x4), some (.inl x5), some (.inl 1)], [.inl (-2)], (zx_lay M, n))) rfl ?_
              exact zx_E.ri h rfl (fun h => absurd h (by decide))
            · refine zx_E.go 2 (s' := (52, [some (.inr (some (0, 0, 0, 0))), some (.inl x0), some (.inl x1), some (.inl x2), some (.inl x3), some (.inl x4), some (.inl x5), some (.inl 1)], [.inl 5, .inl x0], (zx_lay M, n))) rfl ?_
              refine zx_E.brh (c := (5 : Int32) < x0) (s1 := (60, [some (.inr (some (0, 0, 0, 0))), some (.inl x0), some (.inl x1), some (.inl x2), some (.inl x3), some (.inl x4), some (.inl x5), some (.inl 1)], [], (zx_lay M, n))) (s2 := (55, [some (.inr (some (0, 0, 0, 0))), some (.inl x0), some (.inl x1), some (.inl x2), some (.inl x3), some (.inl x4), some (.inl x5), some (.inl 1)], [], (zx_lay M, n))) h (zx_ic_gt rfl) (fun _ h => ?_) (fun _ h => ?_)
              · refine zx_E.go 1 (s' := (62, [some (.inr (some (0, 0, 0, 0))), some (.inl x0), some (.inl x1), some (.inl x2), some (.inl x3), some (.inl x4), some (.inl x5), some (.inl 1)], [.inl (-2)], (zx_lay M, n))) rfl ?_
                exact zx_E.ri h rfl (fun h => absurd h (by decide))
              · refine zx_E.go 1 (s' := (57, [some (.inr (some (0, 0, 0, 0))), some (.inl x0), some (.inl x1), some (.inl x2), some (.inl x3), some (.inl x4), some (.inl x5), some (.inl 1)], [.inl 1], (zx_lay M, n))) rfl ?_
                refine zx_E.bf (c := ((1 : Int32) = 0 : Prop)) (s1 := (60, [some (.inr (some (0, 0, 0, 0))), some (.inl x0), some (.inl x1), some (.inl x2), some (.inl x3), some (.inl x4), some (.inl x5), some (.inl 1)], [], (zx_lay M, n))) (s2 := (63, [some (.inr (some (0, 0, 0, 0))), some (.inl x0), some (.inl x1), some (.inl x2), some (.inl x3), some (.inl x4), some (.inl x5), some (.inl 1)], [], (zx_lay M, n))) (zx_if_ne rfl) (by decide) ?_
                refine zx_E.go 4 (s' := (71, [some (.inr (some (0, 0, 0, 0))), some (.inl x0), some (.inl x1), some (.inl x2), some (.inl x3), some (.inl x4), some (.inl x5), some (.inl 1)], [.inl x0, .inl (M (14, 0, 0, 0) 1)], (zx_lay M, n))) rfl ?_
                refine zx_E.go 2 (s' := (74, [some (.inr (some (0, 0, 0, 0))), some (.inl x0), some (.inl x1), some (.inl x2), some (.inl x3), some (.inl x4), some (.inl x5), some (.inl 1)], [.inl 60, .inl ((M (14, 0, 0, 0) 1) + x0)], (zx_lay M, n))) rfl ?_
                refine zx_E.brh (c := ((M (14, 0, 0, 0) 1) + x0) ≤ 60) (s1 := (80, [some (.inr (some (0, 0, 0, 0))), some (.inl x0), some (.inl x1), some (.inl x2), some (.inl x3), some (.inl x4), some (.inl x5), some (.inl 1)], [], (zx_lay M, n))) (s2 := (77, [some (.inr (some (0, 0, 0, 0))), some (.inl x0), some (.inl x1), some (.inl x2), some (.inl x3), some (.inl x4), some (.inl x5), some (.inl 1)], [], (zx_lay M, n))) h (zx_ic_le rfl) (fun _ h => ?_) (fun _ h => ?_)
                · refine zx_E.go 3 (s' := (85, [some (.inr (some (0, 0, 0, 0))), some (.inl x0), some (.inl x1), some (.inl x2), some (.inl x3), some (.inl x4), some (.inl x5), some (.inl 1)], [.inl x1, .inr (some (14, 0, 0, 0))], (zx_lay M, n))) rfl ?_
                  refine zx_E.cm (y := 67) (as := [.inr (some (14, 0, 0, 0)), .inl x1]) (rest := []) h rfl (fun _ hv => zx_run_up (by omega) (r_X8_append (d := d) hv)) (fun M1 h => ?_)
                  show zx_E _ _ _ (88, [some (.inr (some (0, 0, 0, 0))), some (.inl x0), some (.inl x1), some (.inl x2), some (.inl x3), some (.inl x4), some (.inl x5), some (.inl 1)], [], (zx_lay M1, n)) _
                  refine zx_E.go 2 (s' := (90, [some (.inr (some (0, 0, 0, 0))), some (.inl x0), some (.inl x1), some (.inl x2), some (.inl x3), some (.inl x4), some (.inl x5), some (.inl 1)], [.inl 2, .inl x0], (zx_lay M1, n))) rfl ?_
                  refine zx_E.brh (c := x0 < 2) (s1 := (101, [some (.inr (some (0, 0, 0, 0))), some (.inl x0), some (.inl x1), some (.inl x2), some (.inl x3), some (.inl x4), some (.inl x5), some (.inl 1)], [], (zx_lay M1, n))) (s2 := (93, [some (.inr (some (0, 0, 0, 0))), some (.inl x0), some (.inl x1), some (.inl x2), some (.inl x3), some (.inl x4), some (.inl x5), some (.inl 1)], [], (zx_lay M1, n))) h (zx_ic_lt rfl) (fun _ h => ?_) (fun _ h => ?_)
                  · refine zx_E.go 2 (s' := (103, [some (.inr (some (0, 0, 0, 0))), some (.inl x0), some (.inl x1), some (.inl x2), some (.inl x3), some (.inl x4), some (.inl x5), some (.inl 1)], [.inl 3, .inl x0], (zx_lay M1, n))) rfl ?_
                    refine zx_E.brh (c := x0 < 3) (s1 := (115, [some (.inr (some (0, 0, 0, 0))), some (.inl x0), some (.inl x1), some (.inl x2), some (.inl x3), some (.inl x4), some (.inl x5), some (.inl 1)], [], (zx_lay M1, n))) (s2 := (106, [some (.inr (some (0, 0, 0, 0))), some (.inl x0), some (.inl x1), some (.inl x2), some (.inl x3), some (.inl x4), some (.inl x5), some (.inl 1)], [], (zx_lay M1, n))) h (zx_ic_lt rfl) (fun _ h => ?_) (fun _ h => ?_)
                    · refine zx_E.go 2 (s' := (117, [some (.inr (some (0, 0, 0, 0))), some (.inl x0), some (.inl x1), some (.inl x2), some (.inl x3), some (.inl x4), some (.inl x5), some (.inl 1)], [.inl 4, .inl x0], (zx_lay M1, n))) rfl ?_
                      refine zx_E.brh (c := x0 < 4) (s1 := (129, [some (.inr (some (0, 0, 0, 0))), some (.inl x0), some (.inl x1), some (.inl x2), some (.inl x3), some (.inl x4), some (.inl x5), some (.inl 1)], [], (zx_lay M1, n))) (s2 := (120, [some (.inr (some (0, 0, 0, 0))), some (.inl x0), some (.inl x1), some (.inl x2), some (.inl x3), some (.inl x4), some (.inl x5), some (.inl 1)], [], (zx_lay M1, n))) h (zx_ic_lt rfl) (fun _ h => ?_) (fun _ h => ?_)
                      · refine zx_E.go 2 (s' := (131, [some (.inr (some (0, 0, 0, 0))), some (.inl x0), some (.inl x1), some (.inl x2), some (.inl x3), some (.inl x4), some (.inl x5), some (.inl 1)], [.inl 5, .inl x0], (zx_lay M1, n))) rfl ?_
                        refine zx_E.brh (c := x0 < 5) (s1 := (143, [some (.inr (some (0, 0, 0, 0))), some (.inl x0), some (.inl x1), some (.inl x2), some (.inl x3), some (.inl x4), some (.inl x5), some (.inl 1)], [], (zx_lay M1, n))) (s2 := (134, [some (.inr (some (0, 0, 0, 0))), some (.inl x0), some (.inl x1), some (.inl x2), some (.inl x3), some (.inl x4), some (.inl x5), some (.inl 1)], [], (zx_lay M1, n))) h (zx_ic_lt rfl) (fun _ h => ?_) (fun _ h => ?_)
                        · refine zx_E.go 3 (s' := (150, [some (.inr (some (0, 0, 0, 0))), some (.inl x0), some (.inl x1), some (.inl x2), some (.inl x3), some (.inl x4), some (.inl x5), some (.inl 1)], [.inl (M1 (14, 0, 0, 0) 1)], (zx_lay M1, n))) rfl ?_
                          exact zx_E.ri h rfl (fun h => absurd h (by decide))
                        · refine zx_E.go 3 (s' := (140, [some (.inr (some (0, 0, 0, 0))), some (.inl x0), some (.inl x1), some (.inl x2), some (.inl x3), some (.inl x4), some (.inl x5), some (.inl 1)], [.inl x5, .inr (some (14, 0, 0, 0))], (zx_lay M1, n))) rfl ?_
                          refine zx_E.cm (y := 67) (as := [.inr (some (14, 0, 0, 0)), .inl x5]) (rest := []) h rfl (fun _ hv => zx_run_up (by omega) (r_X8_append (d := d) hv)) (fun M2 h => ?_)
                          show zx_E _ _ _ (143, [some (.inr (some (0, 0, 0, 0))), some (.inl x0), some (.inl x1), some (.inl x2), some (.inl x3), some (.inl x4), some (.inl x5), some (.inl 1)], [], (zx_lay M2, n)) _
                          refine zx_E.go 3 (s' := (150, [some (.inr (some (0, 0, 0, 0))), some (.inl x0), some (.inl x1), some (.inl x2), some (.inl x3), some (.inl x4), some (.inl x5), some (.inl 1)], [.inl (M2 (14, 0, 0, 0) 1)], (zx_lay M2, n))) rfl ?_
                          exact zx_E.ri h rfl (fun h => absurd h (by decide))
                      · refine zx_E.go 3 (s' := (126, [some (.inr (some (0, 0, 0, 0))), some (.inl x0), some (.inl x1), some (.inl x2), some (.inl x3), some (.inl x4), some (.inl x5), some (.inl 1)], [.inl x4, .inr (some (14, 0, 0, 0))], (zx_lay M1, n))) rfl ?_
                        refine zx_E.cm (y := 67) (as := [.inr (some (14, 0, 0, 0)), .inl x4]) (rest := []) h rfl (fun _ hv => zx_run_up (by omega) (r_X8_append (d := d) hv)) (fun M3 h => ?_)
                        show zx_E _ _ _ (129, [some (.inr (some (0, 0, 0, 0))), some (.inl x0), some (.inl x1), some (.inl x2), some (.inl x3), some (.inl x4), some (.inl x5), some (.inl 1)], [], (zx_lay M3, n)) _
                        refine zx_E.go 2 (s' := (131, [some (.inr (some (0, 0, 0, 0))), some (.inl x0), some (.inl x1), some (.inl x2), some (.inl x3), some (.inl x4), some (.inl x5), some (.inl 1)], [.inl 5, .inl x0], (zx_lay M3, n))) rfl ?_
                        refine zx_E.brh (c := x0 < 5) (s1 := (143, [some (.inr (some (0, 0, 0, 0))), some (.inl x0), some (.inl x1), some (.inl x2), some (.inl x3), some (.inl x4), some (.inl x5), some (.inl 1)], [], (zx_lay M3, n))) (s2 := (134, [some (.inr (some (0, 0, 0, 0))), some (.inl x0), some (.inl x1), some (.inl x2), some (.inl x3), some (.inl x4), some (.inl x5), some (.inl 1)], [], (zx_lay M3, n))) h (zx_ic_lt rfl) (fun _ h => ?_) (fun _ h => ?_)
                        · refine zx_E.go 3 (s' := (150, [some (.inr (some (0, 0, 0, 0))), some (.inl x0), some (.inl x1), some (.inl x2), some (.inl x3), some (.inl x4), some (.inl x5), some (.inl 1)], [.inl (M3 (14, 0, 0, 0) 1)], (zx_lay M3, n))) rfl ?_
                          exact zx_E.ri h rfl (fun h => absurd h (by decide))
                        · refine zx_E.go 3 (s' := (140, [some (.inr (some (0, 0, 0, 0))), some (.inl x0), some (.inl x1), some (.inl x2), some (.inl x3), some (.inl x4), some (.inl x5), some (.inl 1)], [.inl x5, .inr (some (14, 0, 0, 0))], (zx_lay M3, n))) rfl ?_
                          refine zx_E.cm (y := 67) (as := [.inr (some (14, 0, 0, 0)), .inl x5]) (rest := []) h rfl (fun _ hv => zx_run_up (by omega) (r_X8_append (d := d) hv)) (fun M4 h => ?_)
                          show zx_E _ _ _ (143, [some (.inr (some (0, 0, 0, 0))), some (.inl x0), some (.inl x1), some (.inl x2), some (.inl x3), some (.inl x4), some (.inl x5), some (.inl 1)], [], (zx_lay M4, n)) _
                          refine zx_E.go 3 (s' := (150, [some (.inr (some (0, 0, 0, 0))), some (.inl x0), some (.inl x1), some (.inl x2), some (.inl x3), some (.inl x4), some (.inl x5), some (.inl 1)], [.inl (M4 (14, 0, 0, 0) 1)], (zx_lay M4, n))) rfl ?_
                          exact zx_E.ri h rfl (fun h => absurd h (by decide))
                    · refine zx_E.go 3 (s' := (112, [some (.inr (some (0, 0, 0, 0))), some (.inl x0), some (.inl x1), some (.inl x2), some (.inl x3), some (.inl x4), some (.inl x5), some (.inl 1)], [.inl x3, .inr (some (14, 0, 0, 0))], (zx_lay M1, n))) rfl ?_
                      refine zx_E.cm (y := 67) (as := [.inr (some (14, 0, 0, 0)), .inl x3]) (rest := []) h rfl (fun _ hv => zx_run_up (by omega) (r_X8_append (d := d) hv)) (fun M5 h => ?_)
                      show zx_E _ _ _ (115, [some (.inr (some (0, 0, 0, 0))), some (.inl x0), some (.inl x1), some (.inl x2), some (.inl x3), some (.inl x4), some (.inl x5), some (.inl 1)], [], (zx_lay M5, n)) _
                      refine zx_E.go 2 (s' := (117, [some (.inr (some (0, 0, 0, 0))), some (.inl x0), some (.inl x1), some (.inl x2), some (.inl x3), some (.inl x4), some (.inl x5), some (.inl 1)], [.inl 4, .inl x0], (zx_lay M5, n))) rfl ?_
                      refine zx_E.brh (c := x0 < 4) (s1 := (129, [some (.inr (some (0, 0, 0, 0))), some (.inl x0), some (.inl x1), some (.inl x2), some (.inl x3), some (.inl x4), some (.inl x5), some (.inl 1)], [], (zx_lay M5, n))) (s2 := (120, [some (.inr (some (0, 0, 0, 0))), some (.inl x0), some (.inl x1), some (.inl x2), some (.inl x3), some (.inl x4), some (.inl x5), some (.inl 1)], [], (zx_lay M5, n))) h (zx_ic_lt rfl) (fun _ h => ?_) (fun _ h => ?_)
                      · refine zx_E.go 2 (s' := (131, [some (.inr (some (0, 0, 0, 0))), some (.inl x0), some (.inl x1), some (.inl x2), some (.inl x3), some (.inl x4), some (.inl x5), some (.inl 1)], [.inl 5, .inl x0], (zx_lay M5, n))) rfl ?_
                        refine zx_E.brh (c := x0 < 5) (s1 := (143, [some (.inr (some (0, 0, 0, 0))), some (.inl x0), some (.inl x1), some (.inl x2), some (.inl x3), some (.inl x4), some (.inl x5), some (.inl 1)], [], (zx_lay M5, n))) (s2 := (134, [some (.inr (some (0, 0, 0, 0))), some (.inl x0), some (.inl x1), some (.inl x2), some (.inl x3), some (.inl x4), some (.inl x5), some (.inl 1)], [], (zx_lay M5, n))) h (zx_ic_lt rfl) (fun _ h => ?_) (fun _ h => ?_)
                        · refine zx_E.go 3 (s' := (150, [some (.inr (some (0, 0, 0, 0))), some (.inl x0), some (.inl x1), some (.inl x2), some (.inl x3), some (.inl x4), some (.inl x5), some (.inl 1)], [.inl (M5 (14, 0, 0, 0) 1)], (zx_lay M5, n))) rfl ?_
                          exact zx_E.ri h rfl (fun h => absurd h (by decide))
                        · refine zx_E.go 3 (s' := (140, [some (.inr (some (0, 0, 0, 0))), some (.inl x0), some (.inl x1), some (.inl x2), some (.inl x3), some (.inl x4), some (.inl x5), some (.inl 1)], [.inl x5, .inr (some (14, 0, 0, 0))], (zx_lay M5, n))) rfl ?_
                          refine zx_E.cm (y := 67) (as := [.inr (some (14, 0, 0, 0)), .inl x5]) (rest := []) h rfl (fun _ hv => zx_run_up (by omega) (r_X8_append (d := d) hv)) (fun M6 h => ?_)
                          show zx_E _ _ _ (143, [some (.inr (some (0, 0, 0, 0))), some (.inl x0), some (.inl x1), some (.inl x2), some (.inl x3), some (.inl x4), some (.inl x5), some (.inl 1)], [], (zx_lay M6, n)) _
                          refine zx_E.go 3 (s' := (150, [some (.inr (some (0, 0, 0, 0))), some (.inl x0), some (.inl x1), some (.inl x2), some (.inl x3), some (.inl x4), some (.inl x5), some (.inl 1)], [.inl (M6 (14, 0, 0, 0) 1)], (zx_lay M6, n))) rfl ?_
                          exact zx_E.ri h rfl (fun h => absurd h (by decide))
                      · refine zx_E.go 3 (s' := (126, [some (.inr (some (0, 0, 0, 0))), some (.inl x0), some (.inl x1), some (.inl x2), some (.inl x3), some (.inl x4), some (.inl x5), some (.inl 1)], [.inl x4, .inr (some (14, 0, 0, 0))], (zx_lay M5, n))) rfl ?_
                        refine zx_E.cm (y := 67) (as := [.inr (some (14, 0, 0, 0)), .inl x4]) (rest := []) h rfl (fun _ hv => zx_run_up (by omega) (r_X8_append (d := d) hv)) (fun M7 h => ?_)
                        show zx_E _ _ _ (129, [some (.inr (some (0, 0, 0, 0))), some (.inl x0), some (.inl x1), some (.inl x2), some (.inl x3), some (.inl x4), some (.inl x5), some (.inl 1)], [], (zx_lay M7, n)) _
                        refine zx_E.go 2 (s' := (131, [some (.inr (some (0, 0, 0, 0))), some (.inl x0), some (.inl x1), some (.inl x2), some (.inl x3), some (.inl x4), some (.inl x5), some (.inl 1)], [.inl 5, .inl x0], (zx_lay M7, n))) rfl ?_
                        refine zx_E.brh (c := x0 < 5) (s1 := (143, [some (.inr (some (0, 0, 0, 0))), some (.inl x0), some (.inl x1), some (.inl x2), some (.inl x3), some (.inl x4), some (.inl x5), some (.inl 1)], [], (zx_lay M7, n))) (s2 := (134, [some (.inr (some (0, 0, 0, 0))), some (.inl x0), some (.inl x1), some (.inl x2), some (.inl x3), some (.inl x4), some (.inl x5), some (.inl 1)], [], (zx_lay M7, n))) h (zx_ic_lt rfl) (fun _ h => ?_) (fun _ h => ?_)
                        · refine zx_E.go 3 (s' := (150, [some (.inr (some (0, 0, 0, 0))), some (.inl x0), some (.inl x1), some (.inl x2), some (.inl x3), some (.inl x4), some (.inl x5), some (.inl 1)], [.inl (M7 (14, 0, 0, 0) 1)], (zx_lay M7, n))) rfl ?_
                          exact zx_E.ri h rfl (fun h => absurd h (by decide))
                        · refine zx_E.go 3 (s' := (140, [some (.inr (some (0, 0, 0, 0))), some (.inl x0), some (.inl x1), some (.inl x2), some (.inl x3), some (.inl x4), some (.inl x5), some (.inl 1)], [.inl x5, .inr (some (14, 0, 0, 0))], (zx_lay M7, n))) rfl ?_
                          refine zx_E.cm (y := 67) (as := [.inr (some (14, 0, 0, 0)), .inl x5]) (rest := []) h rfl (fun _ hv => zx_run_up (by omega) (r_X8_append (d := d) hv)) (fun M8 h => ?_)
                          show zx_E _ _ _ (143, [some (.inr (some (0, 0, 0, 0))), some (.inl x0), some (.inl x1), some (.inl x2), some (.inl x3), some (.inl x4), some (.inl x5), some (.inl 1)], [], (zx_lay M8, n)) _
                          refine zx_E.go 3 (s' := (150, [some (.inr (some (0, 0, 0, 0))), some (.inl x0), some (.inl x1), some (.inl x2), some (.inl x3), some (.inl x4), some (.inl x5), some (.inl 1)], [.inl (M8 (14, 0, 0, 0) 1)], (zx_lay M8, n))) rfl ?_
                          exact zx_E.ri h rfl (fun h => absurd h (by decide))
                  · refine zx_E.go 3 (s' := (98, [some (.inr (some (0, 0, 0, 0))), some (.inl x0), some (.inl x1), some (.inl x2), some (.inl x3), some (.inl x4), some (.inl x5), some (.inl 1)], [.inl x2, .inr (some (14, 0, 0, 0))], (zx_lay M1, n))) rfl ?_
                    refine zx_E.cm (y := 67) (as := [.inr (some (14, 0, 0, 0)), .inl x2]) (rest := []) h rfl (fun _ hv => zx_run_up (by omega) (r_X8_append (d := d) hv)) (fun M9 h => ?_)
                    show zx_E _ _ _ (101, [some (.inr (some (0, 0, 0, 0))), some (.inl x0), some (.inl x1), some (.inl x2), some (.inl x3), some (.inl x4), some (.inl x5), some (.inl 1)], [], (zx_lay M9, n)) _
                    refine zx_E.go 2 (s' := (103, [some (.inr (some (0, 0, 0, 0))), some (.inl x0), some (.inl x1), some (.inl x2), some (.inl x3), some (.inl x4), some (.inl x5), some (.inl 1)], [.inl 3, .inl x0], (zx_lay M9, n))) rfl ?_
                    refine zx_E.brh (c := x0 < 3) (s1 := (115, [some (.inr (some (0, 0, 0, 0))), some (.inl x0), some (.inl x1), some (.inl x2), some (.inl x3), some (.inl x4), some (.inl x5), some (.inl 1)], [], (zx_lay M9, n))) (s2 := (106, [some (.inr (some (0, 0, 0, 0))), some (.inl x0), some (.inl x1), some (.inl x2), some (.inl x3), some (.inl x4), some (.inl x5), some (.inl 1)], [], (zx_lay M9, n))) h (zx_ic_lt rfl) (fun _ h => ?_) (fun _ h => ?_)
                    · refine zx_E.go 2 (s' := (117, [some (.inr (some (0, 0, 0, 0))), some (.inl x0), some (.inl x1), some (.inl x2), some (.inl x3), some (.inl x4), some (.inl x5), some (.inl 1)], [.inl 4, .inl x0], (zx_lay M9, n))) rfl ?_
                      refine zx_E.brh (c := x0 < 4) (s1 := (129, [some (.inr (some (0, 0, 0, 0))), some (.inl x0), some (.inl x1), some (.inl x2), some (.inl x3), some (.inl x4), some (.inl x5), some (.inl 1)], [], (zx_lay M9, n))) (s2 := (120, [some (.inr (some (0, 0, 0, 0))), some (.inl x0), some (.inl x1), some (.inl x2), some (.inl x3), some (.inl x4), some (.inl x5), some (.inl 1)], [], (zx_lay M9, n))) h (zx_ic_lt rfl) (fun _ h => ?_) (fun _ h => ?_)
                      · refine zx_E.go 2 (s' := (131, [some (.inr (some (0, 0, 0, 0))), some (.inl x0), some (.inl x1), some (.inl x2), some (.inl x3), some (.inl x4), some (.inl x5), some (.inl 1)], [.inl 5, .inl x0], (zx_lay M9, n))) rfl ?_
                        refine zx_E.brh (c := x0 < 5) (s1 := (143, [some (.inr (some (0, 0, 0, 0))), some (.inl x0), some (.inl x1), some (.inl x2), some (.inl x3), some (.inl x4), some (.inl x5), some (.inl 1)], [], (zx_lay M9, n))) (s2 := (134, [some (.inr (some (0, 0, 0, 0))), some (.inl x0), some (.inl x1), some (.inl x2), some (.inl x3), some (.inl x4), some (.inl x5), some (.inl 1)], [], (zx_lay M9, n))) h (zx_ic_lt rfl) (fun _ h => ?_) (fun _ h => ?_)
                        · refine zx_E.go 3 (s' := (150, [some (.inr (some (0, 0, 0, 0))), some (.inl x0), some (.inl x1), some (.inl x2), some (.inl x3), some (.inl x4), some (.inl x5), some (.inl 1)], [.inl (M9 (14, 0, 0, 0) 1)], (zx_lay M9, n))) rfl ?_
                          exact zx_E.ri h rfl (fun h => absurd h (by decide))
                        · refine zx_E.go 3 (s' := (140, [some (.inr (some (0, 0, 0, 0))), some (.inl x0), some (.inl x1), some (.inl x2), some (.inl x3), some (.inl x4), some (.inl x5), some (.inl 1)], [.inl x5, .inr (some (14, 0, 0, 0))], (zx_lay M9, n))) rfl ?_
                          refine zx_E.cm (y := 67) (as := [.inr (some (14, 0, 0, 0)), .inl x5]) (rest := []) h rfl (fun _ hv => zx_run_up (by omega) (r_X8_append (d := d) hv)) (fun M10 h => ?_)
                          show zx_E _ _ _ (143, [some (.inr (some (0, 0, 0, 0))), some (.inl x0), some (.inl x1), some (.inl x2), some (.inl x3), some (.inl x4), some (.inl x5), some (.inl 1)], [], (zx_lay M10, n)) _
                          refine zx_E.go 3 (s' := (150, [some (.inr (some (0, 0, 0, 0))), some (.inl x0), some (.inl x1), some (.inl x2), some (.inl x3), some (.inl x4), some (.inl x5), some (.inl 1)], [.inl (M10 (14, 0, 0, 0) 1)], (zx_lay M10, n))) rfl ?_
                          exact zx_E.ri h rfl (fun h => absurd h (by decide))
                      · refine zx_E.go 3 (s' := (126, [some (.inr (some (0, 0, 0, 0))), some (.inl x0), some (.inl x1), some (.inl x2), some (.inl x3), some (.inl x4), some (.inl x5), some (.inl 1)], [.inl x4, .inr (some (14, 0, 0, 0))], (zx_lay M9, n))) rfl ?_
                        refine zx_E.cm (y := 67) (as := [.inr (some (14, 0, 0, 0)), .inl x4]) (rest := []) h rfl (fun _ hv => zx_run_up (by omega) (r_X8_append (d := d) hv)) (fun M11 h => ?_)
                        show zx_E _ _ _ (129, [some (.inr (some (0, 0, 0, 0))), some (.inl x0), some (.inl x1), some (.inl x2), some (.inl x3), some (.inl x4), some (.inl x5), some (.inl 1)], [], (zx_lay M11, n)) _
                        refine zx_E.go 2 (s' := (131, [some (.inr (some (0, 0, 0, 0))), some (.inl x0), some (.inl x1), some (.inl x2), some (.inl x3), some (.inl x4), some (.inl x5), some (.inl 1)], [.inl 5, .inl x0], (zx_lay M11, n))) rfl ?_
                        refine zx_E.brh (c := x0 < 5) (s1 := (143, [some (.inr (some (0, 0, 0, 0))), some (.inl x0), some (.inl x1), some (.inl x2), some (.inl x3), some (.inl x4), some (.inl x5), some (.inl 1)], [], (zx_lay M11, n))) (s2 := (134, [some (.inr (some (0, 0, 0, 0))), some (.inl x0), some (.inl x1), some (.inl x2), some (.inl x3), some (.inl x4), some (.inl x5), some (.inl 1)], [], (zx_lay M11, n))) h (zx_ic_lt rfl) (fun _ h => ?_) (fun _ h => ?_)
                        · refine zx_E.go 3 (s' := (150, [some (.inr (some (0, 0, 0, 0))), some (.inl x0), some (.inl x1), some (.inl x2), some (.inl x3), some (.inl x4), some (.inl x5), some (.inl 1)], [.inl (M11 (14, 0, 0, 0) 1)], (zx_lay M11, n))) rfl ?_
                          exact zx_E.ri h rfl (fun h => absurd h (by decide))
                        · refine zx_E.go 3 (s' := (140, [some (.inr (some (0, 0, 0, 0))), some (.inl x0), some (.inl x1), some (.inl x2), some (.inl x3), some (.inl x4), some (.inl x5), some (.inl 1)], [.inl x5, .inr (some (14, 0, 0, 0))], (zx_lay M11, n))) rfl ?_
                          refine zx_E.cm (y := 67) (as := [.inr (some (14, 0, 0, 0)), .inl x5]) (rest := []) h rfl (fun _ hv => zx_run_up (by omega) (r_X8_append (d := d) hv)) (fun M12 h => ?_)
                          show zx_E _ _ _ (143, [some (.inr (some (0, 0, 0, 0))), some (.inl x0), some (.inl x1), some (.inl x2), some (.inl x3), some (.inl x4), some (.inl x5), some (.inl 1)], [], (zx_lay M12, n)) _
                          refine zx_E.go 3 (s' := (150, [some (.inr (some (0, 0, 0, 0))), some (.inl x0), some (.inl x1), some (.inl x2), some (.inl x3), some (.inl x4), some (.inl x5), some (.inl 1)], [.inl (M12 (14, 0, 0, 0) 1)], (zx_lay M12, n))) rfl ?_
                          exact zx_E.ri h rfl (fun h => absurd h (by decide))
                    · refine zx_E.go 3 (s' := (112, [some (.inr (some (0, 0, 0, 0))), some (.inl x0), some (.inl x1), some (.inl x2), some (.inl x3), some (.inl x4), some (.inl x5), some (.inl 1)], [.inl x3, .inr (some (14, 0, 0, 0))], (zx_lay M9, n))) rfl ?_
                      refine zx_E.cm (y := 67) (as := [.inr (some (14, 0, 0, 0)), .inl x3]) (rest := []) h rfl (fun _ hv => zx_run_up (by omega) (r_X8_append (d := d) hv)) (fun M13 h => ?_)
                      show zx_E _ _ _ (115, [some (.inr (some (0, 0, 0, 0))), some (.inl x0), some (.inl x1), some (.inl x2), some (.inl x3), some (.inl x4), some (.inl x5), some (.inl 1)], [], (zx_lay M13, n)) _
                      refine zx_E.go 2 (s' := (117, [some (.inr (some (0, 0, 0, 0))), some (.inl x0), some (.inl x1), some (.inl x2), some (.inl x3), some (.inl x4), some (.inl x5), some (.inl 1)], [.inl 4, .inl x0], (zx_lay M13, n))) rfl ?_
                      refine zx_E.brh (c := x0 < 4) (s1 := (129, [some (.inr (some (0, 0, 0, 0))), some (.inl x0), some (.inl x1), some (.inl x2), some (.inl x3), some (.inl x4), some (.inl x5), some (.inl 1)], [], (zx_lay M13, n))) (s2 := (120, [some (.inr (some (0, 0, 0, 0))), some (.inl x0), some (.inl x1), some (.inl x2), some (.inl x3), some (.inl x4), some (.inl x5), some (.inl 1)], [], (zx_lay M13, n))) h (zx_ic_lt rfl) (fun _ h => ?_) (fun _ h => ?_)
                      · refine zx_E.go 2 (s' := (131, [some (.inr (some (0, 0, 0, 0))), some (.inl x0), some (.inl x1), some (.inl x2), some (.inl x3), some (.inl x4), some (.inl x5), some (.inl 1)], [.inl 5, .inl x0], (zx_lay M13, n))) rfl ?_
                        refine zx_E.brh (c := x0 < 5) (s1 := (143, [some (.inr (some (0, 0, 0, 0))), some (.inl x0), some (.inl x1), some (.inl x2), some (.inl x3), some (.inl x4), some (.inl x5), some (.inl 1)], [], (zx_lay M13, n))) (s2 := (134, [some (.inr (some (0, 0, 0, 0))), some (.inl x0), some (.inl x1), some (.inl x2), some (.inl x3), some (.inl x4), some (.inl x5), some (.inl 1)], [], (zx_lay M13, n))) h (zx_ic_lt rfl) (fun _ h => ?_) (fun _ h => ?_)
                        · refine zx_E.go 3 (s' := (150, [some (.inr (some (0, 0, 0, 0))), some (.inl x0), some (.inl x1), some (.inl x2), some (.inl x3), some (.inl x4), some (.inl x5), some (.inl 1)], [.inl (M13 (14, 0, 0, 0) 1)], (zx_lay M13, n))) rfl ?_
                          exact zx_E.ri h rfl (fun h => absurd h (by decide))
                        · refine zx_E.go 3 (s' := (140, [some (.inr (some (0, 0, 0, 0))), some (.inl x0), some (.inl x1), some (.inl x2), some (.inl x3), some (.inl x4), some (.inl x5), some (.inl 1)], [.inl x5, .inr (some (14, 0, 0, 0))], (zx_lay M13, n))) rfl ?_
                          refine zx_E.cm (y := 67) (as := [.inr (some (14, 0, 0, 0)), .inl x5]) (rest := []) h rfl (fun _ hv => zx_run_up (by omega) (r_X8_append (d := d) hv)) (fun M14 h => ?_)
                          show zx_E _ _ _ (143, [some (.inr (some (0, 0, 0, 0))), some (.inl x0), some (.inl x1), some (.inl x2), some (.inl x3), some (.inl x4), some (.inl x5), some (.inl 1)], [], (zx_lay M14, n)) _
                          refine zx_E.go 3 (s' := (150, [some (.inr (some (0, 0, 0, 0))), some (.inl x0), some (.inl x1), some (.inl x2), some (.inl x3), some (.inl x4), some (.inl x5), some (.inl 1)], [.inl (M14 (14, 0, 0, 0) 1)], (zx_lay M14, n))) rfl ?_
                          exact zx_E.ri h rfl (fun h => absurd h (by decide))
                      · refine zx_E.go 3 (s' := (126, [some (.inr (some (0, 0, 0, 0))), some (.inl x0), some (.inl x1), some (.inl x2), some (.inl x3), some (.inl x4), some (.inl x5), some (.inl 1)], [.inl x4, .inr (some (14, 0, 0, 0))], (zx_lay M13, n))) rfl ?_
                        refine zx_E.cm (y := 67) (as := [.inr (some (14, 0, 0, 0)), .inl x4]) (rest := []) h rfl (fun _ hv => zx_run_up (by omega) (r_X8_append (d := d) hv)) (fun M15 h => ?_)
                        show zx_E _ _ _ (129, [some (.inr (some (0, 0, 0, 0))), some (.inl x0), some (.inl x1), some (.inl x2), some (.inl x3), some (.inl x4), some (.inl x5), some (.inl 1)], [], (zx_lay M15, n)) _
                        refine zx_E.go 2 (s' := (131, [some (.inr (some (0, 0, 0, 0))), some (.inl x0), some (.inl x1), some (.inl x2), some (.inl x3), some (.inl x4), some (.inl x5), some (.inl 1)], [.inl 5, .inl x0], (zx_lay M15, n))) rfl ?_
                        refine zx_E.brh (c := x0 < 5) (s1 := (143, [some (.inr (some (0, 0, 0, 0))), some (.inl x0), some (.inl x1), some (.inl x2), some (.inl x3), some (.inl x4), some (.inl x5), some (.inl 1)], [], (zx_lay M15, n))) (s2 := (134, [some (.inr (some (0, 0, 0, 0))), some (.inl x0), some (.inl x1), some (.inl x2), some (.inl x3), some (.inl x4), some (.inl x5), some (.inl 1)], [], (zx_lay M15, n))) h (zx_ic_lt rfl) (fun _ h => ?_) (fun _ h => ?_)
                        · refine zx_E.go 3 (s' := (150, [some (.inr (some (0, 0, 0, 0))), some (.inl x0), some (.inl x1), some (.inl x2), some (.inl x3), some (.inl x4), some (.inl x5), some (.inl 1)], [.inl (M15 (14, 0, 0, 0) 1)], (zx_lay M15, n))) rfl ?_
                          exact zx_E.ri h rfl (fun h => absurd h (by decide))
                        · refine zx_E.go 3 (s' := (140, [some (.inr (some (0, 0, 0, 0))), some (.inl x0), some (.inl x1), some (.inl x2), some (.inl x3), some (.inl x4), some (.inl x5), some (.inl 1)], [.inl x5, .inr (some (14, 0, 0, 0))], (zx_lay M15, n))) rfl ?_
                          refine zx_E.cm (y := 67) (as := [.inr (some (14, 0, 0, 0)), .inl x5]) (rest := []) h rfl (fun _ hv => zx_run_up (by omega) (r_X8_append (d := d) hv)) (fun M16 h => ?_)
                          show zx_E _ _ _ (143, [some (.inr (some (0, 0, 0, 0))), some (.inl x0), some (.inl x1), some (.inl x2), some (.inl x3), some (.inl x4), some (.inl x5), some (.inl 1)], [], (zx_lay M16, n)) _
                          refine zx_E.go 3 (s' := (150, [some (.inr (some (0, 0, 0, 0))), some (.inl x0), some (.inl x1), some (.inl x2), some (.inl x3), some (.inl x4), some (.inl x5), some (.inl 1)], [.inl (M16 (14, 0, 0, 0) 1)], (zx_lay M16, n))) rfl ?_
                          exact zx_E.ri h rfl (fun h => absurd h (by decide))
                · refine zx_E.go 1 (s' := (79, [some (.inr (some (0, 0, 0, 0))), some (.inl x0), some (.inl x1), some (.inl x2), some (.inl x3), some (.inl x4), some (.inl x5), some (.inl 1)], [.inl (-4)], (zx_lay M, n))) rfl ?_
                  exact zx_E.ri h rfl (fun h => absurd h (by decide))
def g_X11_isIn (M : zx_Y) (x0 : Int32) (x1 : Int32) (x2 : Int32) : Option Int32 := (if x0 < x1 then (some 0) else (if x2 < x0 then (some 0) else (some 1)))
set_option maxRecDepth 100000 in
set_option maxHeartbeats 4000000 in
theorem r_X11_isIn {X : zx_X} {d n : Nat} {M : zx_Y} {x0 : Int32} {x1 : Int32} {x2 : Int32} {rv : Int32} (h : g_X11_isIn M x0 x1 x2 = some rv) : zx_run X (d + 1) 121 [.inl x0, .inl x1, .inl x2] (zx_lay M, n) (some (.inl rv), (zx_lay M, n)) := by
  refine zx_run_of zc_X11_isIn [some (.inl x0), some (.inl x1), some (.inl x2)] rfl rfl ?_
  unfold g_X11_isIn at h
  refine zx_E.go 2 (s' := (2, [some (.inl x0), some (.inl x1), some (.inl x2)], [.inl x1, .inl x0], (zx_lay M, n))) rfl ?_
  refine zx_E.brh (c := x0 < x1) (s1 := (14, [some (.inl x0), some (.inl x1), some (.inl x2)], [], (zx_lay M, n))) (s2 := (5, [some (.inl x0), some (.inl x1), some (.inl x2)], [], (zx_lay M, n))) h (zx_ic_lt rfl) (fun _ h => ?_) (fun _ h => ?_)
  · refine zx_E.go 1 (s' := (15, [some (.inl x0), some (.inl x1), some (.inl x2)], [.inl 0], (zx_lay M, n))) rfl ?_
    exact zx_E.rp h rfl (fun _ => Or.inl rfl)
  · refine zx_E.go 2 (s' := (7, [some (.inl x0), some (.inl x1), some (.inl x2)], [.inl x2, .inl x0], (zx_lay M, n))) rfl ?_
    refine zx_E.brh (c := x2 < x0) (s1 := (14, [some (.inl x0), some (.inl x1), some (.inl x2)], [], (zx_lay M, n))) (s2 := (10, [some (.inl x0), some (.inl x1), some (.inl x2)], [], (zx_lay M, n))) h (zx_ic_gt rfl) (fun _ h => ?_) (fun _ h => ?_)
    · refine zx_E.go 1 (s' := (15, [some (.inl x0), some (.inl x1), some (.inl x2)], [.inl 0], (zx_lay M, n))) rfl ?_
      exact zx_E.rp h rfl (fun _ => Or.inl rfl)
    · refine zx_E.go 2 (s' := (15, [some (.inl x0), some (.inl x1), some (.inl x2)], [.inl 1], (zx_lay M, n))) rfl ?_
      exact zx_E.rp h rfl (fun _ => Or.inr rfl)
def lg_X11_feed_94 (x0 : Int32) (x1 : Int32) (x2 : Int32) (x3 : Int32) (x4 : Int32) (x5 : Int32) (kk : Int32 → zx_Y → Option (Int32 × zx_Y)) : Nat → Int32 → zx_Y → Option (Int32 × zx_Y)
  | 0, _, _ => none
  | q + 1, w8, M => (if x0 ≤ w8 then (kk w8 M) else (if w8 = 0 then (zi (M (25, 0, 0, 0) 4) 60 fun k1 => (zl (zx_up M (28, 0, 0, 0) k1 x1) fun M1 => (zl (zx_up M1 (25, 0, 0, 0) 4 ((M1 (25, 0, 0, 0) 4) + 1)) fun M2 => (lg_X11_feed_94 x0 x1 x2 x3 x4 x5 kk q (w8 + 1) M2)))) else (if w8 = 1 then (zi (M (25, 0, 0, 0) 4) 60 fun k2 => (zl (zx_up M (28, 0, 0, 0) k2 x2) fun M3 => (zl (zx_up M3 (25, 0, 0, 0) 4 ((M3 (25, 0, 0, 0) 4) + 1)) fun M4 => (lg_X11_feed_94 x0 x1 x2 x3 x4 x5 kk q (w8 + 1) M4)))) else (if w8 = 2 then (zi (M (25, 0, 0, 0) 4) 60 fun k3 => (zl (zx_up M (28, 0, 0, 0) k3 x3) fun M5 => (zl (zx_up M5 (25, 0, 0, 0) 4 ((M5 (25, 0, 0, 0) 4) + 1)) fun M6 => (lg_X11_feed_94 x0 x1 x2 x3 x4 x5 kk q (w8 + 1) M6)))) else (if w8 = 3 then (zi (M (25, 0, 0, 0) 4) 60 fun k4 => (zl (zx_up M (28, 0, 0, 0) k4 x4) fun M7 => (zl (zx_up M7 (25, 0, 0, 0) 4 ((M7 (25, 0, 0, 0) 4) + 1)) fun M8 => (lg_X11_feed_94 x0 x1 x2 x3 x4 x5 kk q (w8 + 1) M8)))) else (zi (M (25, 0, 0, 0) 4) 60 fun k5 => (zl (zx_up M (28, 0, 0, 0) k5 x5) fun M9 => (zl (zx_up M9 (25, 0, 0, 0) 4 ((M9 (25, 0, 0, 0) 4) + 1)) fun M10 => (lg_X11_feed_94 x0 x1 x2 x3 x4 x5 kk q (w8 + 1) M10)))))))))
set_option maxRecDepth 100000 in
set_option maxHeartbeats 4000000 in
theorem rl_X11_feed_94 {X : zx_X} {d n : Nat} {x0 : Int32} {x1 : Int32} {x2 : Int32} {x3 : Int32} {x4 : Int32} {x5 : Int32} {kk : Int32 → zx_Y → Option (Int32 × zx_Y)} {rv : Int32} {rM : zx_Y} {g7 : Option zx_V} (hk : ∀ (w8 : Int32) (M : zx_Y), kk w8 M = some (rv, rM) → zx_E X (d + 1) zc_X11_feed (168, [some (.inr (some (25, 0, 0, 0))), some (.inl x0), some (.inl x1), some (.inl x2), some (.inl x3), some (.inl x4), some (.inl x5), g7, some (.inl w8)], [], (zx_lay M, n)) (some (.inl rv), (zx_lay rM, n))) : ∀ (q : Nat) (w8 : Int32) (M : zx_Y), lg_X11_feed_94 x0 x1 x2 x3 x4 x5 kk q w8 M = some (rv, rM) → zx_E X (d + 1) zc_X11_feed (94, [some (.inr (some (25, 0, 0, 0))), some (.inl x0), some (.inl x1), some (.inl x2), some (.inl x3), some (.inl x4), some (.inl x5), g7, some (.inl w8)], [], (zx_lay M, n)) (some (.inl rv), (zx_lay rM, n))
  | 0, w8, M, h => by
    rw [lg_X11_feed_94.eq_1] at h
    cases h
  | q + 1, w8, M, h => by
    rw [lg_X11_feed_94.eq_2] at h
    refine zx_E.go 2 (s' := (97, [some (.inr (some (25, 0, 0, 0))), some (.inl x0), some (.inl x1), some (.inl x2), some (.inl x3), some (.inl x4), some (.inl x5), g7, some (.inl w8)], [.inl x0, .inl w8], (zx_lay M, n))) rfl ?_
    refine zx_E.brh (c := x0 ≤ w8) (s1 := (168, [some (.inr (some (25, 0, 0, 0))), some (.inl x0), some (.inl x1), some (.inl x2), some (.inl x3), some (.inl x4), some (.inl x5), g7, some (.inl w8)], [], (zx_lay M, n))) (s2 := (100, [some (.inr (some (25, 0, 0, 0))), some (.inl x0), some (.inl x1), some (.inl x2), some (.inl x3), some (.inl x4), some (.inl x5), g7, some (.inl w8)], [], (zx_lay M, n))) h (zx_ic_ge rfl) (fun _ h => ?_) (fun _ h => ?_)
    · exact hk _ _ h
    · refine zx_E.go 5 (s' := (110, [some (.inr (some (25, 0, 0, 0))), some (.inl x0), some (.inl x1), some (.inl x2), some (.inl x3), some (.inl x4), some (.inl x5), g7, some (.inl w8)], [.inl w8, .inl (M (25, 0, 0, 0) 4), .inr (some (28, 0, 0, 0))], (zx_lay M, n))) rfl ?_
      refine zx_E.brh (c := w8 = 0) (s1 := (113, [some (.inr (some (25, 0, 0, 0))), some (.inl x0), some (.inl x1), some (.inl x2), some (.inl x3), some (.inl x4), some (.inl x5), g7, some (.inl w8)], [.inl (M (25, 0, 0, 0) 4), .inr (some (28, 0, 0, 0))], (zx_lay M, n))) (s2 := (117, [some (.inr (some (25, 0, 0, 0))), some (.inl x0), some (.inl x1), some (.inl x2), some (.inl x3), some (.inl x4), some (.inl x5), g7, some (.inl w8)], [.inl (M (25, 0, 0, 0) 4), .inr (some (28, 0, 0, 0))], (zx_lay M, n))) h (zx_if_ne rfl) (fun _ h => ?_) (fun _ h => ?_)
      · refine zx_E.go 2 (s' := (151, [some (.inr (some (25, 0, 0, 0))), some (.inl x0), some (.inl x1), some (.inl x2), some (.inl x3), some (.inl x4), some (.inl x5), g7, some (.inl w8)], [.inl x1, .inl (M (25, 0, 0, 0) 4), .inr (some (28, 0, 0, 0))], (zx_lay M, n))) rfl ?_
        refine zx_E.ix h (fun k1 hx_k1 hl_k1 h => ?_)
        refine zx_E.ia h rfl rfl hx_k1 hl_k1 (fun M1 h => ?_)
        show zx_E _ _ _ (152, [some (.inr (some (25, 0, 0, 0))), some (.inl x0), some (.inl x1), some (.inl x2), some (.inl x3), some (.inl x4), some (.inl x5), g7, some (.inl w8)], [], (zx_lay M1, n)) _
        refine zx_E.go 4 (s' := (158, [some (.inr (some (25, 0, 0, 0))), some (.inl x0), some (.inl x1), some (.inl x2), some (.inl x3), some (.inl x4), some (.inl x5), g7, some (.inl w8)], [.inl 1, .inl (M1 (25, 0, 0, 0) 4), .inr (some (25, 0, 0, 0))], (zx_lay M1, n))) rfl ?_
        refine zx_E.go 1 (s' := (159, [some (.inr (some (25, 0, 0, 0))), some (.inl x0), some (.inl x1), some (.inl x2), some (.inl x3), some (.inl x4), some (.inl x5), g7, some (.inl w8)], [.inl ((M1 (25, 0, 0, 0) 4) + 1), .inr (some (25, 0, 0, 0))], (zx_lay M1, n))) rfl ?_
        refine zx_E.pu h rfl rfl (fun h => absurd h (by decide)) (fun M2 h => ?_)
        show zx_E _ _ _ (162, [some (.inr (some (25, 0, 0, 0))), some (.inl x0), some (.inl x1), some (.inl x2), some (.inl x3), some (.inl x4), some (.inl x5), g7, some (.inl w8)], [], (zx_lay M2, n)) _
        refine zx_E.go 2 (s' := (94, [some (.inr (some (25, 0, 0, 0))), some (.inl x0), some (.inl x1), some (.inl x2), some (.inl x3), some (.inl x4), some (.inl x5), g7, some (.inl (w8 + 1))], [], (zx_lay M2, n))) rfl ?_
        exact rl_X11_feed_94 hk q (w8 + 1) M2 h
      · refine zx_E.go 2 (s' := (120, [some (.inr (some (25, 0, 0, 0))), some (.inl x0), some (.inl x1), some (.inl x2), some (.inl x3), some (.inl x4), some (.inl x5), g7, some (.inl w8)], [.inl 1, .inl w8, .inl (M (25, 0, 0, 0) 4), .inr (some (28, 0, 0, 0))], (zx_lay M, n))) rfl ?_
        refine zx_E.brh (c := w8 = 1) (s1 := (123, [some (.inr (some (25, 0, 0, 0))), some (.inl x0), some (.inl x1), some (.inl x2), some (.inl x3), some (.inl x4), some (.inl x5), g7, some (.inl w8)], [.inl (M (25, 0, 0, 0) 4), .inr (some (28, 0, 0, 0))], (zx_lay M, n))) (s2 := (127, [some (.inr (some (25, 0, 0, 0))), some (.inl x0), some (.inl x1), some (.inl x2), some (.inl x3), some (.inl x4), some (.inl x5), g7, some (.inl w8)], [.inl (M (25, 0, 0, 0) 4), .inr (some (28, 0, 0, 0))], (zx_lay M, n))) h (zx_ic_ne rfl) (fun _ h => ?_) (fun _ h => ?_)
        · refine zx_E.go 2 (s' := (151, [some (.inr (some (25, 0, 0, 0))), some (.inl x0), some (.inl x1), some (.inl x2), some (.inl x3), some (.inl x4), some (.inl x5), g7, some (.inl w8)], [.inl x2, .inl (M (25, 0, 0, 0) 4), .inr (some (28, 0, 0, 0))], (zx_lay M, n))) rfl ?_
          refine zx_E.ix h (fun k2 hx_k2 hl_k2 h => ?_)
          refine zx_E.ia h rfl rfl hx_k2 hl_k2 (fun M3 h => ?_)
          show zx_E _ _ _ (152, [some (.inr (some (25, 0, 0, 0))), some (.inl x0), some (.inl x1), some (.inl x2), some (.inl x3), some (.inl x4), some (.inl x5), g7, some (.inl w8)], [], (zx_lay M3, n)) _
          refine zx_E.go 4 (s' := (158, [some (.inr (some (25, 0, 0, 0))), some (.inl x0), some (.inl x1), some (.inl x2), some (.inl x3), some (.inl x4), some (.inl x5), g7, some (.inl w8)], [.inl 1, .inl (M3 (25, 0, 0, 0) 4), .inr (some (25, 0, 0, 0))], (zx_lay M3, n))) rfl ?_
          refine zx_E.go 1 (s' := (159, [some (.inr (some (25, 0, 0, 0))), some (.inl x0), some (.inl x1), some (.inl x2), some (.inl x3), some (.inl x4), some (.inl x5), g7, some (.inl w8)], [.inl ((M3 (25, 0, 0, 0) 4) + 1), .inr (some (25, 0, 0, 0))], (zx_lay M3, n))) rfl ?_
          refine zx_E.pu h rfl rfl (fun h => absurd h (by decide)) (fun M4 h => ?_)
          show zx_E _ _ _ (162, [some (.inr (some (25, 0, 0, 0))), some (.inl x0), some (.inl x1), some (.inl x2), some (.inl x3), some (.inl x4), some (.inl x5), g7, some (.inl w8)], [], (zx_lay M4, n)) _
          refine zx_E.go 2 (s' := (94, [some (.inr (some (25, 0, 0, 0))), some (.inl x0), some (.inl x1), some (.inl x2), some (.inl x3), some (.inl x4), some (.inl x5), g7, some (.inl (w8 + 1))], [], (zx_lay M4, n))) rfl ?_
          exact rl_X11_feed_94 hk q (w8 + 1) M4 h
        · refine zx_E.go 2 (s' := (130, [some (.inr (some (25, 0, 0, 0))), some (.inl x0), some (.inl x1), some (.inl x2), some (.inl x3), some (.inl x4), some (.inl x5), g7, some (.inl w8)], [.inl 2, .inl w8, .inl (M (25, 0, 0, 0) 4), .inr (some (28, 0, 0, 0))], (zx_lay M, n))) rfl ?_
          refine zx_E.brh (c := w8 = 2) (s1 := (133, [some (.inr (some (25, 0, 0, 0))), some (.inl x0), some (.inl x1), some (.inl x2), some (.inl x3), some (.inl x4), some (.inl x5), g7, some (.inl w8)], [.inl (M (25, 0, 0, 0) 4), .inr (some (28, 0, 0, 0))], (zx_lay M, n))) (s2 := (138, [some (.inr (some (25, 0, 0, 0))), some (.inl x0), some (.inl x1), some (.inl x2), some (.inl x3), some (.inl x4), some (.inl x5), g7, some (.inl w8)], [.inl (M (25, 0, 0, 0) 4), .inr (some (28, 0, 0, 0))], (zx_lay M, n))) h (zx_ic_ne rfl) (fun _ h => ?_) (fun _ h => ?_)
          · refine zx_E.go 2 (s' := (151, [some (.inr (some (25, 0, 0, 0))), some (.inl x0), some (.inl x1), some (.inl x2), some (.inl x3), some (.inl x4), some (.inl x5), g7, some (.inl w8)], [.inl x3, .inl (M (25, 0, 0, 0) 4), .inr (some (28, 0, 0, 0))], (zx_lay M, n))) rfl ?_
            refine zx_E.ix h (fun k3 hx_k3 hl_k3 h => ?_)
            refine zx_E.ia h rfl rfl hx_k3 hl_k3 (fun M5 h => ?_)
            show zx_E _ _ _ (152, [some (.inr (some (25, 0, 0, 0))), some (.inl x0), some (.inl x1), some (.inl x2), some (.inl x3), some (.inl x4), some (.inl x5), g7, some (.inl w8)], [], (zx_lay M5, n)) _
            refine zx_E.go 4 (s' := (158, [some (.inr (some (25, 0, 0, 0))), some (.inl x0), some (.inl x1), some (.inl x2), some (.inl x3), some (.inl x4), some (.inl x5), g7, some (.inl w8)], [.inl 1, .inl (M5 (25, 0, 0, 0) 4), .inr (some (25, 0, 0, 0))], (zx_lay M5, n))) rfl ?_
            refine zx_E.go 1 (s' := (159, [some (.inr (some (25, 0, 0, 0))), some (.inl x0), some (.inl x1), some (.inl x2), some (.inl x3), some (.inl x4), some (.inl x5), g7, some (.inl w8)], [.inl ((M5 (25, 0, 0, 0) 4) + 1), .inr (some (25, 0, 0, 0))], (zx_lay M5, n))) rfl ?_
            refine zx_E.pu h rfl rfl (fun h => absurd h (by decide)) (fun M6 h => ?_)
            show zx_E _ _ _ (162, [some (.inr (some (25, 0, 0, 0))), some (.inl x0), some (.inl x1), some (.inl x2), some (.inl x3), some (.inl x4), some (.inl x5), g7, some (.inl w8)], [], (zx_lay M6, n)) _
            refine zx_E.go 2 (s' := (94, [some (.inr (some (25, 0, 0, 0))), some (.inl x0), some (.inl x1), some (.inl x2), some (.inl x3), some (.inl x4), some (.inl x5), g7, some (.inl (w8 + 1))], [], (zx_lay M6, n))) rfl ?_
            exact rl_X11_feed_94 hk q (w8 + 1) M6 h
          · refine zx_E.go 2 (s' := (141, [some (.inr (some (25, 0, 0, 0))), some (.inl x0), some (.inl x1), some (.inl x2), some (.inl x3), some (.inl x4), some (.inl x5), g7, some (.inl w8)], [.inl 3, .inl w8, .inl (M (25, 0, 0, 0) 4), .inr (some (28, 0, 0, 0))], (zx_lay M, n))) rfl ?_
            refine zx_E.brh (c := w8 = 3) (s1 := (144, [some (.inr (some (25, 0, 0, 0))), some (.inl x0), some (.inl x1), some (.inl x2), some (.inl x3), some (.inl x4), some (.inl x5), g7, some (.inl w8)], [.inl (M (25, 0, 0, 0) 4), .inr (some (28, 0, 0, 0))], (zx_lay M, n))) (s2 := (149, [some (.inr (some (25, 0, 0, 0))), some (.inl x0), some (.inl x1), some (.inl x2), some (.inl x3), some (.inl x4), some (.inl x5), g7, some (.inl w8)], [.inl (M (25, 0, 0, 0) 4), .inr (some (28, 0, 0, 0))], (zx_lay M, n))) h (zx_ic_ne rfl) (fun _ h => ?_) (fun _ h => ?_)
            · refine zx_E.go 2 (s' := (151, [some (.inr (some (25, 0, 0, 0))), some (.inl x0), some (.inl x1), some (.inl x2), some (.inl x3), some (.inl x4), some (.inl x5), g7, some (.inl w8)], [.inl x4, .inl (M (25, 0, 0, 0) 4), .inr (some (28, 0, 0, 0))], (zx_lay M, n))) rfl ?_
              refine zx_E.ix h (fun k4 hx_k4 hl_k4 h => ?_)
              refine zx_E.ia h rfl rfl hx_k4 hl_k4 (fun M7 h => ?_)
              show zx_E _ _ _ (152, [some (.inr (some (25, 0, 0, 0))), some (.inl x0), some (.inl x1), some (.inl x2), some (.inl x3), some (.inl x4), some (.inl x5), g7, some (.inl w8)], [], (zx_lay M7, n)) _
              refine zx_E.go 4 (s' := (158, [some (.inr (some (25, 0, 0, 0))), some (.inl x0), some (.inl x1), some (.inl x2), some (.inl x3), some (.inl x4), some (.inl x5), g7, some (.inl w8)], [.inl 1, .inl (M7 (25, 0, 0, 0) 4), .inr (some (25, 0, 0, 0))], (zx_lay M7, n))) rfl ?_
              refine zx_E.go 1 (s' := (159, [some (.inr (some (25, 0, 0, 0))), some (.inl x0), some (.inl x1), some (.inl x2), some (.inl x3), some (.inl x4), some (.inl x5), g7, some (.inl w8)], [.inl ((M7 (25, 0, 0, 0) 4) + 1), .inr (some (25, 0, 0, 0))], (zx_lay M7, n))) rfl ?_
              refine zx_E.pu h rfl rfl (fun h => absurd h (by decide)) (fun M8 h => ?_)
              show zx_E _ _ _ (162, [some (.inr (some (25, 0, 0, 0))), some (.inl x0), some (.inl x1), some (.inl x2), some (.inl x3), some (.inl x4), some (.inl x5), g7, some (.inl w8)], [], (zx_lay M8, n)) _
              refine zx_E.go 2 (s' := (94, [some (.inr (some (25, 0, 0, 0))), some (.inl x0), some (.inl x1), some (.inl x2), some (.inl x3), some (.inl x4), some (.inl x5), g7, some (.inl (w8 + 1))], [], (zx_lay M8, n))) rfl ?_
              exact rl_X11_feed_94 hk q (w8 + 1) M8 h
            · refine zx_E.go 1 (s' := (151, [some (.inr (some (25, 0, 0, 0))), some (.inl x0), some (.inl x1), some (.inl x2), some (.inl x3), some (.inl x4), some (.inl x5), g7, some (.inl w8)], [.inl x5, .inl (M (25, 0, 0, 0) 4), .inr (some (28, 0, 0, 0))], (zx_lay M, n))) rfl ?_
              refine zx_E.ix h (fun k5 hx_k5 hl_k5 h => ?_)
              refine zx_E.ia h rfl rfl hx_k5 hl_k5 (fun M9 h => ?_)
              show zx_E _ _ _ (152, [some (.inr (some (25, 0, 0, 0))), some (.inl x0), some (.inl x1), some (.inl x2), some (.inl x3), some (.inl x4), some (.inl x5), g7, some (.inl w8)], [], (zx_lay M9, n)) _
              refine zx_E.go 4 (s' := (158, [some (.inr (some (25, 0, 0, 0))), some (.inl x0), some (.inl x1), some (.inl x2), some (.inl x3), some (.inl x4), some (.inl x5), g7, some (.inl w8)], [.inl 1, .inl (M9 (25, 0, 0, 0) 4), .inr (some (25, 0, 0, 0))], (zx_lay M9, n))) rfl ?_
              refine zx_E.go 1 (s' := (159, [some (.inr (some (25, 0, 0, 0))), some (.inl x0), some (.inl x1), some (.inl x2), some (.inl x3), some (.inl x4), some (.inl x5), g7, some (.inl w8)], [.inl ((M9 (25, 0, 0, 0) 4) + 1), .inr (some (25, 0, 0, 0))], (zx_lay M9, n))) rfl ?_
              refine zx_E.pu h rfl rfl (fun h => absurd h (by decide)) (fun M10 h => ?_)
              show zx_E _ _ _ (162, [some (.inr (some (25, 0, 0, 0))), some (.inl x0), some (.inl x1), some (.inl x2), some (.inl x3), some (.inl x4), some (.inl x5), g7, some (.inl w8)], [], (zx_lay M10, n)) _
              refine zx_E.go 2 (s' := (94, [some (.inr (some (25, 0, 0, 0))), some (.inl x0), some (.inl x1), some (.inl x2), some (.inl x3), some (.inl x4), some (.inl x5), g7, some (.inl (w8 + 1))], [], (zx_lay M10, n))) rfl ?_
              exact rl_X11_feed_94 hk q (w8 + 1) M10 h
def g_X11_feed (M : zx_Y) (x0 : Int32) (x1 : Int32) (x2 : Int32) (x3 : Int32) (x4 : Int32) (x5 : Int32) : Option (Int32 × zx_Y) := (zb (g_X11_isIn M x1 0 127) fun v1 => (if v1 = 0 then (zb (g_X11_isIn M x0 1 5) fun v2 => (if v2 = 0 then (some ((-2), M)) else (some ((-2), M)))) else (zb (g_X11_isIn M x2 0 127) fun v3 => (if v3 = 0 then (zb (g_X11_isIn M x0 1 5) fun v4 => (if v4 = 0 then (some ((-2), M)) else (some ((-2), M)))) else (zb (g_X11_isIn M x3 0 127) fun v5 => (if v5 = 0 then (zb (g_X11_isIn M x0 1 5) fun v6 => (if v6 = 0 then (some ((-2), M)) else (some ((-2), M)))) else (zb (g_X11_isIn M x4 0 127) fun v7 => (if v7 = 0 then (zb (g_X11_isIn M x0 1 5) fun v8 => (if v8 = 0 then (some ((-2), M)) else (some ((-2), M)))) else (zb (g_X11_isIn M x5 0 127) fun v9 => (if v9 = 0 then (zb (g_X11_isIn M x0 1 5) fun v10 => (if v10 = 0 then (some ((-2), M)) else (some ((-2), M)))) else (zb (g_X11_isIn M x0 1 5) fun v11 => (if v11 = 0 then (some ((-2), M)) else (if ((M (25, 0, 0, 0) 4) + x0) ≤ 60 then (lg_X11_feed_94 x0 x1 x2 x3 x4 x5 (fun v12 M1 => (some ((M1 (25, 0, 0, 0) 4), M1))) 1000 0 M) else (some ((-4), M)))))))))))))))
set_option maxRecDepth 100000 in
set_option maxHeartbeats 4000000 in
theorem r_X11_feed {X : zx_X} {d n : Nat} {M : zx_Y} {x0 : Int32} {x1 : Int32} {x2 : Int32} {x3 : Int32} {x4 : Int32} {x5 : Int32} {rv : Int32} {rM : zx_Y} (h : g_X11_feed M x0 x1 x2 x3 x4 x5 = some (rv, rM)) : zx_run X (d + 2) 151 [.inr (some (25, 0, 0, 0)), .inl x0, .inl x1, .inl x2, .inl x3, .inl x4, .inl x5] (zx_lay M, n) (some (.inl rv), (zx_lay rM, n)) := by
  refine zx_run_of zc_X11_feed [some (.inr (some (25, 0, 0, 0))), some (.inl x0), some (.inl x1), some (.inl x2), some (.inl x3), some (.inl x4), some (.inl x5), none, none] rfl rfl ?_
  unfold g_X11_feed at h
  refine zx_E.go 3 (s' := (4, [some (.inr (some (25, 0, 0, 0))), some (.inl x0), some (.inl x1), some (.inl x2), some (.inl x3), some (.inl x4), some (.inl x5), none, none], [.inl 127, .inl 0, .inl x1], (zx_lay M, n))) rfl ?_
  refine zx_E.cb (y := 121) (as := [.inl x1, .inl 0, .inl 127]) (rest := []) h rfl (fun _ hv => zx_run_up (by omega) (r_X11_isIn (d := d) hv)) (fun v1 h => ?_)
  show zx_E _ _ _ (7, [some (.inr (some (25, 0, 0, 0))), some (.inl x0), some (.inl x1), some (.inl x2), some (.inl x3), some (.inl x4), some (.inl x5), none, none], [.inl v1], (zx_lay M, n)) _
  refine zx_E.brh (c := v1 = 0) (s1 := (57, [some (.inr (some (25, 0, 0, 0))), some (.inl x0), some (.inl x1), some (.inl x2), some (.inl x3), some (.inl x4), some (.inl x5), none, none], [], (zx_lay M, n))) (s2 := (10, [some (.inr (some (25, 0, 0, 0))), some (.inl x0), some (.inl x1), some (.inl x2), some (.inl x3), some (.inl x4), some (.inl x5), none, none], [], (zx_lay M, n))) h (zx_if_eq rfl) (fun _ h => ?_) (fun _ h => ?_)
  · refine zx_E.go 5 (s' := (63, [some (.inr (some (25, 0, 0, 0))), some (.inl x0), some (.inl x1), some (.inl x2), some (.inl x3), some (.inl x4), some (.inl x5), some (.inl 0), none], [.inl 5, .inl 1, .inl x0], (zx_lay M, n))) rfl ?_
    refine zx_E.cb (y := 121) (as := [.inl x0, .inl 1, .inl 5]) (rest := []) h rfl (fun _ hv => zx_run_up (by omega) (r_X11_isIn (d := d) hv)) (fun v2 h => ?_)
    show zx_E _ _ _ (66, [some (.inr (some (25, 0, 0, 0))), some (.inl x0), some (.inl x1), some (.inl x2), some (.inl x3), some (.inl x4), some (.inl x5), some (.inl 0), none], [.inl v2], (zx_lay M, n)) _
    refine zx_E.brh (c := v2 = 0) (s1 := (74, [some (.inr (some (25, 0, 0, 0))), some (.inl x0), some (.inl x1), some (.inl x2), some (.inl x3), some (.inl x4), some (.inl x5), some (.inl 0), none], [], (zx_lay M, n))) (s2 := (69, [some (.inr (some (25, 0, 0, 0))), some (.inl x0), some (.inl x1), some (.inl x2), some (.inl x3), some (.inl x4), some (.inl x5), some (.inl 0), none], [], (zx_lay M, n))) h (zx_if_eq rfl) (fun _ h => ?_) (fun _ h => ?_)
    · refine zx_E.go 1 (s' := (76, [some (.inr (some (25, 0, 0, 0))), some (.inl x0), some (.inl x1), some (.inl x2), some (.inl x3), some (.inl x4), some (.inl x5), some (.inl 0), none], [.inl (-2)], (zx_lay M, n))) rfl ?_
      exact zx_E.ri h rfl (fun h => absurd h (by decide))
    · refine zx_E.go 1 (s' := (71, [some (.inr (some (25, 0, 0, 0))), some (.inl x0), some (.inl x1), some (.inl x2), some (.inl x3), some (.inl x4), some (.inl x5), some (.inl 0), none], [.inl 0], (zx_lay M, n))) rfl ?_
      refine zx_E.bt (c := ((0 : Int32) = 0 : Prop)) (s1 := (74, [some (.inr (some (25, 0, 0, 0))), some (.inl x0), some (.inl x1), some (.inl x2), some (.inl x3), some (.inl x4), some (.inl x5), some (.inl 0), none], [], (zx_lay M, n))) (s2 := (77, [some (.inr (some (25, 0, 0, 0))), some (.inl x0), some (.inl x1), some (.inl x2), some (.inl x3), some (.inl x4), some (.inl x5), some (.inl 0), none], [], (zx_lay M, n))) (zx_if_ne rfl) (by decide) ?_
      refine zx_E.go 1 (s' := (76, [some (.inr (some (25, 0, 0, 0))), some (.inl x0), some (.inl x1), some (.inl x2), some (.inl x3), some (.inl x4), some (.inl x5), some (.inl 0), none], [.inl (-2)], (zx_lay M, n))) rfl ?_
      exact zx_E.ri h rfl (fun h => absurd h (by decide))
  · refine zx_E.go 3 (s' := (14, [some (.inr (some (25, 0, 0, 0))), some (.inl x0), some (.inl x1), some (.inl x2), some (.inl x3), some (.inl x4), some (.inl x5), none, none], [.inl 127, .inl 0, .inl x2], (zx_lay M, n))) rfl ?_
    refine zx_E.cb (y := 121) (as := [.inl x2, .inl 0, .inl 127]) (rest := []) h rfl (fun _ hv => zx_run_up (by omega) (r_X11_isIn (d := d) hv)) (fun v3 h => ?_)
    show zx_E _ _ _ (17, [some (.inr (some (25, 0, 0, 0))), some (.inl x0), some (.inl x1), some (.inl x2), some (.inl x3), some (.inl x4), some (.inl x5), none, none], [.inl v3], (zx_lay M, n)) _
    refine zx_E.brh (c := v3 = 0) (s1 := (57, [some (.inr (some (25, 0, 0, 0))), some (.inl x0), some (.inl x1), some (.inl x2), some (.inl x3), some (.inl x4), some (.inl x5), none, none], [], (zx_lay M, n))) (s2 := (20, [some (.inr (some (25, 0, 0, 0))), some (.inl x0), some (.inl x1), some (.inl x2), some (.inl x3), some (.inl x4), some (.inl x5), none, none], [], (zx_lay M, n))) h (zx_if_eq rfl) (fun _ h => ?_) (fun _ h => ?_)
    · refine zx_E.go 5 (s' := (63, [some (.inr (some (25, 0, 0, 0))), some (.inl x0), some (.inl x1), some (.inl x2), some (.inl x3), some (.inl x4), some (.inl x5), some (.inl 0), none], [.inl 5, .inl 1, .inl x0], (zx_lay M, n))) rfl ?_
      refine zx_E.cb (y := 121) (as := [.inl x0, .inl 1, .inl 5]) (rest := []) h rfl (fun _ hv => zx_run_up (by omega) (r_X11_isIn (d := d) hv)) (fun v4 h => ?_)
      show zx_E _ _ _ (66, [some (.inr (some (25, 0, 0, 0))), some (.inl x0), some (.inl x1), some (.inl x2), some (.inl x3), some (.inl x4), some (.inl x5), some (.inl 0), none], [.inl v4], (zx_lay M, n)) _
      refine zx_E.brh (c := v4 = 0) (s1 := (74, [some (.inr (some (25, 0, 0, 0))), some (.inl x0), some (.inl x1), some (.inl x2), some (.inl x3), some (.inl x4), some (.inl x5), some (.inl 0), none], [], (zx_lay M, n))) (s2 := (69, [some (.inr (some (25, 0, 0, 0))), some (.inl x0), some (.inl x1), some (.inl x2), some (.inl x3), some (.inl x4), some (.inl x5), some (.inl 0), none], [], (zx_lay M, n))) h (zx_if_eq rfl) (fun _ h => ?_) (fun _ h => ?_)
      · refine zx_E.go 1 (s' := (76, [some (.inr (some (25, 0, 0, 0))), some (.inl x0), some (.inl x1), some (.inl x2), some (.inl x3), some (.inl x4), some (.inl x5), some (.inl 0), none], [.inl (-2)], (zx_lay M, n))) rfl ?_
        exact zx_E.ri h rfl (fun h => absurd h (by decide))
      · refine zx_E.go 1 (s' := (71, [some (.inr (some (25, 0, 0, 0))), some (.inl x0), some (.inl x1), some (.inl x2), some (.inl x3), some (.inl x4), some (.inl x5), some (.inl 0), none], [.inl 0], (zx_lay M, n))) rfl ?_
        refine zx_E.bt (c := ((0 : Int32) = 0 : Prop)) (s1 := (74, [some (.inr (some (25, 0, 0, 0))), some (.inl x0), some (.inl x1), some (.inl x2), some (.inl x3), some (.inl x4), some (.inl x5), some (.inl 0), none], [], (zx_lay M, n))) (s2 := (77, [some (.inr (some (25, 0, 0, 0))), some (.inl x0), some (.inl x1), some (.inl x2), some (.inl x3), some (.inl x4), some (.inl x5), some (.inl 0), none], [], (zx_lay M, n))) (zx_if_ne rfl) (by decide) ?_
        refine zx_E.go 1 (s' := (76, [some (.inr (some (25, 0, 0, 0))), some (.inl x0), some (.inl x1), some (.inl x2), some (.inl x3), some (.inl x4), some (.inl x5), some (.inl 0), none], [.inl (-2)], (zx_lay M, n))) rfl ?_
        exact zx_E.ri h rfl (fun h => absurd h (by decide))
    · refine zx_E.go 3 (s' := (25, [some (.inr (some (25, 0, 0, 0))), some (.inl x0), some (.inl x1), some (.inl x2), some (.inl x3), some (.inl x4), some (.inl x5), none, none], [.inl 127, .inl 0, .inl x3], (zx_lay M, n))) rfl ?_
      refine zx_E.cb (y := 121) (as := [.inl x3, .inl 0, .inl 127]) (rest := []) h rfl (fun _ hv => zx_run_up (by omega) (r_X11_isIn (d := d) hv)) (fun v5 h => ?_)
      show zx_E _ _ _ (28, [some (.inr (some (25, 0, 0, 0))), some (.inl x0), some (.inl x1), some (.inl x2), some (.inl x3), some (.inl x4), some (.inl x5), none, none], [.inl v5], (zx_lay M, n)) _
      refine zx_E.brh (c := v5 = 0) (s1 := (57, [some (.inr (some (25, 0, 0, 0))), some (.inl x0), some (.inl x1), some (.inl x2), some (.inl x3), some (.inl x4), some (.inl x5), none, none], [], (zx_lay M, n))) (s2 := (31, [some (.inr (some (25, 0, 0, 0))), some (.inl x0), some (.inl x1), some (.inl x2), some (.inl x3), some (.inl x4), some (.inl x5), none, none], [], (zx_lay M, n))) h (zx_if_eq rfl) (fun _ h => ?_) (fun _ h => ?_)
      · refine zx_E.go 5 (s' := (63, [some (.inr (some (25, 0, 0, 0))), some (.inl x0), some (.inl x1), some (.inl x2), some (.inl x3), some (.inl x4), some (.inl x5), some (.inl 0), none], [.inl 5, .inl 1, .inl x0], (zx_lay M, n))) rfl ?_
        refine zx_E.cb (y := 121) (as := [.inl x0, .inl 1, .inl 5]) (rest := []) h rfl (fun _ hv => zx_run_up (by omega) (r_X11_isIn (d := d) hv)) (fun v6 h => ?_)
        show zx_E _ _ _ (66, [some (.inr (some (25, 0, 0, 0))), some (.inl x0), some (.inl x1), some (.inl x2), some (.inl x3), some (.inl x4), some (.inl x5), some (.inl 0), none], [.inl v6], (zx_lay M, n)) _
        refine zx_E.brh (c := v6 = 0) (s1 := (74, [some (.inr (some (25, 0, 0, 0))), some (.inl x0), some (.inl x1), some (.inl x2), some (.inl x3), some (.inl x4), some (.inl x5), some (.inl 0), none], [], (zx_lay M, n))) (s2 := (69, [some (.inr (some (25, 0, 0, 0))), some (.inl x0), some (.inl x1), some (.inl x2), some (.inl x3), some (.inl x4), some (.inl x5), some (.inl 0), none], [], (zx_lay M, n))) h (zx_if_eq rfl) (fun _ h => ?_) (fun _ h => ?_)
        · refine zx_E.go 1 (s' := (76, [some (.inr (some (25, 0, 0, 0))), some (.inl x0), some (.inl x1), some (.inl x2), some (.inl x3), some (.inl x4), some (.inl x5), some (.inl 0), none], [.inl (-2)], (zx_lay M, n))) rfl ?_
          exact zx_E.ri h rfl (fun h => absurd h (by decide))
        · refine zx_E.go 1 (s' := (71, [some (.inr (some (25, 0, 0, 0))), some (.inl x0), some (.inl x1), some (.inl x2), some (.inl x3), some (.inl x4), some (.inl x5), some (.inl 0), none], [.inl 0], (zx_lay M, n))) rfl ?_
          refine zx_E.bt (c := ((0 : Int32) = 0 : Prop)) (s1 := (74, [some (.inr (some (25, 0, 0, 0))), some (.inl x0), some (.inl x1), some (.inl x2), some (.inl x3), some (.inl x4), some (.inl x5), some (.inl 0), none], [], (zx_lay M, n))) (s2 := (77, [some (.inr (some (25, 0, 0, 0))), some (.inl x0), some (.inl x1), some (.inl x2), some (.inl x3), some (.inl x4), some (.inl x5), some (.inl 0), none], [], (zx_lay M, n))) (zx_if_ne rfl) (by decide) ?_
          refine zx_E.go 1 (s' := (76, [some (.inr (some (25, 0, 0, 0))), some (.inl x0), some (.inl x1), some (.inl x2), some (.inl x3), some (.inl x4), some (.inl x5), some (.inl 0), none], [.inl (-2)], (zx_lay M, n))) rfl ?_
          exact zx_E.ri h rfl (fun h => absurd h (by decide))
      · refine zx_E.go 3 (s' := (36, [some (.inr (some (25, 0, 0, 0))), some (.inl x0), some (.inl x1), some (.inl x2), some (.inl x3), some (.inl x4), some (.inl x5), none, none], [.inl 127, .inl 0, .inl x4], (zx_lay M, n))) rfl ?_
        refine zx_E.cb (y := 121) (as := [.inl x4, .inl 0, .inl 127]) (rest := []) h rfl (fun _ hv => zx_run_up (by omega) (r_X11_isIn (d := d) hv)) (fun v7 h => ?_)
        show zx_E _ _ _ (39, [some (.inr (some (25, 0, 0, 0))), some (.inl x0), some (.inl x1), some (.inl x2), some (.inl x3), some (.inl x4), some (.inl x5), none, none], [.inl v7], (zx_lay M, n)) _
        refine zx_E.brh (c := v7 = 0) (s1 := (57, [some (.inr (some (25, 0, 0, 0))), some (.inl x0), some (.inl x1), some (.inl x2), some (.inl x3), some (.inl x4), some (.inl x5), none, none], [], (zx_lay M, n))) (s2 := (42, [some (.inr (some (25, 0, 0, 0))), some (.inl x0), some (.inl x1), some (.inl x2), some (.inl x3), some (.inl x4), some (.inl x5), none, none], [], (zx_lay M, n))) h (zx_if_eq rfl) (fun _ h => ?_) (fun _ h => ?_)
        · refine zx_E.go 5 (s' := (63, [some (.inr (some (25, 0, 0, 0))), some (.inl x0), some (.inl x1), some (.inl x2), some (.inl x3), some (.inl x4), some (.inl x5), some (.inl 0), none], [.inl 5, .inl 1, .inl x0], (zx_lay M, n))) rfl ?_
          refine zx_E.cb (y := 121) (as := [.inl x0, .inl 1, .inl 5]) (rest := []) h rfl (fun _ hv => zx_run_up (by omega) (r_X11_isIn (d := d) hv)) (fun v8 h => ?_)
          show zx_E _ _ _ (66, [some (.inr (some (25, 0, 0, 0))), some (.inl x0), some (.inl x1), some (.inl x2), some (.inl x3), some (.inl x4), some (.inl x5), some (.inl 0), none], [.inl v8], (zx_lay M, n)) _
          refine zx_E.brh (c := v8 = 0) (s1 := (74, [some (.inr (some (25, 0, 0, 0))), some (.inl x0), some (.inl x1), some (.inl x2), some (.inl x3), some (.inl x4), some (.inl x5), some (.inl 0), none], [], (zx_lay M, n))) (s2 := (69, [some (.inr (some (25, 0, 0, 0))), some (.inl x0), some (.inl x1), some (.inl x2), some (.inl x3), some (.inl x4), some (.inl x5), some (.inl 0), none], [], (zx_lay M, n))) h (zx_if_eq rfl) (fun _ h => ?_) (fun _ h => ?_)
          · refine zx_E.go 1 (s' := (76, [some (.inr (some (25, 0, 0, 0))), some (.inl x0), some (.inl x1), some (.inl x2), some (.inl x3), some (.inl x4), some (.inl x5), some (.inl 0), none], [.inl (-2)], (zx_lay M, n))) rfl ?_
            exact zx_E.ri h rfl (fun h => absurd h (by decide))
          · refine zx_E.go 1 (s' := (71, [some (.inr (some (25, 0, 0, 0))), some (.inl x0), some (.inl x1), some (.inl x2), some (.inl x3), some (.inl x4), some (.inl x5), some (.inl 0), none], [.inl 0], (zx_lay M, n))) rfl ?_
            refine zx_E.bt (c := ((0 : Int32) = 0 : Prop)) (s1 := (74, [some (.inr (some (25, 0, 0, 0))), some (.inl x0), some (.inl x1), some (.inl x2), some (.inl x3), some (.inl x4), some (.inl x5), some (.inl 0), none], [], (zx_lay M, n))) (s2 := (77, [some (.inr (some (25, 0, 0, 0))), some (.inl x0), some (.inl x1), some (.inl x2), some (.inl x3), some (.inl x4), some (.inl x5), some (.inl 0), none], [], (zx_lay M, n))) (zx_if_ne rfl) (by decide) ?_
            refine zx_E.go 1 (s' := (76, [some (.inr (some (25, 0, 0, 0))), some (.inl x0), some (.inl x1), some (.inl x2), some (.inl x3), some (.inl x4), some (.inl x5), some (.inl 0), none], [.inl (-2)], (zx_lay M, n))) rfl ?_
            exact zx_E.ri h rfl (fun h => absurd h (by decide))
        · refine zx_E.go 3 (s' := (47, [some (.inr (some (25, 0, 0, 0))), some (.inl x0), some (.inl x1), some (.inl x2), some (.inl x3), some (.inl x4), some (.inl x5), none, none], [.inl 127, .inl 0, .inl x5], (zx_lay M, n))) rfl ?_
          refine zx_E.cb (y := 121) (as := [.inl x5, .inl 0, .inl 127]) (rest := []) h rfl (fun _ hv => zx_run_up (by omega) (r_X11_isIn (d := d) hv)) (fun v9 h => ?_)
          show zx_E _ _ _ (50, [some (.inr (some (25, 0, 0, 0))), some (.inl x0), some (.inl x1), some (.inl x2), some (.inl x3), some (.inl x4), some (.inl x5), none, none], [.inl v9], (zx_lay M, n)) _
          refine zx_E.brh (c := v9 = 0) (s1 := (57, [some (.inr (some (25, 0, 0, 0))), some (.inl x0), some (.inl x1), some (.inl x2), some (.inl x3), some (.inl x4), some (.inl x5), none, none], [], (zx_lay M, n))) (s2 := (53, [some (.inr (some (25, 0, 0, 0))), some (.inl x0), some (.inl x1), some (.inl x2), some (.inl x3), some (.inl x4), some (.inl x5), none, none], [], (zx_lay M, n))) h (zx_if_eq rfl) (fun _ h => ?_) (fun _ h => ?_)
          · refine zx_E.go 5 (s' := (63, [some (.inr (some (25, 0, 0, 0))), some (.inl x0), some (.inl x1), some (.inl x2), some (.inl x3), some (.inl x4), some (.inl x5), some (.inl 0), none], [.inl 5, .inl 1, .inl x0], (zx_lay M, n))) rfl ?_
            refine zx_E.cb (y := 121) (as := [.inl x0, .inl 1, .inl 5]) (rest := []) h rfl (fun _ hv => zx_run_up (by omega) (r_X11_isIn (d := d) hv)) (fun v10 h => ?_)
            show zx_E _ _ _ (66, [some (.inr (some (25, 0, 0, 0))), some (.inl x0), some (.inl x1), some (.inl x2), some (.inl x3), some (.inl x4), some (.inl x5), some (.inl 0), none], [.inl v10], (zx_lay M, n)) _
            refine zx_E.brh (c := v10 = 0) (s1 := (74, [some (.inr (some (25, 0, 0, 0))), some (.inl x0), some (.inl x1), some (.inl x2), some (.inl x3), some (.inl x4), some (.inl x5), some (.inl 0), none], [], (zx_lay M, n))) (s2 := (69, [some (.inr (some (25, 0, 0, 0))), some (.inl x0), some (.inl x1), some (.inl x2), some (.inl x3), some (.inl x4), some (.inl x5), some (.inl 0), none], [], (zx_lay M, n))) h (zx_if_eq rfl) (fun _ h => ?_) (fun _ h => ?_)
            · refine zx_E.go 1 (s' := (76, [some (.inr (some (25, 0, 0, 0))), some (.inl x0), some (.inl x1), some (.inl x2), some (.inl x3), some (.inl x4), some (.inl x5), some (.inl 0), none], [.inl (-2)], (zx_lay M, n))) rfl ?_
              exact zx_E.ri h rfl (fun h => absurd h (by decide))
            · refine zx_E.go 1 (s' := (71, [some (.inr (some (25, 0, 0, 0))), some (.inl x0), some (.inl x1), some (.inl x2), some (.inl x3), some (.inl x4), some (.inl x5), some (.inl 0), none], [.inl 0], (zx_lay M, n))) rfl ?_
              refine zx_E.bt (c := ((0 : Int32) = 0 : Prop)) (s1 := (74, [some (.inr (some (25, 0, 0, 0))), some (.inl x0), some (.inl x1), some (.inl x2), some (.inl x3), some (.inl x4), some (.inl x5), some (.inl 0), none], [], (zx_lay M, n))) (s2 := (77, [some (.inr (some (25, 0, 0, 0))), some (.inl x0), some (.inl x1), some (.inl x2), some (.inl x3), some (.inl x4), some (.inl x5), some (.inl 0), none], [], (zx_lay M, n))) (zx_if_ne rfl) (by decide) ?_
              refine zx_E.go 1 (s' := (76, [some (.inr (some (25, 0, 0, 0))), some (.inl x0), some (.inl x1), some (.inl x2), some (.inl x3), some (.inl x4), some (.inl x5), some (.inl 0), none], [.inl (-2)], (zx_lay M, n))) rfl ?_
              exact zx_E.ri h rfl (fun h => absurd h (by decide))
          · refine zx_E.go 6 (s' := (63, [some (.inr (some (25, 0, 0, 0))), some (.inl x0), some (.inl x1), some (.inl x2), some (.inl x3), some (.inl x4), some (.inl x5), some (.inl 1), none], [.inl 5, .inl 1, .inl x0], (zx_lay M, n))) rfl ?_
            refine zx_E.cb (y := 121) (as := [.inl x0, .inl 1, .inl 5]) (rest := []) h rfl (fun _ hv => zx_run_up (by omega) (r_X11_isIn (d := d) hv)) (fun v11 h => ?_)
            show zx_E _ _ _ (66, [some (.inr (some (25, 0, 0, 0))), some (.inl x0), some (.inl x1), some (.inl x2), some (.inl x3), some (.inl x4), some (.inl x5), some (.inl 1), none], [.inl v11], (zx_lay M, n)) _
            refine zx_E.brh (c := v11 = 0) (s1 := (74, [some (.inr (some (25, 0, 0, 0))), some (.inl x0), some (.inl x1), some (.inl x2), some (.inl x3), some (.inl x4), some (.inl x5), some (.inl 1), none], [], (zx_lay M, n))) (s2 := (69, [some (.inr (some (25, 0, 0, 0))), some (.inl x0), some (.inl x1), some (.inl x2), some (.inl x3), some (.inl x4), some (.inl x5), some (.inl 1), none], [], (zx_lay M, n))) h (zx_if_eq rfl) (fun _ h => ?_) (fun _ h => ?_)
            · refine zx_E.go 1 (s' := (76, [some (.inr (some (25, 0, 0, 0))), some (.inl x0), some (.inl x1), some (.inl x2), some (.inl x3), some (.inl x4), some (.inl x5), some (.inl 1), none], [.inl (-2)], (zx_lay M, n))) rfl ?_
              exact zx_E.ri h rfl (fun h => absurd h (by decide))
            · refine zx_E.go 1 (s' := (71, [some (.inr (some (25, 0, 0, 0))), some (.inl x0), some (.inl x1), some (.inl x2), some (.inl x3), some (.inl x4), some (.inl x5), some (.inl 1), none], [.inl 1], (zx_lay M, n))) rfl ?_
              refine zx_E.bf (c := ((1 : Int32) = 0 : Prop)) (s1 := (74, [some (.inr (some (25, 0, 0, 0))), some (.inl x0), some (.inl x1), some (.inl x2), some (.inl x3), some (.inl x4), some (.inl x5), some (.inl 1), none], [], (zx_lay M, n))) (s2 := (77, [some (.inr (some (25, 0, 0, 0))), some (.inl x0), some (.inl x1), some (.inl x2), some (.inl x3), some (.inl x4), some (.inl x5), some (.inl 1), none], [], (zx_lay M, n))) (zx_if_ne rfl) (by decide) ?_
              refine zx_E.go 3 (s' := (82, [some (.inr (some (25, 0, 0, 0))), some (.inl x0), some (.inl x1), some (.inl x2), some (.inl x3), some (.inl x4), some (.inl x5), some (.inl 1), none], [.inl x0, .inl (M (25, 0, 0, 0) 4)], (zx_lay M, n))) rfl ?_
              refine zx_E.go 2 (s' := (85, [some (.inr (some (25, 0, 0, 0))), some (.inl x0), some (.inl x1), some (.inl x2), some (.inl x3), some (.inl x4), some (.inl x5), some (.inl 1), none], [.inl 60, .inl ((M (25, 0, 0, 0) 4) + x0)], (zx_lay M, n))) rfl ?_
              refine zx_E.brh (c := ((M (25, 0, 0, 0) 4) + x0) ≤ 60) (s1 := (91, [some (.inr (some (25, 0, 0, 0))), some (.inl x0), some (.inl x1), some (.inl x2), some (.inl x3), some (.inl x4), some (.inl x5), some (.inl 1), none], [], (zx_lay M, n))) (s2 := (88, [some (.inr (some (25, 0, 0, 0))), some (.inl x0), some (.inl x1), some (.inl x2), some (.inl x3), some (.inl x4), some (.inl x5), some (.inl 1), none], [], (zx_lay M, n))) h (zx_ic_le rfl) (fun _ h => ?_) (fun _ h => ?_)
              · refine zx_E.go 2 (s' := (94, [some (.inr (some (25, 0, 0, 0))), some (.inl x0), some (.inl x1), some (.inl x2), some (.inl x3), some (.inl x4), some (.inl x5), some (.inl 1), some (.inl 0)], [], (zx_lay M, n))) rfl ?_
                refine rl_X11_feed_94 (fun v12 M1 h => ?_) 1000  0 M h
                refine zx_E.go 2 (s' := (172, [some (.inr (some (25, 0, 0, 0))), some (.inl x0), some (.inl x1), some (.inl x2), some (.inl x3), some (.inl x4), some (.inl x5), some (.inl 1), some (.inl v12)], [.inl (M1 (25, 0, 0, 0) 4)], (zx_lay M1, n))) rfl ?_
                exact zx_E.ri h rfl (fun h => absurd h (by decide))
              · refine zx_E.go 1 (s' := (90, [some (.inr (some (25, 0, 0, 0))), some (.inl x0), some (.inl x1), some (.inl x2), some (.inl x3), some (.inl x4), some (.inl x5), some (.inl 1), none], [.inl (-4)], (zx_lay M, n))) rfl ?_
                exact zx_E.ri h rfl (fun h => absurd h (by decide))
def g_X8_peek (M : zx_Y) : Option Int32 := (if (M (14, 0, 0, 0) 4) < 0 then (some (-1)) else (if (M (14, 0, 0, 0) 1) ≤ (M (14, 0, 0, 0) 4) then (some (-1)) else (if (60 : Int32) ≤ (M (14, 0, 0, 0) 4) then (some (-1)) else (zi (M (14, 0, 0, 0) 4) 60 fun k1 => (some (M (15, 0, 0, 0) k1))))))
set_option maxRecDepth 100000 in
set_option maxHeartbeats 4000000 in
theorem r_X8_peek {X : zx_X} {d n : Nat} {M : zx_Y} {rv : Int32} (h : g_X8_peek M = some rv) : zx_run X (d + 1) 75 [.inr (some (14, 0, 0, 0))] (zx_lay M, n) (some (.inl rv), (zx_lay M, n)) := by
  refine zx_run_of zc_X8_peek [some (.inr (some (14, 0, 0, 0)))] rfl rfl ?_
  unfold g_X8_peek at h
  refine zx_E.go 2 (s' := (4, [some (.inr (some (14, 0, 0, 0)))], [.inl (M (14, 0, 0, 0) 4)], (zx_lay M, n))) rfl ?_
  refine zx_E.brh (c := (M (14, 0, 0, 0) 4) < 0) (s1 := (39, [some (.inr (some (14, 0, 0, 0)))], [], (zx_lay M, n))) (s2 := (7, [some (.inr (some (14, 0, 0, 0)))], [], (zx_lay M, n))) h (zx_if_lt rfl) (fun _ h => ?_) (fun _ h => ?_)
  · refine zx_E.go 1 (s' := (40, [some (.inr (some (14, 0, 0, 0)))], [.inl (-1)], (zx_lay M, n))) rfl ?_
    exact zx_E.rp h rfl (fun h => absurd h (by decide))
  · refine zx_E.go 4 (s' := (15, [some (.inr (some (14, 0, 0, 0)))], [.inl (M (14, 0, 0, 0) 1), .inl (M (14, 0, 0, 0) 4)], (zx_lay M, n))) rfl ?_
    refine zx_E.brh (c := (M (14, 0, 0, 0) 1) ≤ (M (14, 0, 0, 0) 4)) (s1 := (39, [some (.inr (some (14, 0, 0, 0)))], [], (zx_lay M, n))) (s2 := (18, [some (.inr (some (14, 0, 0, 0)))], [], (zx_lay M, n))) h (zx_ic_ge rfl) (fun _ h => ?_) (fun _ h => ?_)
    · refine zx_E.go 1 (s' := (40, [some (.inr (some (14, 0, 0, 0)))], [.inl (-1)], (zx_lay M, n))) rfl ?_
      exact zx_E.rp h rfl (fun h => absurd h (by decide))
    · refine zx_E.go 3 (s' := (24, [some (.inr (some (14, 0, 0, 0)))], [.inl 60, .inl (M (14, 0, 0, 0) 4)], (zx_lay M, n))) rfl ?_
      refine zx_E.brh (c := (60 : Int32) ≤ (M (14, 0, 0, 0) 4)) (s1 := (39, [some (.inr (some (14, 0, 0, 0)))], [], (zx_lay M, n))) (s2 := (27, [some (.inr (some (14, 0, 0, 0)))], [], (zx_lay M, n))) h (zx_ic_ge rfl) (fun _ h => ?_) (fun _ h => ?_)
      · refine zx_E.go 1 (s' := (40, [some (.inr (some (14, 0, 0, 0)))], [.inl (-1)], (zx_lay M, n))) rfl ?_
        exact zx_E.rp h rfl (fun h => absurd h (by decide))
      · refine zx_E.go 4 (s' := (35, [some (.inr (some (14, 0, 0, 0)))], [.inl (M (14, 0, 0, 0) 4), .inr (some (15, 0, 0, 0))], (zx_lay M, n))) rfl ?_
        refine zx_E.ix h (fun k1 hx_k1 hl_k1 h => ?_)
        refine zx_E.iald (k := k1) (h := (15, 0, 0, 0)) rfl rfl hx_k1 hl_k1 ?_
        show zx_E _ _ _ (36, [some (.inr (some (14, 0, 0, 0)))], [.inl (M (15, 0, 0, 0) k1)], (zx_lay M, n)) _
        refine zx_E.go 1 (s' := (40, [some (.inr (some (14, 0, 0, 0)))], [.inl (M (15, 0, 0, 0) k1)], (zx_lay M, n))) rfl ?_
        exact zx_E.rp h rfl (fun h => absurd h (by decide))
def g_X8_readDigit (M : zx_Y) (x0 : Int32) : Option (Int32 × zx_Y) := (zb (g_X8_peek M) fun v1 => (if (v1 - 48) < 0 then (some ((-1), M)) else (if (v1 - 48) ≤ x0 then (zl (zx_up M (14, 0, 0, 0) 4 ((M (14, 0, 0, 0) 4) + 1)) fun M1 => (some ((v1 - 48), M1))) else (some ((-1), M)))))
set_option maxRecDepth 100000 in
set_option maxHeartbeats 4000000 in
theorem r_X8_readDigit {X : zx_X} {d n : Nat} {M : zx_Y} {x0 : Int32} {rv : Int32} {rM : zx_Y} (h : g_X8_readDigit M x0 = some (rv, rM)) : zx_run X (d + 2) 77 [.inr (some (14, 0, 0, 0)), .inl x0] (zx_lay M, n) (some (.inl rv), (zx_lay rM, n)) := by
  refine zx_run_of zc_X8_readDigit [some (.inr (some (14, 0, 0, 0))), some (.inl x0), none] rfl rfl ?_
  unfold g_X8_readDigit at h
  refine zx_E.go 1 (s' := (1, [some (.inr (some (14, 0, 0, 0))), some (.inl x0), none], [.inr (some (14, 0, 0, 0))], (zx_lay M, n))) rfl ?_
  refine zx_E.cb (y := 75) (as := [.inr (some (14, 0, 0, 0))]) (rest := []) h rfl (fun _ hv => zx_run_up (by omega) (r_X8_peek (d := d) hv)) (fun v1 h => ?_)
  show zx_E _ _ _ (4, [some (.inr (some (14, 0, 0, 0))), some (.inl x0), none], [.inl v1], (zx_lay M, n)) _
  refine zx_E.go 4 (s' := (9, [some (.inr (some (14, 0, 0, 0))), some (.inl x0), some (.inl (v1 - 48))], [.inl (v1 - 48)], (zx_lay M, n))) rfl ?_
  refine zx_E.brh (c := (v1 - 48) < 0) (s1 := (17, [some (.inr (some (14, 0, 0, 0))), some (.inl x0), some (.inl (v1 - 48))], [], (zx_lay M, n))) (s2 := (12, [some (.inr (some (14, 0, 0, 0))), some (.inl x0), some (.inl (v1 - 48))], [], (zx_lay M, n))) h (zx_if_lt rfl) (fun _ h => ?_) (fun _ h => ?_)
  · refine zx_E.go 1 (s' := (18, [some (.inr (some (14, 0, 0, 0))), some (.inl x0), some (.inl (v1 - 48))], [.inl (-1)], (zx_lay M, n))) rfl ?_
    exact zx_E.ri h rfl (fun h => absurd h (by decide))
  · refine zx_E.go 2 (s' := (14, [some (.inr (some (14, 0, 0, 0))), some (.inl x0), some (.inl (v1 - 48))], [.inl x0, .inl (v1 - 48)], (zx_lay M, n))) rfl ?_
    refine zx_E.brh (c := (v1 - 48) ≤ x0) (s1 := (19, [some (.inr (some (14, 0, 0, 0))), some (.inl x0), some (.inl (v1 - 48))], [], (zx_lay M, n))) (s2 := (17, [some (.inr (some (14, 0, 0, 0))), some (.inl x0), some (.inl (v1 - 48))], [], (zx_lay M, n))) h (zx_ic_le rfl) (fun _ h => ?_) (fun _ h => ?_)
    · refine zx_E.go 4 (s' := (25, [some (.inr (some (14, 0, 0, 0))), some (.inl x0), some (.inl (v1 - 48))], [.inl 1, .inl (M (14, 0, 0, 0) 4), .inr (some (14, 0, 0, 0))], (zx_lay M, n))) rfl ?_
      refine zx_E.go 1 (s' := (26, [some (.inr (some (14, 0, 0, 0))), some (.inl x0), some (.inl (v1 - 48))], [.inl ((M (14, 0, 0, 0) 4) + 1), .inr (some (14, 0, 0, 0))], (zx_lay M, n))) rfl ?_
      refine zx_E.pu h rfl rfl (fun h => absurd h (by decide)) (fun M1 h => ?_)
      show zx_E _ _ _ (29, [some (.inr (some (14, 0, 0, 0))), some (.inl x0), some (.inl (v1 - 48))], [], (zx_lay M1, n)) _
      refine zx_E.go 1 (s' := (30, [some (.inr (some (14, 0, 0, 0))), some (.inl x0), some (.inl (v1 - 48))], [.inl (v1 - 48)], (zx_lay M1, n))) rfl ?_
      exact zx_E.ri h rfl (fun h => absurd h (by decide))
    · refine zx_E.go 1 (s' := (18, [some (.inr (some (14, 0, 0, 0))), some (.inl x0), some (.inl (v1 - 48))], [.inl (-1)], (zx_lay M, n))) rfl ?_
      exact zx_E.ri h rfl (fun h => absurd h (by decide))
def lg_X8_readNumber_15 (kk : Int32 → Int32 → zx_Y → Option (Int32 × zx_Y)) : Nat → Int32 → Int32 → zx_Y → Option (Int32 × zx_Y)
  | 0, _, _, _ => none
  | q + 1, w1, w2, M => (if (4 : Int32) ≤ w2 then (kk w1 w2 M) else (zv (g_X8_readDigit M 9) fun v1 M1 => (if (0 : Int32) ≤ v1 then (lg_X8_readNumber_15 kk q ((10 * w1) + v1) (w2 + 1) M1) else (some (w1, M1)))))
set_option maxRecDepth 100000 in
set_option maxHeartbeats 4000000 in
theorem rl_X8_readNumber_15 {X : zx_X} {d n : Nat} {kk : Int32 → Int32 → zx_Y → Option (Int32 × zx_Y)} {rv : Int32} {rM : zx_Y} (hk : ∀ (w1 : Int32) (w2 : Int32) (M : zx_Y) (e3 : Option zx_V), kk w1 w2 M = some (rv, rM) → zx_E X (d + 2) zc_X8_readNumber (46, [some (.inr (some (14, 0, 0, 0))), some (.inl w1), some (.inl w2), e3], [], (zx_lay M, n)) (some (.inl rv), (zx_lay rM, n))) : ∀ (q : Nat) (g3 : Option zx_V) (w1 : Int32) (w2 : Int32) (M : zx_Y), lg_X8_readNumber_15 kk q w1 w2 M = some (rv, rM) → zx_E X (d + 2) zc_X8_readNumber (15, [some (.inr (some (14, 0, 0, 0))), some (.inl w1), some (.inl w2), g3], [], (zx_lay M, n)) (some (.inl rv), (zx_lay rM, n))
  | 0, g3, w1, w2, M, h => by
    rw [lg_X8_readNumber_15.eq_1] at h
    cases h
  | q + 1, g3, w1, w2, M, h => by
    rw [lg_X8_readNumber_15.eq_2] at h
    refine zx_E.go 2 (s' := (17, [some (.inr (some (14, 0, 0, 0))), some (.inl w1), some (.inl w2), g3], [.inl 4, .inl w2], (zx_lay M, n))) rfl ?_
    refine zx_E.brh (c := (4 : Int32) ≤ w2) (s1 := (46, [some (.inr (some (14, 0, 0, 0))), some (.inl w1), some (.inl w2), g3], [], (zx_lay M, n))) (s2 := (20, [some (.inr (some (14, 0, 0, 0))), some (.inl w1), some (.inl w2), g3], [], (zx_lay M, n))) h (zx_ic_ge rfl) (fun _ h => ?_) (fun _ h => ?_)
    · exact hk _ _ _ _ h
    · refine zx_E.go 2 (s' := (23, [some (.inr (some (14, 0, 0, 0))), some (.inl w1), some (.inl w2), g3], [.inl 9, .inr (some (14, 0, 0, 0))], (zx_lay M, n))) rfl ?_
      refine zx_E.cv (y := 77) (as := [.inr (some (14, 0, 0, 0)), .inl 9]) (rest := []) h rfl (fun _ _ hv => zx_run_up (by omega) (r_X8_readDigit (d := d) hv)) (fun v1 M1 h => ?_)
      show zx_E _ _ _ (26, [some (.inr (some (14, 0, 0, 0))), some (.inl w1), some (.inl w2), g3], [.inl v1], (zx_lay M1, n)) _
      refine zx_E.go 2 (s' := (28, [some (.inr (some (14, 0, 0, 0))), some (.inl w1), some (.inl w2), some (.inl v1)], [.inl v1], (zx_lay M1, n))) rfl ?_
      refine zx_E.brh (c := (0 : Int32) ≤ v1) (s1 := (33, [some (.inr (some (14, 0, 0, 0))), some (.inl w1), some (.inl w2), some (.inl v1)], [], (zx_lay M1, n))) (s2 := (31, [some (.inr (some (14, 0, 0, 0))), some (.inl w1), some (.inl w2), some (.inl v1)], [], (zx_lay M1, n))) h (zx_if_ge rfl) (fun _ h => ?_) (fun _ h => ?_)
      · refine zx_E.go 8 (s' := (15, [some (.inr (some (14, 0, 0, 0))), some (.inl ((10 * w1) + v1)), some (.inl (w2 + 1)), some (.inl v1)], [], (zx_lay M1, n))) rfl ?_
        exact rl_X8_readNumber_15 hk q _ ((10 * w1) + v1) (w2 + 1) M1 h
      · refine zx_E.go 1 (s' := (32, [some (.inr (some (14, 0, 0, 0))), some (.inl w1), some (.inl w2), some (.inl v1)], [.inl w1], (zx_lay M1, n))) rfl ?_
        exact zx_E.ri h rfl (fun h => absurd h (by decide))
def g_X8_readNumber (M : zx_Y) : Option (Int32 × zx_Y) := (zv (g_X8_readDigit M 9) fun v1 M1 => (if (0 : Int32) < v1 then (lg_X8_readNumber_15 (fun v2 v3 M2 => (some (v2, M2))) 1000 v1 1 M1) else (some (v1, M1))))
set_option maxRecDepth 100000 in
set_option maxHeartbeats 4000000 in
theorem r_X8_readNumber {X : zx_X} {d n : Nat} {M : zx_Y} {rv : Int32} {rM : zx_Y} (h : g_X8_readNumber M = some (rv, rM)) : zx_run X (d + 3) 78 [.inr (some (14, 0, 0, 0))] (zx_lay M, n) (some (.inl rv), (zx_lay rM, n)) := by
  refine zx_run_of zc_X8_readNumber [some (.inr (some (14, 0, 0, 0))), none, none, none] rfl rfl ?_
  unfold g_X8_readNumber at h
  refine zx_E.go 2 (s' := (3, [some (.inr (some (14, 0, 0, 0))), none, none, none], [.inl 9, .inr (some (14, 0, 0, 0))], (zx_lay M, n))) rfl ?_
  refine zx_E.cv (y := 77) (as := [.inr (some (14, 0, 0, 0)), .inl 9]) (rest := []) h rfl (fun _ _ hv => zx_run_up (by omega) (r_X8_readDigit (d := d) hv)) (fun v1 M1 h => ?_)
  show zx_E _ _ _ (6, [some (.inr (some (14, 0, 0, 0))), none, none, none], [.inl v1], (zx_lay M1, n)) _
  refine zx_E.go 2 (s' := (8, [some (.inr (some (14, 0, 0, 0))), some (.inl v1), none, none], [.inl v1], (zx_lay M1, n))) rfl ?_
  refine zx_E.brh (c := (0 : Int32) < v1) (s1 := (13, [some (.inr (some (14, 0, 0, 0))), some (.inl v1), none, none], [], (zx_lay M1, n))) (s2 := (11, [some (.inr (some (14, 0, 0, 0))), some (.inl v1), none, none], [], (zx_lay M1, n))) h (zx_if_gt rfl) (fun _ h => ?_) (fun _ h => ?_)
  · refine zx_E.go 2 (s' := (15, [some (.inr (some (14, 0, 0, 0))), some (.inl v1), some (.inl 1), none], [], (zx_lay M1, n))) rfl ?_
    refine rl_X8_readNumber_15 (fun v2 v3 M2 e1 h => ?_) 1000 _ v1 1 M1 h
    refine zx_E.go 1 (s' := (47, [some (.inr (some (14, 0, 0, 0))), some (.inl v2), some (.inl v3), e1], [.inl v2], (zx_lay M2, n))) rfl ?_
    exact zx_E.ri h rfl (fun h => absurd h (by decide))
  · refine zx_E.go 1 (s' := (12, [some (.inr (some (14, 0, 0, 0))), some (.inl v1), none, none], [.inl v1], (zx_lay M1, n))) rfl ?_
    exact zx_E.ri h rfl (fun h => absurd h (by decide))
def g_X8_take (M : zx_Y) (x0 : Int32) : Option (Int32 × zx_Y) := (zb (g_X8_peek M) fun v1 => (if v1 = x0 then (zl (zx_up M (14, 0, 0, 0) 4 ((M (14, 0, 0, 0) 4) + 1)) fun M1 => (some (1, M1))) else (some (0, M))))
set_option maxRecDepth 100000 in
set_option maxHeartbeats 4000000 in
theorem r_X8_take {X : zx_X} {d n : Nat} {M : zx_Y} {x0 : Int32} {rv : Int32} {rM : zx_Y} (h : g_X8_take M x0 = some (rv, rM)) : zx_run X (d + 2) 76 [.inr (some (14, 0, 0, 0)), .inl x0] (zx_lay M, n) (some (.inl rv), (zx_lay rM, n)) := by
  refine zx_run_of zc_X8_take [some (.inr (some (14, 0, 0, 0))), some (.inl x0)] rfl rfl ?_
  unfold g_X8_take at h
  refine zx_E.go 1 (s' := (1, [some (.inr (some (14, 0, 0, 0))), some (.inl x0)], [.inr (some (14, 0, 0, 0))], (zx_lay M, n))) rfl ?_
  refine zx_E.cb (y := 75) (as := [.inr (some (14, 0, 0, 0))]) (rest := []) h rfl (fun _ hv => zx_run_up (by omega) (r_X8_peek (d := d) hv)) (fun v1 h => ?_)
  show zx_E _ _ _ (4, [some (.inr (some (14, 0, 0, 0))), some (.inl x0)], [.inl v1], (zx_lay M, n)) _
  refine zx_E.go 1 (s' := (5, [some (.inr (some (14, 0, 0, 0))), some (.inl x0)], [.inl x0, .inl v1], (zx_lay M, n))) rfl ?_
  refine zx_E.brh (c := v1 = x0) (s1 := (10, [some (.inr (some (14, 0, 0, 0))), some (.inl x0)], [], (zx_lay M, n))) (s2 := (8, [some (.inr (some (14, 0, 0, 0))), some (.inl x0)], [], (zx_lay M, n))) h (zx_ic_eq rfl) (fun _ h => ?_) (fun _ h => ?_)
  · refine zx_E.go 4 (s' := (16, [some (.inr (some (14, 0, 0, 0))), some (.inl x0)], [.inl 1, .inl (M (14, 0, 0, 0) 4), .inr (some (14, 0, 0, 0))], (zx_lay M, n))) rfl ?_
    refine zx_E.go 1 (s' := (17, [some (.inr (some (14, 0, 0, 0))), some (.inl x0)], [.inl ((M (14, 0, 0, 0) 4) + 1), .inr (some (14, 0, 0, 0))], (zx_lay M, n))) rfl ?_
    refine zx_E.pu h rfl rfl (fun h => absurd h (by decide)) (fun M1 h => ?_)
    show zx_E _ _ _ (20, [some (.inr (some (14, 0, 0, 0))), some (.inl x0)], [], (zx_lay M1, n)) _
    refine zx_E.go 1 (s' := (21, [some (.inr (some (14, 0, 0, 0))), some (.inl x0)], [.inl 1], (zx_lay M1, n))) rfl ?_
    exact zx_E.ri h rfl (fun _ => Or.inr rfl)
  · refine zx_E.go 1 (s' := (9, [some (.inr (some (14, 0, 0, 0))), some (.inl x0)], [.inl 0], (zx_lay M, n))) rfl ?_
    exact zx_E.ri h rfl (fun _ => Or.inl rfl)
def lg_X8_readLengths_2 (i : Nat) (kk : Int32 → zx_Y → Option (Int32 × zx_Y)) : Nat → Int32 → zx_Y → Option (Int32 × zx_Y)
  | 0, _, _ => none
  | q + 1, w2, M => (if (7 : Int32) ≤ w2 then (kk w2 M) else (zv (g_X8_readNumber M) fun v1 M1 => (zi w2 7 fun k1 => (zl (zx_up M1 (18, i, 0, 0) k1 v1) fun M2 => (zl (zx_up M2 (17, i, 0, 0) 11 (w2 + 1)) fun M3 => (zi w2 7 fun k2 => (if (0 : Int32) ≤ (M3 (18, i, 0, 0) k2) then (if (w2 + 1) = 7 then (some (1, M3)) else (zv (g_X8_take M3 44) fun v2 M4 => (if v2 = 0 then (some (1, M4)) else (lg_X8_readLengths_2 i kk q (w2 + 1) M4)))) else (some (0, M3)))))))))
set_option maxRecDepth 100000 in
set_option maxHeartbeats 4000000 in
theorem rl_X8_readLengths_2 {X : zx_X} {d n : Nat} {i : Nat} {kk : Int32 → zx_Y → Option (Int32 × zx_Y)} {rv : Int32} {rM : zx_Y} (hk : ∀ (w2 : Int32) (M : zx_Y), kk w2 M = some (rv, rM) → zx_E X (d + 3) zc_X8_readLengths (61, [some (.inr (some (14, 0, 0, 0))), some (.inr (some (17, i, 0, 0))), some (.inl w2)], [], (zx_lay M, n)) (some (.inl rv), (zx_lay rM, n))) : ∀ (q : Nat) (w2 : Int32) (M : zx_Y), lg_X8_readLengths_2 i kk q w2 M = some (rv, rM) → zx_E X (d + 3) zc_X8_readLengths (2, [some (.inr (some (14, 0, 0, 0))), some (.inr (some (17, i, 0, 0))), some (.inl w2)], [], (zx_lay M, n)) (some (.inl rv), (zx_lay rM, n))
  | 0, w2, M, h => by
    rw [lg_X8_readLengths_2.eq_1] at h
    cases h
  | q + 1, w2, M, h => by
    rw [lg_X8_readLengths_2.eq_2] at h
    refine zx_E.go 2 (s' := (5, [some (.inr (some (14, 0, 0, 0))), some (.inr (some (17, i, 0, 0))), some (.inl w2)], [.inl 7, .inl w2], (zx_lay M, n))) rfl ?_
    refine zx_E.brh (c := (7 : Int32) ≤ w2) (s1 := (61, [some (.inr (some (14, 0, 0, 0))), some (.inr (some (17, i, 0, 0))), some (.inl w2)], [], (zx_lay M, n))) (s2 := (8, [some (.inr (some (14, 0, 0, 0))), some (.inr (some (17, i, 0, 0))), some (.inl w2)], [], (zx_lay M, n))) h (zx_ic_ge rfl) (fun _ h => ?_) (fun _ h => ?_)
    · exact hk _ _ h
    · refine zx_E.go 4 (s' := (14, [some (.inr (some (14, 0, 0, 0))), some (.inr (some (17, i, 0, 0))), some (.inl w2)], [.inr (some (14, 0, 0, 0)), .inl w2, .inr (some (18, i, 0, 0))], (zx_lay M, n))) rfl ?_
      refine zx_E.cv (y := 78) (as := [.inr (some (14, 0, 0, 0))]) (rest := [.inl w2, .inr (some (18, i, 0, 0))]) h rfl (fun _ _ hv => zx_run_up (by omega) (r_X8_readNumber (d := d) hv)) (fun v1 M1 h => ?_)
      show zx_E _ _ _ (17, [some (.inr (some (14, 0, 0, 0))), some (.inr (some (17, i, 0, 0))), some (.inl w2)], [.inl v1, .inl w2, .inr (some (18, i, 0, 0))], (zx_lay M1, n)) _
      refine zx_E.ix h (fun k1 hx_k1 hl_k1 h => ?_)
      refine zx_E.ia h rfl rfl hx_k1 hl_k1 (fun M2 h => ?_)
      show zx_E _ _ _ (18, [some (.inr (some (14, 0, 0, 0))), some (.inr (some (17, i, 0, 0))), some (.inl w2)], [], (zx_lay M2, n)) _
      refine zx_E.go 4 (s' := (22, [some (.inr (some (14, 0, 0, 0))), some (.inr (some (17, i, 0, 0))), some (.inl w2)], [.inl (w2 + 1), .inr (some (17, i, 0, 0))], (zx_lay M2, n))) rfl ?_
      refine zx_E.pu h rfl rfl (fun h => absurd h (by decide)) (fun M3 h => ?_)
      show zx_E _ _ _ (25, [some (.inr (some (14, 0, 0, 0))), some (.inr (some (17, i, 0, 0))), some (.inl w2)], [], (zx_lay M3, n)) _
      refine zx_E.go 3 (s' := (30, [some (.inr (some (14, 0, 0, 0))), some (.inr (some (17, i, 0, 0))), some (.inl w2)], [.inl w2, .inr (some (18, i, 0, 0))], (zx_lay M3, n))) rfl ?_
      refine zx_E.ix h (fun k2 hx_k2 hl_k2 h => ?_)
      refine zx_E.iald (k := k2) (h := (18, i, 0, 0)) rfl rfl hx_k2 hl_k2 ?_
      show zx_E _ _ _ (31, [some (.inr (some (14, 0, 0, 0))), some (.inr (some (17, i, 0, 0))), some (.inl w2)], [.inl (M3 (18, i, 0, 0) k2)], (zx_lay M3, n)) _
      refine zx_E.brh (c := (0 : Int32) ≤ (M3 (18, i, 0, 0) k2)) (s1 := (36, [some (.inr (some (14, 0, 0, 0))), some (.inr (some (17, i, 0, 0))), some (.inl w2)], [], (zx_lay M3, n))) (s2 := (34, [some (.inr (some (14, 0, 0, 0))), some (.inr (some (17, i, 0, 0))), some (.inl w2)], [], (zx_lay M3, n))) h (zx_if_ge rfl) (fun _ h => ?_) (fun _ h => ?_)
      · refine zx_E.go 4 (s' := (41, [some (.inr (some (14, 0, 0, 0))), some (.inr (some (17, i, 0, 0))), some (.inl w2)], [.inl 7, .inl (w2 + 1)], (zx_lay M3, n))) rfl ?_
        refine zx_E.brh (c := (w2 + 1) = 7) (s1 := (53, [some (.inr (some (14, 0, 0, 0))), some (.inr (some (17, i, 0, 0))), some (.inl w2)], [], (zx_lay M3, n))) (s2 := (44, [some (.inr (some (14, 0, 0, 0))), some (.inr (some (17, i, 0, 0))), some (.inl w2)], [], (zx_lay M3, n))) h (zx_ic_eq rfl) (fun _ h => ?_) (fun _ h => ?_)
        · refine zx_E.go 1 (s' := (54, [some (.inr (some (14, 0, 0, 0))), some (.inr (some (17, i, 0, 0))), some (.inl w2)], [.inl 1], (zx_lay M3, n))) rfl ?_
          exact zx_E.ri h rfl (fun _ => Or.inr rfl)
        · refine zx_E.go 2 (s' := (47, [some (.inr (some (14, 0, 0, 0))), some (.inr (some (17, i, 0, 0))), some (.inl w2)], [.inl 44, .inr (some (14, 0, 0, 0))], (zx_lay M3, n))) rfl ?_
          refine zx_E.cv (y := 76) (as := [.inr (some (14, 0, 0, 0)), .inl 44]) (rest := []) h rfl (fun _ _ hv => zx_run_up (by omega) (r_X8_take (d := d) hv)) (fun v2 M4 h => ?_)
          show zx_E _ _ _ (50, [some (.inr (some (14, 0, 0, 0))), some (.inr (some (17, i, 0, 0))), some (.inl w2)], [.inl v2], (zx_lay M4, n)) _
          refine zx_E.brh (c := v2 = 0) (s1 := (53, [some (.inr (some (14, 0, 0, 0))), some (.inr (some (17, i, 0, 0))), some (.inl w2)], [], (zx_lay M4, n))) (s2 := (55, [some (.inr (some (14, 0, 0, 0))), some (.inr (some (17, i, 0, 0))), some (.inl w2)], [], (zx_lay M4, n))) h (zx_if_ne rfl) (fun _ h => ?_) (fun _ h => ?_)
          · refine zx_E.go 1 (s' := (54, [some (.inr (some (14, 0, 0, 0))), some (.inr (some (17, i, 0, 0))), some (.inl w2)], [.inl 1], (zx_lay M4, n))) rfl ?_
            exact zx_E.ri h rfl (fun _ => Or.inr rfl)
          · refine zx_E.go 2 (s' := (2, [some (.inr (some (14, 0, 0, 0))), some (.inr (some (17, i, 0, 0))), some (.inl (w2 + 1))], [], (zx_lay M4, n))) rfl ?_
            exact rl_X8_readLengths_2 hk q (w2 + 1) M4 h
      · refine zx_E.go 1 (s' := (35, [some (.inr (some (14, 0, 0, 0))), some (.inr (some (17, i, 0, 0))), some (.inl w2)], [.inl 0], (zx_lay M3, n))) rfl ?_
        exact zx_E.ri h rfl (fun _ => Or.inl rfl)
def g_X8_readLengths (M : zx_Y) (i : Nat) : Option (Int32 × zx_Y) := (lg_X8_readLengths_2 i (fun v1 M1 => (some (1, M1))) 1000 0 M)
set_option maxRecDepth 100000 in
set_option maxHeartbeats 4000000 in
theorem r_X8_readLengths {X : zx_X} {d n : Nat} {M : zx_Y} {i : Nat} {rv : Int32} {rM : zx_Y} (h : g_X8_readLengths M i = some (rv, rM)) : zx_run X (d + 4) 70 [.inr (some (14, 0, 0, 0)), .inr (some (17, i, 0, 0))] (zx_lay M, n) (some (.inl rv), (zx_lay rM, n)) := by
  refine zx_run_of zc_X8_readLengths [some (.inr (some (14, 0, 0, 0))), some (.inr (some (17, i, 0, 0))), none] rfl rfl ?_
  unfold g_X8_readLengths at h
  refine zx_E.go 2 (s' := (2, [some (.inr (some (14, 0, 0, 0))), some (.inr (some (17, i, 0, 0))), some (.inl 0)], [], (zx_lay M, n))) rfl ?_
  refine rl_X8_readLengths_2 (fun v1 M1 h => ?_) 1000  0 M h
  refine zx_E.go 1 (s' := (62, [some (.inr (some (14, 0, 0, 0))), some (.inr (some (17, i, 0, 0))), some (.inl v1)], [.inl 1], (zx_lay M1, n))) rfl ?_
  exact zx_E.ri h rfl (fun _ => Or.inr rfl)
def g_X8_readOrder (M : zx_Y) (i : Nat) : Option (Int32 × zx_Y) := (zv (g_X8_readDigit M 7) fun v1 M1 => (zl (zx_up M1 (17, i, 0, 0) 1 v1) fun M2 => (if (M2 (17, i, 0, 0) 1) < 0 then (some (0, M2)) else (zv (g_X8_take M2 43) fun v2 M3 => (if v2 = 0 then (some (0, M3)) else (zv (g_X8_readNumber M3) fun v3 M4 => (zl (zx_up M4 (17, i, 0, 0) 7 v3) fun M5 => (if (M5 (17, i, 0, 0) 7) < 0 then (some (0, M5)) else (zv (g_X8_take M5 64) fun v4 M6 => (if v4 = 0 then (some (0, M6)) else (zv (g_X8_readNumber M6) fun v5 M7 => (zl (zx_up M7 (17, i, 0, 0) 4 v5) fun M8 => (if (M8 (17, i, 0, 0) 4) < 0 then (some (0, M8)) else (zv (g_X8_take M8 45) fun v6 M9 => (if v6 = 0 then (some (0, M9)) else (zv (g_X8_readNumber M9) fun v7 M10 => (zl (zx_up M10 (17, i, 0, 0) 8 v7) fun M11 => (if (M11 (17, i, 0, 0) 8) < 0 then (some (0, M11)) else (some (1, M11))))))))))))))))))))
set_option maxRecDepth 100000 in
set_option maxHeartbeats 4000000 in
theorem r_X8_readOrder {X : zx_X} {d n : Nat} {M : zx_Y} {i : Nat} {rv : Int32} {rM : zx_Y} (h : g_X8_readOrder M i = some (rv, rM)) : zx_run X (d + 4) 73 [.inr (some (14, 0, 0, 0)), .inr (some (17, i, 0, 0))] (zx_lay M, n) (some (.inl rv), (zx_lay rM, n)) := by
  refine zx_run_of zc_X8_readOrder [some (.inr (some (14, 0, 0, 0))), some (.inr (some (17, i, 0, 0)))] rfl rfl ?_
  unfold g_X8_readOrder at h
  refine zx_E.go 3 (s' := (4, [some (.inr (some (14, 0, 0, 0))), some (.inr (some (17, i, 0, 0)))], [.inl 7, .inr (some (14, 0, 0, 0)), .inr (some (17, i, 0, 0))], (zx_lay M, n))) rfl ?_
  refine zx_E.cv (y := 77) (as := [.inr (some (14, 0, 0, 0)), .inl 7]) (rest := [.inr (some (17, i, 0, 0))]) h rfl (fun _ _ hv => zx_run_up (by omega) (r_X8_readDigit (d := d) hv)) (fun v1 M1 h => ?_)
  show zx_E _ _ _ (7, [some (.inr (some (14, 0, 0, 0))), some (.inr (some (17, i, 0, 0)))], [.inl v1, .inr (some (17, i, 0, 0))], (zx_lay M1, n)) _
  refine zx_E.pu h rfl rfl (fun h => absurd h (by decide)) (fun M2 h => ?_)
  show zx_E _ _ _ (10, [some (.inr (some (14, 0, 0, 0))), some (.inr (some (17, i, 0, 0)))], [], (zx_lay M2, n)) _
  refine zx_E.go 2 (s' := (14, [some (.inr (some (14, 0, 0, 0))), some (.inr (some (17, i, 0, 0)))], [.inl (M2 (17, i, 0, 0) 1)], (zx_lay M2, n))) rfl ?_
  refine zx_E.brh (c := (M2 (17, i, 0, 0) 1) < 0) (s1 := (26, [some (.inr (some (14, 0, 0, 0))), some (.inr (some (17, i, 0, 0)))], [], (zx_lay M2, n))) (s2 := (17, [some (.inr (some (14, 0, 0, 0))), some (.inr (some (17, i, 0, 0)))], [], (zx_lay M2, n))) h (zx_if_lt rfl) (fun _ h => ?_) (fun _ h => ?_)
  · refine zx_E.go 1 (s' := (27, [some (.inr (some (14, 0, 0, 0))), some (.inr (some (17, i, 0, 0)))], [.inl 0], (zx_lay M2, n))) rfl ?_
    exact zx_E.ri h rfl (fun _ => Or.inl rfl)
  · refine zx_E.go 2 (s' := (20, [some (.inr (some (14, 0, 0, 0))), some (.inr (some (17, i, 0, 0)))], [.inl 43, .inr (some (14, 0, 0, 0))], (zx_lay M2, n))) rfl ?_
    refine zx_E.cv (y := 76) (as := [.inr (some (14, 0, 0, 0)), .inl 43]) (rest := []) h rfl (fun _ _ hv => zx_run_up (by omega) (r_X8_take (d := d) hv)) (fun v2 M3 h => ?_)
    show zx_E _ _ _ (23, [some (.inr (some (14, 0, 0, 0))), some (.inr (some (17, i, 0, 0)))], [.inl v2], (zx_lay M3, n)) _
    refine zx_E.brh (c := v2 = 0) (s1 := (26, [some (.inr (some (14, 0, 0, 0))), some (.inr (some (17, i, 0, 0)))], [], (zx_lay M3, n))) (s2 := (28, [some (.inr (some (14, 0, 0, 0))), some (.inr (some (17, i, 0, 0)))], [], (zx_lay M3, n))) h (zx_if_ne rfl) (fun _ h => ?_) (fun _ h => ?_)
    · refine zx_E.go 1 (s' := (27, [some (.inr (some (14, 0, 0, 0))), some (.inr (some (17, i, 0, 0)))], [.inl 0], (zx_lay M3, n))) rfl ?_
      exact zx_E.ri h rfl (fun _ => Or.inl rfl)
    · refine zx_E.go 2 (s' := (30, [some (.inr (some (14, 0, 0, 0))), some (.inr (some (17, i, 0, 0)))], [.inr (some (14, 0, 0, 0)), .inr (some (17, i, 0, 0))], (zx_lay M3, n))) rfl ?_
      refine zx_E.cv (y := 78) (as := [.inr (some (14, 0, 0, 0))]) (rest := [.inr (some (17, i, 0, 0))]) h rfl (fun _ _ hv => zx_run_up (by omega) (r_X8_readNumber (d := d) hv)) (fun v3 M4 h => ?_)
      show zx_E _ _ _ (33, [some (.inr (some (14, 0, 0, 0))), some (.inr (some (17, i, 0, 0)))], [.inl v3, .inr (some (17, i, 0, 0))], (zx_lay M4, n)) _
      refine zx_E.pu h rfl rfl (fun h => absurd h (by decide)) (fun M5 h => ?_)
      show zx_E _ _ _ (36, [some (.inr (some (14, 0, 0, 0))), some (.inr (some (17, i, 0, 0)))], [], (zx_lay M5, n)) _
      refine zx_E.go 2 (s' := (40, [some (.inr (some (14, 0, 0, 0))), some (.inr (some (17, i, 0, 0)))], [.inl (M5 (17, i, 0, 0) 7)], (zx_lay M5, n))) rfl ?_
      refine zx_E.brh (c := (M5 (17, i, 0, 0) 7) < 0) (s1 := (52, [some (.inr (some (14, 0, 0, 0))), some (.inr (some (17, i, 0, 0)))], [], (zx_lay M5, n))) (s2 := (43, [some (.inr (some (14, 0, 0, 0))), some (.inr (some (17, i, 0, 0)))], [], (zx_lay M5, n))) h (zx_if_lt rfl) (fun _ h => ?_) (fun _ h => ?_)
      · refine zx_E.go 1 (s' := (53, [some (.inr (some (14, 0, 0, 0))), some (.inr (some (17, i, 0, 0)))], [.inl 0], (zx_lay M5, n))) rfl ?_
        exact zx_E.ri h rfl (fun _ => Or.inl rfl)
      · refine zx_E.go 2 (s' := (46, [some (.inr (some (14, 0, 0, 0))), some (.inr (some (17, i, 0, 0)))], [.inl 64, .inr (some (14, 0, 0, 0))], (zx_lay M5, n))) rfl ?_
        refine zx_E.cv (y := 76) (as := [.inr (some (14, 0, 0, 0)), .inl 64]) (rest := []) h rfl (fun _ _ hv => zx_run_up (by omega) (r_X8_take (d := d) hv)) (fun v4 M6 h => ?_)
        show zx_E _ _ _ (49, [some (.inr (some (14, 0, 0, 0))), some (.inr (some (17, i, 0, 0)))], [.inl v4], (zx_lay M6, n)) _
        refine zx_E.brh (c := v4 = 0) (s1 := (52, [some (.inr (some (14, 0, 0, 0))), some (.inr (some (17, i, 0, 0)))], [], (zx_lay M6, n))) (s2 := (54, [some (.inr (some (14, 0, 0, 0))), some (.inr (some (17, i, 0, 0)))], [], (zx_lay M6, n))) h (zx_if_ne rfl) (fun _ h => ?_) (fun _ h => ?_)
        · refine zx_E.go 1 (s' := (53, [some (.inr (some (14, 0, 0, 0))), some (.inr (some (17, i, 0, 0)))], [.inl 0], (zx_lay M6, n))) rfl ?_
          exact zx_E.ri h rfl (fun _ => Or.inl rfl)
        · refine zx_E.go 2 (s' := (56, [some (.inr (some (14, 0, 0, 0))), some (.inr (some (17, i, 0, 0)))], [.inr (some (14, 0, 0, 0)), .inr (some (17, i, 0, 0))], (zx_lay M6, n))) rfl ?_
          refine zx_E.cv (y := 78) (as := [.inr (some (14, 0, 0, 0))]) (rest := [.inr (some (17, i, 0, 0))]) h rfl (fun _ _ hv => zx_run_up (by omega) (r_X8_readNumber (d := d) hv)) (fun v5 M7 h => ?_)
          show zx_E _ _ _ (59, [some (.inr (some (14, 0, 0, 0))), some (.inr (some (17, i, 0, 0)))], [.inl v5, .inr (some (17, i, 0, 0))], (zx_lay M7, n)) _
          refine zx_E.pu h rfl rfl (fun h => absurd h (by decide)) (fun M8 h => ?_)
          show zx_E _ _ _ (62, [some (.inr (some (14, 0, 0, 0))), some (.inr (some (17, i, 0, 0)))], [], (zx_lay M8, n)) _
          refine zx_E.go 2 (s' := (66, [some (.inr (some (14, 0, 0, 0))), some (.inr (some (17, i, 0, 0)))], [.inl (M8 (17, i, 0, 0) 4)], (zx_lay M8, n))) rfl ?_
          refine zx_E.brh (c := (M8 (17, i, 0, 0) 4) < 0) (s1 := (78, [some (.inr (some (14, 0, 0, 0))), some (.inr (some (17, i, 0, 0)))], [], (zx_lay M8, n))) (s2 := (69, [some (.inr (some (14, 0, 0, 0))), some (.inr (some (17, i, 0, 0)))], [], (zx_lay M8, n))) h (zx_if_lt rfl) (fun _ h => ?_) (fun _ h => ?_)
          · refine zx_E.go 1 (s' := (79, [some (.inr (some (14, 0, 0, 0))), some (.inr (some (17, i, 0, 0)))], [.inl 0], (zx_lay M8, n))) rfl ?_
            exact zx_E.ri h rfl (fun _ => Or.inl rfl)
          · refine zx_E.go 2 (s' := (72, [some (.inr (some (14, 0, 0, 0))), some (.inr (some (17, i, 0, 0)))], [.inl 45, .inr (some (14, 0, 0, 0))], (zx_lay M8, n))) rfl ?_
            refine zx_E.cv (y := 76) (as := [.inr (some (14, 0, 0, 0)), .inl 45]) (rest := []) h rfl (fun _ _ hv => zx_run_up (by omega) (r_X8_take (d := d) hv)) (fun v6 M9 h => ?_)
            show zx_E _ _ _ (75, [some (.inr (some (14, 0, 0, 0))), some (.inr (some (17, i, 0, 0)))], [.inl v6], (zx_lay M9, n)) _
            refine zx_E.brh (c := v6 = 0) (s1 := (78, [some (.inr (some (14, 0, 0, 0))), some (.inr (some (17, i, 0, 0)))], [], (zx_lay M9, n))) (s2 := (80, [some (.inr (some (14, 0, 0, 0))), some (.inr (some (17, i, 0, 0)))], [], (zx_lay M9, n))) h (zx_if_ne rfl) (fun _ h => ?_) (fun _ h => ?_)
            · refine zx_E.go 1 (s' := (79, [some (.inr (some (14, 0, 0, 0))), some (.inr (some (17, i, 0, 0)))], [.inl 0], (zx_lay M9, n))) rfl ?_
              exact zx_E.ri h rfl (fun _ => Or.inl rfl)
            · refine zx_E.go 2 (s' := (82, [some (.inr (some (14, 0, 0, 0))), some (.inr (some (17, i, 0, 0)))], [.inr (some (14, 0, 0, 0)), .inr (some (17, i, 0, 0))], (zx_lay M9, n))) rfl ?_
              refine zx_E.cv (y := 78) (as := [.inr (some (14, 0, 0, 0))]) (rest := [.inr (some (17, i, 0, 0))]) h rfl (fun _ _ hv => zx_run_up (by omega) (r_X8_readNumber (d := d) hv)) (fun v7 M10 h => ?_)
              show zx_E _ _ _ (85, [some (.inr (some (14, 0, 0, 0))), some (.inr (some (17, i, 0, 0)))], [.inl v7, .inr (some (17, i, 0, 0))], (zx_lay M10, n)) _
              refine zx_E.pu h rfl rfl (fun h => absurd h (by decide)) (fun M11 h => ?_)
              show zx_E _ _ _ (88, [some (.inr (some (14, 0, 0, 0))), some (.inr (some (17, i, 0, 0)))], [], (zx_lay M11, n)) _
              refine zx_E.go 2 (s' := (92, [some (.inr (some (14, 0, 0, 0))), some (.inr (some (17, i, 0, 0)))], [.inl (M11 (17, i, 0, 0) 8)], (zx_lay M11, n))) rfl ?_
              refine zx_E.brh (c := (M11 (17, i, 0, 0) 8) < 0) (s1 := (99, [some (.inr (some (14, 0, 0, 0))), some (.inr (some (17, i, 0, 0)))], [], (zx_lay M11, n))) (s2 := (95, [some (.inr (some (14, 0, 0, 0))), some (.inr (some (17, i, 0, 0)))], [], (zx_lay M11, n))) h (zx_if_lt rfl) (fun _ h => ?_) (fun _ h => ?_)
              · refine zx_E.go 1 (s' := (100, [some (.inr (some (14, 0, 0, 0))), some (.inr (some (17, i, 0, 0)))], [.inl 0], (zx_lay M11, n))) rfl ?_
                exact zx_E.ri h rfl (fun _ => Or.inl rfl)
              · refine zx_E.go 2 (s' := (100, [some (.inr (some (14, 0, 0, 0))), some (.inr (some (17, i, 0, 0)))], [.inl 1], (zx_lay M11, n))) rfl ?_
                exact zx_E.ri h rfl (fun _ => Or.inr rfl)
def g_X8_readStation (M : zx_Y) (i : Nat) : Option (Int32 × zx_Y) := (zv (g_X8_readDigit M 7) fun v1 M1 => (zl (zx_up M1 (17, i, 0, 0) 1 v1) fun M2 => (if (M2 (17, i, 0, 0) 1) < 0 then (some (0, M2)) else (zv (g_X8_take M2 58) fun v2 M3 => (if v2 = 0 then (some (0, M3)) else (zv (g_X8_readDigit M3 9) fun v3 M4 => (zl (zx_up M4 (17, i, 0, 0) 3 v3) fun M5 => (if (0 : Int32) ≤ (M5 (17, i, 0, 0) 3) then (zv (g_X8_take M5 114) fun v4 M6 => (zo v4 (zl (zx_up M6 (17, i, 0, 0) 9 v4) fun M7 => (some (1, M7))))) else (some (0, M5))))))))))
set_option maxRecDepth 100000 in
set_option maxHeartbeats 4000000 in
theorem r_X8_readStation {X : zx_X} {d n : Nat} {M : zx_Y} {i : Nat} {rv : Int32} {rM : zx_Y} (h : g_X8_readStation M i = some (rv, rM)) : zx_run X (d + 3) 71 [.inr (some (14, 0, 0, 0)), .inr (some (17, i, 0, 0))] (zx_lay M, n) (some (.inl rv), (zx_lay rM, n)) := by
  refine zx_run_of zc_X8_readStation [some (.inr (some (14, 0, 0, 0))), some (.inr (some (17, i, 0, 0)))] rfl rfl ?_
  unfold g_X8_readStation at h
  refine zx_E.go 3 (s' := (4, [some (.inr (some (14, 0, 0, 0))), some (.inr (some (17, i, 0, 0)))], [.inl 7, .inr (some (14, 0, 0, 0)), .inr (some (17, i, 0, 0))], (zx_lay M, n))) rfl ?_
  refine zx_E.cv (y := 77) (as := [.inr (some (14, 0, 0, 0)), .inl 7]) (rest := [.inr (some (17, i, 0, 0))]) h rfl (fun _ _ hv => zx_run_up (by omega) (r_X8_readDigit (d := d) hv)) (fun v1 M1 h => ?_)
  show zx_E _ _ _ (7, [some (.inr (some (14, 0, 0, 0))), some (.inr (some (17, i, 0, 0)))], [.inl v1, .inr (some (17, i, 0, 0))], (zx_lay M1, n)) _
  refine zx_E.pu h rfl rfl (fun h => absurd h (by decide)) (fun M2 h => ?_)
  show zx_E _ _ _ (10, [some (.inr (some (14, 0, 0, 0))), some (.inr (some (17, i, 0, 0)))], [], (zx_lay M2, n)) _
  refine zx_E.go 2 (s' := (14, [some (.inr (some (14, 0, 0, 0))), some (.inr (some (17, i, 0, 0)))], [.inl (M2 (17, i, 0, 0) 1)], (zx_lay M2, n))) rfl ?_
  refine zx_E.brh (c := (M2 (17, i, 0, 0) 1) < 0) (s1 := (26, [some (.inr (some (14, 0, 0, 0))), some (.inr (some (17, i, 0, 0)))], [], (zx_lay M2, n))) (s2 := (17, [some (.inr (some (14, 0, 0, 0))), some (.inr (some (17, i, 0, 0)))], [], (zx_lay M2, n))) h (zx_if_lt rfl) (fun _ h => ?_) (fun _ h => ?_)
  · refine zx_E.go 1 (s' := (27, [some (.inr (some (14, 0, 0, 0))), some (.inr (some (17, i, 0, 0)))], [.inl 0], (zx_lay M2, n))) rfl ?_
    exact zx_E.ri h rfl (fun _ => Or.inl rfl)
  · refine zx_E.go 2 (s' := (20, [some (.inr (some (14, 0, 0, 0))), some (.inr (some (17, i, 0, 0)))], [.inl 58, .inr (some (14, 0, 0, 0))], (zx_lay M2, n))) rfl ?_
    refine zx_E.cv (y := 76) (as := [.inr (some (14, 0, 0, 0)), .inl 58]) (rest := []) h rfl (fun _ _ hv => zx_run_up (by omega) (r_X8_take (d := d) hv)) (fun v2 M3 h => ?_)
    show zx_E _ _ _ (23, [some (.inr (some (14, 0, 0, 0))), some (.inr (some (17, i, 0, 0)))], [.inl v2], (zx_lay M3, n)) _
    refine zx_E.brh (c := v2 = 0) (s1 := (26, [some (.inr (some (14, 0, 0, 0))), some (.inr (some (17, i, 0, 0)))], [], (zx_lay M3, n))) (s2 := (28, [some (.inr (some (14, 0, 0, 0))), some (.inr (some (17, i, 0, 0)))], [], (zx_lay M3, n))) h (zx_if_ne rfl) (fun _ h => ?_) (fun _ h => ?_)
    · refine zx_E.go 1 (s' := (27, [some (.inr (some (14, 0, 0, 0))), some (.inr (some (17, i, 0, 0)))], [.inl 0], (zx_lay M3, n))) rfl ?_
      exact zx_E.ri h rfl (fun _ => Or.inl rfl)
    · refine zx_E.go 3 (s' := (32, [some (.inr (some (14, 0, 0, 0))), some (.inr (some (17, i, 0, 0)))], [.inl 9, .inr (some (14, 0, 0, 0)), .inr (some (17, i, 0, 0))], (zx_lay M3, n))) rfl ?_
      refine zx_E.cv (y := 77) (as := [.inr (some (14, 0, 0, 0)), .inl 9]) (rest := [.inr (some (17, i, 0, 0))]) h rfl (fun _ _ hv => zx_run_up (by omega) (r_X8_readDigit (d := d) hv)) (fun v3 M4 h => ?_)
      show zx_E _ _ _ (35, [some (.inr (some (14, 0, 0, 0))), some (.inr (some (17, i, 0, 0)))], [.inl v3, .inr (some (17, i, 0, 0))], (zx_lay M4, n)) _
      refine zx_E.pu h rfl rfl (fun h => absurd h (by decide)) (fun M5 h => ?_)
      show zx_E _ _ _ (38, [some (.inr (some (14, 0, 0, 0))), some (.inr (some (17, i, 0, 0)))], [], (zx_lay M5, n)) _
      refine zx_E.go 2 (s' := (42, [some (.inr (some (14, 0, 0, 0))), some (.inr (some (17, i, 0, 0)))], [.inl (M5 (17, i, 0, 0) 3)], (zx_lay M5, n))) rfl ?_
      refine zx_E.brh (c := (0 : Int32) ≤ (M5 (17, i, 0, 0) 3)) (s1 := (47, [some (.inr (some (14, 0, 0, 0))), some (.inr (some (17, i, 0, 0)))], [], (zx_lay M5, n))) (s2 := (45, [some (.inr (some (14, 0, 0, 0))), some (.inr (some (17, i, 0, 0)))], [], (zx_lay M5, n))) h (zx_if_ge rfl) (fun _ h => ?_) (fun _ h => ?_)
      · refine zx_E.go 3 (s' := (51, [some (.inr (some (14, 0, 0, 0))), some (.inr (some (17, i, 0, 0)))], [.inl 114, .inr (some (14, 0, 0, 0)), .inr (some (17, i, 0, 0))], (zx_lay M5, n))) rfl ?_
        refine zx_E.cv (y := 76) (as := [.inr (some (14, 0, 0, 0)), .inl 114]) (rest := [.inr (some (17, i, 0, 0))]) h rfl (fun _ _ hv => zx_run_up (by omega) (r_X8_take (d := d) hv)) (fun v4 M6 h => ?_)
        show zx_E _ _ _ (54, [some (.inr (some (14, 0, 0, 0))), some (.inr (some (17, i, 0, 0)))], [.inl v4, .inr (some (17, i, 0, 0))], (zx_lay M6, n)) _
        refine zx_E.ob h (fun hv h => ?_)
        refine zx_E.pu h rfl rfl (fun _ => hv) (fun M7 h => ?_)
        show zx_E _ _ _ (57, [some (.inr (some (14, 0, 0, 0))), some (.inr (some (17, i, 0, 0)))], [], (zx_lay M7, n)) _
        refine zx_E.go 1 (s' := (58, [some (.inr (some (14, 0, 0, 0))), some (.inr (some (17, i, 0, 0)))], [.inl 1], (zx_lay M7, n))) rfl ?_
        exact zx_E.ri h rfl (fun _ => Or.inr rfl)
      · refine zx_E.go 1 (s' := (46, [some (.inr (some (14, 0, 0, 0))), some (.inr (some (17, i, 0, 0)))], [.inl 0], (zx_lay M5, n))) rfl ?_
        exact zx_E.ri h rfl (fun _ => Or.inl rfl)
def g_X8_readTrain (M : zx_Y) (i : Nat) : Option (Int32 × zx_Y) := (zv (g_X8_readDigit M 7) fun v1 M1 => (zl (zx_up M1 (17, i, 0, 0) 1 v1) fun M2 => (if (M2 (17, i, 0, 0) 1) < 0 then (some (0, M2)) else (zv (g_X8_take M2 62) fun v2 M3 => (if v2 = 0 then (some (0, M3)) else (zv (g_X8_readDigit M3 7) fun v3 M4 => (zl (zx_up M4 (17, i, 0, 0) 2 v3) fun M5 => (if (M5 (17, i, 0, 0) 2) < 0 then (some (0, M5)) else (zv (g_X8_take M5 112) fun v4 M6 => (if v4 = 0 then (some (0, M6)) else (zv (g_X8_readDigit M6 9) fun v5 M7 => (zl (zx_up M7 (17, i, 0, 0) 3 v5) fun M8 => (if (M8 (17, i, 0, 0) 3) < 0 then (some (0, M8)) else (zv (g_X8_take M8 64) fun v6 M9 => (if v6 = 0 then (some (0, M9)) else (zv (g_X8_readNumber M9) fun v7 M10 => (zl (zx_up M10 (17, i, 0, 0) 4 v7) fun M11 => (if (0 : Int32) ≤ (M11 (17, i, 0, 0) 4) then (zv (g_X8_take M11 43) fun v8 M12 => (if v8 = 0 then (zl (zx_up M12 (17, i, 0, 0) 5 0) fun M13 => (if (0 : Int32) ≤ (M13 (17, i, 0, 0) 5) then (zv (g_X8_take M13 104) fun v9 M14 => (if v9 = 0 then (zl (zx_up M14 (17, i, 0, 0) 6 480) fun M15 => (if (M15 (17, i, 0, 0) 6) < 0 then (some (0, M15)) else (some (1, M15)))) else (zv (g_X8_readNumber M14) fun v10 M16 => (zl (zx_up M16 (17, i, 0, 0) 6 v10) fun M17 => (if (M17 (17, i, 0, 0) 6) < 0 then (some (0, M17)) else (some (1, M17))))))) else (some (0, M13)))) else (zv (g_X8_readDigit M12 9) fun v11 M18 => (zl (zx_up M18 (17, i, 0, 0) 5 v11) fun M19 => (if (0 : Int32) ≤ (M19 (17, i, 0, 0) 5) then (zv (g_X8_take M19 104) fun v12 M20 => (if v12 = 0 then (zl (zx_up M20 (17, i, 0, 0) 6 480) fun M21 => (if (M21 (17, i, 0, 0) 6) < 0 then (some (0, M21)) else (some (1, M21)))) else (zv (g_X8_readNumber M20) fun v13 M22 => (zl (zx_up M22 (17, i, 0, 0) 6 v13) fun M23 => (if (M23 (17, i, 0, 0) 6) < 0 then (some (0, M23)) else (some (1, M23))))))) else (some (0, M19))))))) else (some (0, M11))))))))))))))))))))
set_option maxRecDepth 100000 in
set_option maxHeartbeats 4000000 in
theorem r_X8_readTrain {X : zx_X} {d n : Nat} {M : zx_Y} {i : Nat} {rv : Int32} {rM : zx_Y} (h : g_X8_readTrain M i = some (rv, rM)) : zx_run X (d + 4) 72 [.inr (some (14, 0, 0, 0)), .inr (some (17, i, 0, 0))] (zx_lay M, n) (some (.inl rv), (zx_lay rM, n)) := by
  refine zx_run_of zc_X8_readTrain [some (.inr (some (14, 0, 0, 0))), some (.inr (some (17, i, 0, 0)))] rfl rfl ?_
  unfold g_X8_readTrain at h
  refine zx_E.go 3 (s' := (4, [some (.inr (some (14, 0, 0, 0))), some (.inr (some (17, i, 0, 0)))], [.inl 7, .inr (some (14, 0, 0, 0)), .inr (some (17, i, 0, 0))], (zx_lay M, n))) rfl ?_
  refine zx_E.cv (y := 77) (as := [.inr (some (14, 0, 0, 0)), .inl 7]) (rest := [.inr (some (17, i, 0, 0))]) h rfl (fun _ _ hv => zx_run_up (by omega) (r_X8_readDigit (d := d) hv)) (fun v1 M1 h => ?_)
  show zx_E _ _ _ (7, [some (.inr (some (14, 0, 0, 0))), some (.inr (some (17, i, 0, 0)))], [.inl v1, .inr (some (17, i, 0, 0))], (zx_lay M1, n)) _
  refine zx_E.pu h rfl rfl (fun h => absurd h (by decide)) (fun M2 h => ?_)
  show zx_E _ _ _ (10, [some (.inr (some (14, 0, 0, 0))), some (.inr (some (17, i, 0, 0)))], [], (zx_lay M2, n)) _
  refine zx_E.go 2 (s' := (14, [some (.inr (some (14, 0, 0, 0))), some (.inr (some (17, i, 0, 0)))], [.inl (M2 (17, i, 0, 0) 1)], (zx_lay M2, n))) rfl ?_
  refine zx_E.brh (c := (M2 (17, i, 0, 0) 1) < 0) (s1 := (26, [some (.inr (some (14, 0, 0, 0))), some (.inr (some (17, i, 0, 0)))], [], (zx_lay M2, n))) (s2 := (17, [some (.inr (some (14, 0, 0, 0))), some (.inr (some (17, i, 0, 0)))], [], (zx_lay M2, n))) h (zx_if_lt rfl) (fun _ h => ?_) (fun _ h => ?_)
  · refine zx_E.go 1 (s' := (27, [some (.inr (some (14, 0, 0, 0))), some (.inr (some (17, i, 0, 0)))], [.inl 0], (zx_lay M2, n))) rfl ?_
    exact zx_E.ri h rfl (fun _ => Or.inl rfl)
  · refine zx_E.go 2 (s' := (20, [some (.inr (some (14, 0, 0, 0))), some (.inr (some (17, i, 0, 0)))], [.inl 62, .inr (some (14, 0, 0, 0))], (zx_lay M2, n))) rfl ?_
    refine zx_E.cv (y := 76) (as := [.inr (some (14, 0, 0, 0)), .inl 62]) (rest := []) h rfl (fun _ _ hv => zx_run_up (by omega) (r_X8_take (d := d) hv)) (fun v2 M3 h => ?_)
    show zx_E _ _ _ (23, [some (.inr (some (14, 0, 0, 0))), some (.inr (some (17, i, 0, 0)))], [.inl v2], (zx_lay M3, n)) _
    refine zx_E.brh (c := v2 = 0) (s1 := (26, [some (.inr (some (14, 0, 0, 0))), some (.inr (some (17, i, 0, 0)))], [], (zx_lay M3, n))) (s2 := (28, [some (.inr (some (14, 0, 0, 0))), some (.inr (some (17, i, 0, 0)))], [], (zx_lay M3, n))) h (zx_if_ne rfl) (fun _ h => ?_) (fun _ h => ?_)
    · refine zx_E.go 1 (s' := (27, [some (.inr (some (14, 0, 0, 0))), some (.inr (some (17, i, 0, 0)))], [.inl 0], (zx_lay M3, n))) rfl ?_
      exact zx_E.ri h rfl (fun _ => Or.inl rfl)
    · refine zx_E.go 3 (s' := (32, [some (.inr (some (14, 0, 0, 0))), some (.inr (some (17, i, 0, 0)))], [.inl 7, .inr (some (14, 0, 0, 0)), .inr (some (17, i, 0, 0))], (zx_lay M3, n))) rfl ?_
      refine zx_E.cv (y := 77) (as := [.inr (some (14, 0, 0, 0)), .inl 7]) (rest := [.inr (some (17, i, 0, 0))]) h rfl (fun _ _ hv => zx_run_up (by omega) (r_X8_readDigit (d := d) hv)) (fun v3 M4 h => ?_)
      show zx_E _ _ _ (35, [some (.inr (some (14, 0, 0, 0))), some (.inr (some (17, i, 0, 0)))], [.inl v3, .inr (some (17, i, 0, 0))], (zx_lay M4, n)) _
      refine zx_E.pu h rfl rfl (fun h => absurd h (by decide)) (fun M5 h => ?_)
      show zx_E _ _ _ (38, [some (.inr (some (14, 0, 0, 0))), some (.inr (some (17, i, 0, 0)))], [], (zx_lay M5, n)) _
      refine zx_E.go 2 (s' := (42, [some (.inr (some (14, 0, 0, 0))), some (.inr (some (17, i, 0, 0)))], [.inl (M5 (17, i, 0, 0) 2)], (zx_lay M5, n))) rfl ?_
      refine zx_E.brh (c := (M5 (17, i, 0, 0) 2) < 0) (s1 := (54, [some (.inr (some (14, 0, 0, 0))), some (.inr (some (17, i, 0, 0)))], [], (zx_lay M5, n))) (s2 := (45, [some (.inr (some (14, 0, 0, 0))), some (.inr (some (17, i, 0, 0)))], [], (zx_lay M5, n))) h (zx_if_lt rfl) (fun _ h => ?_) (fun _ h => ?_)
      · refine zx_E.go 1 (s' := (55, [some (.inr (some (14, 0, 0, 0))), some (.inr (some (17, i, 0, 0)))], [.inl 0], (zx_lay M5, n))) rfl ?_
        exact zx_E.ri h rfl (fun _ => Or.inl rfl)
      · refine zx_E.go 2 (s' := (48, [some (.inr (some (14, 0, 0, 0))), some (.inr (some (17, i, 0, 0)))], [.inl 112, .inr (some (14, 0, 0, 0))], (zx_lay M5, n))) rfl ?_
        refine zx_E.cv (y := 76) (as := [.inr (some (14, 0, 0, 0)), .inl 112]) (rest := []) h rfl (fun _ _ hv => zx_run_up (by omega) (r_X8_take (d := d) hv)) (fun v4 M6 h => ?_)
        show zx_E _ _ _ (51, [some (.inr (some (14, 0, 0, 0))), some (.inr (some (17, i, 0, 0)))], [.inl v4], (zx_lay M6, n)) _
        refine zx_E.brh (c := v4 = 0) (s1 := (54, [some (.inr (some (14, 0, 0, 0))), some (.inr (some (17, i, 0, 0)))], [], (zx_lay M6, n))) (s2 := (56, [some (.inr (some (14, 0, 0, 0))), some (.inr (some (17, i, 0, 0)))], [], (zx_lay M6, n))) h (zx_if_ne rfl) (fun _ h => ?_) (fun _ h => ?_)
        · refine zx_E.go 1 (s' := (55, [some (.inr (some (14, 0, 0, 0))), some (.inr (some (17, i, 0, 0)))], [.inl 0], (zx_lay M6, n))) rfl ?_
          exact zx_E.ri h rfl (fun _ => Or.inl rfl)
        · refine zx_E.go 3 (s' := (60, [some (.inr (some (14, 0, 0, 0))), some (.inr (some (17, i, 0, 0)))], [.inl 9, .inr (some (14, 0, 0, 0)), .inr (some (17, i, 0, 0))], (zx_lay M6, n))) rfl ?_
          refine zx_E.cv (y := 77) (as := [.inr (some (14, 0, 0, 0)), .inl 9]) (rest := [.inr (some (17, i, 0, 0))]) h rfl (fun _ _ hv => zx_run_up (by omega) (r_X8_readDigit (d := d) hv)) (fun v5 M7 h => ?_)
          show zx_E _ _ _ (63, [some (.inr (some (14, 0, 0, 0))), some (.inr (some (17, i, 0, 0)))], [.inl v5, .inr (some (17, i, 0, 0))], (zx_lay M7, n)) _
          refine zx_E.pu h rfl rfl (fun h => absurd h (by decide)) (fun M8 h => ?_)
          show zx_E _ _ _ (66, [some (.inr (some (14, 0, 0, 0))), some (.inr (some (17, i, 0, 0)))], [], (zx_lay M8, n)) _
          refine zx_E.go 2 (s' := (70, [some (.inr (some (14, 0, 0, 0))), some (.inr (some (17, i, 0, 0)))], [.inl (M8 (17, i, 0, 0) 3)], (zx_lay M8, n))) rfl ?_
          refine zx_E.brh (c := (M8 (17, i, 0, 0) 3) < 0) (s1 := (82, [some (.inr (some (14, 0, 0, 0))), some (.inr (some (17, i, 0, 0)))], [], (zx_lay M8, n))) (s2 := (73, [some (.inr (some (14, 0, 0, 0))), some (.inr (some (17, i, 0, 0)))], [], (zx_lay M8, n))) h (zx_if_lt rfl) (fun _ h => ?_) (fun _ h => ?_)
          · refine zx_E.go 1 (s' := (83, [some (.inr (some (14, 0, 0, 0))), some (.inr (some (17, i, 0, 0)))], [.inl 0], (zx_lay M8, n))) rfl ?_
            exact zx_E.ri h rfl (fun _ => Or.inl rfl)
          · refine zx_E.go 2 (s' := (76, [some (.inr (some (14, 0, 0, 0))), some (.inr (some (17, i, 0, 0)))], [.inl 64, .inr (some (14, 0, 0, 0))], (zx_lay M8, n))) rfl ?_
            refine zx_E.cv (y := 76) (as := [.inr (some (14, 0, 0, 0)), .inl 64]) (rest := []) h rfl (fun _ _ hv => zx_run_up (by omega) (r_X8_take (d := d) hv)) (fun v6 M9 h => ?_)
            show zx_E _ _ _ (79, [some (.inr (some (14, 0, 0, 0))), some (.inr (some (17, i, 0, 0)))], [.inl v6], (zx_lay M9, n)) _
            refine zx_E.brh (c := v6 = 0) (s1 := (82, [some (.inr (some (14, 0, 0, 0))), some (.inr (some (17, i, 0, 0)))], [], (zx_lay M9, n))) (s2 := (84, [some (.inr (some (14, 0, 0, 0))), some (.inr (some (17, i, 0, 0)))], [], (zx_lay M9, n))) h (zx_if_ne rfl) (fun _ h => ?_) (fun _ h => ?_)
            · refine zx_E.go 1 (s' := (83, [some (.inr (some (14, 0, 0, 0))), some (.inr (some (17, i, 0, 0)))], [.inl 0], (zx_lay M9, n))) rfl ?_
              exact zx_E.ri h rfl (fun _ => Or.inl rfl)
            · refine zx_E.go 2 (s' := (86, [some (.inr (some (14, 0, 0, 0))), some (.inr (some (17, i, 0, 0)))], [.inr (some (14, 0, 0, 0)), .inr (some (17, i, 0, 0))], (zx_lay M9, n))) rfl ?_
              refine zx_E.cv (y := 78) (as := [.inr (some (14, 0, 0, 0))]) (rest := [.inr (some (17, i, 0, 0))]) h rfl (fun _ _ hv => zx_run_up (by omega) (r_X8_readNumber (d := d) hv)) (fun v7 M10 h => ?_)
              show zx_E _ _ _ (89, [some (.inr (some (14, 0, 0, 0))), some (.inr (some (17, i, 0, 0)))], [.inl v7, .inr (some (17, i, 0, 0))], (zx_lay M10, n)) _
              refine zx_E.pu h rfl rfl (fun h => absurd h (by decide)) (fun M11 h => ?_)
              show zx_E _ _ _ (92, [some (.inr (some (14, 0, 0, 0))), some (.inr (some (17, i, 0, 0)))], [], (zx_lay M11, n)) _
              refine zx_E.go 2 (s' := (96, [some (.inr (some (14, 0, 0, 0))), some (.inr (some (17, i, 0, 0)))], [.inl (M11 (17, i, 0, 0) 4)], (zx_lay M11, n))) rfl ?_
              refine zx_E.brh (c := (0 : Int32) ≤ (M11 (17, i, 0, 0) 4)) (s1 := (101, [some (.inr (some (14, 0, 0, 0))), some (.inr (some (17, i, 0, 0)))], [], (zx_lay M11, n))) (s2 := (99, [some (.inr (some (14, 0, 0, 0))), some (.inr (some (17, i, 0, 0)))], [], (zx_lay M11, n))) h (zx_if_ge rfl) (fun _ h => ?_) (fun _ h => ?_)
              · refine zx_E.go 3 (s' := (105, [some (.inr (some (14, 0, 0, 0))), some (.inr (some (17, i, 0, 0)))], [.inl 43, .inr (some (14, 0, 0, 0)), .inr (some (17, i, 0, 0))], (zx_lay M11, n))) rfl ?_
                refine zx_E.cv (y := 76) (as := [.inr (some (14, 0, 0, 0)), .inl 43]) (rest := [.inr (some (17, i, 0, 0))]) h rfl (fun _ _ hv => zx_run_up (by omega) (r_X8_take (d := d) hv)) (fun v8 M12 h => ?_)
                show zx_E _ _ _ (108, [some (.inr (some (14, 0, 0, 0))), some (.inr (some (17, i, 0, 0)))], [.inl v8, .inr (some (17, i, 0, 0))], (zx_lay M12, n)) _
                refine zx_E.brh (c := v8 = 0) (s1 := (120, [some (.inr (some (14, 0, 0, 0))), some (.inr (some (17, i, 0, 0)))], [.inr (some (17, i, 0, 0))], (zx_lay M12, n))) (s2 := (111, [some (.inr (some (14, 0, 0, 0))), some (.inr (some (17, i, 0, 0)))], [.inr (some (17, i, 0, 0))], (zx_lay M12, n))) h (zx_if_eq rfl) (fun _ h => ?_) (fun _ h => ?_)
                · refine zx_E.go 1 (s' := (121, [some (.inr (some (14, 0, 0, 0))), some (.inr (some (17, i, 0, 0)))], [.inl 0, .inr (some (17, i, 0, 0))], (zx_lay M12, n))) rfl ?_
                  refine zx_E.pu h rfl rfl (fun h => absurd h (by decide)) (fun M13 h => ?_)
                  show zx_E _ _ _ (124, [some (.inr (some (14, 0, 0, 0))), some (.inr (some (17, i, 0, 0)))], [], (zx_lay M13, n)) _
                  refine zx_E.go 2 (s' := (128, [some (.inr (some (14, 0, 0, 0))), some (.inr (some (17, i, 0, 0)))], [.inl (M13 (17, i, 0, 0) 5)], (zx_lay M13, n))) rfl ?_
                  refine zx_E.brh (c := (0 : Int32) ≤ (M13 (17, i, 0, 0) 5)) (s1 := (133, [some (.inr (some (14, 0, 0, 0))), some (.inr (some (17, i, 0, 0)))], [], (zx_lay M13, n))) (s2 := (131, [some (.inr (some (14, 0, 0, 0))), some (.inr (some (17, i, 0, 0)))], [], (zx_lay M13, n))) h (zx_if_ge rfl) (fun _ h => ?_) (fun _ h => ?_)
                  · refine zx_E.go 3 (s' := (137, [some (.inr (some (14, 0, 0, 0))), some (.inr (some (17, i, 0, 0)))], [.inl 104, .inr (some (14, 0, 0, 0)), .inr (some (17, i, 0, 0))], (zx_lay M13, n))) rfl ?_
                    refine zx_E.cv (y := 76) (as := [.inr (some (14, 0, 0, 0)), .inl 104]) (rest := [.inr (some (17, i, 0, 0))]) h rfl (fun _ _ hv => zx_run_up (by omega) (r_X8_take (d := d) hv)) (fun v9 M14 h => ?_)
                    show zx_E _ _ _ (140, [some (.inr (some (14, 0, 0, 0))), some (.inr (some (17, i, 0, 0)))], [.inl v9, .inr (some (17, i, 0, 0))], (zx_lay M14, n)) _
                    refine zx_E.brh (c := v9 = 0) (s1 := (150, [some (.inr (some (14, 0, 0, 0))), some (.inr (some (17, i, 0, 0)))], [.inr (some (17, i, 0, 0))], (zx_lay M14, n))) (s2 := (143, [some (.inr (some (14, 0, 0, 0))), some (.inr (some (17, i, 0, 0)))], [.inr (some (17, i, 0, 0))], (zx_lay M14, n))) h (zx_if_eq rfl) (fun _ h => ?_) (fun _ h => ?_)
                    · refine zx_E.go 1 (s' := (153, [some (.inr (some (14, 0, 0, 0))), some (.inr (some (17, i, 0, 0)))], [.inl 480, .inr (some (17, i, 0, 0))], (zx_lay M14, n))) rfl ?_
                      refine zx_E.pu h rfl rfl (fun h => absurd h (by decide)) (fun M15 h => ?_)
                      show zx_E _ _ _ (156, [some (.inr (some (14, 0, 0, 0))), some (.inr (some (17, i, 0, 0)))], [], (zx_lay M15, n)) _
                      refine zx_E.go 2 (s' := (160, [some (.inr (some (14, 0, 0, 0))), some (.inr (some (17, i, 0, 0)))], [.inl (M15 (17, i, 0, 0) 6)], (zx_lay M15, n))) rfl ?_
                      refine zx_E.brh (c := (M15 (17, i, 0, 0) 6) < 0) (s1 := (167, [some (.inr (some (14, 0, 0, 0))), some (.inr (some (17, i, 0, 0)))], [], (zx_lay M15, n))) (s2 := (163, [some (.inr (some (14, 0, 0, 0))), some (.inr (some (17, i, 0, 0)))], [], (zx_lay M15, n))) h (zx_if_lt rfl) (fun _ h => ?_) (fun _ h => ?_)
                      · refine zx_E.go 1 (s' := (168, [some (.inr (some (14, 0, 0, 0))), some (.inr (some (17, i, 0, 0)))], [.inl 0], (zx_lay M15, n))) rfl ?_
                        exact zx_E.ri h rfl (fun _ => Or.inl rfl)
                      · refine zx_E.go 2 (s' := (168, [some (.inr (some (14, 0, 0, 0))), some (.inr (some (17, i, 0, 0)))], [.inl 1], (zx_lay M15, n))) rfl ?_
                        exact zx_E.ri h rfl (fun _ => Or.inr rfl)
                    · refine zx_E.go 1 (s' := (144, [some (.inr (some (14, 0, 0, 0))), some (.inr (some (17, i, 0, 0)))], [.inr (some (14, 0, 0, 0)), .inr (some (17, i, 0, 0))], (zx_lay M14, n))) rfl ?_
                      refine zx_E.cv (y := 78) (as := [.inr (some (14, 0, 0, 0))]) (rest := [.inr (some (17, i, 0, 0))]) h rfl (fun _ _ hv => zx_run_up (by omega) (r_X8_readNumber (d := d) hv)) (fun v10 M16 h => ?_)
                      show zx_E _ _ _ (147, [some (.inr (some (14, 0, 0, 0))), some (.inr (some (17, i, 0, 0)))], [.inl v10, .inr (some (17, i, 0, 0))], (zx_lay M16, n)) _
                      refine zx_E.go 1 (s' := (153, [some (.inr (some (14, 0, 0, 0))), some (.inr (some (17, i, 0, 0)))], [.inl v10, .inr (some (17, i, 0, 0))], (zx_lay M16, n))) rfl ?_
                      refine zx_E.pu h rfl rfl (fun h => absurd h (by decide)) (fun M17 h => ?_)
                      show zx_E _ _ _ (156, [some (.inr (some (14, 0, 0, 0))), some (.inr (some (17, i, 0, 0)))], [], (zx_lay M17, n)) _
                      refine zx_E.go 2 (s' := (160, [some (.inr (some (14, 0, 0, 0))), some (.inr (some (17, i, 0, 0)))], [.inl (M17 (17, i, 0, 0) 6)], (zx_lay M17, n))) rfl ?_
                      refine zx_E.brh (c := (M17 (17, i, 0, 0) 6) < 0) (s1 := (167, [some (.inr (some (14, 0, 0, 0))), some (.inr (some (17, i, 0, 0)))], [], (zx_lay M17, n))) (s2 := (163, [some (.inr (some (14, 0, 0, 0))), some (.inr (some (17, i, 0, 0)))], [], (zx_lay M17, n))) h (zx_if_lt rfl) (fun _ h => ?_) (fun _ h => ?_)
                      · refine zx_E.go 1 (s' := (168, [some (.inr (some (14, 0, 0, 0))), some (.inr (some (17, i, 0, 0)))], [.inl 0], (zx_lay M17, n))) rfl ?_
                        exact zx_E.ri h rfl (fun _ => Or.inl rfl)
                      · refine zx_E.go 2 (s' := (168, [some (.inr (some (14, 0, 0, 0))), some (.inr (some (17, i, 0, 0)))], [.inl 1], (zx_lay M17, n))) rfl ?_
                        exact zx_E.ri h rfl (fun _ => Or.inr rfl)
                  · refine zx_E.go 1 (s' := (132, [some (.inr (some (14, 0, 0, 0))), some (.inr (some (17, i, 0, 0)))], [.inl 0], (zx_lay M13, n))) rfl ?_
                    exact zx_E.ri h rfl (fun _ => Or.inl rfl)
                · refine zx_E.go 2 (s' := (114, [some (.inr (some (14, 0, 0, 0))), some (.inr (some (17, i, 0, 0)))], [.inl 9, .inr (some (14, 0, 0, 0)), .inr (some (17, i, 0, 0))], (zx_lay M12, n))) rfl ?_
                  refine zx_E.cv (y := 77) (as := [.inr (some (14, 0, 0, 0)), .inl 9]) (rest := [.inr (some (17, i, 0, 0))]) h rfl (fun _ _ hv => zx_run_up (by omega) (r_X8_readDigit (d := d) hv)) (fun v11 M18 h => ?_)
                  show zx_E _ _ _ (117, [some (.inr (some (14, 0, 0, 0))), some (.inr (some (17, i, 0, 0)))], [.inl v11, .inr (some (17, i, 0, 0))], (zx_lay M18, n)) _
                  refine zx_E.go 1 (s' := (121, [some (.inr (some (14, 0, 0, 0))), some (.inr (some (17, i, 0, 0)))], [.inl v11, .inr (some (17, i, 0, 0))], (zx_lay M18, n))) rfl ?_
                  refine zx_E.pu h rfl rfl (fun h => absurd h (by decide)) (fun M19 h => ?_)
                  show zx_E _ _ _ (124, [some (.inr (some (14, 0, 0, 0))), some (.inr (some (17, i, 0, 0)))], [], (zx_lay M19, n)) _
                  refine zx_E.go 2 (s' := (128, [some (.inr (some (14, 0, 0, 0))), some (.inr (some (17, i, 0, 0)))], [.inl (M19 (17, i, 0, 0) 5)], (zx_lay M19, n))) rfl ?_
                  refine zx_E.brh (c := (0 : Int32) ≤ (M19 (17, i, 0, 0) 5)) (s1 := (133, [some (.inr (some (14, 0, 0, 0))), some (.inr (some (17, i, 0, 0)))], [], (zx_lay M19, n))) (s2 := (131, [some (.inr (some (14, 0, 0, 0))), some (.inr (some (17, i, 0, 0)))], [], (zx_lay M19, n))) h (zx_if_ge rfl) (fun _ h => ?_) (fun _ h => ?_)
                  · refine zx_E.go 3 (s' := (137, [some (.inr (some (14, 0, 0, 0))), some (.inr (some (17, i, 0, 0)))], [.inl 104, .inr (some (14, 0, 0, 0)), .inr (some (17, i, 0, 0))], (zx_lay M19, n))) rfl ?_
                    refine zx_E.cv (y := 76) (as := [.inr (some (14, 0, 0, 0)), .inl 104]) (rest := [.inr (some (17, i, 0, 0))]) h rfl (fun _ _ hv => zx_run_up (by omega) (r_X8_take (d := d) hv)) (fun v12 M20 h => ?_)
                    show zx_E _ _ _ (140, [some (.inr (some (14, 0, 0, 0))), some (.inr (some (17, i, 0, 0)))], [.inl v12, .inr (some (17, i, 0, 0))], (zx_lay M20, n)) _
                    refine zx_E.brh (c := v12 = 0) (s1 := (150, [some (.inr (some (14, 0, 0, 0))), some (.inr (some (17, i, 0, 0)))], [.inr (some (17, i, 0, 0))], (zx_lay M20, n))) (s2 := (143, [some (.inr (some (14, 0, 0, 0))), some (.inr (some (17, i, 0, 0)))], [.inr (some (17, i, 0, 0))], (zx_lay M20, n))) h (zx_if_eq rfl) (fun _ h => ?_) (fun _ h => ?_)
                    · refine zx_E.go 1 (s' := (153, [some (.inr (some (14, 0, 0, 0))), some (.inr (some (17, i, 0, 0)))], [.inl 480, .inr (some (17, i, 0, 0))], (zx_lay M20, n))) rfl ?_
                      refine zx_E.pu h rfl rfl (fun h => absurd h (by decide)) (fun M21 h => ?_)
                      show zx_E _ _ _ (156, [some (.inr (some (14, 0, 0, 0))), some (.inr (some (17, i, 0, 0)))], [], (zx_lay M21, n)) _
                      refine zx_E.go 2 (s' := (160, [some (.inr (some (14, 0, 0, 0))), some (.inr (some (17, i, 0, 0)))], [.inl (M21 (17, i, 0, 0) 6)], (zx_lay M21, n))) rfl ?_
                      refine zx_E.brh (c := (M21 (17, i, 0, 0) 6) < 0) (s1 := (167, [some (.inr (some (14, 0, 0, 0))), some (.inr (some (17, i, 0, 0)))], [], (zx_lay M21, n))) (s2 := (163, [some (.inr (some (14, 0, 0, 0))), some (.inr (some (17, i, 0, 0)))], [], (zx_lay M21, n))) h (zx_if_lt rfl) (fun _ h => ?_) (fun _ h => ?_)
                      · refine zx_E.go 1 (s' := (168, [some (.inr (some (14, 0, 0, 0))), some (.inr (some (17, i, 0, 0)))], [.inl 0], (zx_lay M21, n))) rfl ?_
                        exact zx_E.ri h rfl (fun _ => Or.inl rfl)
                      · refine zx_E.go 2 (s' := (168, [some (.inr (some (14, 0, 0, 0))), some (.inr (some (17, i, 0, 0)))], [.inl 1], (zx_lay M21, n))) rfl ?_
                        exact zx_E.ri h rfl (fun _ => Or.inr rfl)
                    · refine zx_E.go 1 (s' := (144, [some (.inr (some (14, 0, 0, 0))), some (.inr (some (17, i, 0, 0)))], [.inr (some (14, 0, 0, 0)), .inr (some (17, i, 0, 0))], (zx_lay M20, n))) rfl ?_
                      refine zx_E.cv (y := 78) (as := [.inr (some (14, 0, 0, 0))]) (rest := [.inr (some (17, i, 0, 0))]) h rfl (fun _ _ hv => zx_run_up (by omega) (r_X8_readNumber (d := d) hv)) (fun v13 M22 h => ?_)
                      show zx_E _ _ _ (147, [some (.inr (some (14, 0, 0, 0))), some (.inr (some (17, i, 0, 0)))], [.inl v13, .inr (some (17, i, 0, 0))], (zx_lay M22, n)) _
                      refine zx_E.go 1 (s' := (153, [some (.inr (some (14, 0, 0, 0))), some (.inr (some (17, i, 0, 0)))], [.inl v13, .inr (some (17, i, 0, 0))], (zx_lay M22, n))) rfl ?_
                      refine zx_E.pu h rfl rfl (fun h => absurd h (by decide)) (fun M23 h => ?_)
                      show zx_E _ _ _ (156, [some (.inr (some (14, 0, 0, 0))), some (.inr (some (17, i, 0, 0)))], [], (zx_lay M23, n)) _
                      refine zx_E.go 2 (s' := (160, [some (.inr (some (14, 0, 0, 0))), some (.inr (some (17, i, 0, 0)))], [.inl (M23 (17, i, 0, 0) 6)], (zx_lay M23, n))) rfl ?_
                      refine zx_E.brh (c := (M23 (17, i, 0, 0) 6) < 0) (s1 := (167, [some (.inr (some (14, 0, 0, 0))), some (.inr (some (17, i, 0, 0)))], [], (zx_lay M23, n))) (s2 := (163, [some (.inr (some (14, 0, 0, 0))), some (.inr (some (17, i, 0, 0)))], [], (zx_lay M23, n))) h (zx_if_lt rfl) (fun _ h => ?_) (fun _ h => ?_)
                      · refine zx_E.go 1 (s' := (168, [some (.inr (some (14, 0, 0, 0))), some (.inr (some (17, i, 0, 0)))], [.inl 0], (zx_lay M23, n))) rfl ?_
                        exact zx_E.ri h rfl (fun _ => Or.inl rfl)
                      · refine zx_E.go 2 (s' := (168, [some (.inr (some (14, 0, 0, 0))), some (.inr (some (17, i, 0, 0)))], [.inl 1], (zx_lay M23, n))) rfl ?_
                        exact zx_E.ri h rfl (fun _ => Or.inr rfl)
                  · refine zx_E.go 1 (s' := (132, [some (.inr (some (14, 0, 0, 0))), some (.inr (some (17, i, 0, 0)))], [.inl 0], (zx_lay M19, n))) rfl ?_
                    exact zx_E.ri h rfl (fun _ => Or.inl rfl)
              · refine zx_E.go 1 (s' := (100, [some (.inr (some (14, 0, 0, 0))), some (.inr (some (17, i, 0, 0)))], [.inl 0], (zx_lay M11, n))) rfl ?_
                exact zx_E.ri h rfl (fun _ => Or.inl rfl)
def g_X8_readBound (M : zx_Y) (i : Nat) : Option (Int32 × zx_Y) := (zv (g_X8_readNumber M) fun v1 M1 => (zl (zx_up M1 (17, i, 0, 0) 7 v1) fun M2 => (if (M2 (17, i, 0, 0) 7) < 0 then (some (0, M2)) else (some (1, M2)))))
set_option maxRecDepth 100000 in
set_option maxHeartbeats 4000000 in
theorem r_X8_readBound {X : zx_X} {d n : Nat} {M : zx_Y} {i : Nat} {rv : Int32} {rM : zx_Y} (h : g_X8_readBound M i = some (rv, rM)) : zx_run X (d + 4) 74 [.inr (some (14, 0, 0, 0)), .inr (some (17, i, 0, 0))] (zx_lay M, n) (some (.inl rv), (zx_lay rM, n)) := by
  refine zx_run_of zc_X8_readBound [some (.inr (some (14, 0, 0, 0))), some (.inr (some (17, i, 0, 0)))] rfl rfl ?_
  unfold g_X8_readBound at h
  refine zx_E.go 2 (s' := (2, [some (.inr (some (14, 0, 0, 0))), some (.inr (some (17, i, 0, 0)))], [.inr (some (14, 0, 0, 0)), .inr (some (17, i, 0, 0))], (zx_lay M, n))) rfl ?_
  refine zx_E.cv (y := 78) (as := [.inr (some (14, 0, 0, 0))]) (rest := [.inr (some (17, i, 0, 0))]) h rfl (fun _ _ hv => zx_run_up (by omega) (r_X8_readNumber (d := d) hv)) (fun v1 M1 h => ?_)
  show zx_E _ _ _ (5, [some (.inr (some (14, 0, 0, 0))), some (.inr (some (17, i, 0, 0)))], [.inl v1, .inr (some (17, i, 0, 0))], (zx_lay M1, n)) _
  refine zx_E.pu h rfl rfl (fun h => absurd h (by decide)) (fun M2 h => ?_)
  show zx_E _ _ _ (8, [some (.inr (some (14, 0, 0, 0))), some (.inr (some (17, i, 0, 0)))], [], (zx_lay M2, n)) _
  refine zx_E.go 2 (s' := (12, [some (.inr (some (14, 0, 0, 0))), some (.inr (some (17, i, 0, 0)))], [.inl (M2 (17, i, 0, 0) 7)], (zx_lay M2, n))) rfl ?_
  refine zx_E.brh (c := (M2 (17, i, 0, 0) 7) < 0) (s1 := (19, [some (.inr (some (14, 0, 0, 0))), some (.inr (some (17, i, 0, 0)))], [], (zx_lay M2, n))) (s2 := (15, [some (.inr (some (14, 0, 0, 0))), some (.inr (some (17, i, 0, 0)))], [], (zx_lay M2, n))) h (zx_if_lt rfl) (fun _ h => ?_) (fun _ h => ?_)
  · refine zx_E.go 1 (s' := (20, [some (.inr (some (14, 0, 0, 0))), some (.inr (some (17, i, 0, 0)))], [.inl 0], (zx_lay M2, n))) rfl ?_
    exact zx_E.ri h rfl (fun _ => Or.inl rfl)
  · refine zx_E.go 2 (s' := (20, [some (.inr (some (14, 0, 0, 0))), some (.inr (some (17, i, 0, 0)))], [.inl 1], (zx_lay M2, n))) rfl ?_
    exact zx_E.ri h rfl (fun _ => Or.inr rfl)
def g_X8_readCommand (M : zx_Y) (i : Nat) : Option (Int32 × zx_Y) := (zb (g_X8_peek M) fun v1 => (zl (zx_up M (17, i, 0, 0) 0 v1) fun M1 => (if (M1 (17, i, 0, 0) 0) = 76 then (zl (zx_up M1 (14, 0, 0, 0) 4 ((M1 (14, 0, 0, 0) 4) + 1)) fun M2 => (zv (g_X8_readLengths M2 i) fun v2 M3 => (zo v2 ((some (v2, M3)))))) else (if (M1 (17, i, 0, 0) 0) = 77 then (some (0, M1)) else (if (M1 (17, i, 0, 0) 0) = 78 then (some (0, M1)) else (if (M1 (17, i, 0, 0) 0) = 79 then (zl (zx_up M1 (14, 0, 0, 0) 4 ((M1 (14, 0, 0, 0) 4) + 1)) fun M4 => (zv (g_X8_readOrder M4 i) fun v3 M5 => (zo v3 ((some (v3, M5)))))) else (if (M1 (17, i, 0, 0) 0) = 80 then (some (0, M1)) else (if (M1 (17, i, 0, 0) 0) = 81 then (some (0, M1)) else (if (M1 (17, i, 0, 0) 0) = 82 then (some (0, M1)) else (if (M1 (17, i, 0, 0) 0) = 83 then (zl (zx_up M1 (14, 0, 0, 0) 4 ((M1 (14, 0, 0, 0) 4) + 1)) fun M6 => (zv (g_X8_readStation M6 i) fun v4 M7 => (zo v4 ((some (v4, M7)))))) else (if (M1 (17, i, 0, 0) 0) = 84 then (zl (zx_up M1 (14, 0, 0, 0) 4 ((M1 (14, 0, 0, 0) 4) + 1)) fun M8 => (zv (g_X8_readTrain M8 i) fun v5 M9 => (zo v5 ((some (v5, M9)))))) else (if (M1 (17, i, 0, 0) 0) = 85 then (some (0, M1)) else (if (M1 (17, i, 0, 0) 0) = 86 then (some (0, M1)) else (if (M1 (17, i, 0, 0) 0) = 87 then (zl (zx_up M1 (14, 0, 0, 0) 4 ((M1 (14, 0, 0, 0) 4) + 1)) fun M10 => (zv (g_X8_readBound M10 i) fun v6 M11 => (zo v6 ((some (v6, M11)))))) else (some (0, M1))))))))))))))))
set_option maxRecDepth 100000 in
set_option maxHeartbeats 4000000 in
theorem r_X8_readCommand {X : zx_X} {d n : Nat} {M : zx_Y} {i : Nat} {rv : Int32} {rM : zx_Y} (h : g_X8_readCommand M i = some (rv, rM)) : zx_run X (d + 5) 69 [.inr (some (14, 0, 0, 0)), .inr (some (17, i, 0, 0))] (zx_lay M, n) (some (.inl rv), (zx_lay rM, n)) := by
  refine zx_run_of zc_X8_readCommand [some (.inr (some (14, 0, 0, 0))), some (.inr (some (17, i, 0, 0)))] rfl rfl ?_
  unfold g_X8_readCommand at h
  refine zx_E.go 2 (s' := (2, [some (.inr (some (14, 0, 0, 0))), some (.inr (some (17, i, 0, 0)))], [.inr (some (14, 0, 0, 0)), .inr (some (17, i, 0, 0))], (zx_lay M, n))) rfl ?_
  refine zx_E.cb (y := 75) (as := [.inr (some (14, 0, 0, 0))]) (rest := [.inr (some (17, i, 0, 0))]) h rfl (fun _ hv => zx_run_up (by omega) (r_X8_peek (d := d) hv)) (fun v1 h => ?_)
  show zx_E _ _ _ (5, [some (.inr (some (14, 0, 0, 0))), some (.inr (some (17, i, 0, 0)))], [.inl v1, .inr (some (17, i, 0, 0))], (zx_lay M, n)) _
  refine zx_E.pu h rfl rfl (fun h => absurd h (by decide)) (fun M1 h => ?_)
  show zx_E _ _ _ (8, [some (.inr (some (14, 0, 0, 0))), some (.inr (some (17, i, 0, 0)))], [], (zx_lay M1, n)) _
  refine zx_E.go 2 (s' := (12, [some (.inr (some (14, 0, 0, 0))), some (.inr (some (17, i, 0, 0)))], [.inl (M1 (17, i, 0, 0) 0)], (zx_lay M1, n))) rfl ?_
  refine zx_E.one (s' := (zx_pick (M1 (17, i, 0, 0) 0) 76 [76, 156, 156, 124, 156, 156, 156, 92, 108, 156, 156, 140] 156, [some (.inr (some (14, 0, 0, 0))), some (.inr (some (17, i, 0, 0)))], [], (zx_lay M1, n))) rfl ?_
  refine zx_E.pickh (k' := 77) h (by decide) (fun _ h => ?_) (fun _ h => ?_)
  · refine zx_E.go 4 (s' := (82, [some (.inr (some (14, 0, 0, 0))), some (.inr (some (17, i, 0, 0)))], [.inl 1, .inl (M1 (14, 0, 0, 0) 4), .inr (some (14, 0, 0, 0))], (zx_lay M1, n))) rfl ?_
    refine zx_E.go 1 (s' := (83, [some (.inr (some (14, 0, 0, 0))), some (.inr (some (17, i, 0, 0)))], [.inl ((M1 (14, 0, 0, 0) 4) + 1), .inr (some (14, 0, 0, 0))], (zx_lay M1, n))) rfl ?_
    refine zx_E.pu h rfl rfl (fun h => absurd h (by decide)) (fun M2 h => ?_)
    show zx_E _ _ _ (86, [some (.inr (some (14, 0, 0, 0))), some (.inr (some (17, i, 0, 0)))], [], (zx_lay M2, n)) _
    refine zx_E.go 2 (s' := (88, [some (.inr (some (14, 0, 0, 0))), some (.inr (some (17, i, 0, 0)))], [.inr (some (17, i, 0, 0)), .inr (some (14, 0, 0, 0))], (zx_lay M2, n))) rfl ?_
    refine zx_E.cv (y := 70) (as := [.inr (some (14, 0, 0, 0)), .inr (some (17, i, 0, 0))]) (rest := []) h rfl (fun _ _ hv => zx_run_up (by omega) (r_X8_readLengths (d := d) hv)) (fun v2 M3 h => ?_)
    show zx_E _ _ _ (91, [some (.inr (some (14, 0, 0, 0))), some (.inr (some (17, i, 0, 0)))], [.inl v2], (zx_lay M3, n)) _
    refine zx_E.ob h (fun hv h => ?_)
    exact zx_E.ri h rfl (fun _ => hv)
  · refine zx_E.pickh (k' := 78) h (by decide) (fun _ h => ?_) (fun _ h => ?_)
    · refine zx_E.go 1 (s' := (157, [some (.inr (some (14, 0, 0, 0))), some (.inr (some (17, i, 0, 0)))], [.inl 0], (zx_lay M1, n))) rfl ?_
      exact zx_E.ri h rfl (fun _ => Or.inl rfl)
    · refine zx_E.pickh (k' := 79) h (by decide) (fun _ h => ?_) (fun _ h => ?_)
      · refine zx_E.go 1 (s' := (157, [some (.inr (some (14, 0, 0, 0))), some (.inr (some (17, i, 0, 0)))], [.inl 0], (zx_lay M1, n))) rfl ?_
        exact zx_E.ri h rfl (fun _ => Or.inl rfl)
      · refine zx_E.pickh (k' := 80) h (by decide) (fun _ h => ?_) (fun _ h => ?_)
        · refine zx_E.go 4 (s' := (130, [some (.inr (some (14, 0, 0, 0))), some (.inr (some (17, i, 0, 0)))], [.inl 1, .inl (M1 (14, 0, 0, 0) 4), .inr (some (14, 0, 0, 0))], (zx_lay M1, n))) rfl ?_
          refine zx_E.go 1 (s' := (131, [some (.inr (some (14, 0, 0, 0))), some (.inr (some (17, i, 0, 0)))], [.inl ((M1 (14, 0, 0, 0) 4) + 1), .inr (some (14, 0, 0, 0))], (zx_lay M1, n))) rfl ?_
          refine zx_E.pu h rfl rfl (fun h => absurd h (by decide)) (fun M4 h => ?_)
          show zx_E _ _ _ (134, [some (.inr (some (14, 0, 0, 0))), some (.inr (some (17, i, 0, 0)))], [], (zx_lay M4, n)) _
          refine zx_E.go 2 (s' := (136, [some (.inr (some (14, 0, 0, 0))), some (.inr (some (17, i, 0, 0)))], [.inr (some (17, i, 0, 0)), .inr (some (14, 0, 0, 0))], (zx_lay M4, n))) rfl ?_
          refine zx_E.cv (y := 73) (as := [.inr (some (14, 0, 0, 0)), .inr (some (17, i, 0, 0))]) (rest := []) h rfl (fun _ _ hv => zx_run_up (by omega) (r_X8_readOrder (d := d) hv)) (fun v3 M5 h => ?_)
          show zx_E _ _ _ (139, [some (.inr (some (14, 0, 0, 0))), some (.inr (some (17, i, 0, 0)))], [.inl v3], (zx_lay M5, n)) _
          refine zx_E.ob h (fun hv h => ?_)
          exact zx_E.ri h rfl (fun _ => hv)
        · refine zx_E.pickh (k' := 81) h (by decide) (fun _ h => ?_) (fun _ h => ?_)
          · refine zx_E.go 1 (s' := (157, [some (.inr (some (14, 0, 0, 0))), some (.inr (some (17, i, 0, 0)))], [.inl 0], (zx_lay M1, n))) rfl ?_
            exact zx_E.ri h rfl (fun _ => Or.inl rfl)
          · refine zx_E.pickh (k' := 82) h (by decide) (fun _ h => ?_) (fun _ h => ?_)
            · refine zx_E.go 1 (s' := (157, [some (.inr (some (14, 0, 0, 0))), some (.inr (some (17, i, 0, 0)))], [.inl 0], (zx_lay M1, n))) rfl ?_
              exact zx_E.ri h rfl (fun _ => Or.inl rfl)
            · refine zx_E.pickh (k' := 83) h (by decide) (fun _ h => ?_) (fun _ h => ?_)
              · refine zx_E.go 1 (s' := (157, [some (.inr (some (14, 0, 0, 0))), some (.inr (some (17, i, 0, 0)))], [.inl 0], (zx_lay M1, n))) rfl ?_
                exact zx_E.ri h rfl (fun _ => Or.inl rfl)
              · refine zx_E.pickh (k' := 84) h (by decide) (fun _ h => ?_) (fun _ h => ?_)
                · refine zx_E.go 4 (s' := (98, [some (.inr (some (14, 0, 0, 0))), some (.inr (some (17, i, 0, 0)))], [.inl 1, .inl (M1 (14, 0, 0, 0) 4), .inr (some (14, 0, 0, 0))], (zx_lay M1, n))) rfl ?_
                  refine zx_E.go 1 (s' := (99, [some (.inr (some (14, 0, 0, 0))), some (.inr (some (17, i, 0, 0)))], [.inl ((M1 (14, 0, 0, 0) 4) + 1), .inr (some (14, 0, 0, 0))], (zx_lay M1, n))) rfl ?_
                  refine zx_E.pu h rfl rfl (fun h => absurd h (by decide)) (fun M6 h => ?_)
                  show zx_E _ _ _ (102, [some (.inr (some (14, 0, 0, 0))), some (.inr (some (17, i, 0, 0)))], [], (zx_lay M6, n)) _
                  refine zx_E.go 2 (s' := (104, [some (.inr (some (14, 0, 0, 0))), some (.inr (some (17, i, 0, 0)))], [.inr (some (17, i, 0, 0)), .inr (some (14, 0, 0, 0))], (zx_lay M6, n))) rfl ?_
                  refine zx_E.cv (y := 71) (as := [.inr (some (14, 0, 0, 0)), .inr (some (17, i, 0, 0))]) (rest := []) h rfl (fun _ _ hv => zx_run_up (by omega) (r_X8_readStation (d := d) hv)) (fun v4 M7 h => ?_)
                  show zx_E _ _ _ (107, [some (.inr (some (14, 0, 0, 0))), some (.inr (some (17, i, 0, 0)))], [.inl v4], (zx_lay M7, n)) _
                  refine zx_E.ob h (fun hv h => ?_)
                  exact zx_E.ri h rfl (fun _ => hv)
                · refine zx_E.pickh (k' := 85) h (by decide) (fun _ h => ?_) (fun _ h => ?_)
                  · refine zx_E.go 4 (s' := (114, [some (.inr (some (14, 0, 0, 0))), some (.inr (some (17, i, 0, 0)))], [.inl 1, .inl (M1 (14, 0, 0, 0) 4), .inr (some (14, 0, 0, 0))], (zx_lay M1, n))) rfl ?_
                    refine zx_E.go 1 (s' := (115, [some (.inr (some (14, 0, 0, 0))), some (.inr (some (17, i, 0, 0)))], [.inl ((M1 (14, 0, 0, 0) 4) + 1), .inr (some (14, 0, 0, 0))], (zx_lay M1, n))) rfl ?_
                    refine zx_E.pu h rfl rfl (fun h => absurd h (by decide)) (fun M8 h => ?_)
                    show zx_E _ _ _ (118, [some (.inr (some (14, 0, 0, 0))), some (.inr (some (17, i, 0, 0)))], [], (zx_lay M8, n)) _
                    refine zx_E.go 2 (s' := (120, [some (.inr (some (14, 0, 0, 0))), some (.inr (some (17, i, 0, 0)))], [.inr (some (17, i, 0, 0)), .inr (some (14, 0, 0, 0))], (zx_lay M8, n))) rfl ?_
                    refine zx_E.cv (y := 72) (as := [.inr (some (14, 0, 0, 0)), .inr (some (17, i, 0, 0))]) (rest := []) h rfl (fun _ _ hv => zx_run_up (by omega) (r_X8_readTrain (d := d) hv)) (fun v5 M9 h => ?_)
                    show zx_E _ _ _ (123, [some (.inr (some (14, 0, 0, 0))), some (.inr (some (17, i, 0, 0)))], [.inl v5], (zx_lay M9, n)) _
                    refine zx_E.ob h (fun hv h => ?_)
                    exact zx_E.ri h rfl (fun _ => hv)
                  · refine zx_E.pickh (k' := 86) h (by decide) (fun _ h => ?_) (fun _ h => ?_)
                    · refine zx_E.go 1 (s' := (157, [some (.inr (some (14, 0, 0, 0))), some (.inr (some (17, i, 0, 0)))], [.inl 0], (zx_lay M1, n))) rfl ?_
                      exact zx_E.ri h rfl (fun _ => Or.inl rfl)
                    · refine zx_E.pickh (k' := 87) h (by decide) (fun _ h => ?_) (fun _ h => ?_)
                      · refine zx_E.go 1 (s' := (157, [some (.inr (some (14, 0, 0, 0))), some (.inr (some (17, i, 0, 0)))], [.inl 0], (zx_lay M1, n))) rfl ?_
                        exact zx_E.ri h rfl (fun _ => Or.inl rfl)
                      · refine zx_E.pickh (k' := 88) h (by decide) (fun _ h => ?_) (fun _ h => ?_)
                        · refine zx_E.go 4 (s' := (146, [some (.inr (some (14, 0, 0, 0))), some (.inr (some (17, i, 0, 0)))], [.inl 1, .inl (M1 (14, 0, 0, 0) 4), .inr (some (14, 0, 0, 0))], (zx_lay M1, n))) rfl ?_
                          refine zx_E.go 1 (s' := (147, [some (.inr (some (14, 0, 0, 0))), some (.inr (some (17, i, 0, 0)))], [.inl ((M1 (14, 0, 0, 0) 4) + 1), .inr (some (14, 0, 0, 0))], (zx_lay M1, n))) rfl ?_
                          refine zx_E.pu h rfl rfl (fun h => absurd h (by decide)) (fun M10 h => ?_)
                          show zx_E _ _ _ (150, [some (.inr (some (14, 0, 0, 0))), some (.inr (some (17, i, 0, 0)))], [], (zx_lay M10, n)) _
                          refine zx_E.go 2 (s' := (152, [some (.inr (some (14, 0, 0, 0))), some (.inr (some (17, i, 0, 0)))], [.inr (some (17, i, 0, 0)), .inr (some (14, 0, 0, 0))], (zx_lay M10, n))) rfl ?_
                          refine zx_E.cv (y := 74) (as := [.inr (some (14, 0, 0, 0)), .inr (some (17, i, 0, 0))]) (rest := []) h rfl (fun _ _ hv => zx_run_up (by omega) (r_X8_readBound (d := d) hv)) (fun v6 M11 h => ?_)
                          show zx_E _ _ _ (155, [some (.inr (some (14, 0, 0, 0))), some (.inr (some (17, i, 0, 0)))], [.inl v6], (zx_lay M11, n)) _
                          refine zx_E.ob h (fun hv h => ?_)
                          exact zx_E.ri h rfl (fun _ => hv)
                        · show zx_E _ _ _ (156, [some (.inr (some (14, 0, 0, 0))), some (.inr (some (17, i, 0, 0)))], [], (zx_lay M1, n)) _
                          refine zx_E.go 1 (s' := (157, [some (.inr (some (14, 0, 0, 0))), some (.inr (some (17, i, 0, 0)))], [.inl 0], (zx_lay M1, n))) rfl ?_
                          exact zx_E.ri h rfl (fun _ => Or.inl rfl)
def lg_X8_readText_12 (kk : Int32 → zx_Y → Option (Int32 × zx_Y)) : Nat → Int32 → zx_Y → Option (Int32 × zx_Y)
  | 0, _, _ => none
  | q + 1, w1, M => (if (20 : Int32) ≤ w1 then (kk w1 M) else (zi w1 20 fun k1 => (zv (g_X8_readCommand M k1) fun v1 M1 => (if v1 = 0 then (some (0, M1)) else (zl (zx_up M1 (14, 0, 0, 0) 3 (w1 + 1)) fun M2 => (if (M2 (14, 0, 0, 0) 4) = (M2 (14, 0, 0, 0) 1) then (some (1, M2)) else (zv (g_X8_take M2 59) fun v2 M3 => (if v2 = 0 then (some (0, M3)) else (lg_X8_readText_12 kk q (w1 + 1) M3)))))))))
set_option maxRecDepth 100000 in
set_option maxHeartbeats 4000000 in
theorem rl_X8_readText_12 {X : zx_X} {d n : Nat} {kk : Int32 → zx_Y → Option (Int32 × zx_Y)} {rv : Int32} {rM : zx_Y} (hk : ∀ (w1 : Int32) (M : zx_Y), kk w1 M = some (rv, rM) → zx_E X (d + 5) zc_X8_readText (70, [some (.inr (some (14, 0, 0, 0))), some (.inl w1)], [], (zx_lay M, n)) (some (.inl rv), (zx_lay rM, n))) : ∀ (q : Nat) (w1 : Int32) (M : zx_Y), lg_X8_readText_12 kk q w1 M = some (rv, rM) → zx_E X (d + 5) zc_X8_readText (12, [some (.inr (some (14, 0, 0, 0))), some (.inl w1)], [], (zx_lay M, n)) (some (.inl rv), (zx_lay rM, n))
  | 0, w1, M, h => by
    rw [lg_X8_readText_12.eq_1] at h
    cases h
  | q + 1, w1, M, h => by
    rw [lg_X8_readText_12.eq_2] at h
    refine zx_E.go 2 (s' := (15, [some (.inr (some (14, 0, 0, 0))), some (.inl w1)], [.inl 20, .inl w1], (zx_lay M, n))) rfl ?_
    refine zx_E.brh (c := (20 : Int32) ≤ w1) (s1 := (70, [some (.inr (some (14, 0, 0, 0))), some (.inl w1)], [], (zx_lay M, n))) (s2 := (18, [some (.inr (some (14, 0, 0, 0))), some (.inl w1)], [], (zx_lay M, n))) h (zx_ic_ge rfl) (fun _ h => ?_) (fun _ h => ?_)
    · exact hk _ _ h
    · refine zx_E.go 4 (s' := (24, [some (.inr (some (14, 0, 0, 0))), some (.inl w1)], [.inl w1, .inr (some (16, 0, 0, 0)), .inr (some (14, 0, 0, 0))], (zx_lay M, n))) rfl ?_
      refine zx_E.ix h (fun k1 hx_k1 hl_k1 h => ?_)
      refine zx_E.aald (k := k1) (h := (16, 0, 0, 0)) (h' := (17, k1, 0, 0)) rfl rfl hx_k1 hl_k1 rfl ?_
      show zx_E _ _ _ (25, [some (.inr (some (14, 0, 0, 0))), some (.inl w1)], [.inr (some (17, k1, 0, 0)), .inr (some (14, 0, 0, 0))], (zx_lay M, n)) _
      refine zx_E.cv (y := 69) (as := [.inr (some (14, 0, 0, 0)), .inr (some (17, k1, 0, 0))]) (rest := []) h rfl (fun _ _ hv => zx_run_up (by omega) (r_X8_readCommand (d := d) hv)) (fun v1 M1 h => ?_)
      show zx_E _ _ _ (28, [some (.inr (some (14, 0, 0, 0))), some (.inl w1)], [.inl v1], (zx_lay M1, n)) _
      refine zx_E.brh (c := v1 = 0) (s1 := (31, [some (.inr (some (14, 0, 0, 0))), some (.inl w1)], [], (zx_lay M1, n))) (s2 := (33, [some (.inr (some (14, 0, 0, 0))), some (.inl w1)], [], (zx_lay M1, n))) h (zx_if_ne rfl) (fun _ h => ?_) (fun _ h => ?_)
      · refine zx_E.go 1 (s' := (32, [some (.inr (some (14, 0, 0, 0))), some (.inl w1)], [.inl 0], (zx_lay M1, n))) rfl ?_
        exact zx_E.ri h rfl (fun _ => Or.inl rfl)
      · refine zx_E.go 4 (s' := (37, [some (.inr (some (14, 0, 0, 0))), some (.inl w1)], [.inl (w1 + 1), .inr (some (14, 0, 0, 0))], (zx_lay M1, n))) rfl ?_
        refine zx_E.pu h rfl rfl (fun h => absurd h (by decide)) (fun M2 h => ?_)
        show zx_E _ _ _ (40, [some (.inr (some (14, 0, 0, 0))), some (.inl w1)], [], (zx_lay M2, n)) _
        refine zx_E.go 4 (s' := (48, [some (.inr (some (14, 0, 0, 0))), some (.inl w1)], [.inl (M2 (14, 0, 0, 0) 1), .inl (M2 (14, 0, 0, 0) 4)], (zx_lay M2, n))) rfl ?_
        refine zx_E.brh (c := (M2 (14, 0, 0, 0) 4) = (M2 (14, 0, 0, 0) 1)) (s1 := (51, [some (.inr (some (14, 0, 0, 0))), some (.inl w1)], [], (zx_lay M2, n))) (s2 := (53, [some (.inr (some (14, 0, 0, 0))), some (.inl w1)], [], (zx_lay M2, n))) h (zx_ic_ne rfl) (fun _ h => ?_) (fun _ h => ?_)
        · refine zx_E.go 1 (s' := (52, [some (.inr (some (14, 0, 0, 0))), some (.inl w1)], [.inl 1], (zx_lay M2, n))) rfl ?_
          exact zx_E.ri h rfl (fun _ => Or.inr rfl)
        · refine zx_E.go 2 (s' := (56, [some (.inr (some (14, 0, 0, 0))), some (.inl w1)], [.inl 59, .inr (some (14, 0, 0, 0))], (zx_lay M2, n))) rfl ?_
          refine zx_E.cv (y := 76) (as := [.inr (some (14, 0, 0, 0)), .inl 59]) (rest := []) h rfl (fun _ _ hv => zx_run_up (by omega) (r_X8_take (d := d) hv)) (fun v2 M3 h => ?_)
          show zx_E _ _ _ (59, [some (.inr (some (14, 0, 0, 0))), some (.inl w1)], [.inl v2], (zx_lay M3, n)) _
          refine zx_E.brh (c := v2 = 0) (s1 := (62, [some (.inr (some (14, 0, 0, 0))), some (.inl w1)], [], (zx_lay M3, n))) (s2 := (64, [some (.inr (some (14, 0, 0, 0))), some (.inl w1)], [], (zx_lay M3, n))) h (zx_if_ne rfl) (fun _ h => ?_) (fun _ h => ?_)
          · refine zx_E.go 1 (s' := (63, [some (.inr (some (14, 0, 0, 0))), some (.inl w1)], [.inl 0], (zx_lay M3, n))) rfl ?_
            exact zx_E.ri h rfl (fun _ => Or.inl rfl)
          · refine zx_E.go 2 (s' := (12, [some (.inr (some (14, 0, 0, 0))), some (.inl (w1 + 1))], [], (zx_lay M3, n))) rfl ?_
            exact rl_X8_readText_12 hk q (w1 + 1) M3 h
def g_X8_readText (M : zx_Y) : Option (Int32 × zx_Y) := (zl (zx_up M (14, 0, 0, 0) 4 0) fun M1 => (zl (zx_up M1 (14, 0, 0, 0) 3 0) fun M2 => (lg_X8_readText_12 (fun v1 M3 => (some (0, M3))) 1000 0 M2)))
set_option maxRecDepth 100000 in
set_option maxHeartbeats 4000000 in
theorem r_X8_readText {X : zx_X} {d n : Nat} {M : zx_Y} {rv : Int32} {rM : zx_Y} (h : g_X8_readText M = some (rv, rM)) : zx_run X (d + 6) 68 [.inr (some (14, 0, 0, 0))] (zx_lay M, n) (some (.inl rv), (zx_lay rM, n)) := by
  refine zx_run_of zc_X8_readText [some (.inr (some (14, 0, 0, 0))), none] rfl rfl ?_
  unfold g_X8_readText at h
  refine zx_E.go 2 (s' := (2, [some (.inr (some (14, 0, 0, 0))), none], [.inl 0, .inr (some (14, 0, 0, 0))], (zx_lay M, n))) rfl ?_
  refine zx_E.pu h rfl rfl (fun h => absurd h (by decide)) (fun M1 h => ?_)
  show zx_E _ _ _ (5, [some (.inr (some (14, 0, 0, 0))), none], [], (zx_lay M1, n)) _
  refine zx_E.go 2 (s' := (7, [some (.inr (some (14, 0, 0, 0))), none], [.inl 0, .inr (some (14, 0, 0, 0))], (zx_lay M1, n))) rfl ?_
  refine zx_E.pu h rfl rfl (fun h => absurd h (by decide)) (fun M2 h => ?_)
  show zx_E _ _ _ (10, [some (.inr (some (14, 0, 0, 0))), none], [], (zx_lay M2, n)) _
  refine zx_E.go 2 (s' := (12, [some (.inr (some (14, 0, 0, 0))), some (.inl 0)], [], (zx_lay M2, n))) rfl ?_
  refine rl_X8_readText_12 (fun v1 M3 h => ?_) 1000  0 M2 h
  refine zx_E.go 1 (s' := (71, [some (.inr (some (14, 0, 0, 0))), some (.inl v1)], [.inl 0], (zx_lay M3, n))) rfl ?_
  exact zx_E.ri h rfl (fun _ => Or.inl rfl)
def g_X4_keep (M : zx_Y) (x0 : Int32) (x1 : Int32) (x2 : Int32) : Option zx_Y := (zl (zx_up M (19, 0, 0, 0) 0 1) fun M1 => (zl (zx_up M1 (20, 0, 0, 0) 0 x0) fun M2 => (zl (zx_up M2 (20, 0, 0, 0) 1 x1) fun M3 => (zl (zx_up M3 (20, 0, 0, 0) 2 x2) fun M4 => (some M4)))))
set_option maxRecDepth 100000 in
set_option maxHeartbeats 4000000 in
theorem r_X4_keep {X : zx_X} {d n : Nat} {M : zx_Y} {x0 : Int32} {x1 : Int32} {x2 : Int32} {rM : zx_Y} (h : g_X4_keep M x0 x1 x2 = some rM) : zx_run X (d + 1) 58 [.inr (some (19, 0, 0, 0)), .inl x0, .inl x1, .inl x2] (zx_lay M, n) (none, (zx_lay rM, n)) := by
  refine zx_run_of zc_X4_keep [some (.inr (some (19, 0, 0, 0))), some (.inl x0), some (.inl x1), some (.inl x2)] rfl rfl ?_
  unfold g_X4_keep at h
  refine zx_E.go 2 (s' := (2, [some (.inr (some (19, 0, 0, 0))), some (.inl x0), some (.inl x1), some (.inl x2)], [.inl 1, .inr (some (19, 0, 0, 0))], (zx_lay M, n))) rfl ?_
  refine zx_E.pu h rfl rfl (fun _ => Or.inr rfl) (fun M1 h => ?_)
  show zx_E _ _ _ (5, [some (.inr (some (19, 0, 0, 0))), some (.inl x0), some (.inl x1), some (.inl x2)], [], (zx_lay M1, n)) _
  refine zx_E.go 4 (s' := (11, [some (.inr (some (19, 0, 0, 0))), some (.inl x0), some (.inl x1), some (.inl x2)], [.inl x0, .inl 0, .inr (some (20, 0, 0, 0))], (zx_lay M1, n))) rfl ?_
  refine zx_E.ia h rfl rfl rfl (by decide) (fun M2 h => ?_)
  show zx_E _ _ _ (12, [some (.inr (some (19, 0, 0, 0))), some (.inl x0), some (.inl x1), some (.inl x2)], [], (zx_lay M2, n)) _
  refine zx_E.go 4 (s' := (18, [some (.inr (some (19, 0, 0, 0))), some (.inl x0), some (.inl x1), some (.inl x2)], [.inl x1, .inl 1, .inr (some (20, 0, 0, 0))], (zx_lay M2, n))) rfl ?_
  refine zx_E.ia h rfl rfl rfl (by decide) (fun M3 h => ?_)
  show zx_E _ _ _ (19, [some (.inr (some (19, 0, 0, 0))), some (.inl x0), some (.inl x1), some (.inl x2)], [], (zx_lay M3, n)) _
  refine zx_E.go 4 (s' := (25, [some (.inr (some (19, 0, 0, 0))), some (.inl x0), some (.inl x1), some (.inl x2)], [.inl x2, .inl 2, .inr (some (20, 0, 0, 0))], (zx_lay M3, n))) rfl ?_
  refine zx_E.ia h rfl rfl rfl (by decide) (fun M4 h => ?_)
  show zx_E _ _ _ (26, [some (.inr (some (19, 0, 0, 0))), some (.inl x0), some (.inl x1), some (.inl x2)], [], (zx_lay M4, n)) _
  exact zx_E.r0 h rfl
def g_X7_copyFrom (M : zx_Y) (l : Nat) (i : Nat) (m : Nat) (j : Nat) : Option zx_Y := (zl (zx_up M (3, l, i, 0) 0 (M (3, m, j, 0) 0)) fun M1 => (zo (M1 (3, m, j, 0) 1) (zl (zx_up M1 (3, l, i, 0) 1 (M1 (3, m, j, 0) 1)) fun M2 => (zl (zx_up M2 (3, l, i, 0) 2 (M2 (3, m, j, 0) 2)) fun M3 => (some M3)))))
set_option maxRecDepth 100000 in
set_option maxHeartbeats 4000000 in
theorem r_X7_copyFrom {X : zx_X} {d n : Nat} {M : zx_Y} {l : Nat} {i : Nat} {m : Nat} {j : Nat} {rM : zx_Y} (h : g_X7_copyFrom M l i m j = some rM) : zx_run X (d + 1) 65 [.inr (some (3, l, i, 0)), .inr (some (3, m, j, 0))] (zx_lay M, n) (none, (zx_lay rM, n)) := by
  refine zx_run_of zc_X7_copyFrom [some (.inr (some (3, l, i, 0))), some (.inr (some (3, m, j, 0)))] rfl rfl ?_
  unfold g_X7_copyFrom at h
  refine zx_E.go 3 (s' := (5, [some (.inr (some (3, l, i, 0))), some (.inr (some (3, m, j, 0)))], [.inl (M (3, m, j, 0) 0), .inr (some (3, l, i, 0))], (zx_lay M, n))) rfl ?_
  refine zx_E.pu h rfl rfl (fun h => absurd h (by decide)) (fun M1 h => ?_)
  show zx_E _ _ _ (8, [some (.inr (some (3, l, i, 0))), some (.inr (some (3, m, j, 0)))], [], (zx_lay M1, n)) _
  refine zx_E.go 3 (s' := (13, [some (.inr (some (3, l, i, 0))), some (.inr (some (3, m, j, 0)))], [.inl (M1 (3, m, j, 0) 1), .inr (some (3, l, i, 0))], (zx_lay M1, n))) rfl ?_
  refine zx_E.ob h (fun hv h => ?_)
  refine zx_E.pu h rfl rfl (fun _ => hv) (fun M2 h => ?_)
  show zx_E _ _ _ (16, [some (.inr (some (3, l, i, 0))), some (.inr (some (3, m, j, 0)))], [], (zx_lay M2, n)) _
  refine zx_E.go 3 (s' := (21, [some (.inr (some (3, l, i, 0))), some (.inr (some (3, m, j, 0)))], [.inl (M2 (3, m, j, 0) 2), .inr (some (3, l, i, 0))], (zx_lay M2, n))) rfl ?_
  refine zx_E.pu h rfl rfl (fun h => absurd h (by decide)) (fun M3 h => ?_)
  show zx_E _ _ _ (24, [some (.inr (some (3, l, i, 0))), some (.inr (some (3, m, j, 0)))], [], (zx_lay M3, n)) _
  exact zx_E.r0 h rfl
def lg_X2_copyFrom_50 (l : Nat) (m : Nat) (kk : Int32 → zx_Y → Option zx_Y) : Nat → Int32 → zx_Y → Option zx_Y
  | 0, _, _ => none
  | q + 1, w2, M => (if (8 : Int32) ≤ w2 then (kk w2 M) else (zi w2 8 fun k1 => (zi w2 8 fun k2 => (zm (g_X7_copyFrom M l k1 m k2) fun M1 => (lg_X2_copyFrom_50 l m kk q (w2 + 1) M1)))))
set_option maxRecDepth 100000 in
set_option maxHeartbeats 4000000 in
theorem rl_X2_copyFrom_50 {X : zx_X} {d n : Nat} {l : Nat} {m : Nat} {kk : Int32 → zx_Y → Option zx_Y} {rM : zx_Y} (hk : ∀ (w2 : Int32) (M : zx_Y), kk w2 M = some rM → zx_E X (d + 1) zc_X2_copyFrom (77, [some (.inr (some (1, l, 0, 0))), some (.inr (some (1, m, 0, 0))), some (.inl w2)], [], (zx_lay M, n)) (none, (zx_lay rM, n))) : ∀ (q : Nat) (w2 : Int32) (M : zx_Y), lg_X2_copyFrom_50 l m kk q w2 M = some rM → zx_E X (d + 1) zc_X2_copyFrom (50, [some (.inr (some (1, l, 0, 0))), some (.inr (some (1, m, 0, 0))), some (.inl w2)], [], (zx_lay M, n)) (none, (zx_lay rM, n))
  | 0, w2, M, h => by
    rw [lg_X2_copyFrom_50.eq_1] at h
    cases h
  | q + 1, w2, M, h => by
    rw [lg_X2_copyFrom_50.eq_2] at h
    refine zx_E.go 2 (s' := (53, [some (.inr (some (1, l, 0, 0))), some (.inr (some (1, m, 0, 0))), some (.inl w2)], [.inl 8, .inl w2], (zx_lay M, n))) rfl ?_
    refine zx_E.brh (c := (8 : Int32) ≤ w2) (s1 := (77, [some (.inr (some (1, l, 0, 0))), some (.inr (some (1, m, 0, 0))), some (.inl w2)], [], (zx_lay M, n))) (s2 := (56, [some (.inr (some (1, l, 0, 0))), some (.inr (some (1, m, 0, 0))), some (.inl w2)], [], (zx_lay M, n))) h (zx_ic_ge rfl) (fun _ h => ?_) (fun _ h => ?_)
    · exact hk _ _ h
    · refine zx_E.go 3 (s' := (61, [some (.inr (some (1, l, 0, 0))), some (.inr (some (1, m, 0, 0))), some (.inl w2)], [.inl w2, .inr (some (2, l, 0, 0))], (zx_lay M, n))) rfl ?_
      refine zx_E.ix h (fun k1 hx_k1 hl_k1 h => ?_)
      refine zx_E.aald (k := k1) (h := (2, l, 0, 0)) (h' := (3, l, k1, 0)) rfl rfl hx_k1 hl_k1 rfl ?_
      show zx_E _ _ _ (62, [some (.inr (some (1, l, 0, 0))), some (.inr (some (1, m, 0, 0))), some (.inl w2)], [.inr (some (3, l, k1, 0))], (zx_lay M, n)) _
      refine zx_E.go 3 (s' := (67, [some (.inr (some (1, l, 0, 0))), some (.inr (some (1, m, 0, 0))), some (.inl w2)], [.inl w2, .inr (some (2, m, 0, 0)), .inr (some (3, l, k1, 0))], (zx_lay M, n))) rfl ?_
      refine zx_E.ix h (fun k2 hx_k2 hl_k2 h => ?_)
      refine zx_E.aald (k := k2) (h := (2, m, 0, 0)) (h' := (3, m, k2, 0)) rfl rfl hx_k2 hl_k2 rfl ?_
      show zx_E _ _ _ (68, [some (.inr (some (1, l, 0, 0))), some (.inr (some (1, m, 0, 0))), some (.inl w2)], [.inr (some (3, m, k2, 0)), .inr (some (3, l, k1, 0))], (zx_lay M, n)) _
      refine zx_E.cm (y := 65) (as := [.inr (some (3, l, k1, 0)), .inr (some (3, m, k2, 0))]) (rest := []) h rfl (fun _ hv => zx_run_up (by omega) (r_X7_copyFrom (d := d) hv)) (fun M1 h => ?_)
      show zx_E _ _ _ (71, [some (.inr (some (1, l, 0, 0))), some (.inr (some (1, m, 0, 0))), some (.inl w2)], [], (zx_lay M1, n)) _
      refine zx_E.go 2 (s' := (50, [some (.inr (some (1, l, 0, 0))), some (.inr (some (1, m, 0, 0))), some (.inl (w2 + 1))], [], (zx_lay M1, n))) rfl ?_
      exact rl_X2_copyFrom_50 hk q (w2 + 1) M1 h
def g_X5_copyFrom (M : zx_Y) (l : Nat) (i : Nat) (m : Nat) (j : Nat) : Option zx_Y := (zl (zx_up M (5, l, i, 0) 0 (M (5, m, j, 0) 0)) fun M1 => (zl (zx_up M1 (5, l, i, 0) 1 (M1 (5, m, j, 0) 1)) fun M2 => (zl (zx_up M2 (5, l, i, 0) 2 (M2 (5, m, j, 0) 2)) fun M3 => (some M3))))
set_option maxRecDepth 100000 in
set_option maxHeartbeats 4000000 in
theorem r_X5_copyFrom {X : zx_X} {d n : Nat} {M : zx_Y} {l : Nat} {i : Nat} {m : Nat} {j : Nat} {rM : zx_Y} (h : g_X5_copyFrom M l i m j = some rM) : zx_run X (d + 1) 61 [.inr (some (5, l, i, 0)), .inr (some (5, m, j, 0))] (zx_lay M, n) (none, (zx_lay rM, n)) := by
  refine zx_run_of zc_X5_copyFrom [some (.inr (some (5, l, i, 0))), some (.inr (some (5, m, j, 0)))] rfl rfl ?_
  unfold g_X5_copyFrom at h
  refine zx_E.go 3 (s' := (5, [some (.inr (some (5, l, i, 0))), some (.inr (some (5, m, j, 0)))], [.inl (M (5, m, j, 0) 0), .inr (some (5, l, i, 0))], (zx_lay M, n))) rfl ?_
  refine zx_E.pu h rfl rfl (fun h => absurd h (by decide)) (fun M1 h => ?_)
  show zx_E _ _ _ (8, [some (.inr (some (5, l, i, 0))), some (.inr (some (5, m, j, 0)))], [], (zx_lay M1, n)) _
  refine zx_E.go 3 (s' := (13, [some (.inr (some (5, l, i, 0))), some (.inr (some (5, m, j, 0)))], [.inl (M1 (5, m, j, 0) 1), .inr (some (5, l, i, 0))], (zx_lay M1, n))) rfl ?_
  refine zx_E.pu h rfl rfl (fun h => absurd h (by decide)) (fun M2 h => ?_)
  show zx_E _ _ _ (16, [some (.inr (some (5, l, i, 0))), some (.inr (some (5, m, j, 0)))], [], (zx_lay M2, n)) _
  refine zx_E.go 3 (s' := (21, [some (.inr (some (5, l, i, 0))), some (.inr (some (5, m, j, 0)))], [.inl (M2 (5, m, j, 0) 2), .inr (some (5, l, i, 0))], (zx_lay M2, n))) rfl ?_
  refine zx_E.pu h rfl rfl (fun h => absurd h (by decide)) (fun M3 h => ?_)
  show zx_E _ _ _ (24, [some (.inr (some (5, l, i, 0))), some (.inr (some (5, m, j, 0)))], [], (zx_lay M3, n)) _
  exact zx_E.r0 h rfl
def lg_X2_copyFrom_79 (l : Nat) (m : Nat) (kk : Int32 → zx_Y → Option zx_Y) : Nat → Int32 → zx_Y → Option zx_Y
  | 0, _, _ => none
  | q + 1, w2, M => (if (7 : Int32) ≤ w2 then (kk w2 M) else (zi w2 7 fun k1 => (zi w2 7 fun k2 => (zm (g_X5_copyFrom M l k1 m k2) fun M1 => (lg_X2_copyFrom_79 l m kk q (w2 + 1) M1)))))
set_option maxRecDepth 100000 in
set_option maxHeartbeats 4000000 in
theorem rl_X2_copyFrom_79 {X : zx_X} {d n : Nat} {l : Nat} {m : Nat} {kk : Int32 → zx_Y → Option zx_Y} {rM : zx_Y} (hk : ∀ (w2 : Int32) (M : zx_Y), kk w2 M = some rM → zx_E X (d + 1) zc_X2_copyFrom (106, [some (.inr (some (1, l, 0, 0))), some (.inr (some (1, m, 0, 0))), some (.inl w2)], [], (zx_lay M, n)) (none, (zx_lay rM, n))) : ∀ (q : Nat) (w2 : Int32) (M : zx_Y), lg_X2_copyFrom_79 l m kk q w2 M = some rM → zx_E X (d + 1) zc_X2_copyFrom (79, [some (.inr (some (1, l, 0, 0))), some (.inr (some (1, m, 0, 0))), some (.inl w2)], [], (zx_lay M, n)) (none, (zx_lay rM, n))
  | 0, w2, M, h => by
    rw [lg_X2_copyFrom_79.eq_1] at h
    cases h
  | q + 1, w2, M, h => by
    rw [lg_X2_copyFrom_79.eq_2] at h
    refine zx_E.go 2 (s' := (82, [some (.inr (some (1, l, 0, 0))), some (.inr (some (1, m, 0, 0))), some (.inl w2)], [.inl 7, .inl w2], (zx_lay M, n))) rfl ?_
    refine zx_E.brh (c := (7 : Int32) ≤ w2) (s1 := (106, [some (.inr (some (1, l, 0, 0))), some (.inr (some (1, m, 0, 0))), some (.inl w2)], [], (zx_lay M, n))) (s2 := (85, [some (.inr (some (1, l, 0, 0))), some (.inr (some (1, m, 0, 0))), some (.inl w2)], [], (zx_lay M, n))) h (zx_ic_ge rfl) (fun _ h => ?_) (fun _ h => ?_)
    · exact hk _ _ h
    · refine zx_E.go 3 (s' := (90, [some (.inr (some (1, l, 0, 0))), some (.inr (some (1, m, 0, 0))), some (.inl w2)], [.inl w2, .inr (some (4, l, 0, 0))], (zx_lay M, n))) rfl ?_
      refine zx_E.ix h (fun k1 hx_k1 hl_k1 h => ?_)
      refine zx_E.aald (k := k1) (h := (4, l, 0, 0)) (h' := (5, l, k1, 0)) rfl rfl hx_k1 hl_k1 rfl ?_
      show zx_E _ _ _ (91, [some (.inr (some (1, l, 0, 0))), some (.inr (some (1, m, 0, 0))), some (.inl w2)], [.inr (some (5, l, k1, 0))], (zx_lay M, n)) _
      refine zx_E.go 3 (s' := (96, [some (.inr (some (1, l, 0, 0))), some (.inr (some (1, m, 0, 0))), some (.inl w2)], [.inl w2, .inr (some (4, m, 0, 0)), .inr (some (5, l, k1, 0))], (zx_lay M, n))) rfl ?_
      refine zx_E.ix h (fun k2 hx_k2 hl_k2 h => ?_)
      refine zx_E.aald (k := k2) (h := (4, m, 0, 0)) (h' := (5, m, k2, 0)) rfl rfl hx_k2 hl_k2 rfl ?_
      show zx_E _ _ _ (97, [some (.inr (some (1, l, 0, 0))), some (.inr (some (1, m, 0, 0))), some (.inl w2)], [.inr (some (5, m, k2, 0)), .inr (some (5, l, k1, 0))], (zx_lay M, n)) _
      refine zx_E.cm (y := 61) (as := [.inr (some (5, l, k1, 0)), .inr (some (5, m, k2, 0))]) (rest := []) h rfl (fun _ hv => zx_run_up (by omega) (r_X5_copyFrom (d := d) hv)) (fun M1 h => ?_)
      show zx_E _ _ _ (100, [some (.inr (some (1, l, 0, 0))), some (.inr (some (1, m, 0, 0))), some (.inl w2)], [], (zx_lay M1, n)) _
      refine zx_E.go 2 (s' := (79, [some (.inr (some (1, l, 0, 0))), some (.inr (some (1, m, 0, 0))), some (.inl (w2 + 1))], [], (zx_lay M1, n))) rfl ?_
      exact rl_X2_copyFrom_79 hk q (w2 + 1) M1 h
def g_X6_copyFrom (M : zx_Y) (l : Nat) (i : Nat) (m : Nat) (j : Nat) : Option zx_Y := (zl (zx_up M (9, l, i, 0) 0 (M (9, m, j, 0) 0)) fun M1 => (zl (zx_up M1 (9, l, i, 0) 1 (M1 (9, m, j, 0) 1)) fun M2 => (zl (zx_up M2 (9, l, i, 0) 2 (M2 (9, m, j, 0) 2)) fun M3 => (zl (zx_up M3 (9, l, i, 0) 3 (M3 (9, m, j, 0) 3)) fun M4 => (some M4)))))
set_option maxRecDepth 100000 in
set_option maxHeartbeats 4000000 in
theorem r_X6_copyFrom {X : zx_X} {d n : Nat} {M : zx_Y} {l : Nat} {i : Nat} {m : Nat} {j : Nat} {rM : zx_Y} (h : g_X6_copyFrom M l i m j = some rM) : zx_run X (d + 1) 63 [.inr (some (9, l, i, 0)), .inr (some (9, m, j, 0))] (zx_lay M, n) (none, (zx_lay rM, n)) := by
  refine zx_run_of zc_X6_copyFrom [some (.inr (some (9, l, i, 0))), some (.inr (some (9, m, j, 0)))] rfl rfl ?_
  unfold g_X6_copyFrom at h
  refine zx_E.go 3 (s' := (5, [some (.inr (some (9, l, i, 0))), some (.inr (some (9, m, j, 0)))], [.inl (M (9, m, j, 0) 0), .inr (some (9, l, i, 0))], (zx_lay M, n))) rfl ?_
  refine zx_E.pu h rfl rfl (fun h => absurd h (by decide)) (fun M1 h => ?_)
  show zx_E _ _ _ (8, [some (.inr (some (9, l, i, 0))), some (.inr (some (9, m, j, 0)))], [], (zx_lay M1, n)) _
  refine zx_E.go 3 (s' := (13, [some (.inr (some (9, l, i, 0))), some (.inr (some (9, m, j, 0)))], [.inl (M1 (9, m, j, 0) 1), .inr (some (9, l, i, 0))], (zx_lay M1, n))) rfl ?_
  refine zx_E.pu h rfl rfl (fun h => absurd h (by decide)) (fun M2 h => ?_)
  show zx_E _ _ _ (16, [some (.inr (some (9, l, i, 0))), some (.inr (some (9, m, j, 0)))], [], (zx_lay M2, n)) _
  refine zx_E.go 3 (s' := (21, [some (.inr (some (9, l, i, 0))), some (.inr (some (9, m, j, 0)))], [.inl (M2 (9, m, j, 0) 2), .inr (some (9, l, i, 0))], (zx_lay M2, n))) rfl ?_
  refine zx_E.pu h rfl rfl (fun h => absurd h (by decide)) (fun M3 h => ?_)
  show zx_E _ _ _ (24, [some (.inr (some (9, l, i, 0))), some (.inr (some (9, m, j, 0)))], [], (zx_lay M3, n)) _
  refine zx_E.go 3 (s' := (29, [some (.inr (some (9, l, i, 0))), some (.inr (some (9, m, j, 0)))], [.inl (M3 (9, m, j, 0) 3), .inr (some (9, l, i, 0))], (zx_lay M3, n))) rfl ?_
  refine zx_E.pu h rfl rfl (fun h => absurd h (by decide)) (fun M4 h => ?_)
  show zx_E _ _ _ (32, [some (.inr (some (9, l, i, 0))), some (.inr (some (9, m, j, 0)))], [], (zx_lay M4, n)) _
  exact zx_E.r0 h rfl
def lg_X2_copyFrom_108 (l : Nat) (m : Nat) (kk : Int32 → zx_Y → Option zx_Y) : Nat → Int32 → zx_Y → Option zx_Y
  | 0, _, _ => none
  | q + 1, w2, M => (if (6 : Int32) ≤ w2 then (kk w2 M) else (zi w2 6 fun k1 => (zi w2 6 fun k2 => (zm (g_X6_copyFrom M l k1 m k2) fun M1 => (lg_X2_copyFrom_108 l m kk q (w2 + 1) M1)))))
set_option maxRecDepth 100000 in
set_option maxHeartbeats 4000000 in
theorem rl_X2_copyFrom_108 {X : zx_X} {d n : Nat} {l : Nat} {m : Nat} {kk : Int32 → zx_Y → Option zx_Y} {rM : zx_Y} (hk : ∀ (w2 : Int32) (M : zx_Y), kk w2 M = some rM → zx_E X (d + 1) zc_X2_copyFrom (135, [some (.inr (some (1, l, 0, 0))), some (.inr (some (1, m, 0, 0))), some (.inl w2)], [], (zx_lay M, n)) (none, (zx_lay rM, n))) : ∀ (q : Nat) (w2 : Int32) (M : zx_Y), lg_X2_copyFrom_108 l m kk q w2 M = some rM → zx_E X (d + 1) zc_X2_copyFrom (108, [some (.inr (some (1, l, 0, 0))), some (.inr (some (1, m, 0, 0))), some (.inl w2)], [], (zx_lay M, n)) (none, (zx_lay rM, n))
  | 0, w2, M, h => by
    rw [lg_X2_copyFrom_108.eq_1] at h
    cases h
  | q + 1, w2, M, h => by
    rw [lg_X2_copyFrom_108.eq_2] at h
    refine zx_E.go 2 (s' := (111, [some (.inr (some (1, l, 0, 0))), some (.inr (some (1, m, 0, 0))), some (.inl w2)], [.inl 6, .inl w2], (zx_lay M, n))) rfl ?_
    refine zx_E.brh (c := (6 : Int32) ≤ w2) (s1 := (135, [some (.inr (some (1, l, 0, 0))), some (.inr (some (1, m, 0, 0))), some (.inl w2)], [], (zx_lay M, n))) (s2 := (114, [some (.inr (some (1, l, 0, 0))), some (.inr (some (1, m, 0, 0))), some (.inl w2)], [], (zx_lay M, n))) h (zx_ic_ge rfl) (fun _ h => ?_) (fun _ h => ?_)
    · exact hk _ _ h
    · refine zx_E.go 3 (s' := (119, [some (.inr (some (1, l, 0, 0))), some (.inr (some (1, m, 0, 0))), some (.inl w2)], [.inl w2, .inr (some (8, l, 0, 0))], (zx_lay M, n))) rfl ?_
      refine zx_E.ix h (fun k1 hx_k1 hl_k1 h => ?_)
      refine zx_E.aald (k := k1) (h := (8, l, 0, 0)) (h' := (9, l, k1, 0)) rfl rfl hx_k1 hl_k1 rfl ?_
      show zx_E _ _ _ (120, [some (.inr (some (1, l, 0, 0))), some (.inr (some (1, m, 0, 0))), some (.inl w2)], [.inr (some (9, l, k1, 0))], (zx_lay M, n)) _
      refine zx_E.go 3 (s' := (125, [some (.inr (some (1, l, 0, 0))), some (.inr (some (1, m, 0, 0))), some (.inl w2)], [.inl w2, .inr (some (8, m, 0, 0)), .inr (some (9, l, k1, 0))], (zx_lay M, n))) rfl ?_
      refine zx_E.ix h (fun k2 hx_k2 hl_k2 h => ?_)
      refine zx_E.aald (k := k2) (h := (8, m, 0, 0)) (h' := (9, m, k2, 0)) rfl rfl hx_k2 hl_k2 rfl ?_
      show zx_E _ _ _ (126, [some (.inr (some (1, l, 0, 0))), some (.inr (some (1, m, 0, 0))), some (.inl w2)], [.inr (some (9, m, k2, 0)), .inr (some (9, l, k1, 0))], (zx_lay M, n)) _
      refine zx_E.cm (y := 63) (as := [.inr (some (9, l, k1, 0)), .inr (some (9, m, k2, 0))]) (rest := []) h rfl (fun _ hv => zx_run_up (by omega) (r_X6_copyFrom (d := d) hv)) (fun M1 h => ?_)
      show zx_E _ _ _ (129, [some (.inr (some (1, l, 0, 0))), some (.inr (some (1, m, 0, 0))), some (.inl w2)], [], (zx_lay M1, n)) _
      refine zx_E.go 2 (s' := (108, [some (.inr (some (1, l, 0, 0))), some (.inr (some (1, m, 0, 0))), some (.inl (w2 + 1))], [], (zx_lay M1, n))) rfl ?_
      exact rl_X2_copyFrom_108 hk q (w2 + 1) M1 h
def g_X9_copyFrom (M : zx_Y) (l : Nat) (i : Nat) (m : Nat) (j : Nat) : Option zx_Y := (zl (zx_up M (7, l, i, 0) 0 (M (7, m, j, 0) 0)) fun M1 => (zl (zx_up M1 (7, l, i, 0) 1 (M1 (7, m, j, 0) 1)) fun M2 => (zl (zx_up M2 (7, l, i, 0) 2 (M2 (7, m, j, 0) 2)) fun M3 => (zl (zx_up M3 (7, l, i, 0) 3 (M3 (7, m, j, 0) 3)) fun M4 => (zl (zx_up M4 (7, l, i, 0) 4 (M4 (7, m, j, 0) 4)) fun M5 => (zl (zx_up M5 (7, l, i, 0) 5 (M5 (7, m, j, 0) 5)) fun M6 => (zl (zx_up M6 (7, l, i, 0) 6 (M6 (7, m, j, 0) 6)) fun M7 => (zl (zx_up M7 (7, l, i, 0) 7 (M7 (7, m, j, 0) 7)) fun M8 => (zl (zx_up M8 (7, l, i, 0) 8 (M8 (7, m, j, 0) 8)) fun M9 => (zl (zx_up M9 (7, l, i, 0) 9 (M9 (7, m, j, 0) 9)) fun M10 => (zl (zx_up M10 (7, l, i, 0) 10 (M10 (7, m, j, 0) 10)) fun M11 => (zl (zx_up M11 (7, l, i, 0) 11 (M11 (7, m, j, 0) 11)) fun M12 => (zl (zx_up M12 (7, l, i, 0) 12 (M12 (7, m, j, 0) 12)) fun M13 => (zl (zx_up M13 (7, l, i, 0) 13 (M13 (7, m, j, 0) 13)) fun M14 => (zl (zx_up M14 (7, l, i, 0) 14 (M14 (7, m, j, 0) 14)) fun M15 => (zl (zx_cy M15 (11, m, j, 0) (11, l, i, 0) 4) fun M16 => (zl (zx_cy M16 (13, m, j, 0) (13, l, i, 0) 8) fun M17 => (zl (zx_cy M17 (13, m, j, 1) (13, l, i, 1) 8) fun M18 => (some M18)))))))))))))))))))
set_option maxRecDepth 100000 in
set_option maxHeartbeats 4000000 in
theorem r_X9_copyFrom {X : zx_X} {d n : Nat} {M : zx_Y} {l : Nat} {i : Nat} {m : Nat} {j : Nat} {rM : zx_Y} (h : g_X9_copyFrom M l i m j = some rM) : zx_run X (d + 1) 82 [.inr (some (7, l, i, 0)), .inr (some (7, m, j, 0))] (zx_lay M, n) (none, (zx_lay rM, n)) := by
  refine zx_run_of zc_X9_copyFrom [some (.inr (some (7, l, i, 0))), some (.inr (some (7, m, j, 0)))] rfl rfl ?_
  unfold g_X9_copyFrom at h
  refine zx_E.go 3 (s' := (5, [some (.inr (some (7, l, i, 0))), some (.inr (some (7, m, j, 0)))], [.inl (M (7, m, j, 0) 0), .inr (some (7, l, i, 0))], (zx_lay M, n))) rfl ?_
  refine zx_E.pu h rfl rfl (fun h => absurd h (by decide)) (fun M1 h => ?_)
  show zx_E _ _ _ (8, [some (.inr (some (7, l, i, 0))), some (.inr (some (7, m, j, 0)))], [], (zx_lay M1, n)) _
  refine zx_E.go 3 (s' := (13, [some (.inr (some (7, l, i, 0))), some (.inr (some (7, m, j, 0)))], [.inl (M1 (7, m, j, 0) 1), .inr (some (7, l, i, 0))], (zx_lay M1, n))) rfl ?_
  refine zx_E.pu h rfl rfl (fun h => absurd h (by decide)) (fun M2 h => ?_)
  show zx_E _ _ _ (16, [some (.inr (some (7, l, i, 0))), some (.inr (some (7, m, j, 0)))], [], (zx_lay M2, n)) _
  refine zx_E.go 3 (s' := (21, [some (.inr (some (7, l, i, 0))), some (.inr (some (7, m, j, 0)))], [.inl (M2 (7, m, j, 0) 2), .inr (some (7, l, i, 0))], (zx_lay M2, n))) rfl ?_
  refine zx_E.pu h rfl rfl (fun h => absurd h (by decide)) (fun M3 h => ?_)
  show zx_E _ _ _ (24, [some (.inr (some (7, l, i, 0))), some (.inr (some (7, m, j, 0)))], [], (zx_lay M3, n)) _
  refine zx_E.go 3 (s' := (29, [some (.inr (some (7, l, i, 0))), some (.inr (some (7, m, j, 0)))], [.inl (M3 (7, m, j, 0) 3), .inr (some (7, l, i, 0))], (zx_lay M3, n))) rfl ?_
  refine zx_E.pu h rfl rfl (fun h => absurd h (by decide)) (fun M4 h => ?_)
  show zx_E _ _ _ (32, [some (.inr (some (7, l, i, 0))), some (.inr (some (7, m, j, 0)))], [], (zx_lay M4, n)) _
  refine zx_E.go 3 (s' := (37, [some (.inr (some (7, l, i, 0))), some (.inr (some (7, m, j, 0)))], [.inl (M4 (7, m, j, 0) 4), .inr (some (7, l, i, 0))], (zx_lay M4, n))) rfl ?_
  refine zx_E.pu h rfl rfl (fun h => absurd h (by decide)) (fun M5 h => ?_)
  show zx_E _ _ _ (40, [some (.inr (some (7, l, i, 0))), some (.inr (some (7, m, j, 0)))], [], (zx_lay M5, n)) _
  refine zx_E.go 3 (s' := (45, [some (.inr (some (7, l, i, 0))), some (.inr (some (7, m, j, 0)))], [.inl (M5 (7, m, j, 0) 5), .inr (some (7, l, i, 0))], (zx_lay M5, n))) rfl ?_
  refine zx_E.pu h rfl rfl (fun h => absurd h (by decide)) (fun M6 h => ?_)
  show zx_E _ _ _ (48, [some (.inr (some (7, l, i, 0))), some (.inr (some (7, m, j, 0)))], [], (zx_lay M6, n)) _
  refine zx_E.go 3 (s' := (53, [some (.inr (some (7, l, i, 0))), some (.inr (some (7, m, j, 0)))], [.inl (M6 (7, m, j, 0) 6), .inr (some (7, l, i, 0))], (zx_lay M6, n))) rfl ?_
  refine zx_E.pu h rfl rfl (fun h => absurd h (by decide)) (fun M7 h => ?_)
  show zx_E _ _ _ (56, [some (.inr (some (7, l, i, 0))), some (.inr (some (7, m, j, 0)))], [], (zx_lay M7, n)) _
  refine zx_E.go 3 (s' := (61, [some (.inr (some (7, l, i, 0))), some (.inr (some (7, m, j, 0)))], [.inl (M7 (7, m, j, 0) 7), .inr (some (7, l, i, 0))], (zx_lay M7, n))) rfl ?_
  refine zx_E.pu h rfl rfl (fun h => absurd h (by decide)) (fun M8 h => ?_)
  show zx_E _ _ _ (64, [some (.inr (some (7, l, i, 0))), some (.inr (some (7, m, j, 0)))], [], (zx_lay M8, n)) _
  refine zx_E.go 3 (s' := (69, [some (.inr (some (7, l, i, 0))), some (.inr (some (7, m, j, 0)))], [.inl (M8 (7, m, j, 0) 8), .inr (some (7, l, i, 0))], (zx_lay M8, n))) rfl ?_
  refine zx_E.pu h rfl rfl (fun h => absurd h (by decide)) (fun M9 h => ?_)
  show zx_E _ _ _ (72, [some (.inr (some (7, l, i, 0))), some (.inr (some (7, m, j, 0)))], [], (zx_lay M9, n)) _
  refine zx_E.go 3 (s' := (77, [some (.inr (some (7, l, i, 0))), some (.inr (some (7, m, j, 0)))], [.inl (M9 (7, m, j, 0) 9), .inr (some (7, l, i, 0))], (zx_lay M9, n))) rfl ?_
  refine zx_E.pu h rfl rfl (fun h => absurd h (by decide)) (fun M10 h => ?_)
  show zx_E _ _ _ (80, [some (.inr (some (7, l, i, 0))), some (.inr (some (7, m, j, 0)))], [], (zx_lay M10, n)) _
  refine zx_E.go 3 (s' := (85, [some (.inr (some (7, l, i, 0))), some (.inr (some (7, m, j, 0)))], [.inl (M10 (7, m, j, 0) 10), .inr (some (7, l, i, 0))], (zx_lay M10, n))) rfl ?_
  refine zx_E.pu h rfl rfl (fun h => absurd h (by decide)) (fun M11 h => ?_)
  show zx_E _ _ _ (88, [some (.inr (some (7, l, i, 0))), some (.inr (some (7, m, j, 0)))], [], (zx_lay M11, n)) _
  refine zx_E.go 3 (s' := (93, [some (.inr (some (7, l, i, 0))), some (.inr (some (7, m, j, 0)))], [.inl (M11 (7, m, j, 0) 11), .inr (some (7, l, i, 0))], (zx_lay M11, n))) rfl ?_
  refine zx_E.pu h rfl rfl (fun h => absurd h (by decide)) (fun M12 h => ?_)
  show zx_E _ _ _ (96, [some (.inr (some (7, l, i, 0))), some (.inr (some (7, m, j, 0)))], [], (zx_lay M12, n)) _
  refine zx_E.go 3 (s' := (101, [some (.inr (some (7, l, i, 0))), some (.inr (some (7, m, j, 0)))], [.inl (M12 (7, m, j, 0) 12), .inr (some (7, l, i, 0))], (zx_lay M12, n))) rfl ?_
  refine zx_E.pu h rfl rfl (fun h => absurd h (by decide)) (fun M13 h => ?_)
  show zx_E _ _ _ (104, [some (.inr (some (7, l, i, 0))), some (.inr (some (7, m, j, 0)))], [], (zx_lay M13, n)) _
  refine zx_E.go 3 (s' := (109, [some (.inr (some (7, l, i, 0))), some (.inr (some (7, m, j, 0)))], [.inl (M13 (7, m, j, 0) 13), .inr (some (7, l, i, 0))], (zx_lay M13, n))) rfl ?_
  refine zx_E.pu h rfl rfl (fun h => absurd h (by decide)) (fun M14 h => ?_)
  show zx_E _ _ _ (112, [some (.inr (some (7, l, i, 0))), some (.inr (some (7, m, j, 0)))], [], (zx_lay M14, n)) _
  refine zx_E.go 3 (s' := (117, [some (.inr (some (7, l, i, 0))), some (.inr (some (7, m, j, 0)))], [.inl (M14 (7, m, j, 0) 14), .inr (some (7, l, i, 0))], (zx_lay M14, n))) rfl ?_
  refine zx_E.pu h rfl rfl (fun h => absurd h (by decide)) (fun M15 h => ?_)
  show zx_E _ _ _ (120, [some (.inr (some (7, l, i, 0))), some (.inr (some (7, m, j, 0)))], [], (zx_lay M15, n)) _
  refine zx_E.go 9 (s' := (135, [some (.inr (some (7, l, i, 0))), some (.inr (some (7, m, j, 0)))], [.inl 4, .inl 0, .inr (some (11, l, i, 0)), .inl 0, .inr (some (11, m, j, 0))], (zx_lay M15, n))) rfl ?_
  refine zx_E.acp (N := 4) h rfl rfl rfl (by decide) (by decide) (fun M16 h => ?_)
  show zx_E _ _ _ (138, [some (.inr (some (7, l, i, 0))), some (.inr (some (7, m, j, 0)))], [], (zx_lay M16, n)) _
  refine zx_E.go 3 (s' := (143, [some (.inr (some (7, l, i, 0))), some (.inr (some (7, m, j, 0)))], [.inl 0, .inr (some (12, m, j, 0))], (zx_lay M16, n))) rfl ?_
  refine zx_E.aald (k := 0) (h := (12, m, j, 0)) (h' := (13, m, j, 0)) rfl rfl rfl (by decide) rfl ?_
  show zx_E _ _ _ (144, [some (.inr (some (7, l, i, 0))), some (.inr (some (7, m, j, 0)))], [.inr (some (13, m, j, 0))], (zx_lay M16, n)) _
  refine zx_E.go 4 (s' := (150, [some (.inr (some (7, l, i, 0))), some (.inr (some (7, m, j, 0)))], [.inl 0, .inr (some (12, l, i, 0)), .inl 0, .inr (some (13, m, j, 0))], (zx_lay M16, n))) rfl ?_
  refine zx_E.aald (k := 0) (h := (12, l, i, 0)) (h' := (13, l, i, 0)) rfl rfl rfl (by decide) rfl ?_
  show zx_E _ _ _ (151, [some (.inr (some (7, l, i, 0))), some (.inr (some (7, m, j, 0)))], [.inr (some (13, l, i, 0)), .inl 0, .inr (some (13, m, j, 0))], (zx_lay M16, n)) _
  refine zx_E.go 2 (s' := (154, [some (.inr (some (7, l, i, 0))), some (.inr (some (7, m, j, 0)))], [.inl 8, .inl 0, .inr (some (13, l, i, 0)), .inl 0, .inr (some (13, m, j, 0))], (zx_lay M16, n))) rfl ?_
  refine zx_E.acp (N := 8) h rfl rfl rfl (by decide) (by decide) (fun M17 h => ?_)
  show zx_E _ _ _ (157, [some (.inr (some (7, l, i, 0))), some (.inr (some (7, m, j, 0)))], [], (zx_lay M17, n)) _
  refine zx_E.go 3 (s' := (162, [some (.inr (some (7, l, i, 0))), some (.inr (some (7, m, j, 0)))], [.inl 1, .inr (some (12, m, j, 0))], (zx_lay M17, n))) rfl ?_
  refine zx_E.aald (k := 1) (h := (12, m, j, 0)) (h' := (13, m, j, 1)) rfl rfl rfl (by decide) rfl ?_
  show zx_E _ _ _ (163, [some (.inr (some (7, l, i, 0))), some (.inr (some (7, m, j, 0)))], [.inr (some (13, m, j, 1))], (zx_lay M17, n)) _
  refine zx_E.go 4 (s' := (169, [some (.inr (some (7, l, i, 0))), some (.inr (some (7, m, j, 0)))], [.inl 1, .inr (some (12, l, i, 0)), .inl 0, .inr (some (13, m, j, 1))], (zx_lay M17, n))) rfl ?_
  refine zx_E.aald (k := 1) (h := (12, l, i, 0)) (h' := (13, l, i, 1)) rfl rfl rfl (by decide) rfl ?_
  show zx_E _ _ _ (170, [some (.inr (some (7, l, i, 0))), some (.inr (some (7, m, j, 0)))], [.inr (some (13, l, i, 1)), .inl 0, .inr (some (13, m, j, 1))], (zx_lay M17, n)) _
  refine zx_E.go 2 (s' := (173, [some (.inr (some (7, l, i, 0))), some (.inr (some (7, m, j, 0)))], [.inl 8, .inl 0, .inr (some (13, l, i, 1)), .inl 0, .inr (some (13, m, j, 1))], (zx_lay M17, n))) rfl ?_
  refine zx_E.acp (N := 8) h rfl rfl rfl (by decide) (by decide) (fun M18 h => ?_)
  show zx_E _ _ _ (176, [some (.inr (some (7, l, i, 0))), some (.inr (some (7, m, j, 0)))], [], (zx_lay M18, n)) _
  exact zx_E.r0 h rfl
def lg_X2_copyFrom_137 (l : Nat) (m : Nat) (kk : Int32 → zx_Y → Option zx_Y) : Nat → Int32 → zx_Y → Option zx_Y
  | 0, _, _ => none
  | q + 1, w2, M => (if (10 : Int32) ≤ w2 then (kk w2 M) else (zi w2 10 fun k1 => (zi w2 10 fun k2 => (zm (g_X9_copyFrom M l k1 m k2) fun M1 => (lg_X2_copyFrom_137 l m kk q (w2 + 1) M1)))))
set_option maxRecDepth 100000 in
set_option maxHeartbeats 4000000 in
theorem rl_X2_copyFrom_137 {X : zx_X} {d n : Nat} {l : Nat} {m : Nat} {kk : Int32 → zx_Y → Option zx_Y} {rM : zx_Y} (hk : ∀ (w2 : Int32) (M : zx_Y), kk w2 M = some rM → zx_E X (d + 1) zc_X2_copyFrom (164, [some (.inr (some (1, l, 0, 0))), some (.inr (some (1, m, 0, 0))), some (.inl w2)], [], (zx_lay M, n)) (none, (zx_lay rM, n))) : ∀ (q : Nat) (w2 : Int32) (M : zx_Y), lg_X2_copyFrom_137 l m kk q w2 M = some rM → zx_E X (d + 1) zc_X2_copyFrom (137, [some (.inr (some (1, l, 0, 0))), some (.inr (some (1, m, 0, 0))), some (.inl w2)], [], (zx_lay M, n)) (none, (zx_lay rM, n))
  | 0, w2, M, h => by
    rw [lg_X2_copyFrom_137.eq_1] at h
    cases h
  | q + 1, w2, M, h => by
    rw [lg_X2_copyFrom_137.eq_2] at h
    refine zx_E.go 2 (s' := (140, [some (.inr (some (1, l, 0, 0))), some (.inr (some (1, m, 0, 0))), some (.inl w2)], [.inl 10, .inl w2], (zx_lay M, n))) rfl ?_
    refine zx_E.brh (c := (10 : Int32) ≤ w2) (s1 := (164, [some (.inr (some (1, l, 0, 0))), some (.inr (some (1, m, 0, 0))), some (.inl w2)], [], (zx_lay M, n))) (s2 := (143, [some (.inr (some (1, l, 0, 0))), some (.inr (some (1, m, 0, 0))), some (.inl w2)], [], (zx_lay M, n))) h (zx_ic_ge rfl) (fun _ h => ?_) (fun _ h => ?_)
    · exact hk _ _ h
    · refine zx_E.go 3 (s' := (148, [some (.inr (some (1, l, 0, 0))), some (.inr (some (1, m, 0, 0))), some (.inl w2)], [.inl w2, .inr (some (6, l, 0, 0))], (zx_lay M, n))) rfl ?_
      refine zx_E.ix h (fun k1 hx_k1 hl_k1 h => ?_)
      refine zx_E.aald (k := k1) (h := (6, l, 0, 0)) (h' := (7, l, k1, 0)) rfl rfl hx_k1 hl_k1 rfl ?_
      show zx_E _ _ _ (149, [some (.inr (some (1, l, 0, 0))), some (.inr (some (1, m, 0, 0))), some (.inl w2)], [.inr (some (7, l, k1, 0))], (zx_lay M, n)) _
      refine zx_E.go 3 (s' := (154, [some (.inr (some (1, l, 0, 0))), some (.inr (some (1, m, 0, 0))), some (.inl w2)], [.inl w2, .inr (some (6, m, 0, 0)), .inr (some (7, l, k1, 0))], (zx_lay M, n))) rfl ?_
      refine zx_E.ix h (fun k2 hx_k2 hl_k2 h => ?_)
      refine zx_E.aald (k := k2) (h := (6, m, 0, 0)) (h' := (7, m, k2, 0)) rfl rfl hx_k2 hl_k2 rfl ?_
      show zx_E _ _ _ (155, [some (.inr (some (1, l, 0, 0))), some (.inr (some (1, m, 0, 0))), some (.inl w2)], [.inr (some (7, m, k2, 0)), .inr (some (7, l, k1, 0))], (zx_lay M, n)) _
      refine zx_E.cm (y := 82) (as := [.inr (some (7, l, k1, 0)), .inr (some (7, m, k2, 0))]) (rest := []) h rfl (fun _ hv => zx_run_up (by omega) (r_X9_copyFrom (d := d) hv)) (fun M1 h => ?_)
      show zx_E _ _ _ (158, [some (.inr (some (1, l, 0, 0))), some (.inr (some (1, m, 0, 0))), some (.inl w2)], [], (zx_lay M1, n)) _
      refine zx_E.go 2 (s' := (137, [some (.inr (some (1, l, 0, 0))), some (.inr (some (1, m, 0, 0))), some (.inl (w2 + 1))], [], (zx_lay M1, n))) rfl ?_
      exact rl_X2_copyFrom_137 hk q (w2 + 1) M1 h
def g_X2_copyFrom (M : zx_Y) (l : Nat) (m : Nat) : Option zx_Y := (zl (zx_up M (1, l, 0, 0) 0 (M (1, m, 0, 0) 0)) fun M1 => (zl (zx_up M1 (1, l, 0, 0) 1 (M1 (1, m, 0, 0) 1)) fun M2 => (zl (zx_up M2 (1, l, 0, 0) 2 (M2 (1, m, 0, 0) 2)) fun M3 => (zl (zx_up M3 (1, l, 0, 0) 3 (M3 (1, m, 0, 0) 3)) fun M4 => (zl (zx_up M4 (1, l, 0, 0) 4 (M4 (1, m, 0, 0) 4)) fun M5 => (zl (zx_up M5 (1, l, 0, 0) 5 (M5 (1, m, 0, 0) 5)) fun M6 => (lg_X2_copyFrom_50 l m (fun v1 M7 => (lg_X2_copyFrom_79 l m (fun v2 M8 => (lg_X2_copyFrom_108 l m (fun v3 M9 => (lg_X2_copyFrom_137 l m (fun v4 M10 => (some M10)) 1000 0 M9)) 1000 0 M8)) 1000 0 M7)) 1000 0 M6)))))))
set_option maxRecDepth 100000 in
set_option maxHeartbeats 4000000 in
theorem r_X2_copyFrom {X : zx_X} {d n : Nat} {M : zx_Y} {l : Nat} {m : Nat} {rM : zx_Y} (h : g_X2_copyFrom M l m = some rM) : zx_run X (d + 2) 14 [.inr (some (1, l, 0, 0)), .inr (some (1, m, 0, 0))] (zx_lay M, n) (none, (zx_lay rM, n)) := by
  refine zx_run_of zc_X2_copyFrom [some (.inr (some (1, l, 0, 0))), some (.inr (some (1, m, 0, 0))), none] rfl rfl ?_
  unfold g_X2_copyFrom at h
  refine zx_E.go 3 (s' := (5, [some (.inr (some (1, l, 0, 0))), some (.inr (some (1, m, 0, 0))), none], [.inl (M (1, m, 0, 0) 0), .inr (some (1, l, 0, 0))], (zx_lay M, n))) rfl ?_
  refine zx_E.pu h rfl rfl (fun h => absurd h (by decide)) (fun M1 h => ?_)
  show zx_E _ _ _ (8, [some (.inr (some (1, l, 0, 0))), some (.inr (some (1, m, 0, 0))), none], [], (zx_lay M1, n)) _
  refine zx_E.go 3 (s' := (13, [some (.inr (some (1, l, 0, 0))), some (.inr (some (1, m, 0, 0))), none], [.inl (M1 (1, m, 0, 0) 1), .inr (some (1, l, 0, 0))], (zx_lay M1, n))) rfl ?_
  refine zx_E.pu h rfl rfl (fun h => absurd h (by decide)) (fun M2 h => ?_)
  show zx_E _ _ _ (16, [some (.inr (some (1, l, 0, 0))), some (.inr (some (1, m, 0, 0))), none], [], (zx_lay M2, n)) _
  refine zx_E.go 3 (s' := (21, [some (.inr (some (1, l, 0, 0))), some (.inr (some (1, m, 0, 0))), none], [.inl (M2 (1, m, 0, 0) 2), .inr (some (1, l, 0, 0))], (zx_lay M2, n))) rfl ?_
  refine zx_E.pu h rfl rfl (fun h => absurd h (by decide)) (fun M3 h => ?_)
  show zx_E _ _ _ (24, [some (.inr (some (1, l, 0, 0))), some (.inr (some (1, m, 0, 0))), none], [], (zx_lay M3, n)) _
  refine zx_E.go 3 (s' := (29, [some (.inr (some (1, l, 0, 0))), some (.inr (some (1, m, 0, 0))), none], [.inl (M3 (1, m, 0, 0) 3), .inr (some (1, l, 0, 0))], (zx_lay M3, n))) rfl ?_
  refine zx_E.pu h rfl rfl (fun h => absurd h (by decide)) (fun M4 h => ?_)
  show zx_E _ _ _ (32, [some (.inr (some (1, l, 0, 0))), some (.inr (some (1, m, 0, 0))), none], [], (zx_lay M4, n)) _
  refine zx_E.go 3 (s' := (37, [some (.inr (some (1, l, 0, 0))), some (.inr (some (1, m, 0, 0))), none], [.inl (M4 (1, m, 0, 0) 4), .inr (some (1, l, 0, 0))], (zx_lay M4, n))) rfl ?_
  refine zx_E.pu h rfl rfl (fun h => absurd h (by decide)) (fun M5 h => ?_)
  show zx_E _ _ _ (40, [some (.inr (some (1, l, 0, 0))), some (.inr (some (1, m, 0, 0))), none], [], (zx_lay M5, n)) _
  refine zx_E.go 3 (s' := (45, [some (.inr (some (1, l, 0, 0))), some (.inr (some (1, m, 0, 0))), none], [.inl (M5 (1, m, 0, 0) 5), .inr (some (1, l, 0, 0))], (zx_lay M5, n))) rfl ?_
  refine zx_E.pu h rfl rfl (fun h => absurd h (by decide)) (fun M6 h => ?_)
  show zx_E _ _ _ (48, [some (.inr (some (1, l, 0, 0))), some (.inr (some (1, m, 0, 0))), none], [], (zx_lay M6, n)) _
  refine zx_E.go 2 (s' := (50, [some (.inr (some (1, l, 0, 0))), some (.inr (some (1, m, 0, 0))), some (.inl 0)], [], (zx_lay M6, n))) rfl ?_
  refine rl_X2_copyFrom_50 (fun v1 M7 h => ?_) 1000  0 M6 h
  refine zx_E.go 2 (s' := (79, [some (.inr (some (1, l, 0, 0))), some (.inr (some (1, m, 0, 0))), some (.inl 0)], [], (zx_lay M7, n))) rfl ?_
  refine rl_X2_copyFrom_79 (fun v2 M8 h => ?_) 1000  0 M7 h
  refine zx_E.go 2 (s' := (108, [some (.inr (some (1, l, 0, 0))), some (.inr (some (1, m, 0, 0))), some (.inl 0)], [], (zx_lay M8, n))) rfl ?_
  refine rl_X2_copyFrom_108 (fun v3 M9 h => ?_) 1000  0 M8 h
  refine zx_E.go 2 (s' := (137, [some (.inr (some (1, l, 0, 0))), some (.inr (some (1, m, 0, 0))), some (.inl 0)], [], (zx_lay M9, n))) rfl ?_
  refine rl_X2_copyFrom_137 (fun v4 M10 h => ?_) 1000  0 M9 h
  exact zx_E.r0 h rfl
def g_X0_refuse (M : zx_Y) (x0 : Int32) (x1 : Int32) : Option (Int32 × zx_Y) := (zl (zx_up M (21, 0, 0, 0) 0 x0) fun M1 => (zl (zx_up M1 (21, 0, 0, 0) 1 x1) fun M2 => (some (1, M2))))
set_option maxRecDepth 100000 in
set_option maxHeartbeats 4000000 in
theorem r_X0_refuse {X : zx_X} {d n : Nat} {M : zx_Y} {x0 : Int32} {x1 : Int32} {rv : Int32} {rM : zx_Y} (h : g_X0_refuse M x0 x1 = some (rv, rM)) : zx_run X (d + 1) 2 [.inr (some (21, 0, 0, 0)), .inl x0, .inl x1] (zx_lay M, n) (some (.inl rv), (zx_lay rM, n)) := by
  refine zx_run_of zc_X0_refuse [some (.inr (some (21, 0, 0, 0))), some (.inl x0), some (.inl x1)] rfl rfl ?_
  unfold g_X0_refuse at h
  refine zx_E.go 2 (s' := (2, [some (.inr (some (21, 0, 0, 0))), some (.inl x0), some (.inl x1)], [.inl x0, .inr (some (21, 0, 0, 0))], (zx_lay M, n))) rfl ?_
  refine zx_E.pu h rfl rfl (fun h => absurd h (by decide)) (fun M1 h => ?_)
  show zx_E _ _ _ (5, [some (.inr (some (21, 0, 0, 0))), some (.inl x0), some (.inl x1)], [], (zx_lay M1, n)) _
  refine zx_E.go 2 (s' := (7, [some (.inr (some (21, 0, 0, 0))), some (.inl x0), some (.inl x1)], [.inl x1, .inr (some (21, 0, 0, 0))], (zx_lay M1, n))) rfl ?_
  refine zx_E.pu h rfl rfl (fun h => absurd h (by decide)) (fun M2 h => ?_)
  show zx_E _ _ _ (10, [some (.inr (some (21, 0, 0, 0))), some (.inl x0), some (.inl x1)], [], (zx_lay M2, n)) _
  refine zx_E.go 1 (s' := (11, [some (.inr (some (21, 0, 0, 0))), some (.inl x0), some (.inl x1)], [.inl 1], (zx_lay M2, n))) rfl ?_
  exact zx_E.ri h rfl (fun _ => Or.inr rfl)
def lg_X0_refusesLengths_2 (M : zx_Y) (i : Nat) (kk : Int32 → Option (Int32 × zx_Y)) : Nat → Int32 → Option (Int32 × zx_Y)
  | 0, _ => none
  | q + 1, w2 => (if (M (17, i, 0, 0) 11) ≤ w2 then (kk w2) else (zi w2 7 fun k1 => (if (M (18, i, 0, 0) k1) < 1 then (zv (g_X0_refuse M 4 (M (18, i, 0, 0) k1)) fun v1 M1 => (zo v1 ((some (v1, M1))))) else (if (M (18, i, 0, 0) k1) ≤ 99 then (lg_X0_refusesLengths_2 M i kk q (w2 + 1)) else (zv (g_X0_refuse M 4 (M (18, i, 0, 0) k1)) fun v2 M2 => (zo v2 ((some (v2, M2)))))))))
set_option maxRecDepth 100000 in
set_option maxHeartbeats 4000000 in
theorem rl_X0_refusesLengths_2 {X : zx_X} {d n : Nat} {M : zx_Y} {i : Nat} {kk : Int32 → Option (Int32 × zx_Y)} {rv : Int32} {rM : zx_Y} (hk : ∀ (w2 : Int32) (e3 : Option zx_V), kk w2 = some (rv, rM) → zx_E X (d + 1) zc_X0_refusesLengths (41, [some (.inr (some (21, 0, 0, 0))), some (.inr (some (17, i, 0, 0))), some (.inl w2), e3], [], (zx_lay M, n)) (some (.inl rv), (zx_lay rM, n))) : ∀ (q : Nat) (g3 : Option zx_V) (w2 : Int32), lg_X0_refusesLengths_2 M i kk q w2 = some (rv, rM) → zx_E X (d + 1) zc_X0_refusesLengths (2, [some (.inr (some (21, 0, 0, 0))), some (.inr (some (17, i, 0, 0))), some (.inl w2), g3], [], (zx_lay M, n)) (some (.inl rv), (zx_lay rM, n))
  | 0, g3, w2, h => by
    rw [lg_X0_refusesLengths_2.eq_1] at h
    cases h
  | q + 1, g3, w2, h => by
    rw [lg_X0_refusesLengths_2.eq_2] at h
    refine zx_E.go 3 (s' := (7, [some (.inr (some (21, 0, 0, 0))), some (.inr (some (17, i, 0, 0))), some (.inl w2), g3], [.inl (M (17, i, 0, 0) 11), .inl w2], (zx_lay M, n))) rfl ?_
    refine zx_E.brh (c := (M (17, i, 0, 0) 11) ≤ w2) (s1 := (41, [some (.inr (some (21, 0, 0, 0))), some (.inr (some (17, i, 0, 0))), some (.inl w2), g3], [], (zx_lay M, n))) (s2 := (10, [some (.inr (some (21, 0, 0, 0))), some (.inr (some (17, i, 0, 0))), some (.inl w2), g3], [], (zx_lay M, n))) h (zx_ic_ge rfl) (fun _ h => ?_) (fun _ h => ?_)
    · exact hk _ _ h
    · refine zx_E.go 3 (s' := (15, [some (.inr (some (21, 0, 0, 0))), some (.inr (some (17, i, 0, 0))), some (.inl w2), g3], [.inl w2, .inr (some (18, i, 0, 0))], (zx_lay M, n))) rfl ?_
      refine zx_E.ix h (fun k1 hx_k1 hl_k1 h => ?_)
      refine zx_E.iald (k := k1) (h := (18, i, 0, 0)) rfl rfl hx_k1 hl_k1 ?_
      show zx_E _ _ _ (16, [some (.inr (some (21, 0, 0, 0))), some (.inr (some (17, i, 0, 0))), some (.inl w2), g3], [.inl (M (18, i, 0, 0) k1)], (zx_lay M, n)) _
      refine zx_E.go 3 (s' := (19, [some (.inr (some (21, 0, 0, 0))), some (.inr (some (17, i, 0, 0))), some (.inl w2), some (.inl (M (18, i, 0, 0) k1))], [.inl 1, .inl (M (18, i, 0, 0) k1)], (zx_lay M, n))) rfl ?_
      refine zx_E.brh (c := (M (18, i, 0, 0) k1) < 1) (s1 := (28, [some (.inr (some (21, 0, 0, 0))), some (.inr (some (17, i, 0, 0))), some (.inl w2), some (.inl (M (18, i, 0, 0) k1))], [], (zx_lay M, n))) (s2 := (22, [some (.inr (some (21, 0, 0, 0))), some (.inr (some (17, i, 0, 0))), some (.inl w2), some (.inl (M (18, i, 0, 0) k1))], [], (zx_lay M, n))) h (zx_ic_lt rfl) (fun _ h => ?_) (fun _ h => ?_)
      · refine zx_E.go 3 (s' := (31, [some (.inr (some (21, 0, 0, 0))), some (.inr (some (17, i, 0, 0))), some (.inl w2), some (.inl (M (18, i, 0, 0) k1))], [.inl (M (18, i, 0, 0) k1), .inl 4, .inr (some (21, 0, 0, 0))], (zx_lay M, n))) rfl ?_
        refine zx_E.cv (y := 2) (as := [.inr (some (21, 0, 0, 0)), .inl 4, .inl (M (18, i, 0, 0) k1)]) (rest := []) h rfl (fun _ _ hv => zx_run_up (by omega) (r_X0_refuse (d := d) hv)) (fun v1 M1 h => ?_)
        show zx_E _ _ _ (34, [some (.inr (some (21, 0, 0, 0))), some (.inr (some (17, i, 0, 0))), some (.inl w2), some (.inl (M (18, i, 0, 0) k1))], [.inl v1], (zx_lay M1, n)) _
        refine zx_E.ob h (fun hv h => ?_)
        exact zx_E.ri h rfl (fun _ => hv)
      · refine zx_E.go 2 (s' := (25, [some (.inr (some (21, 0, 0, 0))), some (.inr (some (17, i, 0, 0))), some (.inl w2), some (.inl (M (18, i, 0, 0) k1))], [.inl 99, .inl (M (18, i, 0, 0) k1)], (zx_lay M, n))) rfl ?_
        refine zx_E.brh (c := (M (18, i, 0, 0) k1) ≤ 99) (s1 := (35, [some (.inr (some (21, 0, 0, 0))), some (.inr (some (17, i, 0, 0))), some (.inl w2), some (.inl (M (18, i, 0, 0) k1))], [], (zx_lay M, n))) (s2 := (28, [some (.inr (some (21, 0, 0, 0))), some (.inr (some (17, i, 0, 0))), some (.inl w2), some (.inl (M (18, i, 0, 0) k1))], [], (zx_lay M, n))) h (zx_ic_le rfl) (fun _ h => ?_) (fun _ h => ?_)
        · refine zx_E.go 2 (s' := (2, [some (.inr (some (21, 0, 0, 0))), some (.inr (some (17, i, 0, 0))), some (.inl (w2 + 1)), some (.inl (M (18, i, 0, 0) k1))], [], (zx_lay M, n))) rfl ?_
          exact rl_X0_refusesLengths_2 hk q _ (w2 + 1) h
        · refine zx_E.go 3 (s' := (31, [some (.inr (some (21, 0, 0, 0))), some (.inr (some (17, i, 0, 0))), some (.inl w2), some (.inl (M (18, i, 0, 0) k1))], [.inl (M (18, i, 0, 0) k1), .inl 4, .inr (some (21, 0, 0, 0))], (zx_lay M, n))) rfl ?_
          refine zx_E.cv (y := 2) (as := [.inr (some (21, 0, 0, 0)), .inl 4, .inl (M (18, i, 0, 0) k1)]) (rest := []) h rfl (fun _ _ hv => zx_run_up (by omega) (r_X0_refuse (d := d) hv)) (fun v2 M2 h => ?_)
          show zx_E _ _ _ (34, [some (.inr (some (21, 0, 0, 0))), some (.inr (some (17, i, 0, 0))), some (.inl w2), some (.inl (M (18, i, 0, 0) k1))], [.inl v2], (zx_lay M2, n)) _
          refine zx_E.ob h (fun hv h => ?_)
          exact zx_E.ri h rfl (fun _ => hv)
def g_X0_refusesLengths (M : zx_Y) (i : Nat) : Option (Int32 × zx_Y) := (lg_X0_refusesLengths_2 M i (fun v1 => (some (0, M))) 1000 0)
set_option maxRecDepth 100000 in
set_option maxHeartbeats 4000000 in
theorem r_X0_refusesLengths {X : zx_X} {d n : Nat} {M : zx_Y} {i : Nat} {rv : Int32} {rM : zx_Y} (h : g_X0_refusesLengths M i = some (rv, rM)) : zx_run X (d + 2) 3 [.inr (some (21, 0, 0, 0)), .inr (some (17, i, 0, 0))] (zx_lay M, n) (some (.inl rv), (zx_lay rM, n)) := by
  refine zx_run_of zc_X0_refusesLengths [some (.inr (some (21, 0, 0, 0))), some (.inr (some (17, i, 0, 0))), none, none] rfl rfl ?_
  unfold g_X0_refusesLengths at h
  refine zx_E.go 2 (s' := (2, [some (.inr (some (21, 0, 0, 0))), some (.inr (some (17, i, 0, 0))), some (.inl 0), none], [], (zx_lay M, n))) rfl ?_
  refine rl_X0_refusesLengths_2 (fun v1 e1 h => ?_) 1000 _ 0  h
  refine zx_E.go 1 (s' := (42, [some (.inr (some (21, 0, 0, 0))), some (.inr (some (17, i, 0, 0))), some (.inl v1), e1], [.inl 0], (zx_lay M, n))) rfl ?_
  exact zx_E.ri h rfl (fun _ => Or.inl rfl)
def g_X2_exists (M : zx_Y) (l : Nat) : Option Int32 := (if (M (1, l, 0, 0) 3) ≤ 0 then (some 0) else (some 1))
set_option maxRecDepth 100000 in
set_option maxHeartbeats 4000000 in
theorem r_X2_exists {X : zx_X} {d n : Nat} {M : zx_Y} {l : Nat} {rv : Int32} (h : g_X2_exists M l = some rv) : zx_run X (d + 1) 15 [.inr (some (1, l, 0, 0))] (zx_lay M, n) (some (.inl rv), (zx_lay M, n)) := by
  refine zx_run_of zc_X2_exists [some (.inr (some (1, l, 0, 0)))] rfl rfl ?_
  unfold g_X2_exists at h
  refine zx_E.go 2 (s' := (4, [some (.inr (some (1, l, 0, 0)))], [.inl (M (1, l, 0, 0) 3)], (zx_lay M, n))) rfl ?_
  refine zx_E.brh (c := (M (1, l, 0, 0) 3) ≤ 0) (s1 := (11, [some (.inr (some (1, l, 0, 0)))], [], (zx_lay M, n))) (s2 := (7, [some (.inr (some (1, l, 0, 0)))], [], (zx_lay M, n))) h (zx_if_le rfl) (fun _ h => ?_) (fun _ h => ?_)
  · refine zx_E.go 1 (s' := (12, [some (.inr (some (1, l, 0, 0)))], [.inl 0], (zx_lay M, n))) rfl ?_
    exact zx_E.rp h rfl (fun _ => Or.inl rfl)
  · refine zx_E.go 2 (s' := (12, [some (.inr (some (1, l, 0, 0)))], [.inl 1], (zx_lay M, n))) rfl ?_
    exact zx_E.rp h rfl (fun _ => Or.inr rfl)
def g_X2_hasBlock (M : zx_Y) (l : Nat) (x0 : Int32) : Option Int32 := (if x0 < 0 then (some 0) else (if ((M (1, l, 0, 0) 3) - 1) ≤ x0 then (some 0) else (if (7 : Int32) ≤ x0 then (some 0) else (some 1))))
set_option maxRecDepth 100000 in
set_option maxHeartbeats 4000000 in
theorem r_X2_hasBlock {X : zx_X} {d n : Nat} {M : zx_Y} {l : Nat} {x0 : Int32} {rv : Int32} (h : g_X2_hasBlock M l x0 = some rv) : zx_run X (d + 1) 17 [.inr (some (1, l, 0, 0)), .inl x0] (zx_lay M, n) (some (.inl rv), (zx_lay M, n)) := by
  refine zx_run_of zc_X2_hasBlock [some (.inr (some (1, l, 0, 0))), some (.inl x0)] rfl rfl ?_
  unfold g_X2_hasBlock at h
  refine zx_E.go 1 (s' := (1, [some (.inr (some (1, l, 0, 0))), some (.inl x0)], [.inl x0], (zx_lay M, n))) rfl ?_
  refine zx_E.brh (c := x0 < 0) (s1 := (24, [some (.inr (some (1, l, 0, 0))), some (.inl x0)], [], (zx_lay M, n))) (s2 := (4, [some (.inr (some (1, l, 0, 0))), some (.inl x0)], [], (zx_lay M, n))) h (zx_if_lt rfl) (fun _ h => ?_) (fun _ h => ?_)
  · refine zx_E.go 1 (s' := (25, [some (.inr (some (1, l, 0, 0))), some (.inl x0)], [.inl 0], (zx_lay M, n))) rfl ?_
    exact zx_E.rp h rfl (fun _ => Or.inl rfl)
  · refine zx_E.go 4 (s' := (10, [some (.inr (some (1, l, 0, 0))), some (.inl x0)], [.inl 1, .inl (M (1, l, 0, 0) 3), .inl x0], (zx_lay M, n))) rfl ?_
    refine zx_E.go 1 (s' := (11, [some (.inr (some (1, l, 0, 0))), some (.inl x0)], [.inl ((M (1, l, 0, 0) 3) - 1), .inl x0], (zx_lay M, n))) rfl ?_
    refine zx_E.brh (c := ((M (1, l, 0, 0) 3) - 1) ≤ x0) (s1 := (24, [some (.inr (some (1, l, 0, 0))), some (.inl x0)], [], (zx_lay M, n))) (s2 := (14, [some (.inr (some (1, l, 0, 0))), some (.inl x0)], [], (zx_lay M, n))) h (zx_ic_ge rfl) (fun _ h => ?_) (fun _ h => ?_)
    · refine zx_E.go 1 (s' := (25, [some (.inr (some (1, l, 0, 0))), some (.inl x0)], [.inl 0], (zx_lay M, n))) rfl ?_
      exact zx_E.rp h rfl (fun _ => Or.inl rfl)
    · refine zx_E.go 2 (s' := (17, [some (.inr (some (1, l, 0, 0))), some (.inl x0)], [.inl 7, .inl x0], (zx_lay M, n))) rfl ?_
      refine zx_E.brh (c := (7 : Int32) ≤ x0) (s1 := (24, [some (.inr (some (1, l, 0, 0))), some (.inl x0)], [], (zx_lay M, n))) (s2 := (20, [some (.inr (some (1, l, 0, 0))), some (.inl x0)], [], (zx_lay M, n))) h (zx_ic_ge rfl) (fun _ h => ?_) (fun _ h => ?_)
      · refine zx_E.go 1 (s' := (25, [some (.inr (some (1, l, 0, 0))), some (.inl x0)], [.inl 0], (zx_lay M, n))) rfl ?_
        exact zx_E.rp h rfl (fun _ => Or.inl rfl)
      · refine zx_E.go 2 (s' := (25, [some (.inr (some (1, l, 0, 0))), some (.inl x0)], [.inl 1], (zx_lay M, n))) rfl ?_
        exact zx_E.rp h rfl (fun _ => Or.inr rfl)
def g_X0_refusesOrder (M : zx_Y) (l : Nat) (i : Nat) : Option (Int32 × zx_Y) := (zb (g_X2_exists M l) fun v1 => (if v1 = 0 then (zv (g_X0_refuse M 1 (-5)) fun v2 M1 => (zo v2 ((some (v2, M1))))) else (zb (g_X2_hasBlock M l (M (17, i, 0, 0) 1)) fun v3 => (if v3 = 0 then (zv (g_X0_refuse M 2 (M (17, i, 0, 0) 1)) fun v4 M2 => (zo v4 ((some (v4, M2))))) else (if (M (1, l, 0, 0) 5) < 6 then (if (M (17, i, 0, 0) 4) < (M (17, i, 0, 0) 8) then (some (0, M)) else (zv (g_X0_refuse M 4 (M (17, i, 0, 0) 8)) fun v5 M3 => (if v5 = 0 then (some (0, M3)) else (some (1, M3))))) else (zv (g_X0_refuse M 3 6) fun v6 M4 => (zo v6 ((some (v6, M4))))))))))
set_option maxRecDepth 100000 in
set_option maxHeartbeats 4000000 in
theorem r_X0_refusesOrder {X : zx_X} {d n : Nat} {M : zx_Y} {l : Nat} {i : Nat} {rv : Int32} {rM : zx_Y} (h : g_X0_refusesOrder M l i = some (rv, rM)) : zx_run X (d + 2) 6 [.inr (some (21, 0, 0, 0)), .inr (some (1, l, 0, 0)), .inr (some (17, i, 0, 0))] (zx_lay M, n) (some (.inl rv), (zx_lay rM, n)) := by
  refine zx_run_of zc_X0_refusesOrder [some (.inr (some (21, 0, 0, 0))), some (.inr (some (1, l, 0, 0))), some (.inr (some (17, i, 0, 0)))] rfl rfl ?_
  unfold g_X0_refusesOrder at h
  refine zx_E.go 1 (s' := (1, [some (.inr (some (21, 0, 0, 0))), some (.inr (some (1, l, 0, 0))), some (.inr (some (17, i, 0, 0)))], [.inr (some (1, l, 0, 0))], (zx_lay M, n))) rfl ?_
  refine zx_E.cb (y := 15) (as := [.inr (some (1, l, 0, 0))]) (rest := []) h rfl (fun _ hv => zx_run_up (by omega) (r_X2_exists (d := d) hv)) (fun v1 h => ?_)
  show zx_E _ _ _ (4, [some (.inr (some (21, 0, 0, 0))), some (.inr (some (1, l, 0, 0))), some (.inr (some (17, i, 0, 0)))], [.inl v1], (zx_lay M, n)) _
  refine zx_E.brh (c := v1 = 0) (s1 := (7, [some (.inr (some (21, 0, 0, 0))), some (.inr (some (1, l, 0, 0))), some (.inr (some (17, i, 0, 0)))], [], (zx_lay M, n))) (s2 := (15, [some (.inr (some (21, 0, 0, 0))), some (.inr (some (1, l, 0, 0))), some (.inr (some (17, i, 0, 0)))], [], (zx_lay M, n))) h (zx_if_ne rfl) (fun _ h => ?_) (fun _ h => ?_)
  · refine zx_E.go 3 (s' := (11, [some (.inr (some (21, 0, 0, 0))), some (.inr (some (1, l, 0, 0))), some (.inr (some (17, i, 0, 0)))], [.inl (-5), .inl 1, .inr (some (21, 0, 0, 0))], (zx_lay M, n))) rfl ?_
    refine zx_E.cv (y := 2) (as := [.inr (some (21, 0, 0, 0)), .inl 1, .inl (-5)]) (rest := []) h rfl (fun _ _ hv => zx_run_up (by omega) (r_X0_refuse (d := d) hv)) (fun v2 M1 h => ?_)
    show zx_E _ _ _ (14, [some (.inr (some (21, 0, 0, 0))), some (.inr (some (1, l, 0, 0))), some (.inr (some (17, i, 0, 0)))], [.inl v2], (zx_lay M1, n)) _
    refine zx_E.ob h (fun hv h => ?_)
    exact zx_E.ri h rfl (fun _ => hv)
  · refine zx_E.go 3 (s' := (20, [some (.inr (some (21, 0, 0, 0))), some (.inr (some (1, l, 0, 0))), some (.inr (some (17, i, 0, 0)))], [.inl (M (17, i, 0, 0) 1), .inr (some (1, l, 0, 0))], (zx_lay M, n))) rfl ?_
    refine zx_E.cb (y := 17) (as := [.inr (some (1, l, 0, 0)), .inl (M (17, i, 0, 0) 1)]) (rest := []) h rfl (fun _ hv => zx_run_up (by omega) (r_X2_hasBlock (d := d) hv)) (fun v3 h => ?_)
    show zx_E _ _ _ (23, [some (.inr (some (21, 0, 0, 0))), some (.inr (some (1, l, 0, 0))), some (.inr (some (17, i, 0, 0)))], [.inl v3], (zx_lay M, n)) _
    refine zx_E.brh (c := v3 = 0) (s1 := (26, [some (.inr (some (21, 0, 0, 0))), some (.inr (some (1, l, 0, 0))), some (.inr (some (17, i, 0, 0)))], [], (zx_lay M, n))) (s2 := (36, [some (.inr (some (21, 0, 0, 0))), some (.inr (some (1, l, 0, 0))), some (.inr (some (17, i, 0, 0)))], [], (zx_lay M, n))) h (zx_if_ne rfl) (fun _ h => ?_) (fun _ h => ?_)
    · refine zx_E.go 4 (s' := (32, [some (.inr (some (21, 0, 0, 0))), some (.inr (some (1, l, 0, 0))), some (.inr (some (17, i, 0, 0)))], [.inl (M (17, i, 0, 0) 1), .inl 2, .inr (some (21, 0, 0, 0))], (zx_lay M, n))) rfl ?_
      refine zx_E.cv (y := 2) (as := [.inr (some (21, 0, 0, 0)), .inl 2, .inl (M (17, i, 0, 0) 1)]) (rest := []) h rfl (fun _ _ hv => zx_run_up (by omega) (r_X0_refuse (d := d) hv)) (fun v4 M2 h => ?_)
      show zx_E _ _ _ (35, [some (.inr (some (21, 0, 0, 0))), some (.inr (some (1, l, 0, 0))), some (.inr (some (17, i, 0, 0)))], [.inl v4], (zx_lay M2, n)) _
      refine zx_E.ob h (fun hv h => ?_)
      exact zx_E.ri h rfl (fun _ => hv)
    · refine zx_E.go 3 (s' := (42, [some (.inr (some (21, 0, 0, 0))), some (.inr (some (1, l, 0, 0))), some (.inr (some (17, i, 0, 0)))], [.inl 6, .inl (M (1, l, 0, 0) 5)], (zx_lay M, n))) rfl ?_
      refine zx_E.brh (c := (M (1, l, 0, 0) 5) < 6) (s1 := (53, [some (.inr (some (21, 0, 0, 0))), some (.inr (some (1, l, 0, 0))), some (.inr (some (17, i, 0, 0)))], [], (zx_lay M, n))) (s2 := (45, [some (.inr (some (21, 0, 0, 0))), some (.inr (some (1, l, 0, 0))), some (.inr (some (17, i, 0, 0)))], [], (zx_lay M, n))) h (zx_ic_lt rfl) (fun _ h => ?_) (fun _ h => ?_)
      · refine zx_E.go 4 (s' := (61, [some (.inr (some (21, 0, 0, 0))), some (.inr (some (1, l, 0, 0))), some (.inr (some (17, i, 0, 0)))], [.inl (M (17, i, 0, 0) 4), .inl (M (17, i, 0, 0) 8)], (zx_lay M, n))) rfl ?_
        refine zx_E.brh (c := (M (17, i, 0, 0) 4) < (M (17, i, 0, 0) 8)) (s1 := (80, [some (.inr (some (21, 0, 0, 0))), some (.inr (some (1, l, 0, 0))), some (.inr (some (17, i, 0, 0)))], [], (zx_lay M, n))) (s2 := (64, [some (.inr (some (21, 0, 0, 0))), some (.inr (some (1, l, 0, 0))), some (.inr (some (17, i, 0, 0)))], [], (zx_lay M, n))) h (zx_ic_gt rfl) (fun _ h => ?_) (fun _ h => ?_)
        · refine zx_E.go 1 (s' := (81, [some (.inr (some (21, 0, 0, 0))), some (.inr (some (1, l, 0, 0))), some (.inr (some (17, i, 0, 0)))], [.inl 0], (zx_lay M, n))) rfl ?_
          exact zx_E.ri h rfl (fun _ => Or.inl rfl)
        · refine zx_E.go 4 (s' := (70, [some (.inr (some (21, 0, 0, 0))), some (.inr (some (1, l, 0, 0))), some (.inr (some (17, i, 0, 0)))], [.inl (M (17, i, 0, 0) 8), .inl 4, .inr (some (21, 0, 0, 0))], (zx_lay M, n))) rfl ?_
          refine zx_E.cv (y := 2) (as := [.inr (some (21, 0, 0, 0)), .inl 4, .inl (M (17, i, 0, 0) 8)]) (rest := []) h rfl (fun _ _ hv => zx_run_up (by omega) (r_X0_refuse (d := d) hv)) (fun v5 M3 h => ?_)
          show zx_E _ _ _ (73, [some (.inr (some (21, 0, 0, 0))), some (.inr (some (1, l, 0, 0))), some (.inr (some (17, i, 0, 0)))], [.inl v5], (zx_lay M3, n)) _
          refine zx_E.brh (c := v5 = 0) (s1 := (80, [some (.inr (some (21, 0, 0, 0))), some (.inr (some (1, l, 0, 0))), some (.inr (some (17, i, 0, 0)))], [], (zx_lay M3, n))) (s2 := (76, [some (.inr (some (21, 0, 0, 0))), some (.inr (some (1, l, 0, 0))), some (.inr (some (17, i, 0, 0)))], [], (zx_lay M3, n))) h (zx_if_eq rfl) (fun _ h => ?_) (fun _ h => ?_)
          · refine zx_E.go 1 (s' := (81, [some (.inr (some (21, 0, 0, 0))), some (.inr (some (1, l, 0, 0))), some (.inr (some (17, i, 0, 0)))], [.inl 0], (zx_lay M3, n))) rfl ?_
            exact zx_E.ri h rfl (fun _ => Or.inl rfl)
          · refine zx_E.go 2 (s' := (81, [some (.inr (some (21, 0, 0, 0))), some (.inr (some (1, l, 0, 0))), some (.inr (some (17, i, 0, 0)))], [.inl 1], (zx_lay M3, n))) rfl ?_
            exact zx_E.ri h rfl (fun _ => Or.inr rfl)
      · refine zx_E.go 3 (s' := (49, [some (.inr (some (21, 0, 0, 0))), some (.inr (some (1, l, 0, 0))), some (.inr (some (17, i, 0, 0)))], [.inl 6, .inl 3, .inr (some (21, 0, 0, 0))], (zx_lay M, n))) rfl ?_
        refine zx_E.cv (y := 2) (as := [.inr (some (21, 0, 0, 0)), .inl 3, .inl 6]) (rest := []) h rfl (fun _ _ hv => zx_run_up (by omega) (r_X0_refuse (d := d) hv)) (fun v6 M4 h => ?_)
        show zx_E _ _ _ (52, [some (.inr (some (21, 0, 0, 0))), some (.inr (some (1, l, 0, 0))), some (.inr (some (17, i, 0, 0)))], [.inl v6], (zx_lay M4, n)) _
        refine zx_E.ob h (fun hv h => ?_)
        exact zx_E.ri h rfl (fun _ => hv)
def g_X2_hasStation (M : zx_Y) (l : Nat) (x0 : Int32) : Option Int32 := (if x0 < 0 then (some 0) else (if (M (1, l, 0, 0) 3) ≤ x0 then (some 0) else (if (8 : Int32) ≤ x0 then (some 0) else (some 1))))
set_option maxRecDepth 100000 in
set_option maxHeartbeats 4000000 in
theorem r_X2_hasStation {X : zx_X} {d n : Nat} {M : zx_Y} {l : Nat} {x0 : Int32} {rv : Int32} (h : g_X2_hasStation M l x0 = some rv) : zx_run X (d + 1) 16 [.inr (some (1, l, 0, 0)), .inl x0] (zx_lay M, n) (some (.inl rv), (zx_lay M, n)) := by
  refine zx_run_of zc_X2_hasStation [some (.inr (some (1, l, 0, 0))), some (.inl x0)] rfl rfl ?_
  unfold g_X2_hasStation at h
  refine zx_E.go 1 (s' := (1, [some (.inr (some (1, l, 0, 0))), some (.inl x0)], [.inl x0], (zx_lay M, n))) rfl ?_
  refine zx_E.brh (c := x0 < 0) (s1 := (22, [some (.inr (some (1, l, 0, 0))), some (.inl x0)], [], (zx_lay M, n))) (s2 := (4, [some (.inr (some (1, l, 0, 0))), some (.inl x0)], [], (zx_lay M, n))) h (zx_if_lt rfl) (fun _ h => ?_) (fun _ h => ?_)
  · refine zx_E.go 1 (s' := (23, [some (.inr (some (1, l, 0, 0))), some (.inl x0)], [.inl 0], (zx_lay M, n))) rfl ?_
    exact zx_E.rp h rfl (fun _ => Or.inl rfl)
  · refine zx_E.go 3 (s' := (9, [some (.inr (some (1, l, 0, 0))), some (.inl x0)], [.inl (M (1, l, 0, 0) 3), .inl x0], (zx_lay M, n))) rfl ?_
    refine zx_E.brh (c := (M (1, l, 0, 0) 3) ≤ x0) (s1 := (22, [some (.inr (some (1, l, 0, 0))), some (.inl x0)], [], (zx_lay M, n))) (s2 := (12, [some (.inr (some (1, l, 0, 0))), some (.inl x0)], [], (zx_lay M, n))) h (zx_ic_ge rfl) (fun _ h => ?_) (fun _ h => ?_)
    · refine zx_E.go 1 (s' := (23, [some (.inr (some (1, l, 0, 0))), some (.inl x0)], [.inl 0], (zx_lay M, n))) rfl ?_
      exact zx_E.rp h rfl (fun _ => Or.inl rfl)
    · refine zx_E.go 2 (s' := (15, [some (.inr (some (1, l, 0, 0))), some (.inl x0)], [.inl 8, .inl x0], (zx_lay M, n))) rfl ?_
      refine zx_E.brh (c := (8 : Int32) ≤ x0) (s1 := (22, [some (.inr (some (1, l, 0, 0))), some (.inl x0)], [], (zx_lay M, n))) (s2 := (18, [some (.inr (some (1, l, 0, 0))), some (.inl x0)], [], (zx_lay M, n))) h (zx_ic_ge rfl) (fun _ h => ?_) (fun _ h => ?_)
      · refine zx_E.go 1 (s' := (23, [some (.inr (some (1, l, 0, 0))), some (.inl x0)], [.inl 0], (zx_lay M, n))) rfl ?_
        exact zx_E.rp h rfl (fun _ => Or.inl rfl)
      · refine zx_E.go 2 (s' := (23, [some (.inr (some (1, l, 0, 0))), some (.inl x0)], [.inl 1], (zx_lay M, n))) rfl ?_
        exact zx_E.rp h rfl (fun _ => Or.inr rfl)
def g_X9_takesTrackOf (M : zx_Y) (l : Nat) (i : Nat) (x0 : Int32) : Option Int32 := (if (M (7, l, i, 0) 1) = 2 then (if x0 = (M (7, l, i, 0) 10) then (if x0 = (M (7, l, i, 0) 3) then (some 0) else (some 1)) else (some 0)) else (if (M (7, l, i, 0) 9) = x0 then (if (M (7, l, i, 0) 1) = 1 then (some 1) else (if (M (7, l, i, 0) 1) = 3 then (some 1) else (some 0))) else (some 0)))
set_option maxRecDepth 100000 in
set_option maxHeartbeats 4000000 in
theorem r_X9_takesTrackOf {X : zx_X} {d n : Nat} {M : zx_Y} {l : Nat} {i : Nat} {x0 : Int32} {rv : Int32} (h : g_X9_takesTrackOf M l i x0 = some rv) : zx_run X (d + 1) 88 [.inr (some (7, l, i, 0)), .inl x0] (zx_lay M, n) (some (.inl rv), (zx_lay M, n)) := by
  refine zx_run_of zc_X9_takesTrackOf [some (.inr (some (7, l, i, 0))), some (.inl x0)] rfl rfl ?_
  unfold g_X9_takesTrackOf at h
  refine zx_E.go 3 (s' := (5, [some (.inr (some (7, l, i, 0))), some (.inl x0)], [.inl 2, .inl (M (7, l, i, 0) 1)], (zx_lay M, n))) rfl ?_
  refine zx_E.brh (c := (M (7, l, i, 0) 1) = 2) (s1 := (8, [some (.inr (some (7, l, i, 0))), some (.inl x0)], [], (zx_lay M, n))) (s2 := (30, [some (.inr (some (7, l, i, 0))), some (.inl x0)], [], (zx_lay M, n))) h (zx_ic_ne rfl) (fun _ h => ?_) (fun _ h => ?_)
  · refine zx_E.go 3 (s' := (13, [some (.inr (some (7, l, i, 0))), some (.inl x0)], [.inl (M (7, l, i, 0) 10), .inl x0], (zx_lay M, n))) rfl ?_
    refine zx_E.brh (c := x0 = (M (7, l, i, 0) 10)) (s1 := (16, [some (.inr (some (7, l, i, 0))), some (.inl x0)], [], (zx_lay M, n))) (s2 := (28, [some (.inr (some (7, l, i, 0))), some (.inl x0)], [], (zx_lay M, n))) h (zx_ic_ne rfl) (fun _ h => ?_) (fun _ h => ?_)
    · refine zx_E.go 3 (s' := (21, [some (.inr (some (7, l, i, 0))), some (.inl x0)], [.inl (M (7, l, i, 0) 3), .inl x0], (zx_lay M, n))) rfl ?_
      refine zx_E.brh (c := x0 = (M (7, l, i, 0) 3)) (s1 := (28, [some (.inr (some (7, l, i, 0))), some (.inl x0)], [], (zx_lay M, n))) (s2 := (24, [some (.inr (some (7, l, i, 0))), some (.inl x0)], [], (zx_lay M, n))) h (zx_ic_eq rfl) (fun _ h => ?_) (fun _ h => ?_)
      · refine zx_E.go 1 (s' := (29, [some (.inr (some (7, l, i, 0))), some (.inl x0)], [.inl 0], (zx_lay M, n))) rfl ?_
        exact zx_E.rp h rfl (fun _ => Or.inl rfl)
      · refine zx_E.go 2 (s' := (29, [some (.inr (some (7, l, i, 0))), some (.inl x0)], [.inl 1], (zx_lay M, n))) rfl ?_
        exact zx_E.rp h rfl (fun _ => Or.inr rfl)
    · refine zx_E.go 1 (s' := (29, [some (.inr (some (7, l, i, 0))), some (.inl x0)], [.inl 0], (zx_lay M, n))) rfl ?_
      exact zx_E.rp h rfl (fun _ => Or.inl rfl)
  · refine zx_E.go 3 (s' := (35, [some (.inr (some (7, l, i, 0))), some (.inl x0)], [.inl x0, .inl (M (7, l, i, 0) 9)], (zx_lay M, n))) rfl ?_
    refine zx_E.brh (c := (M (7, l, i, 0) 9) = x0) (s1 := (38, [some (.inr (some (7, l, i, 0))), some (.inl x0)], [], (zx_lay M, n))) (s2 := (58, [some (.inr (some (7, l, i, 0))), some (.inl x0)], [], (zx_lay M, n))) h (zx_ic_ne rfl) (fun _ h => ?_) (fun _ h => ?_)
    · refine zx_E.go 3 (s' := (43, [some (.inr (some (7, l, i, 0))), some (.inl x0)], [.inl 1, .inl (M (7, l, i, 0) 1)], (zx_lay M, n))) rfl ?_
      refine zx_E.brh (c := (M (7, l, i, 0) 1) = 1) (s1 := (54, [some (.inr (some (7, l, i, 0))), some (.inl x0)], [], (zx_lay M, n))) (s2 := (46, [some (.inr (some (7, l, i, 0))), some (.inl x0)], [], (zx_lay M, n))) h (zx_ic_eq rfl) (fun _ h => ?_) (fun _ h => ?_)
      · refine zx_E.go 2 (s' := (59, [some (.inr (some (7, l, i, 0))), some (.inl x0)], [.inl 1], (zx_lay M, n))) rfl ?_
        exact zx_E.rp h rfl (fun _ => Or.inr rfl)
      · refine zx_E.go 3 (s' := (51, [some (.inr (some (7, l, i, 0))), some (.inl x0)], [.inl 3, .inl (M (7, l, i, 0) 1)], (zx_lay M, n))) rfl ?_
        refine zx_E.brh (c := (M (7, l, i, 0) 1) = 3) (s1 := (54, [some (.inr (some (7, l, i, 0))), some (.inl x0)], [], (zx_lay M, n))) (s2 := (58, [some (.inr (some (7, l, i, 0))), some (.inl x0)], [], (zx_lay M, n))) h (zx_ic_ne rfl) (fun _ h => ?_) (fun _ h => ?_)
        · refine zx_E.go 2 (s' := (59, [some (.inr (some (7, l, i, 0))), some (.inl x0)], [.inl 1], (zx_lay M, n))) rfl ?_
          exact zx_E.rp h rfl (fun _ => Or.inr rfl)
        · refine zx_E.go 1 (s' := (59, [some (.inr (some (7, l, i, 0))), some (.inl x0)], [.inl 0], (zx_lay M, n))) rfl ?_
          exact zx_E.rp h rfl (fun _ => Or.inl rfl)
    · refine zx_E.go 1 (s' := (59, [some (.inr (some (7, l, i, 0))), some (.inl x0)], [.inl 0], (zx_lay M, n))) rfl ?_
      exact zx_E.rp h rfl (fun _ => Or.inl rfl)
def lg_X2_takenTracks_4 (M : zx_Y) (l : Nat) (x0 : Int32) (kk : Int32 → Int32 → Option Int32) : Nat → Int32 → Int32 → Option Int32
  | 0, _, _ => none
  | q + 1, w2, w3 => (if (M (1, l, 0, 0) 4) ≤ w3 then (kk w2 w3) else (zi w3 10 fun k1 => (zb (g_X9_takesTrackOf M l k1 x0) fun v1 => (if v1 = 0 then (lg_X2_takenTracks_4 M l x0 kk q w2 (w3 + 1)) else (lg_X2_takenTracks_4 M l x0 kk q (w2 + 1) (w3 + 1))))))
set_option maxRecDepth 100000 in
set_option maxHeartbeats 4000000 in
theorem rl_X2_takenTracks_4 {X : zx_X} {d n : Nat} {M : zx_Y} {l : Nat} {x0 : Int32} {kk : Int32 → Int32 → Option Int32} {rv : Int32} (hk : ∀ (w2 : Int32) (w3 : Int32), kk w2 w3 = some rv → zx_E X (d + 1) zc_X2_takenTracks (34, [some (.inr (some (1, l, 0, 0))), some (.inl x0), some (.inl w2), some (.inl w3)], [], (zx_lay M, n)) (some (.inl rv), (zx_lay M, n))) : ∀ (q : Nat) (w2 : Int32) (w3 : Int32), lg_X2_takenTracks_4 M l x0 kk q w2 w3 = some rv → zx_E X (d + 1) zc_X2_takenTracks (4, [some (.inr (some (1, l, 0, 0))), some (.inl x0), some (.inl w2), some (.inl w3)], [], (zx_lay M, n)) (some (.inl rv), (zx_lay M, n))
  | 0, w2, w3, h => by
    rw [lg_X2_takenTracks_4.eq_1] at h
    cases h
  | q + 1, w2, w3, h => by
    rw [lg_X2_takenTracks_4.eq_2] at h
    refine zx_E.go 3 (s' := (9, [some (.inr (some (1, l, 0, 0))), some (.inl x0), some (.inl w2), some (.inl w3)], [.inl (M (1, l, 0, 0) 4), .inl w3], (zx_lay M, n))) rfl ?_
    refine zx_E.brh (c := (M (1, l, 0, 0) 4) ≤ w3) (s1 := (34, [some (.inr (some (1, l, 0, 0))), some (.inl x0), some (.inl w2), some (.inl w3)], [], (zx_lay M, n))) (s2 := (12, [some (.inr (some (1, l, 0, 0))), some (.inl x0), some (.inl w2), some (.inl w3)], [], (zx_lay M, n))) h (zx_ic_ge rfl) (fun _ h => ?_) (fun _ h => ?_)
    · exact hk _ _ h
    · refine zx_E.go 3 (s' := (17, [some (.inr (some (1, l, 0, 0))), some (.inl x0), some (.inl w2), some (.inl w3)], [.inl w3, .inr (some (6, l, 0, 0))], (zx_lay M, n))) rfl ?_
      refine zx_E.ix h (fun k1 hx_k1 hl_k1 h => ?_)
      refine zx_E.aald (k := k1) (h := (6, l, 0, 0)) (h' := (7, l, k1, 0)) rfl rfl hx_k1 hl_k1 rfl ?_
      show zx_E _ _ _ (18, [some (.inr (some (1, l, 0, 0))), some (.inl x0), some (.inl w2), some (.inl w3)], [.inr (some (7, l, k1, 0))], (zx_lay M, n)) _
      refine zx_E.go 1 (s' := (19, [some (.inr (some (1, l, 0, 0))), some (.inl x0), some (.inl w2), some (.inl w3)], [.inl x0, .inr (some (7, l, k1, 0))], (zx_lay M, n))) rfl ?_
      refine zx_E.cb (y := 88) (as := [.inr (some (7, l, k1, 0)), .inl x0]) (rest := []) h rfl (fun _ hv => zx_run_up (by omega) (r_X9_takesTrackOf (d := d) hv)) (fun v1 h => ?_)
      show zx_E _ _ _ (22, [some (.inr (some (1, l, 0, 0))), some (.inl x0), some (.inl w2), some (.inl w3)], [.inl v1], (zx_lay M, n)) _
      refine zx_E.brh (c := v1 = 0) (s1 := (28, [some (.inr (some (1, l, 0, 0))), some (.inl x0), some (.inl w2), some (.inl w3)], [], (zx_lay M, n))) (s2 := (25, [some (.inr (some (1, l, 0, 0))), some (.inl x0), some (.inl w2), some (.inl w3)], [], (zx_lay M, n))) h (zx_if_eq rfl) (fun _ h => ?_) (fun _ h => ?_)
      · refine zx_E.go 2 (s' := (4, [some (.inr (some (1, l, 0, 0))), some (.inl x0), some (.inl w2), some (.inl (w3 + 1))], [], (zx_lay M, n))) rfl ?_
        exact rl_X2_takenTracks_4 hk q w2 (w3 + 1) h
      · refine zx_E.go 3 (s' := (4, [some (.inr (some (1, l, 0, 0))), some (.inl x0), some (.inl (w2 + 1)), some (.inl (w3 + 1))], [], (zx_lay M, n))) rfl ?_
        exact rl_X2_takenTracks_4 hk q (w2 + 1) (w3 + 1) h
def g_X2_takenTracks (M : zx_Y) (l : Nat) (x0 : Int32) : Option Int32 := (lg_X2_takenTracks_4 M l x0 (fun v1 v2 => (some v1)) 1000 0 0)
set_option maxRecDepth 100000 in
set_option maxHeartbeats 4000000 in
theorem r_X2_takenTracks {X : zx_X} {d n : Nat} {M : zx_Y} {l : Nat} {x0 : Int32} {rv : Int32} (h : g_X2_takenTracks M l x0 = some rv) : zx_run X (d + 2) 37 [.inr (some (1, l, 0, 0)), .inl x0] (zx_lay M, n) (some (.inl rv), (zx_lay M, n)) := by
  refine zx_run_of zc_X2_takenTracks [some (.inr (some (1, l, 0, 0))), some (.inl x0), none, none] rfl rfl ?_
  unfold g_X2_takenTracks at h
  refine zx_E.go 4 (s' := (4, [some (.inr (some (1, l, 0, 0))), some (.inl x0), some (.inl 0), some (.inl 0)], [], (zx_lay M, n))) rfl ?_
  refine rl_X2_takenTracks_4 (fun v1 v2 h => ?_) 1000  0 0  h
  refine zx_E.go 1 (s' := (35, [some (.inr (some (1, l, 0, 0))), some (.inl x0), some (.inl v1), some (.inl v2)], [.inl v1], (zx_lay M, n))) rfl ?_
  exact zx_E.rp h rfl (fun h => absurd h (by decide))
def g_X0_refusesStation (M : zx_Y) (l : Nat) (i : Nat) : Option (Int32 × zx_Y) := (zb (g_X2_exists M l) fun v1 => (if v1 = 0 then (zv (g_X0_refuse M 1 (-5)) fun v2 M1 => (zo v2 ((some (v2, M1))))) else (zb (g_X2_hasStation M l (M (17, i, 0, 0) 1)) fun v3 => (if v3 = 0 then (zv (g_X0_refuse M 2 (M (17, i, 0, 0) 1)) fun v4 M2 => (zo v4 ((some (v4, M2))))) else (if (M (17, i, 0, 0) 3) < 1 then (zv (g_X0_refuse M 4 (M (17, i, 0, 0) 3)) fun v5 M3 => (zo v5 ((some (v5, M3))))) else (if (4 : Int32) < (M (17, i, 0, 0) 3) then (zv (g_X0_refuse M 4 (M (17, i, 0, 0) 3)) fun v6 M4 => (zo v6 ((some (v6, M4))))) else (zb (g_X2_takenTracks M l (M (17, i, 0, 0) 1)) fun v7 => (if (M (17, i, 0, 0) 3) < v7 then (zv (g_X0_refuse M 4 (M (17, i, 0, 0) 3)) fun v8 M5 => (zo v8 ((some (v8, M5))))) else (some (0, M))))))))))
set_option maxRecDepth 100000 in
set_option maxHeartbeats 4000000 in
theorem r_X0_refusesStation {X : zx_X} {d n : Nat} {M : zx_Y} {l : Nat} {i : Nat} {rv : Int32} {rM : zx_Y} (h : g_X0_refusesStation M l i = some (rv, rM)) : zx_run X (d + 3) 4 [.inr (some (21, 0, 0, 0)), .inr (some (1, l, 0, 0)), .inr (some (17, i, 0, 0))] (zx_lay M, n) (some (.inl rv), (zx_lay rM, n)) := by
  refine zx_run_of zc_X0_refusesStation [some (.inr (some (21, 0, 0, 0))), some (.inr (some (1, l, 0, 0))), some (.inr (some (17, i, 0, 0))), none] rfl rfl ?_
  unfold g_X0_refusesStation at h
  refine zx_E.go 1 (s' := (1, [some (.inr (some (21, 0, 0, 0))), some (.inr (some (1, l, 0, 0))), some (.inr (some (17, i, 0, 0))), none], [.inr (some (1, l, 0, 0))], (zx_lay M, n))) rfl ?_
  refine zx_E.cb (y := 15) (as := [.inr (some (1, l, 0, 0))]) (rest := []) h rfl (fun _ hv => zx_run_up (by omega) (r_X2_exists (d := d) hv)) (fun v1 h => ?_)
  show zx_E _ _ _ (4, [some (.inr (some (21, 0, 0, 0))), some (.inr (some (1, l, 0, 0))), some (.inr (some (17, i, 0, 0))), none], [.inl v1], (zx_lay M, n)) _
  refine zx_E.brh (c := v1 = 0) (s1 := (7, [some (.inr (some (21, 0, 0, 0))), some (.inr (some (1, l, 0, 0))), some (.inr (some (17, i, 0, 0))), none], [], (zx_lay M, n))) (s2 := (15, [some (.inr (some (21, 0, 0, 0))), some (.inr (some (1, l, 0, 0))), some (.inr (some (17, i, 0, 0))), none], [], (zx_lay M, n))) h (zx_if_ne rfl) (fun _ h => ?_) (fun _ h => ?_)
  · refine zx_E.go 3 (s' := (11, [some (.inr (some (21, 0, 0, 0))), some (.inr (some (1, l, 0, 0))), some (.inr (some (17, i, 0, 0))), none], [.inl (-5), .inl 1, .inr (some (21, 0, 0, 0))], (zx_lay M, n))) rfl ?_
    refine zx_E.cv (y := 2) (as := [.inr (some (21, 0, 0, 0)), .inl 1, .inl (-5)]) (rest := []) h rfl (fun _ _ hv => zx_run_up (by omega) (r_X0_refuse (d := d) hv)) (fun v2 M1 h => ?_)
    show zx_E _ _ _ (14, [some (.inr (some (21, 0, 0, 0))), some (.inr (some (1, l, 0, 0))), some (.inr (some (17, i, 0, 0))), none], [.inl v2], (zx_lay M1, n)) _
    refine zx_E.ob h (fun hv h => ?_)
    exact zx_E.ri h rfl (fun _ => hv)
  · refine zx_E.go 3 (s' := (20, [some (.inr (some (21, 0, 0, 0))), some (.inr (some (1, l, 0, 0))), some (.inr (some (17, i, 0, 0))), none], [.inl (M (17, i, 0, 0) 1), .inr (some (1, l, 0, 0))], (zx_lay M, n))) rfl ?_
    refine zx_E.cb (y := 16) (as := [.inr (some (1, l, 0, 0)), .inl (M (17, i, 0, 0) 1)]) (rest := []) h rfl (fun _ hv => zx_run_up (by omega) (r_X2_hasStation (d := d) hv)) (fun v3 h => ?_)
    show zx_E _ _ _ (23, [some (.inr (some (21, 0, 0, 0))), some (.inr (some (1, l, 0, 0))), some (.inr (some (17, i, 0, 0))), none], [.inl v3], (zx_lay M, n)) _
    refine zx_E.brh (c := v3 = 0) (s1 := (26, [some (.inr (some (21, 0, 0, 0))), some (.inr (some (1, l, 0, 0))), some (.inr (some (17, i, 0, 0))), none], [], (zx_lay M, n))) (s2 := (36, [some (.inr (some (21, 0, 0, 0))), some (.inr (some (1, l, 0, 0))), some (.inr (some (17, i, 0, 0))), none], [], (zx_lay M, n))) h (zx_if_ne rfl) (fun _ h => ?_) (fun _ h => ?_)
    · refine zx_E.go 4 (s' := (32, [some (.inr (some (21, 0, 0, 0))), some (.inr (some (1, l, 0, 0))), some (.inr (some (17, i, 0, 0))), none], [.inl (M (17, i, 0, 0) 1), .inl 2, .inr (some (21, 0, 0, 0))], (zx_lay M, n))) rfl ?_
      refine zx_E.cv (y := 2) (as := [.inr (some (21, 0, 0, 0)), .inl 2, .inl (M (17, i, 0, 0) 1)]) (rest := []) h rfl (fun _ _ hv => zx_run_up (by omega) (r_X0_refuse (d := d) hv)) (fun v4 M2 h => ?_)
      show zx_E _ _ _ (35, [some (.inr (some (21, 0, 0, 0))), some (.inr (some (1, l, 0, 0))), some (.inr (some (17, i, 0, 0))), none], [.inl v4], (zx_lay M2, n)) _
      refine zx_E.ob h (fun hv h => ?_)
      exact zx_E.ri h rfl (fun _ => hv)
    · refine zx_E.go 3 (s' := (41, [some (.inr (some (21, 0, 0, 0))), some (.inr (some (1, l, 0, 0))), some (.inr (some (17, i, 0, 0))), none], [.inl 1, .inl (M (17, i, 0, 0) 3)], (zx_lay M, n))) rfl ?_
      refine zx_E.brh (c := (M (17, i, 0, 0) 3) < 1) (s1 := (56, [some (.inr (some (21, 0, 0, 0))), some (.inr (some (1, l, 0, 0))), some (.inr (some (17, i, 0, 0))), none], [], (zx_lay M, n))) (s2 := (44, [some (.inr (some (21, 0, 0, 0))), some (.inr (some (1, l, 0, 0))), some (.inr (some (17, i, 0, 0))), none], [], (zx_lay M, n))) h (zx_ic_lt rfl) (fun _ h => ?_) (fun _ h => ?_)
      · refine zx_E.go 3 (s' := (59, [some (.inr (some (21, 0, 0, 0))), some (.inr (some (1, l, 0, 0))), some (.inr (some (17, i, 0, 0))), some (.inl 0)], [.inl 0], (zx_lay M, n))) rfl ?_
        refine zx_E.bt (c := ((0 : Int32) = 0 : Prop)) (s1 := (79, [some (.inr (some (21, 0, 0, 0))), some (.inr (some (1, l, 0, 0))), some (.inr (some (17, i, 0, 0))), some (.inl 0)], [], (zx_lay M, n))) (s2 := (62, [some (.inr (some (21, 0, 0, 0))), some (.inr (some (1, l, 0, 0))), some (.inr (some (17, i, 0, 0))), some (.inl 0)], [], (zx_lay M, n))) (zx_if_eq rfl) (by decide) ?_
        refine zx_E.go 4 (s' := (85, [some (.inr (some (21, 0, 0, 0))), some (.inr (some (1, l, 0, 0))), some (.inr (some (17, i, 0, 0))), some (.inl 0)], [.inl (M (17, i, 0, 0) 3), .inl 4, .inr (some (21, 0, 0, 0))], (zx_lay M, n))) rfl ?_
        refine zx_E.cv (y := 2) (as := [.inr (some (21, 0, 0, 0)), .inl 4, .inl (M (17, i, 0, 0) 3)]) (rest := []) h rfl (fun _ _ hv => zx_run_up (by omega) (r_X0_refuse (d := d) hv)) (fun v5 M3 h => ?_)
        show zx_E _ _ _ (88, [some (.inr (some (21, 0, 0, 0))), some (.inr (some (1, l, 0, 0))), some (.inr (some (17, i, 0, 0))), some (.inl 0)], [.inl v5], (zx_lay M3, n)) _
        refine zx_E.ob h (fun hv h => ?_)
        exact zx_E.ri h rfl (fun _ => hv)
      · refine zx_E.go 3 (s' := (49, [some (.inr (some (21, 0, 0, 0))), some (.inr (some (1, l, 0, 0))), some (.inr (some (17, i, 0, 0))), none], [.inl 4, .inl (M (17, i, 0, 0) 3)], (zx_lay M, n))) rfl ?_
        refine zx_E.brh (c := (4 : Int32) < (M (17, i, 0, 0) 3)) (s1 := (56, [some (.inr (some (21, 0, 0, 0))), some (.inr (some (1, l, 0, 0))), some (.inr (some (17, i, 0, 0))), none], [], (zx_lay M, n))) (s2 := (52, [some (.inr (some (21, 0, 0, 0))), some (.inr (some (1, l, 0, 0))), some (.inr (some (17, i, 0, 0))), none], [], (zx_lay M, n))) h (zx_ic_gt rfl) (fun _ h => ?_) (fun _ h => ?_)
        · refine zx_E.go 3 (s' := (59, [some (.inr (some (21, 0, 0, 0))), some (.inr (some (1, l, 0, 0))), some (.inr (some (17, i, 0, 0))), some (.inl 0)], [.inl 0], (zx_lay M, n))) rfl ?_
          refine zx_E.bt (c := ((0 : Int32) = 0 : Prop)) (s1 := (79, [some (.inr (some (21, 0, 0, 0))), some (.inr (some (1, l, 0, 0))), some (.inr (some (17, i, 0, 0))), some (.inl 0)], [], (zx_lay M, n))) (s2 := (62, [some (.inr (some (21, 0, 0, 0))), some (.inr (some (1, l, 0, 0))), some (.inr (some (17, i, 0, 0))), some (.inl 0)], [], (zx_lay M, n))) (zx_if_eq rfl) (by decide) ?_
          refine zx_E.go 4 (s' := (85, [some (.inr (some (21, 0, 0, 0))), some (.inr (some (1, l, 0, 0))), some (.inr (some (17, i, 0, 0))), some (.inl 0)], [.inl (M (17, i, 0, 0) 3), .inl 4, .inr (some (21, 0, 0, 0))], (zx_lay M, n))) rfl ?_
          refine zx_E.cv (y := 2) (as := [.inr (some (21, 0, 0, 0)), .inl 4, .inl (M (17, i, 0, 0) 3)]) (rest := []) h rfl (fun _ _ hv => zx_run_up (by omega) (r_X0_refuse (d := d) hv)) (fun v6 M4 h => ?_)
          show zx_E _ _ _ (88, [some (.inr (some (21, 0, 0, 0))), some (.inr (some (1, l, 0, 0))), some (.inr (some (17, i, 0, 0))), some (.inl 0)], [.inl v6], (zx_lay M4, n)) _
          refine zx_E.ob h (fun hv h => ?_)
          exact zx_E.ri h rfl (fun _ => hv)
        · refine zx_E.go 4 (s' := (59, [some (.inr (some (21, 0, 0, 0))), some (.inr (some (1, l, 0, 0))), some (.inr (some (17, i, 0, 0))), some (.inl 1)], [.inl 1], (zx_lay M, n))) rfl ?_
          refine zx_E.bf (c := ((1 : Int32) = 0 : Prop)) (s1 := (79, [some (.inr (some (21, 0, 0, 0))), some (.inr (some (1, l, 0, 0))), some (.inr (some (17, i, 0, 0))), some (.inl 1)], [], (zx_lay M, n))) (s2 := (62, [some (.inr (some (21, 0, 0, 0))), some (.inr (some (1, l, 0, 0))), some (.inr (some (17, i, 0, 0))), some (.inl 1)], [], (zx_lay M, n))) (zx_if_eq rfl) (by decide) ?_
          refine zx_E.go 5 (s' := (71, [some (.inr (some (21, 0, 0, 0))), some (.inr (some (1, l, 0, 0))), some (.inr (some (17, i, 0, 0))), some (.inl 1)], [.inl (M (17, i, 0, 0) 1), .inr (some (1, l, 0, 0)), .inl (M (17, i, 0, 0) 3)], (zx_lay M, n))) rfl ?_
          refine zx_E.cb (y := 37) (as := [.inr (some (1, l, 0, 0)), .inl (M (17, i, 0, 0) 1)]) (rest := [.inl (M (17, i, 0, 0) 3)]) h rfl (fun _ hv => zx_run_up (by omega) (r_X2_takenTracks (d := d) hv)) (fun v7 h => ?_)
          show zx_E _ _ _ (74, [some (.inr (some (21, 0, 0, 0))), some (.inr (some (1, l, 0, 0))), some (.inr (some (17, i, 0, 0))), some (.inl 1)], [.inl v7, .inl (M (17, i, 0, 0) 3)], (zx_lay M, n)) _
          refine zx_E.brh (c := (M (17, i, 0, 0) 3) < v7) (s1 := (79, [some (.inr (some (21, 0, 0, 0))), some (.inr (some (1, l, 0, 0))), some (.inr (some (17, i, 0, 0))), some (.inl 1)], [], (zx_lay M, n))) (s2 := (77, [some (.inr (some (21, 0, 0, 0))), some (.inr (some (1, l, 0, 0))), some (.inr (some (17, i, 0, 0))), some (.inl 1)], [], (zx_lay M, n))) h (zx_ic_lt rfl) (fun _ h => ?_) (fun _ h => ?_)
          · refine zx_E.go 4 (s' := (85, [some (.inr (some (21, 0, 0, 0))), some (.inr (some (1, l, 0, 0))), some (.inr (some (17, i, 0, 0))), some (.inl 1)], [.inl (M (17, i, 0, 0) 3), .inl 4, .inr (some (21, 0, 0, 0))], (zx_lay M, n))) rfl ?_
            refine zx_E.cv (y := 2) (as := [.inr (some (21, 0, 0, 0)), .inl 4, .inl (M (17, i, 0, 0) 3)]) (rest := []) h rfl (fun _ _ hv => zx_run_up (by omega) (r_X0_refuse (d := d) hv)) (fun v8 M5 h => ?_)
            show zx_E _ _ _ (88, [some (.inr (some (21, 0, 0, 0))), some (.inr (some (1, l, 0, 0))), some (.inr (some (17, i, 0, 0))), some (.inl 1)], [.inl v8], (zx_lay M5, n)) _
            refine zx_E.ob h (fun hv h => ?_)
            exact zx_E.ri h rfl (fun _ => hv)
          · refine zx_E.go 1 (s' := (78, [some (.inr (some (21, 0, 0, 0))), some (.inr (some (1, l, 0, 0))), some (.inr (some (17, i, 0, 0))), some (.inl 1)], [.inl 0], (zx_lay M, n))) rfl ?_
            exact zx_E.ri h rfl (fun _ => Or.inl rfl)
def g_X0_refusesTrain (M : zx_Y) (l : Nat) (i : Nat) : Option (Int32 × zx_Y) := (zb (g_X2_exists M l) fun v1 => (if v1 = 0 then (zv (g_X0_refuse M 1 (-5)) fun v2 M1 => (zo v2 ((some (v2, M1))))) else (zb (g_X2_hasStation M l (M (17, i, 0, 0) 1)) fun v3 => (if v3 = 0 then (zv (g_X0_refuse M 2 (M (17, i, 0, 0) 1)) fun v4 M2 => (zo v4 ((some (v4, M2))))) else (zb (g_X2_hasStation M l (M (17, i, 0, 0) 2)) fun v5 => (if v5 = 0 then (zv (g_X0_refuse M 2 (M (17, i, 0, 0) 2)) fun v6 M3 => (zo v6 ((some (v6, M3))))) else (if (M (1, l, 0, 0) 4) < 10 then (if (M (17, i, 0, 0) 2) = (M (17, i, 0, 0) 1) then (zv (g_X0_refuse M 4 (M (17, i, 0, 0) 2)) fun v7 M4 => (zo v7 ((some (v7, M4))))) else (if (M (1, l, 0, 0) 0) ≤ (M (17, i, 0, 0) 4) then (if (M (17, i, 0, 0) 6) = 0 then (zv (g_X0_refuse M 4 0) fun v8 M5 => (if v8 = 0 then (some (0, M5)) else (some (1, M5)))) else (some (0, M))) else (zv (g_X0_refuse M 4 (M (17, i, 0, 0) 4)) fun v9 M6 => (zo v9 ((some (v9, M6))))))) else (zv (g_X0_refuse M 3 10) fun v10 M7 => (zo v10 ((some (v10, M7))))))))))))
set_option maxRecDepth 100000 in
set_option maxHeartbeats 4000000 in
theorem r_X0_refusesTrain {X : zx_X} {d n : Nat} {M : zx_Y} {l : Nat} {i : Nat} {rv : Int32} {rM : zx_Y} (h : g_X0_refusesTrain M l i = some (rv, rM)) : zx_run X (d + 2) 5 [.inr (some (21, 0, 0, 0)), .inr (some (1, l, 0, 0)), .inr (some (17, i, 0, 0))] (zx_lay M, n) (some (.inl rv), (zx_lay rM, n)) := by
  refine zx_run_of zc_X0_refusesTrain [some (.inr (some (21, 0, 0, 0))), some (.inr (some (1, l, 0, 0))), some (.inr (some (17, i, 0, 0)))] rfl rfl ?_
  unfold g_X0_refusesTrain at h
  refine zx_E.go 1 (s' := (1, [some (.inr (some (21, 0, 0, 0))), some (.inr (some (1, l, 0, 0))), some (.inr (some (17, i, 0, 0)))], [.inr (some (1, l, 0, 0))], (zx_lay M, n))) rfl ?_
  refine zx_E.cb (y := 15) (as := [.inr (some (1, l, 0, 0))]) (rest := []) h rfl (fun _ hv => zx_run_up (by omega) (r_X2_exists (d := d) hv)) (fun v1 h => ?_)
  show zx_E _ _ _ (4, [some (.inr (some (21, 0, 0, 0))), some (.inr (some (1, l, 0, 0))), some (.inr (some (17, i, 0, 0)))], [.inl v1], (zx_lay M, n)) _
  refine zx_E.brh (c := v1 = 0) (s1 := (7, [some (.inr (some (21, 0, 0, 0))), some (.inr (some (1, l, 0, 0))), some (.inr (some (17, i, 0, 0)))], [], (zx_lay M, n))) (s2 := (15, [some (.inr (some (21, 0, 0, 0))), some (.inr (some (1, l, 0, 0))), some (.inr (some (17, i, 0, 0)))], [], (zx_lay M, n))) h (zx_if_ne rfl) (fun _ h => ?_) (fun _ h => ?_)
  · refine zx_E.go 3 (s' := (11, [some (.inr (some (21, 0, 0, 0))), some (.inr (some (1, l, 0, 0))), some (.inr (some (17, i, 0, 0)))], [.inl (-5), .inl 1, .inr (some (21, 0, 0, 0))], (zx_lay M, n))) rfl ?_
    refine zx_E.cv (y := 2) (as := [.inr (some (21, 0, 0, 0)), .inl 1, .inl (-5)]) (rest := []) h rfl (fun _ _ hv => zx_run_up (by omega) (r_X0_refuse (d := d) hv)) (fun v2 M1 h => ?_)
    show zx_E _ _ _ (14, [some (.inr (some (21, 0, 0, 0))), some (.inr (some (1, l, 0, 0))), some (.inr (some (17, i, 0, 0)))], [.inl v2], (zx_lay M1, n)) _
    refine zx_E.ob h (fun hv h => ?_)
    exact zx_E.ri h rfl (fun _ => hv)
  · refine zx_E.go 3 (s' := (20, [some (.inr (some (21, 0, 0, 0))), some (.inr (some (1, l, 0, 0))), some (.inr (some (17, i, 0, 0)))], [.inl (M (17, i, 0, 0) 1), .inr (some (1, l, 0, 0))], (zx_lay M, n))) rfl ?_
    refine zx_E.cb (y := 16) (as := [.inr (some (1, l, 0, 0)), .inl (M (17, i, 0, 0) 1)]) (rest := []) h rfl (fun _ hv => zx_run_up (by omega) (r_X2_hasStation (d := d) hv)) (fun v3 h => ?_)
    show zx_E _ _ _ (23, [some (.inr (some (21, 0, 0, 0))), some (.inr (some (1, l, 0, 0))), some (.inr (some (17, i, 0, 0)))], [.inl v3], (zx_lay M, n)) _
    refine zx_E.brh (c := v3 = 0) (s1 := (26, [some (.inr (some (21, 0, 0, 0))), some (.inr (some (1, l, 0, 0))), some (.inr (some (17, i, 0, 0)))], [], (zx_lay M, n))) (s2 := (36, [some (.inr (some (21, 0, 0, 0))), some (.inr (some (1, l, 0, 0))), some (.inr (some (17, i, 0, 0)))], [], (zx_lay M, n))) h (zx_if_ne rfl) (fun _ h => ?_) (fun _ h => ?_)
    · refine zx_E.go 4 (s' := (32, [some (.inr (some (21, 0, 0, 0))), some (.inr (some (1, l, 0, 0))), some (.inr (some (17, i, 0, 0)))], [.inl (M (17, i, 0, 0) 1), .inl 2, .inr (some (21, 0, 0, 0))], (zx_lay M, n))) rfl ?_
      refine zx_E.cv (y := 2) (as := [.inr (some (21, 0, 0, 0)), .inl 2, .inl (M (17, i, 0, 0) 1)]) (rest := []) h rfl (fun _ _ hv => zx_run_up (by omega) (r_X0_refuse (d := d) hv)) (fun v4 M2 h => ?_)
      show zx_E _ _ _ (35, [some (.inr (some (21, 0, 0, 0))), some (.inr (some (1, l, 0, 0))), some (.inr (some (17, i, 0, 0)))], [.inl v4], (zx_lay M2, n)) _
      refine zx_E.ob h (fun hv h => ?_)
      exact zx_E.ri h rfl (fun _ => hv)
    · refine zx_E.go 3 (s' := (41, [some (.inr (some (21, 0, 0, 0))), some (.inr (some (1, l, 0, 0))), some (.inr (some (17, i, 0, 0)))], [.inl (M (17, i, 0, 0) 2), .inr (some (1, l, 0, 0))], (zx_lay M, n))) rfl ?_
      refine zx_E.cb (y := 16) (as := [.inr (some (1, l, 0, 0)), .inl (M (17, i, 0, 0) 2)]) (rest := []) h rfl (fun _ hv => zx_run_up (by omega) (r_X2_hasStation (d := d) hv)) (fun v5 h => ?_)
      show zx_E _ _ _ (44, [some (.inr (some (21, 0, 0, 0))), some (.inr (some (1, l, 0, 0))), some (.inr (some (17, i, 0, 0)))], [.inl v5], (zx_lay M, n)) _
      refine zx_E.brh (c := v5 = 0) (s1 := (47, [some (.inr (some (21, 0, 0, 0))), some (.inr (some (1, l, 0, 0))), some (.inr (some (17, i, 0, 0)))], [], (zx_lay M, n))) (s2 := (57, [some (.inr (some (21, 0, 0, 0))), some (.inr (some (1, l, 0, 0))), some (.inr (some (17, i, 0, 0)))], [], (zx_lay M, n))) h (zx_if_ne rfl) (fun _ h => ?_) (fun _ h => ?_)
      · refine zx_E.go 4 (s' := (53, [some (.inr (some (21, 0, 0, 0))), some (.inr (some (1, l, 0, 0))), some (.inr (some (17, i, 0, 0)))], [.inl (M (17, i, 0, 0) 2), .inl 2, .inr (some (21, 0, 0, 0))], (zx_lay M, n))) rfl ?_
        refine zx_E.cv (y := 2) (as := [.inr (some (21, 0, 0, 0)), .inl 2, .inl (M (17, i, 0, 0) 2)]) (rest := []) h rfl (fun _ _ hv => zx_run_up (by omega) (r_X0_refuse (d := d) hv)) (fun v6 M3 h => ?_)
        show zx_E _ _ _ (56, [some (.inr (some (21, 0, 0, 0))), some (.inr (some (1, l, 0, 0))), some (.inr (some (17, i, 0, 0)))], [.inl v6], (zx_lay M3, n)) _
        refine zx_E.ob h (fun hv h => ?_)
        exact zx_E.ri h rfl (fun _ => hv)
      · refine zx_E.go 3 (s' := (63, [some (.inr (some (21, 0, 0, 0))), some (.inr (some (1, l, 0, 0))), some (.inr (some (17, i, 0, 0)))], [.inl 10, .inl (M (1, l, 0, 0) 4)], (zx_lay M, n))) rfl ?_
        refine zx_E.brh (c := (M (1, l, 0, 0) 4) < 10) (s1 := (74, [some (.inr (some (21, 0, 0, 0))), some (.inr (some (1, l, 0, 0))), some (.inr (some (17, i, 0, 0)))], [], (zx_lay M, n))) (s2 := (66, [some (.inr (some (21, 0, 0, 0))), some (.inr (some (1, l, 0, 0))), some (.inr (some (17, i, 0, 0)))], [], (zx_lay M, n))) h (zx_ic_lt rfl) (fun _ h => ?_) (fun _ h => ?_)
        · refine zx_E.go 4 (s' := (82, [some (.inr (some (21, 0, 0, 0))), some (.inr (some (1, l, 0, 0))), some (.inr (some (17, i, 0, 0)))], [.inl (M (17, i, 0, 0) 1), .inl (M (17, i, 0, 0) 2)], (zx_lay M, n))) rfl ?_
          refine zx_E.brh (c := (M (17, i, 0, 0) 2) = (M (17, i, 0, 0) 1)) (s1 := (85, [some (.inr (some (21, 0, 0, 0))), some (.inr (some (1, l, 0, 0))), some (.inr (some (17, i, 0, 0)))], [], (zx_lay M, n))) (s2 := (95, [some (.inr (some (21, 0, 0, 0))), some (.inr (some (1, l, 0, 0))), some (.inr (some (17, i, 0, 0)))], [], (zx_lay M, n))) h (zx_ic_ne rfl) (fun _ h => ?_) (fun _ h => ?_)
          · refine zx_E.go 4 (s' := (91, [some (.inr (some (21, 0, 0, 0))), some (.inr (some (1, l, 0, 0))), some (.inr (some (17, i, 0, 0)))], [.inl (M (17, i, 0, 0) 2), .inl 4, .inr (some (21, 0, 0, 0))], (zx_lay M, n))) rfl ?_
            refine zx_E.cv (y := 2) (as := [.inr (some (21, 0, 0, 0)), .inl 4, .inl (M (17, i, 0, 0) 2)]) (rest := []) h rfl (fun _ _ hv => zx_run_up (by omega) (r_X0_refuse (d := d) hv)) (fun v7 M4 h => ?_)
            show zx_E _ _ _ (94, [some (.inr (some (21, 0, 0, 0))), some (.inr (some (1, l, 0, 0))), some (.inr (some (17, i, 0, 0)))], [.inl v7], (zx_lay M4, n)) _
            refine zx_E.ob h (fun hv h => ?_)
            exact zx_E.ri h rfl (fun _ => hv)
          · refine zx_E.go 4 (s' := (103, [some (.inr (some (21, 0, 0, 0))), some (.inr (some (1, l, 0, 0))), some (.inr (some (17, i, 0, 0)))], [.inl (M (1, l, 0, 0) 0), .inl (M (17, i, 0, 0) 4)], (zx_lay M, n))) rfl ?_
            refine zx_E.brh (c := (M (1, l, 0, 0) 0) ≤ (M (17, i, 0, 0) 4)) (s1 := (116, [some (.inr (some (21, 0, 0, 0))), some (.inr (some (1, l, 0, 0))), some (.inr (some (17, i, 0, 0)))], [], (zx_lay M, n))) (s2 := (106, [some (.inr (some (21, 0, 0, 0))), some (.inr (some (1, l, 0, 0))), some (.inr (some (17, i, 0, 0)))], [], (zx_lay M, n))) h (zx_ic_ge rfl) (fun _ h => ?_) (fun _ h => ?_)
            · refine zx_E.go 2 (s' := (120, [some (.inr (some (21, 0, 0, 0))), some (.inr (some (1, l, 0, 0))), some (.inr (some (17, i, 0, 0)))], [.inl (M (17, i, 0, 0) 6)], (zx_lay M, n))) rfl ?_
              refine zx_E.brh (c := (M (17, i, 0, 0) 6) = 0) (s1 := (123, [some (.inr (some (21, 0, 0, 0))), some (.inr (some (1, l, 0, 0))), some (.inr (some (17, i, 0, 0)))], [], (zx_lay M, n))) (s2 := (136, [some (.inr (some (21, 0, 0, 0))), some (.inr (some (1, l, 0, 0))), some (.inr (some (17, i, 0, 0)))], [], (zx_lay M, n))) h (zx_if_ne rfl) (fun _ h => ?_) (fun _ h => ?_)
              · refine zx_E.go 3 (s' := (126, [some (.inr (some (21, 0, 0, 0))), some (.inr (some (1, l, 0, 0))), some (.inr (some (17, i, 0, 0)))], [.inl 0, .inl 4, .inr (some (21, 0, 0, 0))], (zx_lay M, n))) rfl ?_
                refine zx_E.cv (y := 2) (as := [.inr (some (21, 0, 0, 0)), .inl 4, .inl 0]) (rest := []) h rfl (fun _ _ hv => zx_run_up (by omega) (r_X0_refuse (d := d) hv)) (fun v8 M5 h => ?_)
                show zx_E _ _ _ (129, [some (.inr (some (21, 0, 0, 0))), some (.inr (some (1, l, 0, 0))), some (.inr (some (17, i, 0, 0)))], [.inl v8], (zx_lay M5, n)) _
                refine zx_E.brh (c := v8 = 0) (s1 := (136, [some (.inr (some (21, 0, 0, 0))), some (.inr (some (1, l, 0, 0))), some (.inr (some (17, i, 0, 0)))], [], (zx_lay M5, n))) (s2 := (132, [some (.inr (some (21, 0, 0, 0))), some (.inr (some (1, l, 0, 0))), some (.inr (some (17, i, 0, 0)))], [], (zx_lay M5, n))) h (zx_if_eq rfl) (fun _ h => ?_) (fun _ h => ?_)
                · refine zx_E.go 1 (s' := (137, [some (.inr (some (21, 0, 0, 0))), some (.inr (some (1, l, 0, 0))), some (.inr (some (17, i, 0, 0)))], [.inl 0], (zx_lay M5, n))) rfl ?_
                  exact zx_E.ri h rfl (fun _ => Or.inl rfl)
                · refine zx_E.go 2 (s' := (137, [some (.inr (some (21, 0, 0, 0))), some (.inr (some (1, l, 0, 0))), some (.inr (some (17, i, 0, 0)))], [.inl 1], (zx_lay M5, n))) rfl ?_
                  exact zx_E.ri h rfl (fun _ => Or.inr rfl)
              · refine zx_E.go 1 (s' := (137, [some (.inr (some (21, 0, 0, 0))), some (.inr (some (1, l, 0, 0))), some (.inr (some (17, i, 0, 0)))], [.inl 0], (zx_lay M, n))) rfl ?_
                exact zx_E.ri h rfl (fun _ => Or.inl rfl)
            · refine zx_E.go 4 (s' := (112, [some (.inr (some (21, 0, 0, 0))), some (.inr (some (1, l, 0, 0))), some (.inr (some (17, i, 0, 0)))], [.inl (M (17, i, 0, 0) 4), .inl 4, .inr (some (21, 0, 0, 0))], (zx_lay M, n))) rfl ?_
              refine zx_E.cv (y := 2) (as := [.inr (some (21, 0, 0, 0)), .inl 4, .inl (M (17, i, 0, 0) 4)]) (rest := []) h rfl (fun _ _ hv => zx_run_up (by omega) (r_X0_refuse (d := d) hv)) (fun v9 M6 h => ?_)
              show zx_E _ _ _ (115, [some (.inr (some (21, 0, 0, 0))), some (.inr (some (1, l, 0, 0))), some (.inr (some (17, i, 0, 0)))], [.inl v9], (zx_lay M6, n)) _
              refine zx_E.ob h (fun hv h => ?_)
              exact zx_E.ri h rfl (fun _ => hv)
        · refine zx_E.go 3 (s' := (70, [some (.inr (some (21, 0, 0, 0))), some (.inr (some (1, l, 0, 0))), some (.inr (some (17, i, 0, 0)))], [.inl 10, .inl 3, .inr (some (21, 0, 0, 0))], (zx_lay M, n))) rfl ?_
          refine zx_E.cv (y := 2) (as := [.inr (some (21, 0, 0, 0)), .inl 3, .inl 10]) (rest := []) h rfl (fun _ _ hv => zx_run_up (by omega) (r_X0_refuse (d := d) hv)) (fun v10 M7 h => ?_)
          show zx_E _ _ _ (73, [some (.inr (some (21, 0, 0, 0))), some (.inr (some (1, l, 0, 0))), some (.inr (some (17, i, 0, 0)))], [.inl v10], (zx_lay M7, n)) _
          refine zx_E.ob h (fun hv h => ?_)
          exact zx_E.ri h rfl (fun _ => hv)
