def g_X11_refusal (M : zx_Y) (x0 : Int32) : Option Int32 := (if x0 = 0 then (some (M (25, 0, 0, 0) 12)) else (if x0 = 1 then (some (M (25, 0, 0, 0) 13)) else (if x0 = 2 then (if (M (25, 0, 0, 0) 13) = 1 then (some (-5)) else (some (M (25, 0, 0, 0) 14))) else (some (-1)))))
set_option maxRecDepth 100000 in
set_option maxHeartbeats 4000000 in
theorem r_X11_refusal {X : zx_X} {d n : Nat} {M : zx_Y} {x0 : Int32} {rv : Int32} (h : g_X11_refusal M x0 = some rv) : zx_run X (d + 1) 172 [.inr (some (25, 0, 0, 0)), .inl x0] (zx_lay M, n) (some (.inl rv), (zx_lay M, n)) := by
  refine zx_run_of zc_X11_refusal [some (.inr (some (25, 0, 0, 0))), some (.inl x0)] rfl rfl ?_
  unfold g_X11_refusal at h
  refine zx_E.go 1 (s' := (1, [some (.inr (some (25, 0, 0, 0))), some (.inl x0)], [.inl x0], (zx_lay M, n))) rfl ?_
  refine zx_E.brh (c := x0 = 0) (s1 := (4, [some (.inr (some (25, 0, 0, 0))), some (.inl x0)], [], (zx_lay M, n))) (s2 := (11, [some (.inr (some (25, 0, 0, 0))), some (.inl x0)], [], (zx_lay M, n))) h (zx_if_ne rfl) (fun _ h => ?_) (fun _ h => ?_)
  · refine zx_E.go 3 (s' := (49, [some (.inr (some (25, 0, 0, 0))), some (.inl x0)], [.inl (M (25, 0, 0, 0) 12)], (zx_lay M, n))) rfl ?_
    exact zx_E.rp h rfl (fun h => absurd h (by decide))
  · refine zx_E.go 2 (s' := (13, [some (.inr (some (25, 0, 0, 0))), some (.inl x0)], [.inl 1, .inl x0], (zx_lay M, n))) rfl ?_
    refine zx_E.brh (c := x0 = 1) (s1 := (16, [some (.inr (some (25, 0, 0, 0))), some (.inl x0)], [], (zx_lay M, n))) (s2 := (23, [some (.inr (some (25, 0, 0, 0))), some (.inl x0)], [], (zx_lay M, n))) h (zx_ic_ne rfl) (fun _ h => ?_) (fun _ h => ?_)
    · refine zx_E.go 3 (s' := (49, [some (.inr (some (25, 0, 0, 0))), some (.inl x0)], [.inl (M (25, 0, 0, 0) 13)], (zx_lay M, n))) rfl ?_
      exact zx_E.rp h rfl (fun h => absurd h (by decide))
    · refine zx_E.go 2 (s' := (25, [some (.inr (some (25, 0, 0, 0))), some (.inl x0)], [.inl 2, .inl x0], (zx_lay M, n))) rfl ?_
      refine zx_E.brh (c := x0 = 2) (s1 := (28, [some (.inr (some (25, 0, 0, 0))), some (.inl x0)], [], (zx_lay M, n))) (s2 := (48, [some (.inr (some (25, 0, 0, 0))), some (.inl x0)], [], (zx_lay M, n))) h (zx_ic_ne rfl) (fun _ h => ?_) (fun _ h => ?_)
      · refine zx_E.go 3 (s' := (33, [some (.inr (some (25, 0, 0, 0))), some (.inl x0)], [.inl 1, .inl (M (25, 0, 0, 0) 13)], (zx_lay M, n))) rfl ?_
        refine zx_E.brh (c := (M (25, 0, 0, 0) 13) = 1) (s1 := (36, [some (.inr (some (25, 0, 0, 0))), some (.inl x0)], [], (zx_lay M, n))) (s2 := (41, [some (.inr (some (25, 0, 0, 0))), some (.inl x0)], [], (zx_lay M, n))) h (zx_ic_ne rfl) (fun _ h => ?_) (fun _ h => ?_)
        · refine zx_E.go 2 (s' := (49, [some (.inr (some (25, 0, 0, 0))), some (.inl x0)], [.inl (-5)], (zx_lay M, n))) rfl ?_
          exact zx_E.rp h rfl (fun h => absurd h (by decide))
        · refine zx_E.go 3 (s' := (49, [some (.inr (some (25, 0, 0, 0))), some (.inl x0)], [.inl (M (25, 0, 0, 0) 14)], (zx_lay M, n))) rfl ?_
          exact zx_E.rp h rfl (fun h => absurd h (by decide))
      · refine zx_E.go 1 (s' := (49, [some (.inr (some (25, 0, 0, 0))), some (.inl x0)], [.inl (-1)], (zx_lay M, n))) rfl ?_
        exact zx_E.rp h rfl (fun h => absurd h (by decide))
def g_X10_relief (M : zx_Y) (x0 : Int32) : Option (Int32 × zx_Y) := (if x0 < 0 then (some ((-2), M)) else (if x0 ≤ 60 then (zl (zx_up M (1, 0, 0, 0) 2 x0) fun M1 => (some ((M (1, 0, 0, 0) 2), M1))) else (some ((-2), M))))
set_option maxRecDepth 100000 in
set_option maxHeartbeats 4000000 in
theorem r_X10_relief {X : zx_X} {d n : Nat} {M : zx_Y} {x0 : Int32} {rv : Int32} {rM : zx_Y} (h : g_X10_relief M x0 = some (rv, rM)) : zx_run X (d + 1) 97 [.inr (some (0, 0, 0, 0)), .inl x0] (zx_lay M, n) (some (.inl rv), (zx_lay rM, n)) := by
  refine zx_run_of zc_X10_relief [some (.inr (some (0, 0, 0, 0))), some (.inl x0), none] rfl rfl ?_
  unfold g_X10_relief at h
  refine zx_E.go 1 (s' := (1, [some (.inr (some (0, 0, 0, 0))), some (.inl x0), none], [.inl x0], (zx_lay M, n))) rfl ?_
  refine zx_E.brh (c := x0 < 0) (s1 := (10, [some (.inr (some (0, 0, 0, 0))), some (.inl x0), none], [], (zx_lay M, n))) (s2 := (4, [some (.inr (some (0, 0, 0, 0))), some (.inl x0), none], [], (zx_lay M, n))) h (zx_if_lt rfl) (fun _ h => ?_) (fun _ h => ?_)
  · refine zx_E.go 1 (s' := (12, [some (.inr (some (0, 0, 0, 0))), some (.inl x0), none], [.inl (-2)], (zx_lay M, n))) rfl ?_
    exact zx_E.ri h rfl (fun h => absurd h (by decide))
  · refine zx_E.go 2 (s' := (7, [some (.inr (some (0, 0, 0, 0))), some (.inl x0), none], [.inl 60, .inl x0], (zx_lay M, n))) rfl ?_
    refine zx_E.brh (c := x0 ≤ 60) (s1 := (13, [some (.inr (some (0, 0, 0, 0))), some (.inl x0), none], [], (zx_lay M, n))) (s2 := (10, [some (.inr (some (0, 0, 0, 0))), some (.inl x0), none], [], (zx_lay M, n))) h (zx_ic_le rfl) (fun _ h => ?_) (fun _ h => ?_)
    · refine zx_E.go 7 (s' := (26, [some (.inr (some (0, 0, 0, 0))), some (.inl x0), some (.inl (M (1, 0, 0, 0) 2))], [.inl x0, .inr (some (1, 0, 0, 0))], (zx_lay M, n))) rfl ?_
      refine zx_E.pu h rfl rfl (fun h => absurd h (by decide)) (fun M1 h => ?_)
      show zx_E _ _ _ (29, [some (.inr (some (0, 0, 0, 0))), some (.inl x0), some (.inl (M (1, 0, 0, 0) 2))], [], (zx_lay M1, n)) _
      refine zx_E.go 1 (s' := (30, [some (.inr (some (0, 0, 0, 0))), some (.inl x0), some (.inl (M (1, 0, 0, 0) 2))], [.inl (M (1, 0, 0, 0) 2)], (zx_lay M1, n))) rfl ?_
      exact zx_E.ri h rfl (fun h => absurd h (by decide))
    · refine zx_E.go 1 (s' := (12, [some (.inr (some (0, 0, 0, 0))), some (.inl x0), none], [.inl (-2)], (zx_lay M, n))) rfl ?_
      exact zx_E.ri h rfl (fun h => absurd h (by decide))
def g_X11_relief (M : zx_Y) (x0 : Int32) : Option (Int32 × zx_Y) := (zb (g_X11_isIn M x0 0 60) fun v1 => (if v1 = 0 then (some ((-2), M)) else (zl (zx_up M (26, 0, 0, 0) 26 x0) fun M1 => (some ((M (26, 0, 0, 0) 26), M1)))))
set_option maxRecDepth 100000 in
set_option maxHeartbeats 4000000 in
theorem r_X11_relief {X : zx_X} {d n : Nat} {M : zx_Y} {x0 : Int32} {rv : Int32} {rM : zx_Y} (h : g_X11_relief M x0 = some (rv, rM)) : zx_run X (d + 2) 173 [.inr (some (25, 0, 0, 0)), .inl x0] (zx_lay M, n) (some (.inl rv), (zx_lay rM, n)) := by
  refine zx_run_of zc_X11_relief [some (.inr (some (25, 0, 0, 0))), some (.inl x0), none] rfl rfl ?_
  unfold g_X11_relief at h
  refine zx_E.go 3 (s' := (4, [some (.inr (some (25, 0, 0, 0))), some (.inl x0), none], [.inl 60, .inl 0, .inl x0], (zx_lay M, n))) rfl ?_
  refine zx_E.cb (y := 121) (as := [.inl x0, .inl 0, .inl 60]) (rest := []) h rfl (fun _ hv => zx_run_up (by omega) (r_X11_isIn (d := d) hv)) (fun v1 h => ?_)
  show zx_E _ _ _ (7, [some (.inr (some (25, 0, 0, 0))), some (.inl x0), none], [.inl v1], (zx_lay M, n)) _
  refine zx_E.brh (c := v1 = 0) (s1 := (10, [some (.inr (some (25, 0, 0, 0))), some (.inl x0), none], [], (zx_lay M, n))) (s2 := (13, [some (.inr (some (25, 0, 0, 0))), some (.inl x0), none], [], (zx_lay M, n))) h (zx_if_ne rfl) (fun _ h => ?_) (fun _ h => ?_)
  · refine zx_E.go 1 (s' := (12, [some (.inr (some (25, 0, 0, 0))), some (.inl x0), none], [.inl (-2)], (zx_lay M, n))) rfl ?_
    exact zx_E.ri h rfl (fun h => absurd h (by decide))
  · refine zx_E.go 3 (s' := (19, [some (.inr (some (25, 0, 0, 0))), some (.inl x0), none], [.inl 26, .inr (some (26, 0, 0, 0))], (zx_lay M, n))) rfl ?_
    refine zx_E.iald (k := 26) (h := (26, 0, 0, 0)) rfl rfl rfl (by decide) ?_
    show zx_E _ _ _ (20, [some (.inr (some (25, 0, 0, 0))), some (.inl x0), none], [.inl (M (26, 0, 0, 0) 26)], (zx_lay M, n)) _
    refine zx_E.go 5 (s' := (28, [some (.inr (some (25, 0, 0, 0))), some (.inl x0), some (.inl (M (26, 0, 0, 0) 26))], [.inl x0, .inl 26, .inr (some (26, 0, 0, 0))], (zx_lay M, n))) rfl ?_
    refine zx_E.ia h rfl rfl rfl (by decide) (fun M1 h => ?_)
    show zx_E _ _ _ (29, [some (.inr (some (25, 0, 0, 0))), some (.inl x0), some (.inl (M (26, 0, 0, 0) 26))], [], (zx_lay M1, n)) _
    refine zx_E.go 1 (s' := (30, [some (.inr (some (25, 0, 0, 0))), some (.inl x0), some (.inl (M (26, 0, 0, 0) 26))], [.inl (M (26, 0, 0, 0) 26)], (zx_lay M1, n))) rfl ?_
    exact zx_E.ri h rfl (fun h => absurd h (by decide))
def g_X10_cancel (M : zx_Y) (x0 : Int32) : Option (Int32 × zx_Y) := (zt M 0 x0 (fun k1 => (if (M (7, 0, k1, 0) 1) = 5 then (some ((-1), M)) else (if (M (7, 0, k1, 0) 1) = 0 then (zm (g_X9_changeTo M 0 k1 5 (M (1, 0, 0, 0) 0)) fun M1 => (some (1, M1))) else (some (0, M))))) (some ((-1), M)))
set_option maxRecDepth 100000 in
set_option maxHeartbeats 4000000 in
theorem r_X10_cancel {X : zx_X} {d n : Nat} {M : zx_Y} {x0 : Int32} {rv : Int32} {rM : zx_Y} (h : g_X10_cancel M x0 = some (rv, rM)) : zx_run X (d + 2) 98 [.inr (some (0, 0, 0, 0)), .inl x0] (zx_lay M, n) (some (.inl rv), (zx_lay rM, n)) := by
  refine zx_run_of zc_X10_cancel [some (.inr (some (0, 0, 0, 0))), some (.inl x0), none] rfl rfl ?_
  unfold g_X10_cancel at h
  refine zx_E.go 3 (s' := (5, [some (.inr (some (0, 0, 0, 0))), some (.inl x0), none], [.inl x0, .inr (some (1, 0, 0, 0))], (zx_lay M, n))) rfl ?_
  refine zx_E.tw (y := 18) (as := [.inr (some (1, 0, 0, 0)), .inl x0]) (rest := []) h rfl (fun hq => zx_run_up (by omega) (r_X2_trainWith_1 (d := d) hq)) (fun hq => zx_run_up (by omega) (r_X2_trainWith_0 (d := d) hq)) (fun k1 _ h => ?_) (fun h => ?_)
  · show zx_E _ _ _ (8, [some (.inr (some (0, 0, 0, 0))), some (.inl x0), none], [.inr (some (7, 0, k1, 0))], (zx_lay M, n)) _
    refine zx_E.go 6 (s' := (18, [some (.inr (some (0, 0, 0, 0))), some (.inl x0), some (.inr (some (7, 0, k1, 0)))], [.inl 5, .inl (M (7, 0, k1, 0) 1)], (zx_lay M, n))) rfl ?_
    refine zx_E.brh (c := (M (7, 0, k1, 0) 1) = 5) (s1 := (21, [some (.inr (some (0, 0, 0, 0))), some (.inl x0), some (.inr (some (7, 0, k1, 0)))], [], (zx_lay M, n))) (s2 := (23, [some (.inr (some (0, 0, 0, 0))), some (.inl x0), some (.inr (some (7, 0, k1, 0)))], [], (zx_lay M, n))) h (zx_ic_ne rfl) (fun _ h => ?_) (fun _ h => ?_)
    · refine zx_E.go 1 (s' := (22, [some (.inr (some (0, 0, 0, 0))), some (.inl x0), some (.inr (some (7, 0, k1, 0)))], [.inl (-1)], (zx_lay M, n))) rfl ?_
      exact zx_E.ri h rfl (fun h => absurd h (by decide))
    · refine zx_E.go 2 (s' := (27, [some (.inr (some (0, 0, 0, 0))), some (.inl x0), some (.inr (some (7, 0, k1, 0)))], [.inl (M (7, 0, k1, 0) 1)], (zx_lay M, n))) rfl ?_
      refine zx_E.brh (c := (M (7, 0, k1, 0) 1) = 0) (s1 := (32, [some (.inr (some (0, 0, 0, 0))), some (.inl x0), some (.inr (some (7, 0, k1, 0)))], [], (zx_lay M, n))) (s2 := (30, [some (.inr (some (0, 0, 0, 0))), some (.inl x0), some (.inr (some (7, 0, k1, 0)))], [], (zx_lay M, n))) h (zx_if_eq rfl) (fun _ h => ?_) (fun _ h => ?_)
      · refine zx_E.go 5 (s' := (41, [some (.inr (some (0, 0, 0, 0))), some (.inl x0), some (.inr (some (7, 0, k1, 0)))], [.inl (M (1, 0, 0, 0) 0), .inl 5, .inr (some (7, 0, k1, 0))], (zx_lay M, n))) rfl ?_
        refine zx_E.cm (y := 81) (as := [.inr (some (7, 0, k1, 0)), .inl 5, .inl (M (1, 0, 0, 0) 0)]) (rest := []) h rfl (fun _ hv => zx_run_up (by omega) (r_X9_changeTo (d := d) hv)) (fun M1 h => ?_)
        show zx_E _ _ _ (44, [some (.inr (some (0, 0, 0, 0))), some (.inl x0), some (.inr (some (7, 0, k1, 0)))], [], (zx_lay M1, n)) _
        refine zx_E.go 1 (s' := (45, [some (.inr (some (0, 0, 0, 0))), some (.inl x0), some (.inr (some (7, 0, k1, 0)))], [.inl 1], (zx_lay M1, n))) rfl ?_
        exact zx_E.ri h rfl (fun h => absurd h (by decide))
      · refine zx_E.go 1 (s' := (31, [some (.inr (some (0, 0, 0, 0))), some (.inl x0), some (.inr (some (7, 0, k1, 0)))], [.inl 0], (zx_lay M, n))) rfl ?_
        exact zx_E.ri h rfl (fun h => absurd h (by decide))
  · show zx_E _ _ _ (8, [some (.inr (some (0, 0, 0, 0))), some (.inl x0), none], [.inr none], (zx_lay M, n)) _
    refine zx_E.go 4 (s' := (22, [some (.inr (some (0, 0, 0, 0))), some (.inl x0), some (.inr none)], [.inl (-1)], (zx_lay M, n))) rfl ?_
    exact zx_E.ri h rfl (fun h => absurd h (by decide))
def g_X11_isTrain (M : zx_Y) (x0 : Int32) : Option Int32 := (zb (g_X11_isIn M x0 0 ((M (26, 0, 0, 0) 27) - 1)) fun v1 => (zo v1 ((some v1))))
set_option maxRecDepth 100000 in
set_option maxHeartbeats 4000000 in
theorem r_X11_isTrain {X : zx_X} {d n : Nat} {M : zx_Y} {x0 : Int32} {rv : Int32} (h : g_X11_isTrain M x0 = some rv) : zx_run X (d + 2) 124 [.inr (some (25, 0, 0, 0)), .inl x0] (zx_lay M, n) (some (.inl rv), (zx_lay M, n)) := by
  refine zx_run_of zc_X11_isTrain [some (.inr (some (25, 0, 0, 0))), some (.inl x0)] rfl rfl ?_
  unfold g_X11_isTrain at h
  refine zx_E.go 5 (s' := (8, [some (.inr (some (25, 0, 0, 0))), some (.inl x0)], [.inl 27, .inr (some (26, 0, 0, 0)), .inl 0, .inl x0], (zx_lay M, n))) rfl ?_
  refine zx_E.iald (k := 27) (h := (26, 0, 0, 0)) rfl rfl rfl (by decide) ?_
  show zx_E _ _ _ (9, [some (.inr (some (25, 0, 0, 0))), some (.inl x0)], [.inl (M (26, 0, 0, 0) 27), .inl 0, .inl x0], (zx_lay M, n)) _
  refine zx_E.go 2 (s' := (11, [some (.inr (some (25, 0, 0, 0))), some (.inl x0)], [.inl ((M (26, 0, 0, 0) 27) - 1), .inl 0, .inl x0], (zx_lay M, n))) rfl ?_
  refine zx_E.cb (y := 121) (as := [.inl x0, .inl 0, .inl ((M (26, 0, 0, 0) 27) - 1)]) (rest := []) h rfl (fun _ hv => zx_run_up (by omega) (r_X11_isIn (d := d) hv)) (fun v1 h => ?_)
  show zx_E _ _ _ (14, [some (.inr (some (25, 0, 0, 0))), some (.inl x0)], [.inl v1], (zx_lay M, n)) _
  refine zx_E.ob h (fun hv h => ?_)
  exact zx_E.rp h rfl (fun _ => hv)
def g_X11_become (M : zx_Y) (x0 : Int32) (x1 : Int32) (x2 : Int32) : Option zx_Y := (zm (g_X11_set M x0 0 x1) fun M1 => (zm (g_X11_set M1 x0 11 x2) fun M2 => (zm (g_X11_set M2 x0 7 (M2 (26, 0, 0, 0) 0)) fun M3 => (zm (g_X11_set M3 x0 8 (-5)) fun M4 => (some M4)))))
set_option maxRecDepth 100000 in
set_option maxHeartbeats 4000000 in
theorem r_X11_become {X : zx_X} {d n : Nat} {M : zx_Y} {x0 : Int32} {x1 : Int32} {x2 : Int32} {rM : zx_Y} (h : g_X11_become M x0 x1 x2 = some rM) : zx_run X (d + 2) 143 [.inr (some (25, 0, 0, 0)), .inl x0, .inl x1, .inl x2] (zx_lay M, n) (none, (zx_lay rM, n)) := by
  refine zx_run_of zc_X11_become [some (.inr (some (25, 0, 0, 0))), some (.inl x0), some (.inl x1), some (.inl x2)] rfl rfl ?_
  unfold g_X11_become at h
  refine zx_E.go 4 (s' := (4, [some (.inr (some (25, 0, 0, 0))), some (.inl x0), some (.inl x1), some (.inl x2)], [.inl x1, .inl 0, .inl x0, .inr (some (25, 0, 0, 0))], (zx_lay M, n))) rfl ?_
  refine zx_E.cm (y := 126) (as := [.inr (some (25, 0, 0, 0)), .inl x0, .inl 0, .inl x1]) (rest := []) h rfl (fun _ hv => zx_run_up (by omega) (r_X11_set (d := d) hv)) (fun M1 h => ?_)
  show zx_E _ _ _ (7, [some (.inr (some (25, 0, 0, 0))), some (.inl x0), some (.inl x1), some (.inl x2)], [], (zx_lay M1, n)) _
  refine zx_E.go 4 (s' := (12, [some (.inr (some (25, 0, 0, 0))), some (.inl x0), some (.inl x1), some (.inl x2)], [.inl x2, .inl 11, .inl x0, .inr (some (25, 0, 0, 0))], (zx_lay M1, n))) rfl ?_
  refine zx_E.cm (y := 126) (as := [.inr (some (25, 0, 0, 0)), .inl x0, .inl 11, .inl x2]) (rest := []) h rfl (fun _ hv => zx_run_up (by omega) (r_X11_set (d := d) hv)) (fun M2 h => ?_)
  show zx_E _ _ _ (15, [some (.inr (some (25, 0, 0, 0))), some (.inl x0), some (.inl x1), some (.inl x2)], [], (zx_lay M2, n)) _
  refine zx_E.go 6 (s' := (24, [some (.inr (some (25, 0, 0, 0))), some (.inl x0), some (.inl x1), some (.inl x2)], [.inl 0, .inr (some (26, 0, 0, 0)), .inl 7, .inl x0, .inr (some (25, 0, 0, 0))], (zx_lay M2, n))) rfl ?_
  refine zx_E.iald (k := 0) (h := (26, 0, 0, 0)) rfl rfl rfl (by decide) ?_
  show zx_E _ _ _ (25, [some (.inr (some (25, 0, 0, 0))), some (.inl x0), some (.inl x1), some (.inl x2)], [.inl (M2 (26, 0, 0, 0) 0), .inl 7, .inl x0, .inr (some (25, 0, 0, 0))], (zx_lay M2, n)) _
  refine zx_E.cm (y := 126) (as := [.inr (some (25, 0, 0, 0)), .inl x0, .inl 7, .inl (M2 (26, 0, 0, 0) 0)]) (rest := []) h rfl (fun _ hv => zx_run_up (by omega) (r_X11_set (d := d) hv)) (fun M3 h => ?_)
  show zx_E _ _ _ (28, [some (.inr (some (25, 0, 0, 0))), some (.inl x0), some (.inl x1), some (.inl x2)], [], (zx_lay M3, n)) _
  refine zx_E.go 4 (s' := (34, [some (.inr (some (25, 0, 0, 0))), some (.inl x0), some (.inl x1), some (.inl x2)], [.inl (-5), .inl 8, .inl x0, .inr (some (25, 0, 0, 0))], (zx_lay M3, n))) rfl ?_
  refine zx_E.cm (y := 126) (as := [.inr (some (25, 0, 0, 0)), .inl x0, .inl 8, .inl (-5)]) (rest := []) h rfl (fun _ hv => zx_run_up (by omega) (r_X11_set (d := d) hv)) (fun M4 h => ?_)
  show zx_E _ _ _ (37, [some (.inr (some (25, 0, 0, 0))), some (.inl x0), some (.inl x1), some (.inl x2)], [], (zx_lay M4, n)) _
  exact zx_E.r0 h rfl
def g_X11_cancel (M : zx_Y) (x0 : Int32) : Option (Int32 × zx_Y) := (zb (g_X11_isTrain M x0) fun v1 => (if v1 = 0 then (some ((-1), M)) else (zb (g_X11_at M x0 0) fun v2 => (if v2 = 5 then (some ((-1), M)) else (zb (g_X11_at M x0 0) fun v3 => (if v3 = 0 then (zm (g_X11_become M x0 5 (-5)) fun M1 => (some (1, M1))) else (some (0, M))))))))
set_option maxRecDepth 100000 in
set_option maxHeartbeats 4000000 in
theorem r_X11_cancel {X : zx_X} {d n : Nat} {M : zx_Y} {x0 : Int32} {rv : Int32} {rM : zx_Y} (h : g_X11_cancel M x0 = some (rv, rM)) : zx_run X (d + 3) 174 [.inr (some (25, 0, 0, 0)), .inl x0] (zx_lay M, n) (some (.inl rv), (zx_lay rM, n)) := by
  refine zx_run_of zc_X11_cancel [some (.inr (some (25, 0, 0, 0))), some (.inl x0)] rfl rfl ?_
  unfold g_X11_cancel at h
  refine zx_E.go 2 (s' := (2, [some (.inr (some (25, 0, 0, 0))), some (.inl x0)], [.inl x0, .inr (some (25, 0, 0, 0))], (zx_lay M, n))) rfl ?_
  refine zx_E.cb (y := 124) (as := [.inr (some (25, 0, 0, 0)), .inl x0]) (rest := []) h rfl (fun _ hv => zx_run_up (by omega) (r_X11_isTrain (d := d) hv)) (fun v1 h => ?_)
  show zx_E _ _ _ (5, [some (.inr (some (25, 0, 0, 0))), some (.inl x0)], [.inl v1], (zx_lay M, n)) _
  refine zx_E.brh (c := v1 = 0) (s1 := (18, [some (.inr (some (25, 0, 0, 0))), some (.inl x0)], [], (zx_lay M, n))) (s2 := (8, [some (.inr (some (25, 0, 0, 0))), some (.inl x0)], [], (zx_lay M, n))) h (zx_if_eq rfl) (fun _ h => ?_) (fun _ h => ?_)
  · refine zx_E.go 1 (s' := (19, [some (.inr (some (25, 0, 0, 0))), some (.inl x0)], [.inl (-1)], (zx_lay M, n))) rfl ?_
    exact zx_E.ri h rfl (fun h => absurd h (by decide))
  · refine zx_E.go 3 (s' := (11, [some (.inr (some (25, 0, 0, 0))), some (.inl x0)], [.inl 0, .inl x0, .inr (some (25, 0, 0, 0))], (zx_lay M, n))) rfl ?_
    refine zx_E.cb (y := 125) (as := [.inr (some (25, 0, 0, 0)), .inl x0, .inl 0]) (rest := []) h rfl (fun _ hv => zx_run_up (by omega) (r_X11_at (d := d) hv)) (fun v2 h => ?_)
    show zx_E _ _ _ (14, [some (.inr (some (25, 0, 0, 0))), some (.inl x0)], [.inl v2], (zx_lay M, n)) _
    refine zx_E.go 1 (s' := (15, [some (.inr (some (25, 0, 0, 0))), some (.inl x0)], [.inl 5, .inl v2], (zx_lay M, n))) rfl ?_
    refine zx_E.brh (c := v2 = 5) (s1 := (18, [some (.inr (some (25, 0, 0, 0))), some (.inl x0)], [], (zx_lay M, n))) (s2 := (20, [some (.inr (some (25, 0, 0, 0))), some (.inl x0)], [], (zx_lay M, n))) h (zx_ic_ne rfl) (fun _ h => ?_) (fun _ h => ?_)
    · refine zx_E.go 1 (s' := (19, [some (.inr (some (25, 0, 0, 0))), some (.inl x0)], [.inl (-1)], (zx_lay M, n))) rfl ?_
      exact zx_E.ri h rfl (fun h => absurd h (by decide))
    · refine zx_E.go 3 (s' := (23, [some (.inr (some (25, 0, 0, 0))), some (.inl x0)], [.inl 0, .inl x0, .inr (some (25, 0, 0, 0))], (zx_lay M, n))) rfl ?_
      refine zx_E.cb (y := 125) (as := [.inr (some (25, 0, 0, 0)), .inl x0, .inl 0]) (rest := []) h rfl (fun _ hv => zx_run_up (by omega) (r_X11_at (d := d) hv)) (fun v3 h => ?_)
      show zx_E _ _ _ (26, [some (.inr (some (25, 0, 0, 0))), some (.inl x0)], [.inl v3], (zx_lay M, n)) _
      refine zx_E.brh (c := v3 = 0) (s1 := (31, [some (.inr (some (25, 0, 0, 0))), some (.inl x0)], [], (zx_lay M, n))) (s2 := (29, [some (.inr (some (25, 0, 0, 0))), some (.inl x0)], [], (zx_lay M, n))) h (zx_if_eq rfl) (fun _ h => ?_) (fun _ h => ?_)
      · refine zx_E.go 4 (s' := (36, [some (.inr (some (25, 0, 0, 0))), some (.inl x0)], [.inl (-5), .inl 5, .inl x0, .inr (some (25, 0, 0, 0))], (zx_lay M, n))) rfl ?_
        refine zx_E.cm (y := 143) (as := [.inr (some (25, 0, 0, 0)), .inl x0, .inl 5, .inl (-5)]) (rest := []) h rfl (fun _ hv => zx_run_up (by omega) (r_X11_become (d := d) hv)) (fun M1 h => ?_)
        show zx_E _ _ _ (39, [some (.inr (some (25, 0, 0, 0))), some (.inl x0)], [], (zx_lay M1, n)) _
        refine zx_E.go 1 (s' := (40, [some (.inr (some (25, 0, 0, 0))), some (.inl x0)], [.inl 1], (zx_lay M1, n))) rfl ?_
        exact zx_E.ri h rfl (fun h => absurd h (by decide))
      · refine zx_E.go 1 (s' := (30, [some (.inr (some (25, 0, 0, 0))), some (.inl x0)], [.inl 0], (zx_lay M, n))) rfl ?_
        exact zx_E.ri h rfl (fun h => absurd h (by decide))
def lg_X2_removeOrder_2 (l : Nat) (kk : Int32 → zx_Y → Option zx_Y) : Nat → Int32 → zx_Y → Option zx_Y
  | 0, _, _ => none
  | q + 1, w2, M => (if (M (1, l, 0, 0) 5) ≤ (w2 + 1) then (kk w2 M) else (zi w2 6 fun k1 => (zi (w2 + 1) 6 fun k2 => (zm (g_X6_copyFrom M l k1 l k2) fun M1 => (lg_X2_removeOrder_2 l kk q (w2 + 1) M1)))))
set_option maxRecDepth 100000 in
set_option maxHeartbeats 4000000 in
theorem rl_X2_removeOrder_2 {X : zx_X} {d n : Nat} {l : Nat} {kk : Int32 → zx_Y → Option zx_Y} {rM : zx_Y} {g1 : Option zx_V} (hk : ∀ (w2 : Int32) (M : zx_Y), kk w2 M = some rM → zx_E X (d + 1) zc_X2_removeOrder (35, [some (.inr (some (1, l, 0, 0))), g1, some (.inl w2)], [], (zx_lay M, n)) (none, (zx_lay rM, n))) : ∀ (q : Nat) (w2 : Int32) (M : zx_Y), lg_X2_removeOrder_2 l kk q w2 M = some rM → zx_E X (d + 1) zc_X2_removeOrder (2, [some (.inr (some (1, l, 0, 0))), g1, some (.inl w2)], [], (zx_lay M, n)) (none, (zx_lay rM, n))
  | 0, w2, M, h => by
    rw [lg_X2_removeOrder_2.eq_1] at h
    cases h
  | q + 1, w2, M, h => by
    rw [lg_X2_removeOrder_2.eq_2] at h
    refine zx_E.go 5 (s' := (9, [some (.inr (some (1, l, 0, 0))), g1, some (.inl w2)], [.inl (M (1, l, 0, 0) 5), .inl (w2 + 1)], (zx_lay M, n))) rfl ?_
    refine zx_E.brh (c := (M (1, l, 0, 0) 5) ≤ (w2 + 1)) (s1 := (35, [some (.inr (some (1, l, 0, 0))), g1, some (.inl w2)], [], (zx_lay M, n))) (s2 := (12, [some (.inr (some (1, l, 0, 0))), g1, some (.inl w2)], [], (zx_lay M, n))) h (zx_ic_ge rfl) (fun _ h => ?_) (fun _ h => ?_)
    · exact hk _ _ h
    · refine zx_E.go 3 (s' := (17, [some (.inr (some (1, l, 0, 0))), g1, some (.inl w2)], [.inl w2, .inr (some (8, l, 0, 0))], (zx_lay M, n))) rfl ?_
      refine zx_E.ix h (fun k1 hx_k1 hl_k1 h => ?_)
      refine zx_E.aald (k := k1) (h := (8, l, 0, 0)) (h' := (9, l, k1, 0)) rfl rfl hx_k1 hl_k1 rfl ?_
      show zx_E _ _ _ (18, [some (.inr (some (1, l, 0, 0))), g1, some (.inl w2)], [.inr (some (9, l, k1, 0))], (zx_lay M, n)) _
      refine zx_E.go 4 (s' := (24, [some (.inr (some (1, l, 0, 0))), g1, some (.inl w2)], [.inl 1, .inl w2, .inr (some (8, l, 0, 0)), .inr (some (9, l, k1, 0))], (zx_lay M, n))) rfl ?_
      refine zx_E.go 1 (s' := (25, [some (.inr (some (1, l, 0, 0))), g1, some (.inl w2)], [.inl (w2 + 1), .inr (some (8, l, 0, 0)), .inr (some (9, l, k1, 0))], (zx_lay M, n))) rfl ?_
      refine zx_E.ix h (fun k2 hx_k2 hl_k2 h => ?_)
      refine zx_E.aald (k := k2) (h := (8, l, 0, 0)) (h' := (9, l, k2, 0)) rfl rfl hx_k2 hl_k2 rfl ?_
      show zx_E _ _ _ (26, [some (.inr (some (1, l, 0, 0))), g1, some (.inl w2)], [.inr (some (9, l, k2, 0)), .inr (some (9, l, k1, 0))], (zx_lay M, n)) _
      refine zx_E.cm (y := 63) (as := [.inr (some (9, l, k1, 0)), .inr (some (9, l, k2, 0))]) (rest := []) h rfl (fun _ hv => zx_run_up (by omega) (r_X6_copyFrom (d := d) hv)) (fun M1 h => ?_)
      show zx_E _ _ _ (29, [some (.inr (some (1, l, 0, 0))), g1, some (.inl w2)], [], (zx_lay M1, n)) _
      refine zx_E.go 2 (s' := (2, [some (.inr (some (1, l, 0, 0))), g1, some (.inl (w2 + 1))], [], (zx_lay M1, n))) rfl ?_
      exact rl_X2_removeOrder_2 hk q (w2 + 1) M1 h
def g_X2_removeOrder (M : zx_Y) (l : Nat) (x0 : Int32) : Option zx_Y := (lg_X2_removeOrder_2 l (fun v1 M1 => (zl (zx_up M1 (1, l, 0, 0) 5 ((M1 (1, l, 0, 0) 5) - 1)) fun M2 => (some M2))) 1000 x0 M)
set_option maxRecDepth 100000 in
set_option maxHeartbeats 4000000 in
theorem r_X2_removeOrder {X : zx_X} {d n : Nat} {M : zx_Y} {l : Nat} {x0 : Int32} {rM : zx_Y} (h : g_X2_removeOrder M l x0 = some rM) : zx_run X (d + 2) 19 [.inr (some (1, l, 0, 0)), .inl x0] (zx_lay M, n) (none, (zx_lay rM, n)) := by
  refine zx_run_of zc_X2_removeOrder [some (.inr (some (1, l, 0, 0))), some (.inl x0), none] rfl rfl ?_
  unfold g_X2_removeOrder at h
  refine zx_E.go 2 (s' := (2, [some (.inr (some (1, l, 0, 0))), some (.inl x0), some (.inl x0)], [], (zx_lay M, n))) rfl ?_
  refine rl_X2_removeOrder_2 (fun v1 M1 h => ?_) 1000  x0 M h
  refine zx_E.go 4 (s' := (41, [some (.inr (some (1, l, 0, 0))), some (.inl x0), some (.inl v1)], [.inl 1, .inl (M1 (1, l, 0, 0) 5), .inr (some (1, l, 0, 0))], (zx_lay M1, n))) rfl ?_
  refine zx_E.go 1 (s' := (42, [some (.inr (some (1, l, 0, 0))), some (.inl x0), some (.inl v1)], [.inl ((M1 (1, l, 0, 0) 5) - 1), .inr (some (1, l, 0, 0))], (zx_lay M1, n))) rfl ?_
  refine zx_E.pu h rfl rfl (fun h => absurd h (by decide)) (fun M2 h => ?_)
  show zx_E _ _ _ (45, [some (.inr (some (1, l, 0, 0))), some (.inl x0), some (.inl v1)], [], (zx_lay M2, n)) _
  exact zx_E.r0 h rfl
def g_X10_lift (M : zx_Y) (x0 : Int32) : Option (Int32 × zx_Y) := (if x0 < 0 then (some ((-1), M)) else (if x0 < (M (1, 0, 0, 0) 5) then (zm (g_X2_removeOrder M 0 x0) fun M1 => (some ((M1 (1, 0, 0, 0) 5), M1))) else (some ((-1), M))))
set_option maxRecDepth 100000 in
set_option maxHeartbeats 4000000 in
theorem r_X10_lift {X : zx_X} {d n : Nat} {M : zx_Y} {x0 : Int32} {rv : Int32} {rM : zx_Y} (h : g_X10_lift M x0 = some (rv, rM)) : zx_run X (d + 3) 99 [.inr (some (0, 0, 0, 0)), .inl x0] (zx_lay M, n) (some (.inl rv), (zx_lay rM, n)) := by
  refine zx_run_of zc_X10_lift [some (.inr (some (0, 0, 0, 0))), some (.inl x0)] rfl rfl ?_
  unfold g_X10_lift at h
  refine zx_E.go 1 (s' := (1, [some (.inr (some (0, 0, 0, 0))), some (.inl x0)], [.inl x0], (zx_lay M, n))) rfl ?_
  refine zx_E.brh (c := x0 < 0) (s1 := (15, [some (.inr (some (0, 0, 0, 0))), some (.inl x0)], [], (zx_lay M, n))) (s2 := (4, [some (.inr (some (0, 0, 0, 0))), some (.inl x0)], [], (zx_lay M, n))) h (zx_if_lt rfl) (fun _ h => ?_) (fun _ h => ?_)
  · refine zx_E.go 1 (s' := (16, [some (.inr (some (0, 0, 0, 0))), some (.inl x0)], [.inl (-1)], (zx_lay M, n))) rfl ?_
    exact zx_E.ri h rfl (fun h => absurd h (by decide))
  · refine zx_E.go 4 (s' := (12, [some (.inr (some (0, 0, 0, 0))), some (.inl x0)], [.inl (M (1, 0, 0, 0) 5), .inl x0], (zx_lay M, n))) rfl ?_
    refine zx_E.brh (c := x0 < (M (1, 0, 0, 0) 5)) (s1 := (17, [some (.inr (some (0, 0, 0, 0))), some (.inl x0)], [], (zx_lay M, n))) (s2 := (15, [some (.inr (some (0, 0, 0, 0))), some (.inl x0)], [], (zx_lay M, n))) h (zx_ic_lt rfl) (fun _ h => ?_) (fun _ h => ?_)
    · refine zx_E.go 3 (s' := (22, [some (.inr (some (0, 0, 0, 0))), some (.inl x0)], [.inl x0, .inr (some (1, 0, 0, 0))], (zx_lay M, n))) rfl ?_
      refine zx_E.cm (y := 19) (as := [.inr (some (1, 0, 0, 0)), .inl x0]) (rest := []) h rfl (fun _ hv => zx_run_up (by omega) (r_X2_removeOrder (d := d) hv)) (fun M1 h => ?_)
      show zx_E _ _ _ (25, [some (.inr (some (0, 0, 0, 0))), some (.inl x0)], [], (zx_lay M1, n)) _
      refine zx_E.go 3 (s' := (32, [some (.inr (some (0, 0, 0, 0))), some (.inl x0)], [.inl (M1 (1, 0, 0, 0) 5)], (zx_lay M1, n))) rfl ?_
      exact zx_E.ri h rfl (fun h => absurd h (by decide))
    · refine zx_E.go 1 (s' := (16, [some (.inr (some (0, 0, 0, 0))), some (.inl x0)], [.inl (-1)], (zx_lay M, n))) rfl ?_
      exact zx_E.ri h rfl (fun h => absurd h (by decide))
def lg_X11_lift_34 (kk : Int32 → zx_Y → Option (Int32 × zx_Y)) : Nat → Int32 → zx_Y → Option (Int32 × zx_Y)
  | 0, _, _ => none
  | q + 1, w2, M => (if (4 * (M (26, 0, 0, 0) 50)) ≤ w2 then (kk w2 M) else (zi ((51 + w2) + 4) 640 fun k1 => (zi (51 + w2) 640 fun k2 => (zl (zx_up M (26, 0, 0, 0) k2 (M (26, 0, 0, 0) k1)) fun M1 => (lg_X11_lift_34 kk q (w2 + 1) M1)))))
set_option maxRecDepth 100000 in
set_option maxHeartbeats 4000000 in
theorem rl_X11_lift_34 {X : zx_X} {d n : Nat} {kk : Int32 → zx_Y → Option (Int32 × zx_Y)} {rv : Int32} {rM : zx_Y} {g1 : Option zx_V} (hk : ∀ (w2 : Int32) (M : zx_Y), kk w2 M = some (rv, rM) → zx_E X (d + 1) zc_X11_lift (73, [some (.inr (some (25, 0, 0, 0))), g1, some (.inl w2)], [], (zx_lay M, n)) (some (.inl rv), (zx_lay rM, n))) : ∀ (q : Nat) (w2 : Int32) (M : zx_Y), lg_X11_lift_34 kk q w2 M = some (rv, rM) → zx_E X (d + 1) zc_X11_lift (34, [some (.inr (some (25, 0, 0, 0))), g1, some (.inl w2)], [], (zx_lay M, n)) (some (.inl rv), (zx_lay rM, n))
  | 0, w2, M, h => by
    rw [lg_X11_lift_34.eq_1] at h
    cases h
  | q + 1, w2, M, h => by
    rw [lg_X11_lift_34.eq_2] at h
    refine zx_E.go 5 (s' := (42, [some (.inr (some (25, 0, 0, 0))), g1, some (.inl w2)], [.inl 50, .inr (some (26, 0, 0, 0)), .inl 4, .inl w2], (zx_lay M, n))) rfl ?_
    refine zx_E.iald (k := 50) (h := (26, 0, 0, 0)) rfl rfl rfl (by decide) ?_
    show zx_E _ _ _ (43, [some (.inr (some (25, 0, 0, 0))), g1, some (.inl w2)], [.inl (M (26, 0, 0, 0) 50), .inl 4, .inl w2], (zx_lay M, n)) _
    refine zx_E.go 1 (s' := (44, [some (.inr (some (25, 0, 0, 0))), g1, some (.inl w2)], [.inl (4 * (M (26, 0, 0, 0) 50)), .inl w2], (zx_lay M, n))) rfl ?_
    refine zx_E.brh (c := (4 * (M (26, 0, 0, 0) 50)) ≤ w2) (s1 := (73, [some (.inr (some (25, 0, 0, 0))), g1, some (.inl w2)], [], (zx_lay M, n))) (s2 := (47, [some (.inr (some (25, 0, 0, 0))), g1, some (.inl w2)], [], (zx_lay M, n))) h (zx_ic_ge rfl) (fun _ h => ?_) (fun _ h => ?_)
    · exact hk _ _ h
    · refine zx_E.go 4 (s' := (54, [some (.inr (some (25, 0, 0, 0))), g1, some (.inl w2)], [.inl w2, .inl 51, .inr (some (26, 0, 0, 0))], (zx_lay M, n))) rfl ?_
      refine zx_E.go 5 (s' := (62, [some (.inr (some (25, 0, 0, 0))), g1, some (.inl w2)], [.inl w2, .inl 51, .inr (some (26, 0, 0, 0)), .inl (51 + w2), .inr (some (26, 0, 0, 0))], (zx_lay M, n))) rfl ?_
      refine zx_E.go 3 (s' := (65, [some (.inr (some (25, 0, 0, 0))), g1, some (.inl w2)], [.inl ((51 + w2) + 4), .inr (some (26, 0, 0, 0)), .inl (51 + w2), .inr (some (26, 0, 0, 0))], (zx_lay M, n))) rfl ?_
      refine zx_E.ix h (fun k1 hx_k1 hl_k1 h => ?_)
      refine zx_E.iald (k := k1) (h := (26, 0, 0, 0)) rfl rfl hx_k1 hl_k1 ?_
      show zx_E _ _ _ (66, [some (.inr (some (25, 0, 0, 0))), g1, some (.inl w2)], [.inl (M (26, 0, 0, 0) k1), .inl (51 + w2), .inr (some (26, 0, 0, 0))], (zx_lay M, n)) _
      refine zx_E.ix h (fun k2 hx_k2 hl_k2 h => ?_)
      refine zx_E.ia h rfl rfl hx_k2 hl_k2 (fun M1 h => ?_)
      show zx_E _ _ _ (67, [some (.inr (some (25, 0, 0, 0))), g1, some (.inl w2)], [], (zx_lay M1, n)) _
      refine zx_E.go 2 (s' := (34, [some (.inr (some (25, 0, 0, 0))), g1, some (.inl (w2 + 1))], [], (zx_lay M1, n))) rfl ?_
      exact rl_X11_lift_34 hk q (w2 + 1) M1 h
def g_X11_lift (M : zx_Y) (x0 : Int32) : Option (Int32 × zx_Y) := (zb (g_X11_isIn M x0 0 ((M (26, 0, 0, 0) 50) - 1)) fun v1 => (if v1 = 0 then (some ((-1), M)) else (zl (zx_up M (26, 0, 0, 0) 50 ((M (26, 0, 0, 0) 50) - 1)) fun M1 => (lg_X11_lift_34 (fun v2 M2 => (some ((M2 (26, 0, 0, 0) 50), M2))) 1000 (4 * x0) M1))))
set_option maxRecDepth 100000 in
set_option maxHeartbeats 4000000 in
theorem r_X11_lift {X : zx_X} {d n : Nat} {M : zx_Y} {x0 : Int32} {rv : Int32} {rM : zx_Y} (h : g_X11_lift M x0 = some (rv, rM)) : zx_run X (d + 2) 175 [.inr (some (25, 0, 0, 0)), .inl x0] (zx_lay M, n) (some (.inl rv), (zx_lay rM, n)) := by
  refine zx_run_of zc_X11_lift [some (.inr (some (25, 0, 0, 0))), some (.inl x0), none] rfl rfl ?_
  unfold g_X11_lift at h
  refine zx_E.go 5 (s' := (8, [some (.inr (some (25, 0, 0, 0))), some (.inl x0), none], [.inl 50, .inr (some (26, 0, 0, 0)), .inl 0, .inl x0], (zx_lay M, n))) rfl ?_
  refine zx_E.iald (k := 50) (h := (26, 0, 0, 0)) rfl rfl rfl (by decide) ?_
  show zx_E _ _ _ (9, [some (.inr (some (25, 0, 0, 0))), some (.inl x0), none], [.inl (M (26, 0, 0, 0) 50), .inl 0, .inl x0], (zx_lay M, n)) _
  refine zx_E.go 2 (s' := (11, [some (.inr (some (25, 0, 0, 0))), some (.inl x0), none], [.inl ((M (26, 0, 0, 0) 50) - 1), .inl 0, .inl x0], (zx_lay M, n))) rfl ?_
  refine zx_E.cb (y := 121) (as := [.inl x0, .inl 0, .inl ((M (26, 0, 0, 0) 50) - 1)]) (rest := []) h rfl (fun _ hv => zx_run_up (by omega) (r_X11_isIn (d := d) hv)) (fun v1 h => ?_)
  show zx_E _ _ _ (14, [some (.inr (some (25, 0, 0, 0))), some (.inl x0), none], [.inl v1], (zx_lay M, n)) _
  refine zx_E.brh (c := v1 = 0) (s1 := (17, [some (.inr (some (25, 0, 0, 0))), some (.inl x0), none], [], (zx_lay M, n))) (s2 := (19, [some (.inr (some (25, 0, 0, 0))), some (.inl x0), none], [], (zx_lay M, n))) h (zx_if_ne rfl) (fun _ h => ?_) (fun _ h => ?_)
  · refine zx_E.go 1 (s' := (18, [some (.inr (some (25, 0, 0, 0))), some (.inl x0), none], [.inl (-1)], (zx_lay M, n))) rfl ?_
    exact zx_E.ri h rfl (fun h => absurd h (by decide))
  · refine zx_E.go 4 (s' := (26, [some (.inr (some (25, 0, 0, 0))), some (.inl x0), none], [.inl 50, .inr (some (26, 0, 0, 0)), .inl 50, .inr (some (26, 0, 0, 0))], (zx_lay M, n))) rfl ?_
    refine zx_E.iald (k := 50) (h := (26, 0, 0, 0)) rfl rfl rfl (by decide) ?_
    show zx_E _ _ _ (27, [some (.inr (some (25, 0, 0, 0))), some (.inl x0), none], [.inl (M (26, 0, 0, 0) 50), .inl 50, .inr (some (26, 0, 0, 0))], (zx_lay M, n)) _
    refine zx_E.go 2 (s' := (29, [some (.inr (some (25, 0, 0, 0))), some (.inl x0), none], [.inl ((M (26, 0, 0, 0) 50) - 1), .inl 50, .inr (some (26, 0, 0, 0))], (zx_lay M, n))) rfl ?_
    refine zx_E.ia h rfl rfl rfl (by decide) (fun M1 h => ?_)
    show zx_E _ _ _ (30, [some (.inr (some (25, 0, 0, 0))), some (.inl x0), none], [], (zx_lay M1, n)) _
    refine zx_E.go 4 (s' := (34, [some (.inr (some (25, 0, 0, 0))), some (.inl x0), some (.inl (4 * x0))], [], (zx_lay M1, n))) rfl ?_
    refine rl_X11_lift_34 (fun v2 M2 h => ?_) 1000  (4 * x0) M1 h
    refine zx_E.go 3 (s' := (79, [some (.inr (some (25, 0, 0, 0))), some (.inl x0), some (.inl v2)], [.inl 50, .inr (some (26, 0, 0, 0))], (zx_lay M2, n))) rfl ?_
    refine zx_E.iald (k := 50) (h := (26, 0, 0, 0)) rfl rfl rfl (by decide) ?_
    show zx_E _ _ _ (80, [some (.inr (some (25, 0, 0, 0))), some (.inl x0), some (.inl v2)], [.inl (M2 (26, 0, 0, 0) 50)], (zx_lay M2, n)) _
    exact zx_E.ri h rfl (fun h => absurd h (by decide))
def g_X10_isMinutes (M : zx_Y) (x0 : Int32) : Option Int32 := (if x0 < 1 then (some 0) else (if (500 : Int32) < x0 then (some 0) else (some 1)))
set_option maxRecDepth 100000 in
set_option maxHeartbeats 4000000 in
theorem r_X10_isMinutes {X : zx_X} {d n : Nat} {M : zx_Y} {x0 : Int32} {rv : Int32} (h : g_X10_isMinutes M x0 = some rv) : zx_run X (d + 1) 117 [.inl x0] (zx_lay M, n) (some (.inl rv), (zx_lay M, n)) := by
  refine zx_run_of zc_X10_isMinutes [some (.inl x0)] rfl rfl ?_
  unfold g_X10_isMinutes at h
  refine zx_E.go 2 (s' := (2, [some (.inl x0)], [.inl 1, .inl x0], (zx_lay M, n))) rfl ?_
  refine zx_E.brh (c := x0 < 1) (s1 := (16, [some (.inl x0)], [], (zx_lay M, n))) (s2 := (5, [some (.inl x0)], [], (zx_lay M, n))) h (zx_ic_lt rfl) (fun _ h => ?_) (fun _ h => ?_)
  · refine zx_E.go 1 (s' := (17, [some (.inl x0)], [.inl 0], (zx_lay M, n))) rfl ?_
    exact zx_E.rp h rfl (fun _ => Or.inl rfl)
  · refine zx_E.go 2 (s' := (9, [some (.inl x0)], [.inl 500, .inl x0], (zx_lay M, n))) rfl ?_
    refine zx_E.brh (c := (500 : Int32) < x0) (s1 := (16, [some (.inl x0)], [], (zx_lay M, n))) (s2 := (12, [some (.inl x0)], [], (zx_lay M, n))) h (zx_ic_gt rfl) (fun _ h => ?_) (fun _ h => ?_)
    · refine zx_E.go 1 (s' := (17, [some (.inl x0)], [.inl 0], (zx_lay M, n))) rfl ?_
      exact zx_E.rp h rfl (fun _ => Or.inl rfl)
    · refine zx_E.go 2 (s' := (17, [some (.inl x0)], [.inl 1], (zx_lay M, n))) rfl ?_
      exact zx_E.rp h rfl (fun _ => Or.inr rfl)
def g_X9_isCounted (M : zx_Y) (l : Nat) (i : Nat) (x0 : Int32) : Option Int32 := (if (M (7, l, i, 0) 1) = 0 then (if x0 < (M (7, l, i, 0) 5) then (some 0) else (some 1)) else (if (M (7, l, i, 0) 1) = 1 then (some 1) else (if (M (7, l, i, 0) 1) = 2 then (some 1) else (if (M (7, l, i, 0) 1) = 3 then (some 1) else (some 0)))))
set_option maxRecDepth 100000 in
set_option maxHeartbeats 4000000 in
theorem r_X9_isCounted {X : zx_X} {d n : Nat} {M : zx_Y} {l : Nat} {i : Nat} {x0 : Int32} {rv : Int32} (h : g_X9_isCounted M l i x0 = some rv) : zx_run X (d + 1) 85 [.inr (some (7, l, i, 0)), .inl x0] (zx_lay M, n) (some (.inl rv), (zx_lay M, n)) := by
  refine zx_run_of zc_X9_isCounted [some (.inr (some (7, l, i, 0))), some (.inl x0)] rfl rfl ?_
  unfold g_X9_isCounted at h
  refine zx_E.go 2 (s' := (4, [some (.inr (some (7, l, i, 0))), some (.inl x0)], [.inl (M (7, l, i, 0) 1)], (zx_lay M, n))) rfl ?_
  refine zx_E.brh (c := (M (7, l, i, 0) 1) = 0) (s1 := (7, [some (.inr (some (7, l, i, 0))), some (.inl x0)], [], (zx_lay M, n))) (s2 := (21, [some (.inr (some (7, l, i, 0))), some (.inl x0)], [], (zx_lay M, n))) h (zx_if_ne rfl) (fun _ h => ?_) (fun _ h => ?_)
  · refine zx_E.go 3 (s' := (12, [some (.inr (some (7, l, i, 0))), some (.inl x0)], [.inl x0, .inl (M (7, l, i, 0) 5)], (zx_lay M, n))) rfl ?_
    refine zx_E.brh (c := x0 < (M (7, l, i, 0) 5)) (s1 := (19, [some (.inr (some (7, l, i, 0))), some (.inl x0)], [], (zx_lay M, n))) (s2 := (15, [some (.inr (some (7, l, i, 0))), some (.inl x0)], [], (zx_lay M, n))) h (zx_ic_gt rfl) (fun _ h => ?_) (fun _ h => ?_)
    · refine zx_E.go 1 (s' := (20, [some (.inr (some (7, l, i, 0))), some (.inl x0)], [.inl 0], (zx_lay M, n))) rfl ?_
      exact zx_E.rp h rfl (fun _ => Or.inl rfl)
    · refine zx_E.go 2 (s' := (20, [some (.inr (some (7, l, i, 0))), some (.inl x0)], [.inl 1], (zx_lay M, n))) rfl ?_
      exact zx_E.rp h rfl (fun _ => Or.inr rfl)
  · refine zx_E.go 3 (s' := (26, [some (.inr (some (7, l, i, 0))), some (.inl x0)], [.inl 1, .inl (M (7, l, i, 0) 1)], (zx_lay M, n))) rfl ?_
    refine zx_E.brh (c := (M (7, l, i, 0) 1) = 1) (s1 := (45, [some (.inr (some (7, l, i, 0))), some (.inl x0)], [], (zx_lay M, n))) (s2 := (29, [some (.inr (some (7, l, i, 0))), some (.inl x0)], [], (zx_lay M, n))) h (zx_ic_eq rfl) (fun _ h => ?_) (fun _ h => ?_)
    · refine zx_E.go 2 (s' := (50, [some (.inr (some (7, l, i, 0))), some (.inl x0)], [.inl 1], (zx_lay M, n))) rfl ?_
      exact zx_E.rp h rfl (fun _ => Or.inr rfl)
    · refine zx_E.go 3 (s' := (34, [some (.inr (some (7, l, i, 0))), some (.inl x0)], [.inl 2, .inl (M (7, l, i, 0) 1)], (zx_lay M, n))) rfl ?_
      refine zx_E.brh (c := (M (7, l, i, 0) 1) = 2) (s1 := (45, [some (.inr (some (7, l, i, 0))), some (.inl x0)], [], (zx_lay M, n))) (s2 := (37, [some (.inr (some (7, l, i, 0))), some (.inl x0)], [], (zx_lay M, n))) h (zx_ic_eq rfl) (fun _ h => ?_) (fun _ h => ?_)
      · refine zx_E.go 2 (s' := (50, [some (.inr (some (7, l, i, 0))), some (.inl x0)], [.inl 1], (zx_lay M, n))) rfl ?_
        exact zx_E.rp h rfl (fun _ => Or.inr rfl)
      · refine zx_E.go 3 (s' := (42, [some (.inr (some (7, l, i, 0))), some (.inl x0)], [.inl 3, .inl (M (7, l, i, 0) 1)], (zx_lay M, n))) rfl ?_
        refine zx_E.brh (c := (M (7, l, i, 0) 1) = 3) (s1 := (45, [some (.inr (some (7, l, i, 0))), some (.inl x0)], [], (zx_lay M, n))) (s2 := (49, [some (.inr (some (7, l, i, 0))), some (.inl x0)], [], (zx_lay M, n))) h (zx_ic_ne rfl) (fun _ h => ?_) (fun _ h => ?_)
        · refine zx_E.go 2 (s' := (50, [some (.inr (some (7, l, i, 0))), some (.inl x0)], [.inl 1], (zx_lay M, n))) rfl ?_
          exact zx_E.rp h rfl (fun _ => Or.inr rfl)
        · refine zx_E.go 1 (s' := (50, [some (.inr (some (7, l, i, 0))), some (.inl x0)], [.inl 0], (zx_lay M, n))) rfl ?_
          exact zx_E.rp h rfl (fun _ => Or.inl rfl)
def lg_X2_countMinute_2 (l : Nat) (kk : Int32 → zx_Y → Option zx_Y) : Nat → Int32 → zx_Y → Option zx_Y
  | 0, _, _ => none
  | q + 1, w1, M => (if (M (1, l, 0, 0) 4) ≤ w1 then (kk w1 M) else (zi w1 10 fun k1 => (zb (g_X9_isCounted M l k1 (M (1, l, 0, 0) 0)) fun v1 => (if v1 = 0 then (if (M (7, l, k1, 0) 1) = 2 then (zb (g_X2_hasBlock M l (M (7, l, k1, 0) 9)) fun v2 => (if v2 = 0 then (lg_X2_countMinute_2 l kk q (w1 + 1) M) else (zi (M (7, l, k1, 0) 9) 7 fun k2 => (zl (zx_up M (5, l, k2, 0) 1 ((M (5, l, k2, 0) 1) + 1)) fun M1 => (lg_X2_countMinute_2 l kk q (w1 + 1) M1))))) else (lg_X2_countMinute_2 l kk q (w1 + 1) M)) else (zi (M (7, l, k1, 0) 1) 4 fun k3 => (zi (M (7, l, k1, 0) 1) 4 fun k4 => (zl (zx_up M (11, l, k1, 0) k4 ((M (11, l, k1, 0) k3) + 1)) fun M2 => (if (M2 (7, l, k1, 0) 1) = 2 then (zb (g_X2_hasBlock M2 l (M2 (7, l, k1, 0) 9)) fun v3 => (if v3 = 0 then (lg_X2_countMinute_2 l kk q (w1 + 1) M2) else (zi (M2 (7, l, k1, 0) 9) 7 fun k5 => (zl (zx_up M2 (5, l, k5, 0) 1 ((M2 (5, l, k5, 0) 1) + 1)) fun M3 => (lg_X2_countMinute_2 l kk q (w1 + 1) M3))))) else (lg_X2_countMinute_2 l kk q (w1 + 1) M2)))))))))
set_option maxRecDepth 100000 in
set_option maxHeartbeats 4000000 in
theorem rl_X2_countMinute_2 {X : zx_X} {d n : Nat} {l : Nat} {kk : Int32 → zx_Y → Option zx_Y} {rM : zx_Y} (hk : ∀ (w1 : Int32) (M : zx_Y) (e2 : Option zx_V), kk w1 M = some rM → zx_E X (d + 1) zc_X2_countMinute (84, [some (.inr (some (1, l, 0, 0))), some (.inl w1), e2], [], (zx_lay M, n)) (none, (zx_lay rM, n))) : ∀ (q : Nat) (g2 : Option zx_V) (w1 : Int32) (M : zx_Y), lg_X2_countMinute_2 l kk q w1 M = some rM → zx_E X (d + 1) zc_X2_countMinute (2, [some (.inr (some (1, l, 0, 0))), some (.inl w1), g2], [], (zx_lay M, n)) (none, (zx_lay rM, n))
  | 0, g2, w1, M, h => by
    rw [lg_X2_countMinute_2.eq_1] at h
    cases h
  | q + 1, g2, w1, M, h => by
    rw [lg_X2_countMinute_2.eq_2] at h
    refine zx_E.go 3 (s' := (7, [some (.inr (some (1, l, 0, 0))), some (.inl w1), g2], [.inl (M (1, l, 0, 0) 4), .inl w1], (zx_lay M, n))) rfl ?_
    refine zx_E.brh (c := (M (1, l, 0, 0) 4) ≤ w1) (s1 := (84, [some (.inr (some (1, l, 0, 0))), some (.inl w1), g2], [], (zx_lay M, n))) (s2 := (10, [some (.inr (some (1, l, 0, 0))), some (.inl w1), g2], [], (zx_lay M, n))) h (zx_ic_ge rfl) (fun _ h => ?_) (fun _ h => ?_)
    · exact hk _ _ _ h
    · refine zx_E.go 3 (s' := (15, [some (.inr (some (1, l, 0, 0))), some (.inl w1), g2], [.inl w1, .inr (some (6, l, 0, 0))], (zx_lay M, n))) rfl ?_
      refine zx_E.ix h (fun k1 hx_k1 hl_k1 h => ?_)
      refine zx_E.aald (k := k1) (h := (6, l, 0, 0)) (h' := (7, l, k1, 0)) rfl rfl hx_k1 hl_k1 rfl ?_
      show zx_E _ _ _ (16, [some (.inr (some (1, l, 0, 0))), some (.inl w1), g2], [.inr (some (7, l, k1, 0))], (zx_lay M, n)) _
      refine zx_E.go 4 (s' := (22, [some (.inr (some (1, l, 0, 0))), some (.inl w1), some (.inr (some (7, l, k1, 0)))], [.inl (M (1, l, 0, 0) 0), .inr (some (7, l, k1, 0))], (zx_lay M, n))) rfl ?_
      refine zx_E.cb (y := 85) (as := [.inr (some (7, l, k1, 0)), .inl (M (1, l, 0, 0) 0)]) (rest := []) h rfl (fun _ hv => zx_run_up (by omega) (r_X9_isCounted (d := d) hv)) (fun v1 h => ?_)
      show zx_E _ _ _ (25, [some (.inr (some (1, l, 0, 0))), some (.inl w1), some (.inr (some (7, l, k1, 0)))], [.inl v1], (zx_lay M, n)) _
      refine zx_E.brh (c := v1 = 0) (s1 := (41, [some (.inr (some (1, l, 0, 0))), some (.inl w1), some (.inr (some (7, l, k1, 0)))], [], (zx_lay M, n))) (s2 := (28, [some (.inr (some (1, l, 0, 0))), some (.inl w1), some (.inr (some (7, l, k1, 0)))], [], (zx_lay M, n))) h (zx_if_eq rfl) (fun _ h => ?_) (fun _ h => ?_)
      · refine zx_E.go 3 (s' := (46, [some (.inr (some (1, l, 0, 0))), some (.inl w1), some (.inr (some (7, l, k1, 0)))], [.inl 2, .inl (M (7, l, k1, 0) 1)], (zx_lay M, n))) rfl ?_
        refine zx_E.brh (c := (M (7, l, k1, 0) 1) = 2) (s1 := (49, [some (.inr (some (1, l, 0, 0))), some (.inl w1), some (.inr (some (7, l, k1, 0)))], [], (zx_lay M, n))) (s2 := (78, [some (.inr (some (1, l, 0, 0))), some (.inl w1), some (.inr (some (7, l, k1, 0)))], [], (zx_lay M, n))) h (zx_ic_ne rfl) (fun _ h => ?_) (fun _ h => ?_)
        · refine zx_E.go 3 (s' := (54, [some (.inr (some (1, l, 0, 0))), some (.inl w1), some (.inr (some (7, l, k1, 0)))], [.inl (M (7, l, k1, 0) 9), .inr (some (1, l, 0, 0))], (zx_lay M, n))) rfl ?_
          refine zx_E.cb (y := 17) (as := [.inr (some (1, l, 0, 0)), .inl (M (7, l, k1, 0) 9)]) (rest := []) h rfl (fun _ hv => zx_run_up (by omega) (r_X2_hasBlock (d := d) hv)) (fun v2 h => ?_)
          show zx_E _ _ _ (57, [some (.inr (some (1, l, 0, 0))), some (.inl w1), some (.inr (some (7, l, k1, 0)))], [.inl v2], (zx_lay M, n)) _
          refine zx_E.brh (c := v2 = 0) (s1 := (78, [some (.inr (some (1, l, 0, 0))), some (.inl w1), some (.inr (some (7, l, k1, 0)))], [], (zx_lay M, n))) (s2 := (60, [some (.inr (some (1, l, 0, 0))), some (.inl w1), some (.inr (some (7, l, k1, 0)))], [], (zx_lay M, n))) h (zx_if_eq rfl) (fun _ h => ?_) (fun _ h => ?_)
          · refine zx_E.go 2 (s' := (2, [some (.inr (some (1, l, 0, 0))), some (.inl (w1 + 1)), some (.inr (some (7, l, k1, 0)))], [], (zx_lay M, n))) rfl ?_
            exact rl_X2_countMinute_2 hk q _ (w1 + 1) M h
          · refine zx_E.go 4 (s' := (68, [some (.inr (some (1, l, 0, 0))), some (.inl w1), some (.inr (some (7, l, k1, 0)))], [.inl (M (7, l, k1, 0) 9), .inr (some (4, l, 0, 0))], (zx_lay M, n))) rfl ?_
            refine zx_E.ix h (fun k2 hx_k2 hl_k2 h => ?_)
            refine zx_E.aald (k := k2) (h := (4, l, 0, 0)) (h' := (5, l, k2, 0)) rfl rfl hx_k2 hl_k2 rfl ?_
            show zx_E _ _ _ (69, [some (.inr (some (1, l, 0, 0))), some (.inl w1), some (.inr (some (7, l, k1, 0)))], [.inr (some (5, l, k2, 0))], (zx_lay M, n)) _
            refine zx_E.go 3 (s' := (74, [some (.inr (some (1, l, 0, 0))), some (.inl w1), some (.inr (some (7, l, k1, 0)))], [.inl 1, .inl (M (5, l, k2, 0) 1), .inr (some (5, l, k2, 0))], (zx_lay M, n))) rfl ?_
            refine zx_E.go 1 (s' := (75, [some (.inr (some (1, l, 0, 0))), some (.inl w1), some (.inr (some (7, l, k1, 0)))], [.inl ((M (5, l, k2, 0) 1) + 1), .inr (some (5, l, k2, 0))], (zx_lay M, n))) rfl ?_
            refine zx_E.pu h rfl rfl (fun h => absurd h (by decide)) (fun M1 h => ?_)
            show zx_E _ _ _ (78, [some (.inr (some (1, l, 0, 0))), some (.inl w1), some (.inr (some (7, l, k1, 0)))], [], (zx_lay M1, n)) _
            refine zx_E.go 2 (s' := (2, [some (.inr (some (1, l, 0, 0))), some (.inl (w1 + 1)), some (.inr (some (7, l, k1, 0)))], [], (zx_lay M1, n))) rfl ?_
            exact rl_X2_countMinute_2 hk q _ (w1 + 1) M1 h
        · refine zx_E.go 2 (s' := (2, [some (.inr (some (1, l, 0, 0))), some (.inl (w1 + 1)), some (.inr (some (7, l, k1, 0)))], [], (zx_lay M, n))) rfl ?_
          exact rl_X2_countMinute_2 hk q _ (w1 + 1) M h
      · refine zx_E.go 5 (s' := (37, [some (.inr (some (1, l, 0, 0))), some (.inl w1), some (.inr (some (7, l, k1, 0)))], [.inl (M (7, l, k1, 0) 1), .inr (some (11, l, k1, 0)), .inl (M (7, l, k1, 0) 1), .inr (some (11, l, k1, 0))], (zx_lay M, n))) rfl ?_
        refine zx_E.ix h (fun k3 hx_k3 hl_k3 h => ?_)
        refine zx_E.iald (k := k3) (h := (11, l, k1, 0)) rfl rfl hx_k3 hl_k3 ?_
        show zx_E _ _ _ (38, [some (.inr (some (1, l, 0, 0))), some (.inl w1), some (.inr (some (7, l, k1, 0)))], [.inl (M (11, l, k1, 0) k3), .inl (M (7, l, k1, 0) 1), .inr (some (11, l, k1, 0))], (zx_lay M, n)) _
        refine zx_E.go 2 (s' := (40, [some (.inr (some (1, l, 0, 0))), some (.inl w1), some (.inr (some (7, l, k1, 0)))], [.inl ((M (11, l, k1, 0) k3) + 1), .inl (M (7, l, k1, 0) 1), .inr (some (11, l, k1, 0))], (zx_lay M, n))) rfl ?_
        refine zx_E.ix h (fun k4 hx_k4 hl_k4 h => ?_)
        refine zx_E.ia h rfl rfl hx_k4 hl_k4 (fun M2 h => ?_)
        show zx_E _ _ _ (41, [some (.inr (some (1, l, 0, 0))), some (.inl w1), some (.inr (some (7, l, k1, 0)))], [], (zx_lay M2, n)) _
        refine zx_E.go 3 (s' := (46, [some (.inr (some (1, l, 0, 0))), some (.inl w1), some (.inr (some (7, l, k1, 0)))], [.inl 2, .inl (M2 (7, l, k1, 0) 1)], (zx_lay M2, n))) rfl ?_
        refine zx_E.brh (c := (M2 (7, l, k1, 0) 1) = 2) (s1 := (49, [some (.inr (some (1, l, 0, 0))), some (.inl w1), some (.inr (some (7, l, k1, 0)))], [], (zx_lay M2, n))) (s2 := (78, [some (.inr (some (1, l, 0, 0))), some (.inl w1), some (.inr (some (7, l, k1, 0)))], [], (zx_lay M2, n))) h (zx_ic_ne rfl) (fun _ h => ?_) (fun _ h => ?_)
        · refine zx_E.go 3 (s' := (54, [some (.inr (some (1, l, 0, 0))), some (.inl w1), some (.inr (some (7, l, k1, 0)))], [.inl (M2 (7, l, k1, 0) 9), .inr (some (1, l, 0, 0))], (zx_lay M2, n))) rfl ?_
          refine zx_E.cb (y := 17) (as := [.inr (some (1, l, 0, 0)), .inl (M2 (7, l, k1, 0) 9)]) (rest := []) h rfl (fun _ hv => zx_run_up (by omega) (r_X2_hasBlock (d := d) hv)) (fun v3 h => ?_)
          show zx_E _ _ _ (57, [some (.inr (some (1, l, 0, 0))), some (.inl w1), some (.inr (some (7, l, k1, 0)))], [.inl v3], (zx_lay M2, n)) _
          refine zx_E.brh (c := v3 = 0) (s1 := (78, [some (.inr (some (1, l, 0, 0))), some (.inl w1), some (.inr (some (7, l, k1, 0)))], [], (zx_lay M2, n))) (s2 := (60, [some (.inr (some (1, l, 0, 0))), some (.inl w1), some (.inr (some (7, l, k1, 0)))], [], (zx_lay M2, n))) h (zx_if_eq rfl) (fun _ h => ?_) (fun _ h => ?_)
          · refine zx_E.go 2 (s' := (2, [some (.inr (some (1, l, 0, 0))), some (.inl (w1 + 1)), some (.inr (some (7, l, k1, 0)))], [], (zx_lay M2, n))) rfl ?_
            exact rl_X2_countMinute_2 hk q _ (w1 + 1) M2 h
          · refine zx_E.go 4 (s' := (68, [some (.inr (some (1, l, 0, 0))), some (.inl w1), some (.inr (some (7, l, k1, 0)))], [.inl (M2 (7, l, k1, 0) 9), .inr (some (4, l, 0, 0))], (zx_lay M2, n))) rfl ?_
            refine zx_E.ix h (fun k5 hx_k5 hl_k5 h => ?_)
            refine zx_E.aald (k := k5) (h := (4, l, 0, 0)) (h' := (5, l, k5, 0)) rfl rfl hx_k5 hl_k5 rfl ?_
            show zx_E _ _ _ (69, [some (.inr (some (1, l, 0, 0))), some (.inl w1), some (.inr (some (7, l, k1, 0)))], [.inr (some (5, l, k5, 0))], (zx_lay M2, n)) _
            refine zx_E.go 3 (s' := (74, [some (.inr (some (1, l, 0, 0))), some (.inl w1), some (.inr (some (7, l, k1, 0)))], [.inl 1, .inl (M2 (5, l, k5, 0) 1), .inr (some (5, l, k5, 0))], (zx_lay M2, n))) rfl ?_
            refine zx_E.go 1 (s' := (75, [some (.inr (some (1, l, 0, 0))), some (.inl w1), some (.inr (some (7, l, k1, 0)))], [.inl ((M2 (5, l, k5, 0) 1) + 1), .inr (some (5, l, k5, 0))], (zx_lay M2, n))) rfl ?_
            refine zx_E.pu h rfl rfl (fun h => absurd h (by decide)) (fun M3 h => ?_)
            show zx_E _ _ _ (78, [some (.inr (some (1, l, 0, 0))), some (.inl w1), some (.inr (some (7, l, k1, 0)))], [], (zx_lay M3, n)) _
            refine zx_E.go 2 (s' := (2, [some (.inr (some (1, l, 0, 0))), some (.inl (w1 + 1)), some (.inr (some (7, l, k1, 0)))], [], (zx_lay M3, n))) rfl ?_
            exact rl_X2_countMinute_2 hk q _ (w1 + 1) M3 h
        · refine zx_E.go 2 (s' := (2, [some (.inr (some (1, l, 0, 0))), some (.inl (w1 + 1)), some (.inr (some (7, l, k1, 0)))], [], (zx_lay M2, n))) rfl ?_
          exact rl_X2_countMinute_2 hk q _ (w1 + 1) M2 h
def g_X2_countMinute (M : zx_Y) (l : Nat) : Option zx_Y := (lg_X2_countMinute_2 l (fun v1 M1 => (some M1)) 1000 0 M)
set_option maxRecDepth 100000 in
set_option maxHeartbeats 4000000 in
theorem r_X2_countMinute {X : zx_X} {d n : Nat} {M : zx_Y} {l : Nat} {rM : zx_Y} (h : g_X2_countMinute M l = some rM) : zx_run X (d + 2) 21 [.inr (some (1, l, 0, 0))] (zx_lay M, n) (none, (zx_lay rM, n)) := by
  refine zx_run_of zc_X2_countMinute [some (.inr (some (1, l, 0, 0))), none, none] rfl rfl ?_
  unfold g_X2_countMinute at h
  refine zx_E.go 2 (s' := (2, [some (.inr (some (1, l, 0, 0))), some (.inl 0), none], [], (zx_lay M, n))) rfl ?_
  refine rl_X2_countMinute_2 (fun v1 M1 e1 h => ?_) 1000 _ 0 M h
  exact zx_E.r0 h rfl
def g_X9_note (M : zx_Y) (l : Nat) (i : Nat) (x0 : Int32) (x1 : Int32) (x2 : Int32) : Option zx_Y := (if x1 < 0 then (some M) else (if x1 < 8 then (zi x0 2 fun k1 => (zi x1 8 fun k2 => (zl (zx_up M (13, l, i, k1) k2 x2) fun M1 => (some M1)))) else (some M)))
set_option maxRecDepth 100000 in
set_option maxHeartbeats 4000000 in
theorem r_X9_note {X : zx_X} {d n : Nat} {M : zx_Y} {l : Nat} {i : Nat} {x0 : Int32} {x1 : Int32} {x2 : Int32} {rM : zx_Y} (h : g_X9_note M l i x0 x1 x2 = some rM) : zx_run X (d + 1) 91 [.inr (some (7, l, i, 0)), .inl x0, .inl x1, .inl x2] (zx_lay M, n) (none, (zx_lay rM, n)) := by
  refine zx_run_of zc_X9_note [some (.inr (some (7, l, i, 0))), some (.inl x0), some (.inl x1), some (.inl x2)] rfl rfl ?_
  unfold g_X9_note at h
  refine zx_E.go 1 (s' := (1, [some (.inr (some (7, l, i, 0))), some (.inl x0), some (.inl x1), some (.inl x2)], [.inl x1], (zx_lay M, n))) rfl ?_
  refine zx_E.brh (c := x1 < 0) (s1 := (10, [some (.inr (some (7, l, i, 0))), some (.inl x0), some (.inl x1), some (.inl x2)], [], (zx_lay M, n))) (s2 := (4, [some (.inr (some (7, l, i, 0))), some (.inl x0), some (.inl x1), some (.inl x2)], [], (zx_lay M, n))) h (zx_if_lt rfl) (fun _ h => ?_) (fun _ h => ?_)
  · exact zx_E.r0 h rfl
  · refine zx_E.go 2 (s' := (7, [some (.inr (some (7, l, i, 0))), some (.inl x0), some (.inl x1), some (.inl x2)], [.inl 8, .inl x1], (zx_lay M, n))) rfl ?_
    refine zx_E.brh (c := x1 < 8) (s1 := (11, [some (.inr (some (7, l, i, 0))), some (.inl x0), some (.inl x1), some (.inl x2)], [], (zx_lay M, n))) (s2 := (10, [some (.inr (some (7, l, i, 0))), some (.inl x0), some (.inl x1), some (.inl x2)], [], (zx_lay M, n))) h (zx_ic_lt rfl) (fun _ h => ?_) (fun _ h => ?_)
    · refine zx_E.go 3 (s' := (16, [some (.inr (some (7, l, i, 0))), some (.inl x0), some (.inl x1), some (.inl x2)], [.inl x0, .inr (some (12, l, i, 0))], (zx_lay M, n))) rfl ?_
      refine zx_E.ix h (fun k1 hx_k1 hl_k1 h => ?_)
      refine zx_E.aald (k := k1) (h := (12, l, i, 0)) (h' := (13, l, i, k1)) rfl rfl hx_k1 hl_k1 rfl ?_
      show zx_E _ _ _ (17, [some (.inr (some (7, l, i, 0))), some (.inl x0), some (.inl x1), some (.inl x2)], [.inr (some (13, l, i, k1))], (zx_lay M, n)) _
      refine zx_E.go 2 (s' := (19, [some (.inr (some (7, l, i, 0))), some (.inl x0), some (.inl x1), some (.inl x2)], [.inl x2, .inl x1, .inr (some (13, l, i, k1))], (zx_lay M, n))) rfl ?_
      refine zx_E.ix h (fun k2 hx_k2 hl_k2 h => ?_)
      refine zx_E.ia h rfl rfl hx_k2 hl_k2 (fun M1 h => ?_)
      show zx_E _ _ _ (20, [some (.inr (some (7, l, i, 0))), some (.inl x0), some (.inl x1), some (.inl x2)], [], (zx_lay M1, n)) _
      exact zx_E.r0 h rfl
    · exact zx_E.r0 h rfl
def g_X2_bringInto (M : zx_Y) (l : Nat) (i : Nat) (x0 : Int32) : Option zx_Y := (zb (g_X2_hasStation M l x0) fun v1 => (if v1 = 0 then (some M) else (zi x0 8 fun k1 => (zl (zx_up M (3, l, k1, 0) 2 ((M (3, l, k1, 0) 2) + 1)) fun M1 => (zm (g_X9_note M1 l i 0 x0 (M1 (1, l, 0, 0) 0)) fun M2 => (if x0 = (M2 (7, l, i, 0) 3) then (zm (g_X9_changeTo M2 l i 4 (M2 (1, l, 0, 0) 0)) fun M3 => (some M3)) else (zl (zx_up M2 (7, l, i, 0) 1 1) fun M4 => (zl (zx_up M4 (7, l, i, 0) 11 (M4 (1, l, 0, 0) 0)) fun M5 => (zl (zx_up M5 (7, l, i, 0) 9 x0) fun M6 => (zl (zx_up M6 (7, l, i, 0) 12 (-5)) fun M7 => (zl (zx_up M7 (7, l, i, 0) 13 (M7 (1, l, 0, 0) 0)) fun M8 => (some M8))))))))))))
set_option maxRecDepth 100000 in
set_option maxHeartbeats 4000000 in
theorem r_X2_bringInto {X : zx_X} {d n : Nat} {M : zx_Y} {l : Nat} {i : Nat} {x0 : Int32} {rM : zx_Y} (h : g_X2_bringInto M l i x0 = some rM) : zx_run X (d + 2) 24 [.inr (some (1, l, 0, 0)), .inr (some (7, l, i, 0)), .inl x0] (zx_lay M, n) (none, (zx_lay rM, n)) := by
  refine zx_run_of zc_X2_bringInto [some (.inr (some (1, l, 0, 0))), some (.inr (some (7, l, i, 0))), some (.inl x0)] rfl rfl ?_
  unfold g_X2_bringInto at h
  refine zx_E.go 2 (s' := (2, [some (.inr (some (1, l, 0, 0))), some (.inr (some (7, l, i, 0))), some (.inl x0)], [.inl x0, .inr (some (1, l, 0, 0))], (zx_lay M, n))) rfl ?_
  refine zx_E.cb (y := 16) (as := [.inr (some (1, l, 0, 0)), .inl x0]) (rest := []) h rfl (fun _ hv => zx_run_up (by omega) (r_X2_hasStation (d := d) hv)) (fun v1 h => ?_)
  show zx_E _ _ _ (5, [some (.inr (some (1, l, 0, 0))), some (.inr (some (7, l, i, 0))), some (.inl x0)], [.inl v1], (zx_lay M, n)) _
  refine zx_E.brh (c := v1 = 0) (s1 := (8, [some (.inr (some (1, l, 0, 0))), some (.inr (some (7, l, i, 0))), some (.inl x0)], [], (zx_lay M, n))) (s2 := (9, [some (.inr (some (1, l, 0, 0))), some (.inr (some (7, l, i, 0))), some (.inl x0)], [], (zx_lay M, n))) h (zx_if_ne rfl) (fun _ h => ?_) (fun _ h => ?_)
  · exact zx_E.r0 h rfl
  · refine zx_E.go 3 (s' := (14, [some (.inr (some (1, l, 0, 0))), some (.inr (some (7, l, i, 0))), some (.inl x0)], [.inl x0, .inr (some (2, l, 0, 0))], (zx_lay M, n))) rfl ?_
    refine zx_E.ix h (fun k1 hx_k1 hl_k1 h => ?_)
    refine zx_E.aald (k := k1) (h := (2, l, 0, 0)) (h' := (3, l, k1, 0)) rfl rfl hx_k1 hl_k1 rfl ?_
    show zx_E _ _ _ (15, [some (.inr (some (1, l, 0, 0))), some (.inr (some (7, l, i, 0))), some (.inl x0)], [.inr (some (3, l, k1, 0))], (zx_lay M, n)) _
    refine zx_E.go 3 (s' := (20, [some (.inr (some (1, l, 0, 0))), some (.inr (some (7, l, i, 0))), some (.inl x0)], [.inl 1, .inl (M (3, l, k1, 0) 2), .inr (some (3, l, k1, 0))], (zx_lay M, n))) rfl ?_
    refine zx_E.go 1 (s' := (21, [some (.inr (some (1, l, 0, 0))), some (.inr (some (7, l, i, 0))), some (.inl x0)], [.inl ((M (3, l, k1, 0) 2) + 1), .inr (some (3, l, k1, 0))], (zx_lay M, n))) rfl ?_
    refine zx_E.pu h rfl rfl (fun h => absurd h (by decide)) (fun M1 h => ?_)
    show zx_E _ _ _ (24, [some (.inr (some (1, l, 0, 0))), some (.inr (some (7, l, i, 0))), some (.inl x0)], [], (zx_lay M1, n)) _
    refine zx_E.go 5 (s' := (31, [some (.inr (some (1, l, 0, 0))), some (.inr (some (7, l, i, 0))), some (.inl x0)], [.inl (M1 (1, l, 0, 0) 0), .inl x0, .inl 0, .inr (some (7, l, i, 0))], (zx_lay M1, n))) rfl ?_
    refine zx_E.cm (y := 91) (as := [.inr (some (7, l, i, 0)), .inl 0, .inl x0, .inl (M1 (1, l, 0, 0) 0)]) (rest := []) h rfl (fun _ hv => zx_run_up (by omega) (r_X9_note (d := d) hv)) (fun M2 h => ?_)
    show zx_E _ _ _ (34, [some (.inr (some (1, l, 0, 0))), some (.inr (some (7, l, i, 0))), some (.inl x0)], [], (zx_lay M2, n)) _
    refine zx_E.go 3 (s' := (39, [some (.inr (some (1, l, 0, 0))), some (.inr (some (7, l, i, 0))), some (.inl x0)], [.inl (M2 (7, l, i, 0) 3), .inl x0], (zx_lay M2, n))) rfl ?_
    refine zx_E.brh (c := x0 = (M2 (7, l, i, 0) 3)) (s1 := (42, [some (.inr (some (1, l, 0, 0))), some (.inr (some (7, l, i, 0))), some (.inl x0)], [], (zx_lay M2, n))) (s2 := (52, [some (.inr (some (1, l, 0, 0))), some (.inr (some (7, l, i, 0))), some (.inl x0)], [], (zx_lay M2, n))) h (zx_ic_ne rfl) (fun _ h => ?_) (fun _ h => ?_)
    · refine zx_E.go 4 (s' := (48, [some (.inr (some (1, l, 0, 0))), some (.inr (some (7, l, i, 0))), some (.inl x0)], [.inl (M2 (1, l, 0, 0) 0), .inl 4, .inr (some (7, l, i, 0))], (zx_lay M2, n))) rfl ?_
      refine zx_E.cm (y := 81) (as := [.inr (some (7, l, i, 0)), .inl 4, .inl (M2 (1, l, 0, 0) 0)]) (rest := []) h rfl (fun _ hv => zx_run_up (by omega) (r_X9_changeTo (d := d) hv)) (fun M3 h => ?_)
      show zx_E _ _ _ (51, [some (.inr (some (1, l, 0, 0))), some (.inr (some (7, l, i, 0))), some (.inl x0)], [], (zx_lay M3, n)) _
      exact zx_E.r0 h rfl
    · refine zx_E.go 2 (s' := (54, [some (.inr (some (1, l, 0, 0))), some (.inr (some (7, l, i, 0))), some (.inl x0)], [.inl 1, .inr (some (7, l, i, 0))], (zx_lay M2, n))) rfl ?_
      refine zx_E.pu h rfl rfl (fun h => absurd h (by decide)) (fun M4 h => ?_)
      show zx_E _ _ _ (57, [some (.inr (some (1, l, 0, 0))), some (.inr (some (7, l, i, 0))), some (.inl x0)], [], (zx_lay M4, n)) _
      refine zx_E.go 3 (s' := (62, [some (.inr (some (1, l, 0, 0))), some (.inr (some (7, l, i, 0))), some (.inl x0)], [.inl (M4 (1, l, 0, 0) 0), .inr (some (7, l, i, 0))], (zx_lay M4, n))) rfl ?_
      refine zx_E.pu h rfl rfl (fun h => absurd h (by decide)) (fun M5 h => ?_)
      show zx_E _ _ _ (65, [some (.inr (some (1, l, 0, 0))), some (.inr (some (7, l, i, 0))), some (.inl x0)], [], (zx_lay M5, n)) _
      refine zx_E.go 2 (s' := (67, [some (.inr (some (1, l, 0, 0))), some (.inr (some (7, l, i, 0))), some (.inl x0)], [.inl x0, .inr (some (7, l, i, 0))], (zx_lay M5, n))) rfl ?_
      refine zx_E.pu h rfl rfl (fun h => absurd h (by decide)) (fun M6 h => ?_)
      show zx_E _ _ _ (70, [some (.inr (some (1, l, 0, 0))), some (.inr (some (7, l, i, 0))), some (.inl x0)], [], (zx_lay M6, n)) _
      refine zx_E.go 2 (s' := (73, [some (.inr (some (1, l, 0, 0))), some (.inr (some (7, l, i, 0))), some (.inl x0)], [.inl (-5), .inr (some (7, l, i, 0))], (zx_lay M6, n))) rfl ?_
      refine zx_E.pu h rfl rfl (fun h => absurd h (by decide)) (fun M7 h => ?_)
      show zx_E _ _ _ (76, [some (.inr (some (1, l, 0, 0))), some (.inr (some (7, l, i, 0))), some (.inl x0)], [], (zx_lay M7, n)) _
      refine zx_E.go 3 (s' := (81, [some (.inr (some (1, l, 0, 0))), some (.inr (some (7, l, i, 0))), some (.inl x0)], [.inl (M7 (1, l, 0, 0) 0), .inr (some (7, l, i, 0))], (zx_lay M7, n))) rfl ?_
      refine zx_E.pu h rfl rfl (fun h => absurd h (by decide)) (fun M8 h => ?_)
      show zx_E _ _ _ (84, [some (.inr (some (1, l, 0, 0))), some (.inr (some (7, l, i, 0))), some (.inl x0)], [], (zx_lay M8, n)) _
      exact zx_E.r0 h rfl
def lg_X2_endRuns_2 (l : Nat) (kk : Int32 → zx_Y → Option zx_Y) : Nat → Int32 → zx_Y → Option zx_Y
  | 0, _, _ => none
  | q + 1, w1, M => (if (M (1, l, 0, 0) 4) ≤ w1 then (kk w1 M) else (zi w1 10 fun k1 => (if (M (7, l, k1, 0) 1) = 2 then (if (M (1, l, 0, 0) 0) < (M (7, l, k1, 0) 12) then (lg_X2_endRuns_2 l kk q (w1 + 1) M) else (zm (g_X2_bringInto M l k1 (M (7, l, k1, 0) 10)) fun M1 => (lg_X2_endRuns_2 l kk q (w1 + 1) M1))) else (lg_X2_endRuns_2 l kk q (w1 + 1) M))))
set_option maxRecDepth 100000 in
set_option maxHeartbeats 4000000 in
theorem rl_X2_endRuns_2 {X : zx_X} {d n : Nat} {l : Nat} {kk : Int32 → zx_Y → Option zx_Y} {rM : zx_Y} (hk : ∀ (w1 : Int32) (M : zx_Y) (e2 : Option zx_V), kk w1 M = some rM → zx_E X (d + 2) zc_X2_endRuns (51, [some (.inr (some (1, l, 0, 0))), some (.inl w1), e2], [], (zx_lay M, n)) (none, (zx_lay rM, n))) : ∀ (q : Nat) (g2 : Option zx_V) (w1 : Int32) (M : zx_Y), lg_X2_endRuns_2 l kk q w1 M = some rM → zx_E X (d + 2) zc_X2_endRuns (2, [some (.inr (some (1, l, 0, 0))), some (.inl w1), g2], [], (zx_lay M, n)) (none, (zx_lay rM, n))
  | 0, g2, w1, M, h => by
    rw [lg_X2_endRuns_2.eq_1] at h
    cases h
  | q + 1, g2, w1, M, h => by
    rw [lg_X2_endRuns_2.eq_2] at h
    refine zx_E.go 3 (s' := (7, [some (.inr (some (1, l, 0, 0))), some (.inl w1), g2], [.inl (M (1, l, 0, 0) 4), .inl w1], (zx_lay M, n))) rfl ?_
    refine zx_E.brh (c := (M (1, l, 0, 0) 4) ≤ w1) (s1 := (51, [some (.inr (some (1, l, 0, 0))), some (.inl w1), g2], [], (zx_lay M, n))) (s2 := (10, [some (.inr (some (1, l, 0, 0))), some (.inl w1), g2], [], (zx_lay M, n))) h (zx_ic_ge rfl) (fun _ h => ?_) (fun _ h => ?_)
    · exact hk _ _ _ h
    · refine zx_E.go 3 (s' := (15, [some (.inr (some (1, l, 0, 0))), some (.inl w1), g2], [.inl w1, .inr (some (6, l, 0, 0))], (zx_lay M, n))) rfl ?_
      refine zx_E.ix h (fun k1 hx_k1 hl_k1 h => ?_)
      refine zx_E.aald (k := k1) (h := (6, l, 0, 0)) (h' := (7, l, k1, 0)) rfl rfl hx_k1 hl_k1 rfl ?_
      show zx_E _ _ _ (16, [some (.inr (some (1, l, 0, 0))), some (.inl w1), g2], [.inr (some (7, l, k1, 0))], (zx_lay M, n)) _
      refine zx_E.go 4 (s' := (22, [some (.inr (some (1, l, 0, 0))), some (.inl w1), some (.inr (some (7, l, k1, 0)))], [.inl 2, .inl (M (7, l, k1, 0) 1)], (zx_lay M, n))) rfl ?_
      refine zx_E.brh (c := (M (7, l, k1, 0) 1) = 2) (s1 := (25, [some (.inr (some (1, l, 0, 0))), some (.inl w1), some (.inr (some (7, l, k1, 0)))], [], (zx_lay M, n))) (s2 := (45, [some (.inr (some (1, l, 0, 0))), some (.inl w1), some (.inr (some (7, l, k1, 0)))], [], (zx_lay M, n))) h (zx_ic_ne rfl) (fun _ h => ?_) (fun _ h => ?_)
      · refine zx_E.go 4 (s' := (33, [some (.inr (some (1, l, 0, 0))), some (.inl w1), some (.inr (some (7, l, k1, 0)))], [.inl (M (1, l, 0, 0) 0), .inl (M (7, l, k1, 0) 12)], (zx_lay M, n))) rfl ?_
        refine zx_E.brh (c := (M (1, l, 0, 0) 0) < (M (7, l, k1, 0) 12)) (s1 := (45, [some (.inr (some (1, l, 0, 0))), some (.inl w1), some (.inr (some (7, l, k1, 0)))], [], (zx_lay M, n))) (s2 := (36, [some (.inr (some (1, l, 0, 0))), some (.inl w1), some (.inr (some (7, l, k1, 0)))], [], (zx_lay M, n))) h (zx_ic_gt rfl) (fun _ h => ?_) (fun _ h => ?_)
        · refine zx_E.go 2 (s' := (2, [some (.inr (some (1, l, 0, 0))), some (.inl (w1 + 1)), some (.inr (some (7, l, k1, 0)))], [], (zx_lay M, n))) rfl ?_
          exact rl_X2_endRuns_2 hk q _ (w1 + 1) M h
        · refine zx_E.go 4 (s' := (42, [some (.inr (some (1, l, 0, 0))), some (.inl w1), some (.inr (some (7, l, k1, 0)))], [.inl (M (7, l, k1, 0) 10), .inr (some (7, l, k1, 0)), .inr (some (1, l, 0, 0))], (zx_lay M, n))) rfl ?_
          refine zx_E.cm (y := 24) (as := [.inr (some (1, l, 0, 0)), .inr (some (7, l, k1, 0)), .inl (M (7, l, k1, 0) 10)]) (rest := []) h rfl (fun _ hv => zx_run_up (by omega) (r_X2_bringInto (d := d) hv)) (fun M1 h => ?_)
          show zx_E _ _ _ (45, [some (.inr (some (1, l, 0, 0))), some (.inl w1), some (.inr (some (7, l, k1, 0)))], [], (zx_lay M1, n)) _
          refine zx_E.go 2 (s' := (2, [some (.inr (some (1, l, 0, 0))), some (.inl (w1 + 1)), some (.inr (some (7, l, k1, 0)))], [], (zx_lay M1, n))) rfl ?_
          exact rl_X2_endRuns_2 hk q _ (w1 + 1) M1 h
      · refine zx_E.go 2 (s' := (2, [some (.inr (some (1, l, 0, 0))), some (.inl (w1 + 1)), some (.inr (some (7, l, k1, 0)))], [], (zx_lay M, n))) rfl ?_
        exact rl_X2_endRuns_2 hk q _ (w1 + 1) M h
def g_X2_endRuns (M : zx_Y) (l : Nat) : Option zx_Y := (lg_X2_endRuns_2 l (fun v1 M1 => (some M1)) 1000 0 M)
set_option maxRecDepth 100000 in
set_option maxHeartbeats 4000000 in
theorem r_X2_endRuns {X : zx_X} {d n : Nat} {M : zx_Y} {l : Nat} {rM : zx_Y} (h : g_X2_endRuns M l = some rM) : zx_run X (d + 3) 22 [.inr (some (1, l, 0, 0))] (zx_lay M, n) (none, (zx_lay rM, n)) := by
  refine zx_run_of zc_X2_endRuns [some (.inr (some (1, l, 0, 0))), none, none] rfl rfl ?_
  unfold g_X2_endRuns at h
  refine zx_E.go 2 (s' := (2, [some (.inr (some (1, l, 0, 0))), some (.inl 0), none], [], (zx_lay M, n))) rfl ?_
  refine rl_X2_endRuns_2 (fun v1 M1 e1 h => ?_) 1000 _ 0 M h
  exact zx_E.r0 h rfl
def g_X2_hasFreeTrack (M : zx_Y) (l : Nat) (x0 : Int32) : Option Int32 := (zb (g_X2_hasStation M l x0) fun v1 => (if v1 = 0 then (some 0) else (zb (g_X2_takenTracks M l x0) fun v2 => (zi x0 8 fun k1 => (if (M (3, l, k1, 0) 0) ≤ v2 then (some 0) else (some 1))))))
set_option maxRecDepth 100000 in
set_option maxHeartbeats 4000000 in
theorem r_X2_hasFreeTrack {X : zx_X} {d n : Nat} {M : zx_Y} {l : Nat} {x0 : Int32} {rv : Int32} (h : g_X2_hasFreeTrack M l x0 = some rv) : zx_run X (d + 3) 38 [.inr (some (1, l, 0, 0)), .inl x0] (zx_lay M, n) (some (.inl rv), (zx_lay M, n)) := by
  refine zx_run_of zc_X2_hasFreeTrack [some (.inr (some (1, l, 0, 0))), some (.inl x0)] rfl rfl ?_
  unfold g_X2_hasFreeTrack at h
  refine zx_E.go 2 (s' := (2, [some (.inr (some (1, l, 0, 0))), some (.inl x0)], [.inl x0, .inr (some (1, l, 0, 0))], (zx_lay M, n))) rfl ?_
  refine zx_E.cb (y := 16) (as := [.inr (some (1, l, 0, 0)), .inl x0]) (rest := []) h rfl (fun _ hv => zx_run_up (by omega) (r_X2_hasStation (d := d) hv)) (fun v1 h => ?_)
  show zx_E _ _ _ (5, [some (.inr (some (1, l, 0, 0))), some (.inl x0)], [.inl v1], (zx_lay M, n)) _
  refine zx_E.brh (c := v1 = 0) (s1 := (29, [some (.inr (some (1, l, 0, 0))), some (.inl x0)], [], (zx_lay M, n))) (s2 := (8, [some (.inr (some (1, l, 0, 0))), some (.inl x0)], [], (zx_lay M, n))) h (zx_if_eq rfl) (fun _ h => ?_) (fun _ h => ?_)
  · refine zx_E.go 1 (s' := (30, [some (.inr (some (1, l, 0, 0))), some (.inl x0)], [.inl 0], (zx_lay M, n))) rfl ?_
    exact zx_E.rp h rfl (fun _ => Or.inl rfl)
  · refine zx_E.go 2 (s' := (10, [some (.inr (some (1, l, 0, 0))), some (.inl x0)], [.inl x0, .inr (some (1, l, 0, 0))], (zx_lay M, n))) rfl ?_
    refine zx_E.cb (y := 37) (as := [.inr (some (1, l, 0, 0)), .inl x0]) (rest := []) h rfl (fun _ hv => zx_run_up (by omega) (r_X2_takenTracks (d := d) hv)) (fun v2 h => ?_)
    show zx_E _ _ _ (13, [some (.inr (some (1, l, 0, 0))), some (.inl x0)], [.inl v2], (zx_lay M, n)) _
    refine zx_E.go 3 (s' := (18, [some (.inr (some (1, l, 0, 0))), some (.inl x0)], [.inl x0, .inr (some (2, l, 0, 0)), .inl v2], (zx_lay M, n))) rfl ?_
    refine zx_E.ix h (fun k1 hx_k1 hl_k1 h => ?_)
    refine zx_E.aald (k := k1) (h := (2, l, 0, 0)) (h' := (3, l, k1, 0)) rfl rfl hx_k1 hl_k1 rfl ?_
    show zx_E _ _ _ (19, [some (.inr (some (1, l, 0, 0))), some (.inl x0)], [.inr (some (3, l, k1, 0)), .inl v2], (zx_lay M, n)) _
    refine zx_E.go 1 (s' := (22, [some (.inr (some (1, l, 0, 0))), some (.inl x0)], [.inl (M (3, l, k1, 0) 0), .inl v2], (zx_lay M, n))) rfl ?_
    refine zx_E.brh (c := (M (3, l, k1, 0) 0) ≤ v2) (s1 := (29, [some (.inr (some (1, l, 0, 0))), some (.inl x0)], [], (zx_lay M, n))) (s2 := (25, [some (.inr (some (1, l, 0, 0))), some (.inl x0)], [], (zx_lay M, n))) h (zx_ic_ge rfl) (fun _ h => ?_) (fun _ h => ?_)
    · refine zx_E.go 1 (s' := (30, [some (.inr (some (1, l, 0, 0))), some (.inl x0)], [.inl 0], (zx_lay M, n))) rfl ?_
      exact zx_E.rp h rfl (fun _ => Or.inl rfl)
    · refine zx_E.go 2 (s' := (30, [some (.inr (some (1, l, 0, 0))), some (.inl x0)], [.inl 1], (zx_lay M, n))) rfl ?_
      exact zx_E.rp h rfl (fun _ => Or.inr rfl)
def lg_X2_admitTrains_2 (l : Nat) (kk : Int32 → zx_Y → Option zx_Y) : Nat → Int32 → zx_Y → Option zx_Y
  | 0, _, _ => none
  | q + 1, w1, M => (if (M (1, l, 0, 0) 4) ≤ w1 then (kk w1 M) else (zi w1 10 fun k1 => (if (M (7, l, k1, 0) 1) = 0 then (if (M (1, l, 0, 0) 0) < (M (7, l, k1, 0) 5) then (lg_X2_admitTrains_2 l kk q (w1 + 1) M) else (zb (g_X2_hasFreeTrack M l (M (7, l, k1, 0) 2)) fun v1 => (if v1 = 0 then (lg_X2_admitTrains_2 l kk q (w1 + 1) M) else (zl (zx_up M (7, l, k1, 0) 14 (M (1, l, 0, 0) 0)) fun M1 => (zm (g_X2_bringInto M1 l k1 (M1 (7, l, k1, 0) 2)) fun M2 => (lg_X2_admitTrains_2 l kk q (w1 + 1) M2)))))) else (lg_X2_admitTrains_2 l kk q (w1 + 1) M))))
set_option maxRecDepth 100000 in
set_option maxHeartbeats 4000000 in
theorem rl_X2_admitTrains_2 {X : zx_X} {d n : Nat} {l : Nat} {kk : Int32 → zx_Y → Option zx_Y} {rM : zx_Y} (hk : ∀ (w1 : Int32) (M : zx_Y) (e2 : Option zx_V), kk w1 M = some rM → zx_E X (d + 3) zc_X2_admitTrains (69, [some (.inr (some (1, l, 0, 0))), some (.inl w1), e2], [], (zx_lay M, n)) (none, (zx_lay rM, n))) : ∀ (q : Nat) (g2 : Option zx_V) (w1 : Int32) (M : zx_Y), lg_X2_admitTrains_2 l kk q w1 M = some rM → zx_E X (d + 3) zc_X2_admitTrains (2, [some (.inr (some (1, l, 0, 0))), some (.inl w1), g2], [], (zx_lay M, n)) (none, (zx_lay rM, n))
  | 0, g2, w1, M, h => by
    rw [lg_X2_admitTrains_2.eq_1] at h
    cases h
  | q + 1, g2, w1, M, h => by
    rw [lg_X2_admitTrains_2.eq_2] at h
    refine zx_E.go 3 (s' := (7, [some (.inr (some (1, l, 0, 0))), some (.inl w1), g2], [.inl (M (1, l, 0, 0) 4), .inl w1], (zx_lay M, n))) rfl ?_
    refine zx_E.brh (c := (M (1, l, 0, 0) 4) ≤ w1) (s1 := (69, [some (.inr (some (1, l, 0, 0))), some (.inl w1), g2], [], (zx_lay M, n))) (s2 := (10, [some (.inr (some (1, l, 0, 0))), some (.inl w1), g2], [], (zx_lay M, n))) h (zx_ic_ge rfl) (fun _ h => ?_) (fun _ h => ?_)
    · exact hk _ _ _ h
    · refine zx_E.go 3 (s' := (15, [some (.inr (some (1, l, 0, 0))), some (.inl w1), g2], [.inl w1, .inr (some (6, l, 0, 0))], (zx_lay M, n))) rfl ?_
      refine zx_E.ix h (fun k1 hx_k1 hl_k1 h => ?_)
      refine zx_E.aald (k := k1) (h := (6, l, 0, 0)) (h' := (7, l, k1, 0)) rfl rfl hx_k1 hl_k1 rfl ?_
      show zx_E _ _ _ (16, [some (.inr (some (1, l, 0, 0))), some (.inl w1), g2], [.inr (some (7, l, k1, 0))], (zx_lay M, n)) _
      refine zx_E.go 3 (s' := (21, [some (.inr (some (1, l, 0, 0))), some (.inl w1), some (.inr (some (7, l, k1, 0)))], [.inl (M (7, l, k1, 0) 1)], (zx_lay M, n))) rfl ?_
      refine zx_E.brh (c := (M (7, l, k1, 0) 1) = 0) (s1 := (24, [some (.inr (some (1, l, 0, 0))), some (.inl w1), some (.inr (some (7, l, k1, 0)))], [], (zx_lay M, n))) (s2 := (63, [some (.inr (some (1, l, 0, 0))), some (.inl w1), some (.inr (some (7, l, k1, 0)))], [], (zx_lay M, n))) h (zx_if_ne rfl) (fun _ h => ?_) (fun _ h => ?_)
      · refine zx_E.go 4 (s' := (32, [some (.inr (some (1, l, 0, 0))), some (.inl w1), some (.inr (some (7, l, k1, 0)))], [.inl (M (1, l, 0, 0) 0), .inl (M (7, l, k1, 0) 5)], (zx_lay M, n))) rfl ?_
        refine zx_E.brh (c := (M (1, l, 0, 0) 0) < (M (7, l, k1, 0) 5)) (s1 := (63, [some (.inr (some (1, l, 0, 0))), some (.inl w1), some (.inr (some (7, l, k1, 0)))], [], (zx_lay M, n))) (s2 := (35, [some (.inr (some (1, l, 0, 0))), some (.inl w1), some (.inr (some (7, l, k1, 0)))], [], (zx_lay M, n))) h (zx_ic_gt rfl) (fun _ h => ?_) (fun _ h => ?_)
        · refine zx_E.go 2 (s' := (2, [some (.inr (some (1, l, 0, 0))), some (.inl (w1 + 1)), some (.inr (some (7, l, k1, 0)))], [], (zx_lay M, n))) rfl ?_
          exact rl_X2_admitTrains_2 hk q _ (w1 + 1) M h
        · refine zx_E.go 3 (s' := (40, [some (.inr (some (1, l, 0, 0))), some (.inl w1), some (.inr (some (7, l, k1, 0)))], [.inl (M (7, l, k1, 0) 2), .inr (some (1, l, 0, 0))], (zx_lay M, n))) rfl ?_
          refine zx_E.cb (y := 38) (as := [.inr (some (1, l, 0, 0)), .inl (M (7, l, k1, 0) 2)]) (rest := []) h rfl (fun _ hv => zx_run_up (by omega) (r_X2_hasFreeTrack (d := d) hv)) (fun v1 h => ?_)
          show zx_E _ _ _ (43, [some (.inr (some (1, l, 0, 0))), some (.inl w1), some (.inr (some (7, l, k1, 0)))], [.inl v1], (zx_lay M, n)) _
          refine zx_E.brh (c := v1 = 0) (s1 := (63, [some (.inr (some (1, l, 0, 0))), some (.inl w1), some (.inr (some (7, l, k1, 0)))], [], (zx_lay M, n))) (s2 := (46, [some (.inr (some (1, l, 0, 0))), some (.inl w1), some (.inr (some (7, l, k1, 0)))], [], (zx_lay M, n))) h (zx_if_eq rfl) (fun _ h => ?_) (fun _ h => ?_)
          · refine zx_E.go 2 (s' := (2, [some (.inr (some (1, l, 0, 0))), some (.inl (w1 + 1)), some (.inr (some (7, l, k1, 0)))], [], (zx_lay M, n))) rfl ?_
            exact rl_X2_admitTrains_2 hk q _ (w1 + 1) M h
          · refine zx_E.go 3 (s' := (51, [some (.inr (some (1, l, 0, 0))), some (.inl w1), some (.inr (some (7, l, k1, 0)))], [.inl (M (1, l, 0, 0) 0), .inr (some (7, l, k1, 0))], (zx_lay M, n))) rfl ?_
            refine zx_E.pu h rfl rfl (fun h => absurd h (by decide)) (fun M1 h => ?_)
            show zx_E _ _ _ (54, [some (.inr (some (1, l, 0, 0))), some (.inl w1), some (.inr (some (7, l, k1, 0)))], [], (zx_lay M1, n)) _
            refine zx_E.go 4 (s' := (60, [some (.inr (some (1, l, 0, 0))), some (.inl w1), some (.inr (some (7, l, k1, 0)))], [.inl (M1 (7, l, k1, 0) 2), .inr (some (7, l, k1, 0)), .inr (some (1, l, 0, 0))], (zx_lay M1, n))) rfl ?_
            refine zx_E.cm (y := 24) (as := [.inr (some (1, l, 0, 0)), .inr (some (7, l, k1, 0)), .inl (M1 (7, l, k1, 0) 2)]) (rest := []) h rfl (fun _ hv => zx_run_up (by omega) (r_X2_bringInto (d := d) hv)) (fun M2 h => ?_)
            show zx_E _ _ _ (63, [some (.inr (some (1, l, 0, 0))), some (.inl w1), some (.inr (some (7, l, k1, 0)))], [], (zx_lay M2, n)) _
            refine zx_E.go 2 (s' := (2, [some (.inr (some (1, l, 0, 0))), some (.inl (w1 + 1)), some (.inr (some (7, l, k1, 0)))], [], (zx_lay M2, n))) rfl ?_
            exact rl_X2_admitTrains_2 hk q _ (w1 + 1) M2 h
      · refine zx_E.go 2 (s' := (2, [some (.inr (some (1, l, 0, 0))), some (.inl (w1 + 1)), some (.inr (some (7, l, k1, 0)))], [], (zx_lay M, n))) rfl ?_
        exact rl_X2_admitTrains_2 hk q _ (w1 + 1) M h
def g_X2_admitTrains (M : zx_Y) (l : Nat) : Option zx_Y := (lg_X2_admitTrains_2 l (fun v1 M1 => (some M1)) 1000 0 M)
set_option maxRecDepth 100000 in
set_option maxHeartbeats 4000000 in
theorem r_X2_admitTrains {X : zx_X} {d n : Nat} {M : zx_Y} {l : Nat} {rM : zx_Y} (h : g_X2_admitTrains M l = some rM) : zx_run X (d + 4) 23 [.inr (some (1, l, 0, 0))] (zx_lay M, n) (none, (zx_lay rM, n)) := by
  refine zx_run_of zc_X2_admitTrains [some (.inr (some (1, l, 0, 0))), none, none] rfl rfl ?_
  unfold g_X2_admitTrains at h
  refine zx_E.go 2 (s' := (2, [some (.inr (some (1, l, 0, 0))), some (.inl 0), none], [], (zx_lay M, n))) rfl ?_
  refine rl_X2_admitTrains_2 (fun v1 M1 e1 h => ?_) 1000 _ 0 M h
  exact zx_E.r0 h rfl
def lg_X2_endReliefs_2 (l : Nat) (kk : Int32 → zx_Y → Option zx_Y) : Nat → Int32 → zx_Y → Option zx_Y
  | 0, _, _ => none
  | q + 1, w1, M => (if (M (1, l, 0, 0) 4) ≤ w1 then (kk w1 M) else (zi w1 10 fun k1 => (if (M (7, l, k1, 0) 1) = 3 then (if (M (1, l, 0, 0) 0) < (M (7, l, k1, 0) 12) then (lg_X2_endReliefs_2 l kk q (w1 + 1) M) else (zl (zx_up M (7, l, k1, 0) 1 1) fun M1 => (zl (zx_up M1 (7, l, k1, 0) 11 (M1 (1, l, 0, 0) 0)) fun M2 => (zl (zx_up M2 (7, l, k1, 0) 12 (-5)) fun M3 => (zl (zx_up M3 (7, l, k1, 0) 14 (M3 (1, l, 0, 0) 0)) fun M4 => (lg_X2_endReliefs_2 l kk q (w1 + 1) M4)))))) else (lg_X2_endReliefs_2 l kk q (w1 + 1) M))))
set_option maxRecDepth 100000 in
set_option maxHeartbeats 4000000 in
theorem rl_X2_endReliefs_2 {X : zx_X} {d n : Nat} {l : Nat} {kk : Int32 → zx_Y → Option zx_Y} {rM : zx_Y} (hk : ∀ (w1 : Int32) (M : zx_Y) (e2 : Option zx_V), kk w1 M = some rM → zx_E X (d + 0) zc_X2_endReliefs (69, [some (.inr (some (1, l, 0, 0))), some (.inl w1), e2], [], (zx_lay M, n)) (none, (zx_lay rM, n))) : ∀ (q : Nat) (g2 : Option zx_V) (w1 : Int32) (M : zx_Y), lg_X2_endReliefs_2 l kk q w1 M = some rM → zx_E X (d + 0) zc_X2_endReliefs (2, [some (.inr (some (1, l, 0, 0))), some (.inl w1), g2], [], (zx_lay M, n)) (none, (zx_lay rM, n))
  | 0, g2, w1, M, h => by
    rw [lg_X2_endReliefs_2.eq_1] at h
    cases h
  | q + 1, g2, w1, M, h => by
    rw [lg_X2_endReliefs_2.eq_2] at h
    refine zx_E.go 3 (s' := (7, [some (.inr (some (1, l, 0, 0))), some (.inl w1), g2], [.inl (M (1, l, 0, 0) 4), .inl w1], (zx_lay M, n))) rfl ?_
    refine zx_E.brh (c := (M (1, l, 0, 0) 4) ≤ w1) (s1 := (69, [some (.inr (some (1, l, 0, 0))), some (.inl w1), g2], [], (zx_lay M, n))) (s2 := (10, [some (.inr (some (1, l, 0, 0))), some (.inl w1), g2], [], (zx_lay M, n))) h (zx_ic_ge rfl) (fun _ h => ?_) (fun _ h => ?_)
    · exact hk _ _ _ h
    · refine zx_E.go 3 (s' := (15, [some (.inr (some (1, l, 0, 0))), some (.inl w1), g2], [.inl w1, .inr (some (6, l, 0, 0))], (zx_lay M, n))) rfl ?_
      refine zx_E.ix h (fun k1 hx_k1 hl_k1 h => ?_)
      refine zx_E.aald (k := k1) (h := (6, l, 0, 0)) (h' := (7, l, k1, 0)) rfl rfl hx_k1 hl_k1 rfl ?_
      show zx_E _ _ _ (16, [some (.inr (some (1, l, 0, 0))), some (.inl w1), g2], [.inr (some (7, l, k1, 0))], (zx_lay M, n)) _
      refine zx_E.go 4 (s' := (22, [some (.inr (some (1, l, 0, 0))), some (.inl w1), some (.inr (some (7, l, k1, 0)))], [.inl 3, .inl (M (7, l, k1, 0) 1)], (zx_lay M, n))) rfl ?_
      refine zx_E.brh (c := (M (7, l, k1, 0) 1) = 3) (s1 := (25, [some (.inr (some (1, l, 0, 0))), some (.inl w1), some (.inr (some (7, l, k1, 0)))], [], (zx_lay M, n))) (s2 := (63, [some (.inr (some (1, l, 0, 0))), some (.inl w1), some (.inr (some (7, l, k1, 0)))], [], (zx_lay M, n))) h (zx_ic_ne rfl) (fun _ h => ?_) (fun _ h => ?_)
      · refine zx_E.go 4 (s' := (33, [some (.inr (some (1, l, 0, 0))), some (.inl w1), some (.inr (some (7, l, k1, 0)))], [.inl (M (1, l, 0, 0) 0), .inl (M (7, l, k1, 0) 12)], (zx_lay M, n))) rfl ?_
        refine zx_E.brh (c := (M (1, l, 0, 0) 0) < (M (7, l, k1, 0) 12)) (s1 := (63, [some (.inr (some (1, l, 0, 0))), some (.inl w1), some (.inr (some (7, l, k1, 0)))], [], (zx_lay M, n))) (s2 := (36, [some (.inr (some (1, l, 0, 0))), some (.inl w1), some (.inr (some (7, l, k1, 0)))], [], (zx_lay M, n))) h (zx_ic_gt rfl) (fun _ h => ?_) (fun _ h => ?_)
        · refine zx_E.go 2 (s' := (2, [some (.inr (some (1, l, 0, 0))), some (.inl (w1 + 1)), some (.inr (some (7, l, k1, 0)))], [], (zx_lay M, n))) rfl ?_
          exact rl_X2_endReliefs_2 hk q _ (w1 + 1) M h
        · refine zx_E.go 2 (s' := (38, [some (.inr (some (1, l, 0, 0))), some (.inl w1), some (.inr (some (7, l, k1, 0)))], [.inl 1, .inr (some (7, l, k1, 0))], (zx_lay M, n))) rfl ?_
          refine zx_E.pu h rfl rfl (fun h => absurd h (by decide)) (fun M1 h => ?_)
          show zx_E _ _ _ (41, [some (.inr (some (1, l, 0, 0))), some (.inl w1), some (.inr (some (7, l, k1, 0)))], [], (zx_lay M1, n)) _
          refine zx_E.go 3 (s' := (46, [some (.inr (some (1, l, 0, 0))), some (.inl w1), some (.inr (some (7, l, k1, 0)))], [.inl (M1 (1, l, 0, 0) 0), .inr (some (7, l, k1, 0))], (zx_lay M1, n))) rfl ?_
          refine zx_E.pu h rfl rfl (fun h => absurd h (by decide)) (fun M2 h => ?_)
          show zx_E _ _ _ (49, [some (.inr (some (1, l, 0, 0))), some (.inl w1), some (.inr (some (7, l, k1, 0)))], [], (zx_lay M2, n)) _
          refine zx_E.go 2 (s' := (52, [some (.inr (some (1, l, 0, 0))), some (.inl w1), some (.inr (some (7, l, k1, 0)))], [.inl (-5), .inr (some (7, l, k1, 0))], (zx_lay M2, n))) rfl ?_
          refine zx_E.pu h rfl rfl (fun h => absurd h (by decide)) (fun M3 h => ?_)
          show zx_E _ _ _ (55, [some (.inr (some (1, l, 0, 0))), some (.inl w1), some (.inr (some (7, l, k1, 0)))], [], (zx_lay M3, n)) _
          refine zx_E.go 3 (s' := (60, [some (.inr (some (1, l, 0, 0))), some (.inl w1), some (.inr (some (7, l, k1, 0)))], [.inl (M3 (1, l, 0, 0) 0), .inr (some (7, l, k1, 0))], (zx_lay M3, n))) rfl ?_
          refine zx_E.pu h rfl rfl (fun h => absurd h (by decide)) (fun M4 h => ?_)
          show zx_E _ _ _ (63, [some (.inr (some (1, l, 0, 0))), some (.inl w1), some (.inr (some (7, l, k1, 0)))], [], (zx_lay M4, n)) _
          refine zx_E.go 2 (s' := (2, [some (.inr (some (1, l, 0, 0))), some (.inl (w1 + 1)), some (.inr (some (7, l, k1, 0)))], [], (zx_lay M4, n))) rfl ?_
          exact rl_X2_endReliefs_2 hk q _ (w1 + 1) M4 h
      · refine zx_E.go 2 (s' := (2, [some (.inr (some (1, l, 0, 0))), some (.inl (w1 + 1)), some (.inr (some (7, l, k1, 0)))], [], (zx_lay M, n))) rfl ?_
        exact rl_X2_endReliefs_2 hk q _ (w1 + 1) M h
def g_X2_endReliefs (M : zx_Y) (l : Nat) : Option zx_Y := (lg_X2_endReliefs_2 l (fun v1 M1 => (some M1)) 1000 0 M)
set_option maxRecDepth 100000 in
set_option maxHeartbeats 4000000 in
theorem r_X2_endReliefs {X : zx_X} {d n : Nat} {M : zx_Y} {l : Nat} {rM : zx_Y} (h : g_X2_endReliefs M l = some rM) : zx_run X (d + 1) 25 [.inr (some (1, l, 0, 0))] (zx_lay M, n) (none, (zx_lay rM, n)) := by
  refine zx_run_of zc_X2_endReliefs [some (.inr (some (1, l, 0, 0))), none, none] rfl rfl ?_
  unfold g_X2_endReliefs at h
  refine zx_E.go 2 (s' := (2, [some (.inr (some (1, l, 0, 0))), some (.inl 0), none], [], (zx_lay M, n))) rfl ?_
  refine rl_X2_endReliefs_2 (fun v1 M1 e1 h => ?_) 1000 _ 0 M h
  exact zx_E.r0 h rfl
def g_X2_isAhead (M : zx_Y) (l : Nat) (i : Nat) (j : Nat) : Option Int32 := (if ((M (1, l, 0, 0) 0) - (M (7, l, i, 0) 13)) < (M (1, l, 0, 0) 1) then (if ((M (1, l, 0, 0) 0) - (M (7, l, j, 0) 13)) < (M (1, l, 0, 0) 1) then (if (M (7, l, i, 0) 4) = (M (7, l, j, 0) 4) then (if (M (7, l, i, 0) 13) = (M (7, l, j, 0) 13) then (if (M (7, l, j, 0) 0) ≤ (M (7, l, i, 0) 0) then (some 0) else (some 1)) else (if (M (7, l, j, 0) 13) ≤ (M (7, l, i, 0) 13) then (some 0) else (some 1))) else (if (M (7, l, i, 0) 4) ≤ (M (7, l, j, 0) 4) then (some 0) else (some 1))) else (some 0)) else (if ((M (1, l, 0, 0) 0) - (M (7, l, j, 0) 13)) < (M (1, l, 0, 0) 1) then (some 1) else (if (M (7, l, i, 0) 4) = (M (7, l, j, 0) 4) then (if (M (7, l, i, 0) 13) = (M (7, l, j, 0) 13) then (if (M (7, l, j, 0) 0) ≤ (M (7, l, i, 0) 0) then (some 0) else (some 1)) else (if (M (7, l, j, 0) 13) ≤ (M (7, l, i, 0) 13) then (some 0) else (some 1))) else (if (M (7, l, i, 0) 4) ≤ (M (7, l, j, 0) 4) then (some 0) else (some 1)))))
set_option maxRecDepth 100000 in
set_option maxHeartbeats 4000000 in
theorem r_X2_isAhead {X : zx_X} {d n : Nat} {M : zx_Y} {l : Nat} {i : Nat} {j : Nat} {rv : Int32} (h : g_X2_isAhead M l i j = some rv) : zx_run X (d + 1) 30 [.inr (some (1, l, 0, 0)), .inr (some (7, l, i, 0)), .inr (some (7, l, j, 0))] (zx_lay M, n) (some (.inl rv), (zx_lay M, n)) := by
  refine zx_run_of zc_X2_isAhead [some (.inr (some (1, l, 0, 0))), some (.inr (some (7, l, i, 0))), some (.inr (some (7, l, j, 0))), none, none] rfl rfl ?_
  unfold g_X2_isAhead at h
  refine zx_E.go 4 (s' := (8, [some (.inr (some (1, l, 0, 0))), some (.inr (some (7, l, i, 0))), some (.inr (some (7, l, j, 0))), none, none], [.inl (M (7, l, i, 0) 13), .inl (M (1, l, 0, 0) 0)], (zx_lay M, n))) rfl ?_
  refine zx_E.go 3 (s' := (13, [some (.inr (some (1, l, 0, 0))), some (.inr (some (7, l, i, 0))), some (.inr (some (7, l, j, 0))), none, none], [.inl (M (1, l, 0, 0) 1), .inl ((M (1, l, 0, 0) 0) - (M (7, l, i, 0) 13))], (zx_lay M, n))) rfl ?_
  refine zx_E.brh (c := ((M (1, l, 0, 0) 0) - (M (7, l, i, 0) 13)) < (M (1, l, 0, 0) 1)) (s1 := (20, [some (.inr (some (1, l, 0, 0))), some (.inr (some (7, l, i, 0))), some (.inr (some (7, l, j, 0))), none, none], [], (zx_lay M, n))) (s2 := (16, [some (.inr (some (1, l, 0, 0))), some (.inr (some (7, l, i, 0))), some (.inr (some (7, l, j, 0))), none, none], [], (zx_lay M, n))) h (zx_ic_lt rfl) (fun _ h => ?_) (fun _ h => ?_)
  · refine zx_E.go 6 (s' := (30, [some (.inr (some (1, l, 0, 0))), some (.inr (some (7, l, i, 0))), some (.inr (some (7, l, j, 0))), some (.inl 0), none], [.inl (M (7, l, j, 0) 13), .inl (M (1, l, 0, 0) 0)], (zx_lay M, n))) rfl ?_
    refine zx_E.go 3 (s' := (35, [some (.inr (some (1, l, 0, 0))), some (.inr (some (7, l, i, 0))), some (.inr (some (7, l, j, 0))), some (.inl 0), none], [.inl (M (1, l, 0, 0) 1), .inl ((M (1, l, 0, 0) 0) - (M (7, l, j, 0) 13))], (zx_lay M, n))) rfl ?_
    refine zx_E.brh (c := ((M (1, l, 0, 0) 0) - (M (7, l, j, 0) 13)) < (M (1, l, 0, 0) 1)) (s1 := (42, [some (.inr (some (1, l, 0, 0))), some (.inr (some (7, l, i, 0))), some (.inr (some (7, l, j, 0))), some (.inl 0), none], [], (zx_lay M, n))) (s2 := (38, [some (.inr (some (1, l, 0, 0))), some (.inr (some (7, l, i, 0))), some (.inr (some (7, l, j, 0))), some (.inl 0), none], [], (zx_lay M, n))) h (zx_ic_lt rfl) (fun _ h => ?_) (fun _ h => ?_)
    · refine zx_E.go 4 (s' := (48, [some (.inr (some (1, l, 0, 0))), some (.inr (some (7, l, i, 0))), some (.inr (some (7, l, j, 0))), some (.inl 0), some (.inl 0)], [.inl 0, .inl 0], (zx_lay M, n))) rfl ?_
      refine zx_E.bt (c := ((0 : Int32) = 0 : Prop)) (s1 := (53, [some (.inr (some (1, l, 0, 0))), some (.inr (some (7, l, i, 0))), some (.inr (some (7, l, j, 0))), some (.inl 0), some (.inl 0)], [], (zx_lay M, n))) (s2 := (51, [some (.inr (some (1, l, 0, 0))), some (.inr (some (7, l, i, 0))), some (.inr (some (7, l, j, 0))), some (.inl 0), some (.inl 0)], [], (zx_lay M, n))) (zx_ic_eq rfl) (by decide) ?_
      refine zx_E.go 4 (s' := (61, [some (.inr (some (1, l, 0, 0))), some (.inr (some (7, l, i, 0))), some (.inr (some (7, l, j, 0))), some (.inl 0), some (.inl 0)], [.inl (M (7, l, j, 0) 4), .inl (M (7, l, i, 0) 4)], (zx_lay M, n))) rfl ?_
      refine zx_E.brh (c := (M (7, l, i, 0) 4) = (M (7, l, j, 0) 4)) (s1 := (81, [some (.inr (some (1, l, 0, 0))), some (.inr (some (7, l, i, 0))), some (.inr (some (7, l, j, 0))), some (.inl 0), some (.inl 0)], [], (zx_lay M, n))) (s2 := (64, [some (.inr (some (1, l, 0, 0))), some (.inr (some (7, l, i, 0))), some (.inr (some (7, l, j, 0))), some (.inl 0), some (.inl 0)], [], (zx_lay M, n))) h (zx_ic_eq rfl) (fun _ h => ?_) (fun _ h => ?_)
      · refine zx_E.go 4 (s' := (89, [some (.inr (some (1, l, 0, 0))), some (.inr (some (7, l, i, 0))), some (.inr (some (7, l, j, 0))), some (.inl 0), some (.inl 0)], [.inl (M (7, l, j, 0) 13), .inl (M (7, l, i, 0) 13)], (zx_lay M, n))) rfl ?_
        refine zx_E.brh (c := (M (7, l, i, 0) 13) = (M (7, l, j, 0) 13)) (s1 := (109, [some (.inr (some (1, l, 0, 0))), some (.inr (some (7, l, i, 0))), some (.inr (some (7, l, j, 0))), some (.inl 0), some (.inl 0)], [], (zx_lay M, n))) (s2 := (92, [some (.inr (some (1, l, 0, 0))), some (.inr (some (7, l, i, 0))), some (.inr (some (7, l, j, 0))), some (.inl 0), some (.inl 0)], [], (zx_lay M, n))) h (zx_ic_eq rfl) (fun _ h => ?_) (fun _ h => ?_)
        · refine zx_E.go 4 (s' := (117, [some (.inr (some (1, l, 0, 0))), some (.inr (some (7, l, i, 0))), some (.inr (some (7, l, j, 0))), some (.inl 0), some (.inl 0)], [.inl (M (7, l, j, 0) 0), .inl (M (7, l, i, 0) 0)], (zx_lay M, n))) rfl ?_
          refine zx_E.brh (c := (M (7, l, j, 0) 0) ≤ (M (7, l, i, 0) 0)) (s1 := (124, [some (.inr (some (1, l, 0, 0))), some (.inr (some (7, l, i, 0))), some (.inr (some (7, l, j, 0))), some (.inl 0), some (.inl 0)], [], (zx_lay M, n))) (s2 := (120, [some (.inr (some (1, l, 0, 0))), some (.inr (some (7, l, i, 0))), some (.inr (some (7, l, j, 0))), some (.inl 0), some (.inl 0)], [], (zx_lay M, n))) h (zx_ic_ge rfl) (fun _ h => ?_) (fun _ h => ?_)
          · refine zx_E.go 1 (s' := (125, [some (.inr (some (1, l, 0, 0))), some (.inr (some (7, l, i, 0))), some (.inr (some (7, l, j, 0))), some (.inl 0), some (.inl 0)], [.inl 0], (zx_lay M, n))) rfl ?_
            exact zx_E.rp h rfl (fun _ => Or.inl rfl)
          · refine zx_E.go 2 (s' := (125, [some (.inr (some (1, l, 0, 0))), some (.inr (some (7, l, i, 0))), some (.inr (some (7, l, j, 0))), some (.inl 0), some (.inl 0)], [.inl 1], (zx_lay M, n))) rfl ?_
            exact zx_E.rp h rfl (fun _ => Or.inr rfl)
        · refine zx_E.go 4 (s' := (100, [some (.inr (some (1, l, 0, 0))), some (.inr (some (7, l, i, 0))), some (.inr (some (7, l, j, 0))), some (.inl 0), some (.inl 0)], [.inl (M (7, l, j, 0) 13), .inl (M (7, l, i, 0) 13)], (zx_lay M, n))) rfl ?_
          refine zx_E.brh (c := (M (7, l, j, 0) 13) ≤ (M (7, l, i, 0) 13)) (s1 := (107, [some (.inr (some (1, l, 0, 0))), some (.inr (some (7, l, i, 0))), some (.inr (some (7, l, j, 0))), some (.inl 0), some (.inl 0)], [], (zx_lay M, n))) (s2 := (103, [some (.inr (some (1, l, 0, 0))), some (.inr (some (7, l, i, 0))), some (.inr (some (7, l, j, 0))), some (.inl 0), some (.inl 0)], [], (zx_lay M, n))) h (zx_ic_ge rfl) (fun _ h => ?_) (fun _ h => ?_)
          · refine zx_E.go 1 (s' := (108, [some (.inr (some (1, l, 0, 0))), some (.inr (some (7, l, i, 0))), some (.inr (some (7, l, j, 0))), some (.inl 0), some (.inl 0)], [.inl 0], (zx_lay M, n))) rfl ?_
            exact zx_E.rp h rfl (fun _ => Or.inl rfl)
          · refine zx_E.go 2 (s' := (108, [some (.inr (some (1, l, 0, 0))), some (.inr (some (7, l, i, 0))), some (.inr (some (7, l, j, 0))), some (.inl 0), some (.inl 0)], [.inl 1], (zx_lay M, n))) rfl ?_
            exact zx_E.rp h rfl (fun _ => Or.inr rfl)
      · refine zx_E.go 4 (s' := (72, [some (.inr (some (1, l, 0, 0))), some (.inr (some (7, l, i, 0))), some (.inr (some (7, l, j, 0))), some (.inl 0), some (.inl 0)], [.inl (M (7, l, j, 0) 4), .inl (M (7, l, i, 0) 4)], (zx_lay M, n))) rfl ?_
        refine zx_E.brh (c := (M (7, l, i, 0) 4) ≤ (M (7, l, j, 0) 4)) (s1 := (79, [some (.inr (some (1, l, 0, 0))), some (.inr (some (7, l, i, 0))), some (.inr (some (7, l, j, 0))), some (.inl 0), some (.inl 0)], [], (zx_lay M, n))) (s2 := (75, [some (.inr (some (1, l, 0, 0))), some (.inr (some (7, l, i, 0))), some (.inr (some (7, l, j, 0))), some (.inl 0), some (.inl 0)], [], (zx_lay M, n))) h (zx_ic_le rfl) (fun _ h => ?_) (fun _ h => ?_)
        · refine zx_E.go 1 (s' := (80, [some (.inr (some (1, l, 0, 0))), some (.inr (some (7, l, i, 0))), some (.inr (some (7, l, j, 0))), some (.inl 0), some (.inl 0)], [.inl 0], (zx_lay M, n))) rfl ?_
          exact zx_E.rp h rfl (fun _ => Or.inl rfl)
        · refine zx_E.go 2 (s' := (80, [some (.inr (some (1, l, 0, 0))), some (.inr (some (7, l, i, 0))), some (.inr (some (7, l, j, 0))), some (.inl 0), some (.inl 0)], [.inl 1], (zx_lay M, n))) rfl ?_
          exact zx_E.rp h rfl (fun _ => Or.inr rfl)
    · refine zx_E.go 5 (s' := (48, [some (.inr (some (1, l, 0, 0))), some (.inr (some (7, l, i, 0))), some (.inr (some (7, l, j, 0))), some (.inl 0), some (.inl 1)], [.inl 1, .inl 0], (zx_lay M, n))) rfl ?_
      refine zx_E.bf (c := ((0 : Int32) = 1 : Prop)) (s1 := (53, [some (.inr (some (1, l, 0, 0))), some (.inr (some (7, l, i, 0))), some (.inr (some (7, l, j, 0))), some (.inl 0), some (.inl 1)], [], (zx_lay M, n))) (s2 := (51, [some (.inr (some (1, l, 0, 0))), some (.inr (some (7, l, i, 0))), some (.inr (some (7, l, j, 0))), some (.inl 0), some (.inl 1)], [], (zx_lay M, n))) (zx_ic_eq rfl) (by decide) ?_
      refine zx_E.go 1 (s' := (52, [some (.inr (some (1, l, 0, 0))), some (.inr (some (7, l, i, 0))), some (.inr (some (7, l, j, 0))), some (.inl 0), some (.inl 1)], [.inl 0], (zx_lay M, n))) rfl ?_
      exact zx_E.rp h rfl (fun _ => Or.inl rfl)
  · refine zx_E.go 7 (s' := (30, [some (.inr (some (1, l, 0, 0))), some (.inr (some (7, l, i, 0))), some (.inr (some (7, l, j, 0))), some (.inl 1), none], [.inl (M (7, l, j, 0) 13), .inl (M (1, l, 0, 0) 0)], (zx_lay M, n))) rfl ?_
    refine zx_E.go 3 (s' := (35, [some (.inr (some (1, l, 0, 0))), some (.inr (some (7, l, i, 0))), some (.inr (some (7, l, j, 0))), some (.inl 1), none], [.inl (M (1, l, 0, 0) 1), .inl ((M (1, l, 0, 0) 0) - (M (7, l, j, 0) 13))], (zx_lay M, n))) rfl ?_
    refine zx_E.brh (c := ((M (1, l, 0, 0) 0) - (M (7, l, j, 0) 13)) < (M (1, l, 0, 0) 1)) (s1 := (42, [some (.inr (some (1, l, 0, 0))), some (.inr (some (7, l, i, 0))), some (.inr (some (7, l, j, 0))), some (.inl 1), none], [], (zx_lay M, n))) (s2 := (38, [some (.inr (some (1, l, 0, 0))), some (.inr (some (7, l, i, 0))), some (.inr (some (7, l, j, 0))), some (.inl 1), none], [], (zx_lay M, n))) h (zx_ic_lt rfl) (fun _ h => ?_) (fun _ h => ?_)
    · refine zx_E.go 4 (s' := (48, [some (.inr (some (1, l, 0, 0))), some (.inr (some (7, l, i, 0))), some (.inr (some (7, l, j, 0))), some (.inl 1), some (.inl 0)], [.inl 0, .inl 1], (zx_lay M, n))) rfl ?_
      refine zx_E.bf (c := ((1 : Int32) = 0 : Prop)) (s1 := (53, [some (.inr (some (1, l, 0, 0))), some (.inr (some (7, l, i, 0))), some (.inr (some (7, l, j, 0))), some (.inl 1), some (.inl 0)], [], (zx_lay M, n))) (s2 := (51, [some (.inr (some (1, l, 0, 0))), some (.inr (some (7, l, i, 0))), some (.inr (some (7, l, j, 0))), some (.inl 1), some (.inl 0)], [], (zx_lay M, n))) (zx_ic_eq rfl) (by decide) ?_
      refine zx_E.go 1 (s' := (52, [some (.inr (some (1, l, 0, 0))), some (.inr (some (7, l, i, 0))), some (.inr (some (7, l, j, 0))), some (.inl 1), some (.inl 0)], [.inl 1], (zx_lay M, n))) rfl ?_
      exact zx_E.rp h rfl (fun _ => Or.inr rfl)
    · refine zx_E.go 5 (s' := (48, [some (.inr (some (1, l, 0, 0))), some (.inr (some (7, l, i, 0))), some (.inr (some (7, l, j, 0))), some (.inl 1), some (.inl 1)], [.inl 1, .inl 1], (zx_lay M, n))) rfl ?_
      refine zx_E.bt (c := ((1 : Int32) = 1 : Prop)) (s1 := (53, [some (.inr (some (1, l, 0, 0))), some (.inr (some (7, l, i, 0))), some (.inr (some (7, l, j, 0))), some (.inl 1), some (.inl 1)], [], (zx_lay M, n))) (s2 := (51, [some (.inr (some (1, l, 0, 0))), some (.inr (some (7, l, i, 0))), some (.inr (some (7, l, j, 0))), some (.inl 1), some (.inl 1)], [], (zx_lay M, n))) (zx_ic_eq rfl) (by decide) ?_
      refine zx_E.go 4 (s' := (61, [some (.inr (some (1, l, 0, 0))), some (.inr (some (7, l, i, 0))), some (.inr (some (7, l, j, 0))), some (.inl 1), some (.inl 1)], [.inl (M (7, l, j, 0) 4), .inl (M (7, l, i, 0) 4)], (zx_lay M, n))) rfl ?_
      refine zx_E.brh (c := (M (7, l, i, 0) 4) = (M (7, l, j, 0) 4)) (s1 := (81, [some (.inr (some (1, l, 0, 0))), some (.inr (some (7, l, i, 0))), some (.inr (some (7, l, j, 0))), some (.inl 1), some (.inl 1)], [], (zx_lay M, n))) (s2 := (64, [some (.inr (some (1, l, 0, 0))), some (.inr (some (7, l, i, 0))), some (.inr (some (7, l, j, 0))), some (.inl 1), some (.inl 1)], [], (zx_lay M, n))) h (zx_ic_eq rfl) (fun _ h => ?_) (fun _ h => ?_)
      · refine zx_E.go 4 (s' := (89, [some (.inr (some (1, l, 0, 0))), some (.inr (some (7, l, i, 0))), some (.inr (some (7, l, j, 0))), some (.inl 1), some (.inl 1)], [.inl (M (7, l, j, 0) 13), .inl (M (7, l, i, 0) 13)], (zx_lay M, n))) rfl ?_
        refine zx_E.brh (c := (M (7, l, i, 0) 13) = (M (7, l, j, 0) 13)) (s1 := (109, [some (.inr (some (1, l, 0, 0))), some (.inr (some (7, l, i, 0))), some (.inr (some (7, l, j, 0))), some (.inl 1), some (.inl 1)], [], (zx_lay M, n))) (s2 := (92, [some (.inr (some (1, l, 0, 0))), some (.inr (some (7, l, i, 0))), some (.inr (some (7, l, j, 0))), some (.inl 1), some (.inl 1)], [], (zx_lay M, n))) h (zx_ic_eq rfl) (fun _ h => ?_) (fun _ h => ?_)
        · refine zx_E.go 4 (s' := (117, [some (.inr (some (1, l, 0, 0))), some (.inr (some (7, l, i, 0))), some (.inr (some (7, l, j, 0))), some (.inl 1), some (.inl 1)], [.inl (M (7, l, j, 0) 0), .inl (M (7, l, i, 0) 0)], (zx_lay M, n))) rfl ?_
          refine zx_E.brh (c := (M (7, l, j, 0) 0) ≤ (M (7, l, i, 0) 0)) (s1 := (124, [some (.inr (some (1, l, 0, 0))), some (.inr (some (7, l, i, 0))), some (.inr (some (7, l, j, 0))), some (.inl 1), some (.inl 1)], [], (zx_lay M, n))) (s2 := (120, [some (.inr (some (1, l, 0, 0))), some (.inr (some (7, l, i, 0))), some (.inr (some (7, l, j, 0))), some (.inl 1), some (.inl 1)], [], (zx_lay M, n))) h (zx_ic_ge rfl) (fun _ h => ?_) (fun _ h => ?_)
          · refine zx_E.go 1 (s' := (125, [some (.inr (some (1, l, 0, 0))), some (.inr (some (7, l, i, 0))), some (.inr (some (7, l, j, 0))), some (.inl 1), some (.inl 1)], [.inl 0], (zx_lay M, n))) rfl ?_
            exact zx_E.rp h rfl (fun _ => Or.inl rfl)
          · refine zx_E.go 2 (s' := (125, [some (.inr (some (1, l, 0, 0))), some (.inr (some (7, l, i, 0))), some (.inr (some (7, l, j, 0))), some (.inl 1), some (.inl 1)], [.inl 1], (zx_lay M, n))) rfl ?_
            exact zx_E.rp h rfl (fun _ => Or.inr rfl)
        · refine zx_E.go 4 (s' := (100, [some (.inr (some (1, l, 0, 0))), some (.inr (some (7, l, i, 0))), some (.inr (some (7, l, j, 0))), some (.inl 1), some (.inl 1)], [.inl (M (7, l, j, 0) 13), .inl (M (7, l, i, 0) 13)], (zx_lay M, n))) rfl ?_
          refine zx_E.brh (c := (M (7, l, j, 0) 13) ≤ (M (7, l, i, 0) 13)) (s1 := (107, [some (.inr (some (1, l, 0, 0))), some (.inr (some (7, l, i, 0))), some (.inr (some (7, l, j, 0))), some (.inl 1), some (.inl 1)], [], (zx_lay M, n))) (s2 := (103, [some (.inr (some (1, l, 0, 0))), some (.inr (some (7, l, i, 0))), some (.inr (some (7, l, j, 0))), some (.inl 1), some (.inl 1)], [], (zx_lay M, n))) h (zx_ic_ge rfl) (fun _ h => ?_) (fun _ h => ?_)
          · refine zx_E.go 1 (s' := (108, [some (.inr (some (1, l, 0, 0))), some (.inr (some (7, l, i, 0))), some (.inr (some (7, l, j, 0))), some (.inl 1), some (.inl 1)], [.inl 0], (zx_lay M, n))) rfl ?_
            exact zx_E.rp h rfl (fun _ => Or.inl rfl)
          · refine zx_E.go 2 (s' := (108, [some (.inr (some (1, l, 0, 0))), some (.inr (some (7, l, i, 0))), some (.inr (some (7, l, j, 0))), some (.inl 1), some (.inl 1)], [.inl 1], (zx_lay M, n))) rfl ?_
            exact zx_E.rp h rfl (fun _ => Or.inr rfl)
      · refine zx_E.go 4 (s' := (72, [some (.inr (some (1, l, 0, 0))), some (.inr (some (7, l, i, 0))), some (.inr (some (7, l, j, 0))), some (.inl 1), some (.inl 1)], [.inl (M (7, l, j, 0) 4), .inl (M (7, l, i, 0) 4)], (zx_lay M, n))) rfl ?_
        refine zx_E.brh (c := (M (7, l, i, 0) 4) ≤ (M (7, l, j, 0) 4)) (s1 := (79, [some (.inr (some (1, l, 0, 0))), some (.inr (some (7, l, i, 0))), some (.inr (some (7, l, j, 0))), some (.inl 1), some (.inl 1)], [], (zx_lay M, n))) (s2 := (75, [some (.inr (some (1, l, 0, 0))), some (.inr (some (7, l, i, 0))), some (.inr (some (7, l, j, 0))), some (.inl 1), some (.inl 1)], [], (zx_lay M, n))) h (zx_ic_le rfl) (fun _ h => ?_) (fun _ h => ?_)
        · refine zx_E.go 1 (s' := (80, [some (.inr (some (1, l, 0, 0))), some (.inr (some (7, l, i, 0))), some (.inr (some (7, l, j, 0))), some (.inl 1), some (.inl 1)], [.inl 0], (zx_lay M, n))) rfl ?_
          exact zx_E.rp h rfl (fun _ => Or.inl rfl)
        · refine zx_E.go 2 (s' := (80, [some (.inr (some (1, l, 0, 0))), some (.inr (some (7, l, i, 0))), some (.inr (some (7, l, j, 0))), some (.inl 1), some (.inl 1)], [.inl 1], (zx_lay M, n))) rfl ?_
          exact zx_E.rp h rfl (fun _ => Or.inr rfl)
def lg_X2_rank_36 (l : Nat) (p1 : Int32) (kk : Int32 → zx_Y → Option zx_Y) : Nat → Int32 → zx_Y → Option zx_Y
  | 0, _, _ => none
  | q + 1, w2, M => (if w2 ≤ 0 then (kk w2 M) else (zi p1 10 fun k1 => (zi (w2 - 1) 10 fun k2 => (zi (M (10, l, 0, 0) k2) 10 fun k3 => (zb (g_X2_isAhead M l k1 k3) fun v1 => (if v1 = 0 then (kk w2 M) else (zi (w2 - 1) 10 fun k4 => (zi w2 10 fun k5 => (zl (zx_up M (10, l, 0, 0) k5 (M (10, l, 0, 0) k4)) fun M1 => (lg_X2_rank_36 l p1 kk q (w2 + (-1)) M1))))))))))
set_option maxRecDepth 100000 in
set_option maxHeartbeats 4000000 in
theorem rl_X2_rank_36 {X : zx_X} {d n : Nat} {l : Nat} {p1 : Int32} {kk : Int32 → zx_Y → Option zx_Y} {rM : zx_Y} (hk : ∀ (w2 : Int32) (M : zx_Y), kk w2 M = some rM → zx_E X (d + 1) zc_X2_rank (86, [some (.inr (some (1, l, 0, 0))), some (.inl p1), some (.inl w2)], [], (zx_lay M, n)) (none, (zx_lay rM, n))) : ∀ (q : Nat) (w2 : Int32) (M : zx_Y), lg_X2_rank_36 l p1 kk q w2 M = some rM → zx_E X (d + 1) zc_X2_rank (36, [some (.inr (some (1, l, 0, 0))), some (.inl p1), some (.inl w2)], [], (zx_lay M, n)) (none, (zx_lay rM, n))
  | 0, w2, M, h => by
    rw [lg_X2_rank_36.eq_1] at h
    cases h
  | q + 1, w2, M, h => by
    rw [lg_X2_rank_36.eq_2] at h
    refine zx_E.go 1 (s' := (37, [some (.inr (some (1, l, 0, 0))), some (.inl p1), some (.inl w2)], [.inl w2], (zx_lay M, n))) rfl ?_
    refine zx_E.brh (c := w2 ≤ 0) (s1 := (86, [some (.inr (some (1, l, 0, 0))), some (.inl p1), some (.inl w2)], [], (zx_lay M, n))) (s2 := (40, [some (.inr (some (1, l, 0, 0))), some (.inl p1), some (.inl w2)], [], (zx_lay M, n))) h (zx_if_le rfl) (fun _ h => ?_) (fun _ h => ?_)
    · exact hk _ _ h
    · refine zx_E.go 4 (s' := (46, [some (.inr (some (1, l, 0, 0))), some (.inl p1), some (.inl w2)], [.inl p1, .inr (some (6, l, 0, 0)), .inr (some (1, l, 0, 0))], (zx_lay M, n))) rfl ?_
      refine zx_E.ix h (fun k1 hx_k1 hl_k1 h => ?_)
      refine zx_E.aald (k := k1) (h := (6, l, 0, 0)) (h' := (7, l, k1, 0)) rfl rfl hx_k1 hl_k1 rfl ?_
      show zx_E _ _ _ (47, [some (.inr (some (1, l, 0, 0))), some (.inl p1), some (.inl w2)], [.inr (some (7, l, k1, 0)), .inr (some (1, l, 0, 0))], (zx_lay M, n)) _
      refine zx_E.go 6 (s' := (57, [some (.inr (some (1, l, 0, 0))), some (.inl p1), some (.inl w2)], [.inl 1, .inl w2, .inr (some (10, l, 0, 0)), .inr (some (6, l, 0, 0)), .inr (some (7, l, k1, 0)), .inr (some (1, l, 0, 0))], (zx_lay M, n))) rfl ?_
      refine zx_E.go 1 (s' := (58, [some (.inr (some (1, l, 0, 0))), some (.inl p1), some (.inl w2)], [.inl (w2 - 1), .inr (some (10, l, 0, 0)), .inr (some (6, l, 0, 0)), .inr (some (7, l, k1, 0)), .inr (some (1, l, 0, 0))], (zx_lay M, n))) rfl ?_
      refine zx_E.ix h (fun k2 hx_k2 hl_k2 h => ?_)
      refine zx_E.iald (k := k2) (h := (10, l, 0, 0)) rfl rfl hx_k2 hl_k2 ?_
      show zx_E _ _ _ (59, [some (.inr (some (1, l, 0, 0))), some (.inl p1), some (.inl w2)], [.inl (M (10, l, 0, 0) k2), .inr (some (6, l, 0, 0)), .inr (some (7, l, k1, 0)), .inr (some (1, l, 0, 0))], (zx_lay M, n)) _
      refine zx_E.ix h (fun k3 hx_k3 hl_k3 h => ?_)
      refine zx_E.aald (k := k3) (h := (6, l, 0, 0)) (h' := (7, l, k3, 0)) rfl rfl hx_k3 hl_k3 rfl ?_
      show zx_E _ _ _ (60, [some (.inr (some (1, l, 0, 0))), some (.inl p1), some (.inl w2)], [.inr (some (7, l, k3, 0)), .inr (some (7, l, k1, 0)), .inr (some (1, l, 0, 0))], (zx_lay M, n)) _
      refine zx_E.cb (y := 30) (as := [.inr (some (1, l, 0, 0)), .inr (some (7, l, k1, 0)), .inr (some (7, l, k3, 0))]) (rest := []) h rfl (fun _ hv => zx_run_up (by omega) (r_X2_isAhead (d := d) hv)) (fun v1 h => ?_)
      show zx_E _ _ _ (63, [some (.inr (some (1, l, 0, 0))), some (.inl p1), some (.inl w2)], [.inl v1], (zx_lay M, n)) _
      refine zx_E.brh (c := v1 = 0) (s1 := (86, [some (.inr (some (1, l, 0, 0))), some (.inl p1), some (.inl w2)], [], (zx_lay M, n))) (s2 := (66, [some (.inr (some (1, l, 0, 0))), some (.inl p1), some (.inl w2)], [], (zx_lay M, n))) h (zx_if_eq rfl) (fun _ h => ?_) (fun _ h => ?_)
      · exact hk _ _ h
      · refine zx_E.go 7 (s' := (77, [some (.inr (some (1, l, 0, 0))), some (.inl p1), some (.inl w2)], [.inl 1, .inl w2, .inr (some (10, l, 0, 0)), .inl w2, .inr (some (10, l, 0, 0))], (zx_lay M, n))) rfl ?_
        refine zx_E.go 1 (s' := (78, [some (.inr (some (1, l, 0, 0))), some (.inl p1), some (.inl w2)], [.inl (w2 - 1), .inr (some (10, l, 0, 0)), .inl w2, .inr (some (10, l, 0, 0))], (zx_lay M, n))) rfl ?_
        refine zx_E.ix h (fun k4 hx_k4 hl_k4 h => ?_)
        refine zx_E.iald (k := k4) (h := (10, l, 0, 0)) rfl rfl hx_k4 hl_k4 ?_
        show zx_E _ _ _ (79, [some (.inr (some (1, l, 0, 0))), some (.inl p1), some (.inl w2)], [.inl (M (10, l, 0, 0) k4), .inl w2, .inr (some (10, l, 0, 0))], (zx_lay M, n)) _
        refine zx_E.ix h (fun k5 hx_k5 hl_k5 h => ?_)
        refine zx_E.ia h rfl rfl hx_k5 hl_k5 (fun M1 h => ?_)
        show zx_E _ _ _ (80, [some (.inr (some (1, l, 0, 0))), some (.inl p1), some (.inl w2)], [], (zx_lay M1, n)) _
        refine zx_E.go 2 (s' := (36, [some (.inr (some (1, l, 0, 0))), some (.inl p1), some (.inl (w2 + (-1)))], [], (zx_lay M1, n))) rfl ?_
        exact rl_X2_rank_36 hk q (w2 + (-1)) M1 h
def lg_X2_rank_7 (l : Nat) (kk : Int32 → zx_Y → Option zx_Y) : Nat → Int32 → zx_Y → Option zx_Y
  | 0, _, _ => none
  | q + 1, w1, M => (if (M (1, l, 0, 0) 4) ≤ w1 then (kk w1 M) else (zi w1 10 fun k1 => (if (M (7, l, k1, 0) 1) = 1 then (lg_X2_rank_36 l w1 (fun v1 M1 => (zi v1 10 fun k2 => (zl (zx_up M1 (10, l, 0, 0) k2 w1) fun M2 => (zl (zx_up M2 (1, l, 0, 0) 11 ((M2 (1, l, 0, 0) 11) + 1)) fun M3 => (lg_X2_rank_7 l kk q (w1 + 1) M3))))) 1000 (M (1, l, 0, 0) 11) M) else (lg_X2_rank_7 l kk q (w1 + 1) M))))
set_option maxRecDepth 100000 in
set_option maxHeartbeats 4000000 in
theorem rl_X2_rank_7 {X : zx_X} {d n : Nat} {l : Nat} {kk : Int32 → zx_Y → Option zx_Y} {rM : zx_Y} (hk : ∀ (w1 : Int32) (M : zx_Y) (e2 : Option zx_V), kk w1 M = some rM → zx_E X (d + 1) zc_X2_rank (109, [some (.inr (some (1, l, 0, 0))), some (.inl w1), e2], [], (zx_lay M, n)) (none, (zx_lay rM, n))) : ∀ (q : Nat) (g2 : Option zx_V) (w1 : Int32) (M : zx_Y), lg_X2_rank_7 l kk q w1 M = some rM → zx_E X (d + 1) zc_X2_rank (7, [some (.inr (some (1, l, 0, 0))), some (.inl w1), g2], [], (zx_lay M, n)) (none, (zx_lay rM, n))
  | 0, g2, w1, M, h => by
    rw [lg_X2_rank_7.eq_1] at h
    cases h
  | q + 1, g2, w1, M, h => by
    rw [lg_X2_rank_7.eq_2] at h
    refine zx_E.go 3 (s' := (12, [some (.inr (some (1, l, 0, 0))), some (.inl w1), g2], [.inl (M (1, l, 0, 0) 4), .inl w1], (zx_lay M, n))) rfl ?_
    refine zx_E.brh (c := (M (1, l, 0, 0) 4) ≤ w1) (s1 := (109, [some (.inr (some (1, l, 0, 0))), some (.inl w1), g2], [], (zx_lay M, n))) (s2 := (15, [some (.inr (some (1, l, 0, 0))), some (.inl w1), g2], [], (zx_lay M, n))) h (zx_ic_ge rfl) (fun _ h => ?_) (fun _ h => ?_)
    · exact hk _ _ _ h
    · refine zx_E.go 3 (s' := (20, [some (.inr (some (1, l, 0, 0))), some (.inl w1), g2], [.inl w1, .inr (some (6, l, 0, 0))], (zx_lay M, n))) rfl ?_
      refine zx_E.ix h (fun k1 hx_k1 hl_k1 h => ?_)
      refine zx_E.aald (k := k1) (h := (6, l, 0, 0)) (h' := (7, l, k1, 0)) rfl rfl hx_k1 hl_k1 rfl ?_
      show zx_E _ _ _ (21, [some (.inr (some (1, l, 0, 0))), some (.inl w1), g2], [.inr (some (7, l, k1, 0))], (zx_lay M, n)) _
      refine zx_E.go 2 (s' := (25, [some (.inr (some (1, l, 0, 0))), some (.inl w1), g2], [.inl 1, .inl (M (7, l, k1, 0) 1)], (zx_lay M, n))) rfl ?_
      refine zx_E.brh (c := (M (7, l, k1, 0) 1) = 1) (s1 := (31, [some (.inr (some (1, l, 0, 0))), some (.inl w1), g2], [], (zx_lay M, n))) (s2 := (28, [some (.inr (some (1, l, 0, 0))), some (.inl w1), g2], [], (zx_lay M, n))) h (zx_ic_eq rfl) (fun _ h => ?_) (fun _ h => ?_)
      · refine zx_E.go 3 (s' := (36, [some (.inr (some (1, l, 0, 0))), some (.inl w1), some (.inl (M (1, l, 0, 0) 11))], [], (zx_lay M, n))) rfl ?_
        refine rl_X2_rank_36 (fun v1 M1 h => ?_) 1000  (M (1, l, 0, 0) 11) M h
        refine zx_E.go 4 (s' := (92, [some (.inr (some (1, l, 0, 0))), some (.inl w1), some (.inl v1)], [.inl w1, .inl v1, .inr (some (10, l, 0, 0))], (zx_lay M1, n))) rfl ?_
        refine zx_E.ix h (fun k2 hx_k2 hl_k2 h => ?_)
        refine zx_E.ia h rfl rfl hx_k2 hl_k2 (fun M2 h => ?_)
        show zx_E _ _ _ (93, [some (.inr (some (1, l, 0, 0))), some (.inl w1), some (.inl v1)], [], (zx_lay M2, n)) _
        refine zx_E.go 4 (s' := (99, [some (.inr (some (1, l, 0, 0))), some (.inl w1), some (.inl v1)], [.inl 1, .inl (M2 (1, l, 0, 0) 11), .inr (some (1, l, 0, 0))], (zx_lay M2, n))) rfl ?_
        refine zx_E.go 1 (s' := (100, [some (.inr (some (1, l, 0, 0))), some (.inl w1), some (.inl v1)], [.inl ((M2 (1, l, 0, 0) 11) + 1), .inr (some (1, l, 0, 0))], (zx_lay M2, n))) rfl ?_
        refine zx_E.pu h rfl rfl (fun h => absurd h (by decide)) (fun M3 h => ?_)
        show zx_E _ _ _ (103, [some (.inr (some (1, l, 0, 0))), some (.inl w1), some (.inl v1)], [], (zx_lay M3, n)) _
        refine zx_E.go 2 (s' := (7, [some (.inr (some (1, l, 0, 0))), some (.inl (w1 + 1)), some (.inl v1)], [], (zx_lay M3, n))) rfl ?_
        exact rl_X2_rank_7 hk q _ (w1 + 1) M3 h
      · refine zx_E.go 3 (s' := (7, [some (.inr (some (1, l, 0, 0))), some (.inl (w1 + 1)), g2], [], (zx_lay M, n))) rfl ?_
        exact rl_X2_rank_7 hk q _ (w1 + 1) M h
def g_X2_rank (M : zx_Y) (l : Nat) : Option zx_Y := (zl (zx_up M (1, l, 0, 0) 11 0) fun M1 => (lg_X2_rank_7 l (fun v1 M2 => (some M2)) 1000 0 M1))
set_option maxRecDepth 100000 in
set_option maxHeartbeats 4000000 in
theorem r_X2_rank {X : zx_X} {d n : Nat} {M : zx_Y} {l : Nat} {rM : zx_Y} (h : g_X2_rank M l = some rM) : zx_run X (d + 2) 29 [.inr (some (1, l, 0, 0))] (zx_lay M, n) (none, (zx_lay rM, n)) := by
  refine zx_run_of zc_X2_rank [some (.inr (some (1, l, 0, 0))), none, none] rfl rfl ?_
  unfold g_X2_rank at h
  refine zx_E.go 2 (s' := (2, [some (.inr (some (1, l, 0, 0))), none, none], [.inl 0, .inr (some (1, l, 0, 0))], (zx_lay M, n))) rfl ?_
  refine zx_E.pu h rfl rfl (fun h => absurd h (by decide)) (fun M1 h => ?_)
  show zx_E _ _ _ (5, [some (.inr (some (1, l, 0, 0))), none, none], [], (zx_lay M1, n)) _
  refine zx_E.go 2 (s' := (7, [some (.inr (some (1, l, 0, 0))), some (.inl 0), none], [], (zx_lay M1, n))) rfl ?_
  refine rl_X2_rank_7 (fun v1 M2 e1 h => ?_) 1000 _ 0 M1 h
  exact zx_E.r0 h rfl
def g_X9_nextStation (M : zx_Y) (l : Nat) (i : Nat) : Option Int32 := (if (M (7, l, i, 0) 3) ≤ (M (7, l, i, 0) 2) then (some ((M (7, l, i, 0) 9) - 1)) else (some ((M (7, l, i, 0) 9) + 1)))
set_option maxRecDepth 100000 in
set_option maxHeartbeats 4000000 in
theorem r_X9_nextStation {X : zx_X} {d n : Nat} {M : zx_Y} {l : Nat} {i : Nat} {rv : Int32} (h : g_X9_nextStation M l i = some rv) : zx_run X (d + 1) 87 [.inr (some (7, l, i, 0))] (zx_lay M, n) (some (.inl rv), (zx_lay M, n)) := by
  refine zx_run_of zc_X9_nextStation [some (.inr (some (7, l, i, 0)))] rfl rfl ?_
  unfold g_X9_nextStation at h
  refine zx_E.go 4 (s' := (8, [some (.inr (some (7, l, i, 0)))], [.inl (M (7, l, i, 0) 2), .inl (M (7, l, i, 0) 3)], (zx_lay M, n))) rfl ?_
  refine zx_E.brh (c := (M (7, l, i, 0) 3) ≤ (M (7, l, i, 0) 2)) (s1 := (20, [some (.inr (some (7, l, i, 0)))], [], (zx_lay M, n))) (s2 := (11, [some (.inr (some (7, l, i, 0)))], [], (zx_lay M, n))) h (zx_ic_le rfl) (fun _ h => ?_) (fun _ h => ?_)
  · refine zx_E.go 3 (s' := (25, [some (.inr (some (7, l, i, 0)))], [.inl 1, .inl (M (7, l, i, 0) 9)], (zx_lay M, n))) rfl ?_
    refine zx_E.go 1 (s' := (26, [some (.inr (some (7, l, i, 0)))], [.inl ((M (7, l, i, 0) 9) - 1)], (zx_lay M, n))) rfl ?_
    exact zx_E.rp h rfl (fun h => absurd h (by decide))
  · refine zx_E.go 3 (s' := (16, [some (.inr (some (7, l, i, 0)))], [.inl 1, .inl (M (7, l, i, 0) 9)], (zx_lay M, n))) rfl ?_
    refine zx_E.go 2 (s' := (26, [some (.inr (some (7, l, i, 0)))], [.inl ((M (7, l, i, 0) 9) + 1)], (zx_lay M, n))) rfl ?_
    exact zx_E.rp h rfl (fun h => absurd h (by decide))
def g_X9_nextBlock (M : zx_Y) (l : Nat) (i : Nat) : Option Int32 := (if (M (7, l, i, 0) 3) ≤ (M (7, l, i, 0) 2) then (some ((M (7, l, i, 0) 9) - 1)) else (some (M (7, l, i, 0) 9)))
set_option maxRecDepth 100000 in
set_option maxHeartbeats 4000000 in
theorem r_X9_nextBlock {X : zx_X} {d n : Nat} {M : zx_Y} {l : Nat} {i : Nat} {rv : Int32} (h : g_X9_nextBlock M l i = some rv) : zx_run X (d + 1) 86 [.inr (some (7, l, i, 0))] (zx_lay M, n) (some (.inl rv), (zx_lay M, n)) := by
  refine zx_run_of zc_X9_nextBlock [some (.inr (some (7, l, i, 0)))] rfl rfl ?_
  unfold g_X9_nextBlock at h
  refine zx_E.go 4 (s' := (8, [some (.inr (some (7, l, i, 0)))], [.inl (M (7, l, i, 0) 2), .inl (M (7, l, i, 0) 3)], (zx_lay M, n))) rfl ?_
  refine zx_E.brh (c := (M (7, l, i, 0) 3) ≤ (M (7, l, i, 0) 2)) (s1 := (18, [some (.inr (some (7, l, i, 0)))], [], (zx_lay M, n))) (s2 := (11, [some (.inr (some (7, l, i, 0)))], [], (zx_lay M, n))) h (zx_ic_le rfl) (fun _ h => ?_) (fun _ h => ?_)
  · refine zx_E.go 3 (s' := (23, [some (.inr (some (7, l, i, 0)))], [.inl 1, .inl (M (7, l, i, 0) 9)], (zx_lay M, n))) rfl ?_
    refine zx_E.go 1 (s' := (24, [some (.inr (some (7, l, i, 0)))], [.inl ((M (7, l, i, 0) 9) - 1)], (zx_lay M, n))) rfl ?_
    exact zx_E.rp h rfl (fun h => absurd h (by decide))
  · refine zx_E.go 3 (s' := (24, [some (.inr (some (7, l, i, 0)))], [.inl (M (7, l, i, 0) 9)], (zx_lay M, n))) rfl ?_
    exact zx_E.rp h rfl (fun h => absurd h (by decide))
def lg_X2_occupant_2 (M : zx_Y) (l : Nat) (x0 : Int32) (kk : Int32 → Option Int32) : Nat → Int32 → Option Int32
  | 0, _ => none
  | q + 1, w2 => (if (M (1, l, 0, 0) 4) ≤ w2 then (kk w2) else (zi w2 10 fun k1 => (if (M (7, l, k1, 0) 1) = 2 then (zi w2 10 fun k2 => (if (M (7, l, k2, 0) 9) = x0 then (some w2) else (lg_X2_occupant_2 M l x0 kk q (w2 + 1)))) else (lg_X2_occupant_2 M l x0 kk q (w2 + 1)))))
set_option maxRecDepth 100000 in
set_option maxHeartbeats 4000000 in
theorem rl_X2_occupant_2 {X : zx_X} {d n : Nat} {M : zx_Y} {l : Nat} {x0 : Int32} {kk : Int32 → Option Int32} {rv : Int32} (hk : ∀ (w2 : Int32), kk w2 = some rv → zx_E X (d + 0) zc_X2_occupant (44, [some (.inr (some (1, l, 0, 0))), some (.inl x0), some (.inl w2)], [], (zx_lay M, n)) (some (.inl rv), (zx_lay M, n))) : ∀ (q : Nat) (w2 : Int32), lg_X2_occupant_2 M l x0 kk q w2 = some rv → zx_E X (d + 0) zc_X2_occupant (2, [some (.inr (some (1, l, 0, 0))), some (.inl x0), some (.inl w2)], [], (zx_lay M, n)) (some (.inl rv), (zx_lay M, n))
  | 0, w2, h => by
    rw [lg_X2_occupant_2.eq_1] at h
    cases h
  | q + 1, w2, h => by
    rw [lg_X2_occupant_2.eq_2] at h
    refine zx_E.go 3 (s' := (7, [some (.inr (some (1, l, 0, 0))), some (.inl x0), some (.inl w2)], [.inl (M (1, l, 0, 0) 4), .inl w2], (zx_lay M, n))) rfl ?_
    refine zx_E.brh (c := (M (1, l, 0, 0) 4) ≤ w2) (s1 := (44, [some (.inr (some (1, l, 0, 0))), some (.inl x0), some (.inl w2)], [], (zx_lay M, n))) (s2 := (10, [some (.inr (some (1, l, 0, 0))), some (.inl x0), some (.inl w2)], [], (zx_lay M, n))) h (zx_ic_ge rfl) (fun _ h => ?_) (fun _ h => ?_)
    · exact hk _ h
    · refine zx_E.go 3 (s' := (15, [some (.inr (some (1, l, 0, 0))), some (.inl x0), some (.inl w2)], [.inl w2, .inr (some (6, l, 0, 0))], (zx_lay M, n))) rfl ?_
      refine zx_E.ix h (fun k1 hx_k1 hl_k1 h => ?_)
      refine zx_E.aald (k := k1) (h := (6, l, 0, 0)) (h' := (7, l, k1, 0)) rfl rfl hx_k1 hl_k1 rfl ?_
      show zx_E _ _ _ (16, [some (.inr (some (1, l, 0, 0))), some (.inl x0), some (.inl w2)], [.inr (some (7, l, k1, 0))], (zx_lay M, n)) _
      refine zx_E.go 2 (s' := (20, [some (.inr (some (1, l, 0, 0))), some (.inl x0), some (.inl w2)], [.inl 2, .inl (M (7, l, k1, 0) 1)], (zx_lay M, n))) rfl ?_
      refine zx_E.brh (c := (M (7, l, k1, 0) 1) = 2) (s1 := (23, [some (.inr (some (1, l, 0, 0))), some (.inl x0), some (.inl w2)], [], (zx_lay M, n))) (s2 := (38, [some (.inr (some (1, l, 0, 0))), some (.inl x0), some (.inl w2)], [], (zx_lay M, n))) h (zx_ic_ne rfl) (fun _ h => ?_) (fun _ h => ?_)
      · refine zx_E.go 3 (s' := (28, [some (.inr (some (1, l, 0, 0))), some (.inl x0), some (.inl w2)], [.inl w2, .inr (some (6, l, 0, 0))], (zx_lay M, n))) rfl ?_
        refine zx_E.ix h (fun k2 hx_k2 hl_k2 h => ?_)
        refine zx_E.aald (k := k2) (h := (6, l, 0, 0)) (h' := (7, l, k2, 0)) rfl rfl hx_k2 hl_k2 rfl ?_
        show zx_E _ _ _ (29, [some (.inr (some (1, l, 0, 0))), some (.inl x0), some (.inl w2)], [.inr (some (7, l, k2, 0))], (zx_lay M, n)) _
        refine zx_E.go 2 (s' := (33, [some (.inr (some (1, l, 0, 0))), some (.inl x0), some (.inl w2)], [.inl x0, .inl (M (7, l, k2, 0) 9)], (zx_lay M, n))) rfl ?_
        refine zx_E.brh (c := (M (7, l, k2, 0) 9) = x0) (s1 := (36, [some (.inr (some (1, l, 0, 0))), some (.inl x0), some (.inl w2)], [], (zx_lay M, n))) (s2 := (38, [some (.inr (some (1, l, 0, 0))), some (.inl x0), some (.inl w2)], [], (zx_lay M, n))) h (zx_ic_ne rfl) (fun _ h => ?_) (fun _ h => ?_)
        · refine zx_E.go 1 (s' := (37, [some (.inr (some (1, l, 0, 0))), some (.inl x0), some (.inl w2)], [.inl w2], (zx_lay M, n))) rfl ?_
          exact zx_E.rp h rfl (fun h => absurd h (by decide))
        · refine zx_E.go 2 (s' := (2, [some (.inr (some (1, l, 0, 0))), some (.inl x0), some (.inl (w2 + 1))], [], (zx_lay M, n))) rfl ?_
          exact rl_X2_occupant_2 hk q (w2 + 1) h
      · refine zx_E.go 2 (s' := (2, [some (.inr (some (1, l, 0, 0))), some (.inl x0), some (.inl (w2 + 1))], [], (zx_lay M, n))) rfl ?_
        exact rl_X2_occupant_2 hk q (w2 + 1) h
def g_X2_occupant (M : zx_Y) (l : Nat) (x0 : Int32) : Option Int32 := (lg_X2_occupant_2 M l x0 (fun v1 => (some (-5))) 1000 0)
set_option maxRecDepth 100000 in
set_option maxHeartbeats 4000000 in
theorem r_X2_occupant {X : zx_X} {d n : Nat} {M : zx_Y} {l : Nat} {x0 : Int32} {rv : Int32} (h : g_X2_occupant M l x0 = some rv) : zx_run X (d + 1) 36 [.inr (some (1, l, 0, 0)), .inl x0] (zx_lay M, n) (some (.inl rv), (zx_lay M, n)) := by
  refine zx_run_of zc_X2_occupant [some (.inr (some (1, l, 0, 0))), some (.inl x0), none] rfl rfl ?_
  unfold g_X2_occupant at h
  refine zx_E.go 2 (s' := (2, [some (.inr (some (1, l, 0, 0))), some (.inl x0), some (.inl 0)], [], (zx_lay M, n))) rfl ?_
  refine rl_X2_occupant_2 (fun v1 h => ?_) 1000  0  h
  refine zx_E.go 1 (s' := (46, [some (.inr (some (1, l, 0, 0))), some (.inl x0), some (.inl v1)], [.inl (-5)], (zx_lay M, n))) rfl ?_
  exact zx_E.rp h rfl (fun h => absurd h (by decide))
def lg_X2_slowMinutes_4 (M : zx_Y) (l : Nat) (x0 : Int32) (kk : Int32 → Int32 → Option Int32) : Nat → Int32 → Int32 → Option Int32
  | 0, _, _ => none
  | q + 1, w2, w3 => (if (M (1, l, 0, 0) 5) ≤ w3 then (kk w2 w3) else (zi w3 6 fun k1 => (if (M (9, l, k1, 0) 0) = x0 then (if (M (1, l, 0, 0) 0) < (M (9, l, k1, 0) 2) then (lg_X2_slowMinutes_4 M l x0 kk q w2 (w3 + 1)) else (if (M (9, l, k1, 0) 3) ≤ (M (1, l, 0, 0) 0) then (lg_X2_slowMinutes_4 M l x0 kk q w2 (w3 + 1)) else (lg_X2_slowMinutes_4 M l x0 kk q (w2 + (M (9, l, k1, 0) 1)) (w3 + 1)))) else (lg_X2_slowMinutes_4 M l x0 kk q w2 (w3 + 1)))))
set_option maxRecDepth 100000 in
set_option maxHeartbeats 4000000 in
theorem rl_X2_slowMinutes_4 {X : zx_X} {d n : Nat} {M : zx_Y} {l : Nat} {x0 : Int32} {kk : Int32 → Int32 → Option Int32} {rv : Int32} (hk : ∀ (w2 : Int32) (w3 : Int32) (e4 : Option zx_V), kk w2 w3 = some rv → zx_E X (d + 0) zc_X2_slowMinutes (67, [some (.inr (some (1, l, 0, 0))), some (.inl x0), some (.inl w2), some (.inl w3), e4], [], (zx_lay M, n)) (some (.inl rv), (zx_lay M, n))) : ∀ (q : Nat) (g4 : Option zx_V) (w2 : Int32) (w3 : Int32), lg_X2_slowMinutes_4 M l x0 kk q w2 w3 = some rv → zx_E X (d + 0) zc_X2_slowMinutes (4, [some (.inr (some (1, l, 0, 0))), some (.inl x0), some (.inl w2), some (.inl w3), g4], [], (zx_lay M, n)) (some (.inl rv), (zx_lay M, n))
  | 0, g4, w2, w3, h => by
    rw [lg_X2_slowMinutes_4.eq_1] at h
    cases h
  | q + 1, g4, w2, w3, h => by
    rw [lg_X2_slowMinutes_4.eq_2] at h
    refine zx_E.go 3 (s' := (9, [some (.inr (some (1, l, 0, 0))), some (.inl x0), some (.inl w2), some (.inl w3), g4], [.inl (M (1, l, 0, 0) 5), .inl w3], (zx_lay M, n))) rfl ?_
    refine zx_E.brh (c := (M (1, l, 0, 0) 5) ≤ w3) (s1 := (67, [some (.inr (some (1, l, 0, 0))), some (.inl x0), some (.inl w2), some (.inl w3), g4], [], (zx_lay M, n))) (s2 := (12, [some (.inr (some (1, l, 0, 0))), some (.inl x0), some (.inl w2), some (.inl w3), g4], [], (zx_lay M, n))) h (zx_ic_ge rfl) (fun _ h => ?_) (fun _ h => ?_)
    · exact hk _ _ _ h
    · refine zx_E.go 3 (s' := (17, [some (.inr (some (1, l, 0, 0))), some (.inl x0), some (.inl w2), some (.inl w3), g4], [.inl w3, .inr (some (8, l, 0, 0))], (zx_lay M, n))) rfl ?_
      refine zx_E.ix h (fun k1 hx_k1 hl_k1 h => ?_)
      refine zx_E.aald (k := k1) (h := (8, l, 0, 0)) (h' := (9, l, k1, 0)) rfl rfl hx_k1 hl_k1 rfl ?_
      show zx_E _ _ _ (18, [some (.inr (some (1, l, 0, 0))), some (.inl x0), some (.inl w2), some (.inl w3), g4], [.inr (some (9, l, k1, 0))], (zx_lay M, n)) _
      refine zx_E.go 4 (s' := (26, [some (.inr (some (1, l, 0, 0))), some (.inl x0), some (.inl w2), some (.inl w3), some (.inr (some (9, l, k1, 0)))], [.inl x0, .inl (M (9, l, k1, 0) 0)], (zx_lay M, n))) rfl ?_
      refine zx_E.brh (c := (M (9, l, k1, 0) 0) = x0) (s1 := (29, [some (.inr (some (1, l, 0, 0))), some (.inl x0), some (.inl w2), some (.inl w3), some (.inr (some (9, l, k1, 0)))], [], (zx_lay M, n))) (s2 := (61, [some (.inr (some (1, l, 0, 0))), some (.inl x0), some (.inl w2), some (.inl w3), some (.inr (some (9, l, k1, 0)))], [], (zx_lay M, n))) h (zx_ic_ne rfl) (fun _ h => ?_) (fun _ h => ?_)
      · refine zx_E.go 4 (s' := (38, [some (.inr (some (1, l, 0, 0))), some (.inl x0), some (.inl w2), some (.inl w3), some (.inr (some (9, l, k1, 0)))], [.inl (M (1, l, 0, 0) 0), .inl (M (9, l, k1, 0) 2)], (zx_lay M, n))) rfl ?_
        refine zx_E.brh (c := (M (1, l, 0, 0) 0) < (M (9, l, k1, 0) 2)) (s1 := (61, [some (.inr (some (1, l, 0, 0))), some (.inl x0), some (.inl w2), some (.inl w3), some (.inr (some (9, l, k1, 0)))], [], (zx_lay M, n))) (s2 := (41, [some (.inr (some (1, l, 0, 0))), some (.inl x0), some (.inl w2), some (.inl w3), some (.inr (some (9, l, k1, 0)))], [], (zx_lay M, n))) h (zx_ic_gt rfl) (fun _ h => ?_) (fun _ h => ?_)
        · refine zx_E.go 2 (s' := (4, [some (.inr (some (1, l, 0, 0))), some (.inl x0), some (.inl w2), some (.inl (w3 + 1)), some (.inr (some (9, l, k1, 0)))], [], (zx_lay M, n))) rfl ?_
          exact rl_X2_slowMinutes_4 hk q _ w2 (w3 + 1) h
        · refine zx_E.go 4 (s' := (50, [some (.inr (some (1, l, 0, 0))), some (.inl x0), some (.inl w2), some (.inl w3), some (.inr (some (9, l, k1, 0)))], [.inl (M (9, l, k1, 0) 3), .inl (M (1, l, 0, 0) 0)], (zx_lay M, n))) rfl ?_
          refine zx_E.brh (c := (M (9, l, k1, 0) 3) ≤ (M (1, l, 0, 0) 0)) (s1 := (61, [some (.inr (some (1, l, 0, 0))), some (.inl x0), some (.inl w2), some (.inl w3), some (.inr (some (9, l, k1, 0)))], [], (zx_lay M, n))) (s2 := (53, [some (.inr (some (1, l, 0, 0))), some (.inl x0), some (.inl w2), some (.inl w3), some (.inr (some (9, l, k1, 0)))], [], (zx_lay M, n))) h (zx_ic_ge rfl) (fun _ h => ?_) (fun _ h => ?_)
          · refine zx_E.go 2 (s' := (4, [some (.inr (some (1, l, 0, 0))), some (.inl x0), some (.inl w2), some (.inl (w3 + 1)), some (.inr (some (9, l, k1, 0)))], [], (zx_lay M, n))) rfl ?_
            exact rl_X2_slowMinutes_4 hk q _ w2 (w3 + 1) h
          · refine zx_E.go 3 (s' := (59, [some (.inr (some (1, l, 0, 0))), some (.inl x0), some (.inl w2), some (.inl w3), some (.inr (some (9, l, k1, 0)))], [.inl (M (9, l, k1, 0) 1), .inl w2], (zx_lay M, n))) rfl ?_
            refine zx_E.go 4 (s' := (4, [some (.inr (some (1, l, 0, 0))), some (.inl x0), some (.inl (w2 + (M (9, l, k1, 0) 1))), some (.inl (w3 + 1)), some (.inr (some (9, l, k1, 0)))], [], (zx_lay M, n))) rfl ?_
            exact rl_X2_slowMinutes_4 hk q _ (w2 + (M (9, l, k1, 0) 1)) (w3 + 1) h
      · refine zx_E.go 2 (s' := (4, [some (.inr (some (1, l, 0, 0))), some (.inl x0), some (.inl w2), some (.inl (w3 + 1)), some (.inr (some (9, l, k1, 0)))], [], (zx_lay M, n))) rfl ?_
        exact rl_X2_slowMinutes_4 hk q _ w2 (w3 + 1) h
def g_X2_slowMinutes (M : zx_Y) (l : Nat) (x0 : Int32) : Option Int32 := (lg_X2_slowMinutes_4 M l x0 (fun v1 v2 => (some v1)) 1000 0 0)
set_option maxRecDepth 100000 in
set_option maxHeartbeats 4000000 in
theorem r_X2_slowMinutes {X : zx_X} {d n : Nat} {M : zx_Y} {l : Nat} {x0 : Int32} {rv : Int32} (h : g_X2_slowMinutes M l x0 = some rv) : zx_run X (d + 1) 35 [.inr (some (1, l, 0, 0)), .inl x0] (zx_lay M, n) (some (.inl rv), (zx_lay M, n)) := by
  refine zx_run_of zc_X2_slowMinutes [some (.inr (some (1, l, 0, 0))), some (.inl x0), none, none, none] rfl rfl ?_
  unfold g_X2_slowMinutes at h
  refine zx_E.go 4 (s' := (4, [some (.inr (some (1, l, 0, 0))), some (.inl x0), some (.inl 0), some (.inl 0), none], [], (zx_lay M, n))) rfl ?_
  refine rl_X2_slowMinutes_4 (fun v1 v2 e1 h => ?_) 1000 _ 0 0  h
  refine zx_E.go 1 (s' := (68, [some (.inr (some (1, l, 0, 0))), some (.inl x0), some (.inl v1), some (.inl v2), e1], [.inl v1], (zx_lay M, n))) rfl ?_
  exact zx_E.rp h rfl (fun h => absurd h (by decide))
def g_X2_minutesFor (M : zx_Y) (l : Nat) (i : Nat) (x0 : Int32) : Option Int32 := (zb (g_X2_hasBlock M l x0) fun v1 => (if v1 = 0 then (some 0) else (zi x0 7 fun k1 => (zb (g_X2_slowMinutes M l x0) fun v2 => (some (((M (5, l, k1, 0) 0) + (M (7, l, i, 0) 6)) + v2))))))
set_option maxRecDepth 100000 in
set_option maxHeartbeats 4000000 in
theorem r_X2_minutesFor {X : zx_X} {d n : Nat} {M : zx_Y} {l : Nat} {i : Nat} {x0 : Int32} {rv : Int32} (h : g_X2_minutesFor M l i x0 = some rv) : zx_run X (d + 2) 34 [.inr (some (1, l, 0, 0)), .inr (some (7, l, i, 0)), .inl x0] (zx_lay M, n) (some (.inl rv), (zx_lay M, n)) := by
  refine zx_run_of zc_X2_minutesFor [some (.inr (some (1, l, 0, 0))), some (.inr (some (7, l, i, 0))), some (.inl x0)] rfl rfl ?_
  unfold g_X2_minutesFor at h
  refine zx_E.go 2 (s' := (2, [some (.inr (some (1, l, 0, 0))), some (.inr (some (7, l, i, 0))), some (.inl x0)], [.inl x0, .inr (some (1, l, 0, 0))], (zx_lay M, n))) rfl ?_
  refine zx_E.cb (y := 17) (as := [.inr (some (1, l, 0, 0)), .inl x0]) (rest := []) h rfl (fun _ hv => zx_run_up (by omega) (r_X2_hasBlock (d := d) hv)) (fun v1 h => ?_)
  show zx_E _ _ _ (5, [some (.inr (some (1, l, 0, 0))), some (.inr (some (7, l, i, 0))), some (.inl x0)], [.inl v1], (zx_lay M, n)) _
  refine zx_E.brh (c := v1 = 0) (s1 := (8, [some (.inr (some (1, l, 0, 0))), some (.inr (some (7, l, i, 0))), some (.inl x0)], [], (zx_lay M, n))) (s2 := (10, [some (.inr (some (1, l, 0, 0))), some (.inr (some (7, l, i, 0))), some (.inl x0)], [], (zx_lay M, n))) h (zx_if_ne rfl) (fun _ h => ?_) (fun _ h => ?_)
  · refine zx_E.go 1 (s' := (9, [some (.inr (some (1, l, 0, 0))), some (.inr (some (7, l, i, 0))), some (.inl x0)], [.inl 0], (zx_lay M, n))) rfl ?_
    exact zx_E.rp h rfl (fun h => absurd h (by decide))
  · refine zx_E.go 3 (s' := (15, [some (.inr (some (1, l, 0, 0))), some (.inr (some (7, l, i, 0))), some (.inl x0)], [.inl x0, .inr (some (4, l, 0, 0))], (zx_lay M, n))) rfl ?_
    refine zx_E.ix h (fun k1 hx_k1 hl_k1 h => ?_)
    refine zx_E.aald (k := k1) (h := (4, l, 0, 0)) (h' := (5, l, k1, 0)) rfl rfl hx_k1 hl_k1 rfl ?_
    show zx_E _ _ _ (16, [some (.inr (some (1, l, 0, 0))), some (.inr (some (7, l, i, 0))), some (.inl x0)], [.inr (some (5, l, k1, 0))], (zx_lay M, n)) _
    refine zx_E.go 3 (s' := (23, [some (.inr (some (1, l, 0, 0))), some (.inr (some (7, l, i, 0))), some (.inl x0)], [.inl (M (7, l, i, 0) 6), .inl (M (5, l, k1, 0) 0)], (zx_lay M, n))) rfl ?_
    refine zx_E.go 3 (s' := (26, [some (.inr (some (1, l, 0, 0))), some (.inr (some (7, l, i, 0))), some (.inl x0)], [.inl x0, .inr (some (1, l, 0, 0)), .inl ((M (5, l, k1, 0) 0) + (M (7, l, i, 0) 6))], (zx_lay M, n))) rfl ?_
    refine zx_E.cb (y := 35) (as := [.inr (some (1, l, 0, 0)), .inl x0]) (rest := [.inl ((M (5, l, k1, 0) 0) + (M (7, l, i, 0) 6))]) h rfl (fun _ hv => zx_run_up (by omega) (r_X2_slowMinutes (d := d) hv)) (fun v2 h => ?_)
    show zx_E _ _ _ (29, [some (.inr (some (1, l, 0, 0))), some (.inr (some (7, l, i, 0))), some (.inl x0)], [.inl v2, .inl ((M (5, l, k1, 0) 0) + (M (7, l, i, 0) 6))], (zx_lay M, n)) _
    refine zx_E.go 1 (s' := (30, [some (.inr (some (1, l, 0, 0))), some (.inr (some (7, l, i, 0))), some (.inl x0)], [.inl (((M (5, l, k1, 0) 0) + (M (7, l, i, 0) 6)) + v2)], (zx_lay M, n))) rfl ?_
    exact zx_E.rp h rfl (fun h => absurd h (by decide))
def g_X2_overHours (M : zx_Y) (l : Nat) (i : Nat) : Option Int32 := (zb (g_X9_nextBlock M l i) fun v1 => (zb (g_X2_minutesFor M l i v1) fun v2 => (some ((((M (1, l, 0, 0) 0) - (M (7, l, i, 0) 14)) + v2) - (M (7, l, i, 0) 7)))))
set_option maxRecDepth 100000 in
set_option maxHeartbeats 4000000 in
theorem r_X2_overHours {X : zx_X} {d n : Nat} {M : zx_Y} {l : Nat} {i : Nat} {rv : Int32} (h : g_X2_overHours M l i = some rv) : zx_run X (d + 3) 33 [.inr (some (1, l, 0, 0)), .inr (some (7, l, i, 0))] (zx_lay M, n) (some (.inl rv), (zx_lay M, n)) := by
  refine zx_run_of zc_X2_overHours [some (.inr (some (1, l, 0, 0))), some (.inr (some (7, l, i, 0)))] rfl rfl ?_
  unfold g_X2_overHours at h
  refine zx_E.go 4 (s' := (8, [some (.inr (some (1, l, 0, 0))), some (.inr (some (7, l, i, 0)))], [.inl (M (7, l, i, 0) 14), .inl (M (1, l, 0, 0) 0)], (zx_lay M, n))) rfl ?_
  refine zx_E.go 4 (s' := (12, [some (.inr (some (1, l, 0, 0))), some (.inr (some (7, l, i, 0)))], [.inr (some (7, l, i, 0)), .inr (some (7, l, i, 0)), .inr (some (1, l, 0, 0)), .inl ((M (1, l, 0, 0) 0) - (M (7, l, i, 0) 14))], (zx_lay M, n))) rfl ?_
  refine zx_E.cb (y := 86) (as := [.inr (some (7, l, i, 0))]) (rest := [.inr (some (7, l, i, 0)), .inr (some (1, l, 0, 0)), .inl ((M (1, l, 0, 0) 0) - (M (7, l, i, 0) 14))]) h rfl (fun _ hv => zx_run_up (by omega) (r_X9_nextBlock (d := d) hv)) (fun v1 h => ?_)
  show zx_E _ _ _ (15, [some (.inr (some (1, l, 0, 0))), some (.inr (some (7, l, i, 0)))], [.inl v1, .inr (some (7, l, i, 0)), .inr (some (1, l, 0, 0)), .inl ((M (1, l, 0, 0) 0) - (M (7, l, i, 0) 14))], (zx_lay M, n)) _
  refine zx_E.cb (y := 34) (as := [.inr (some (1, l, 0, 0)), .inr (some (7, l, i, 0)), .inl v1]) (rest := [.inl ((M (1, l, 0, 0) 0) - (M (7, l, i, 0) 14))]) h rfl (fun _ hv => zx_run_up (by omega) (r_X2_minutesFor (d := d) hv)) (fun v2 h => ?_)
  show zx_E _ _ _ (18, [some (.inr (some (1, l, 0, 0))), some (.inr (some (7, l, i, 0)))], [.inl v2, .inl ((M (1, l, 0, 0) 0) - (M (7, l, i, 0) 14))], (zx_lay M, n)) _
  refine zx_E.go 3 (s' := (23, [some (.inr (some (1, l, 0, 0))), some (.inr (some (7, l, i, 0)))], [.inl (M (7, l, i, 0) 7), .inl (((M (1, l, 0, 0) 0) - (M (7, l, i, 0) 14)) + v2)], (zx_lay M, n))) rfl ?_
  refine zx_E.go 1 (s' := (24, [some (.inr (some (1, l, 0, 0))), some (.inr (some (7, l, i, 0)))], [.inl ((((M (1, l, 0, 0) 0) - (M (7, l, i, 0) 14)) + v2) - (M (7, l, i, 0) 7))], (zx_lay M, n))) rfl ?_
  exact zx_E.rp h rfl (fun h => absurd h (by decide))
def g_X2_obstacleOf (M : zx_Y) (l : Nat) (i : Nat) : Option Int32 := (zb (g_X9_nextStation M l i) fun v1 => (zb (g_X9_nextBlock M l i) fun v2 => (zb (g_X2_occupant M l v2) fun v3 => (if v3 = (-5) then (if v1 = (M (7, l, i, 0) 3) then (zb (g_X2_overHours M l i) fun v4 => (if v4 ≤ 0 then (some 8) else (some 6))) else (zb (g_X2_hasFreeTrack M l v1) fun v5 => (if v5 = 0 then (some 5) else (zb (g_X2_overHours M l i) fun v6 => (if v6 ≤ 0 then (some 8) else (some 6)))))) else (some 4)))))
set_option maxRecDepth 100000 in
set_option maxHeartbeats 4000000 in
theorem r_X2_obstacleOf {X : zx_X} {d n : Nat} {M : zx_Y} {l : Nat} {i : Nat} {rv : Int32} (h : g_X2_obstacleOf M l i = some rv) : zx_run X (d + 4) 31 [.inr (some (1, l, 0, 0)), .inr (some (7, l, i, 0))] (zx_lay M, n) (some (.inl rv), (zx_lay M, n)) := by
  refine zx_run_of zc_X2_obstacleOf [some (.inr (some (1, l, 0, 0))), some (.inr (some (7, l, i, 0))), none] rfl rfl ?_
  unfold g_X2_obstacleOf at h
  refine zx_E.go 1 (s' := (1, [some (.inr (some (1, l, 0, 0))), some (.inr (some (7, l, i, 0))), none], [.inr (some (7, l, i, 0))], (zx_lay M, n))) rfl ?_
  refine zx_E.cb (y := 87) (as := [.inr (some (7, l, i, 0))]) (rest := []) h rfl (fun _ hv => zx_run_up (by omega) (r_X9_nextStation (d := d) hv)) (fun v1 h => ?_)
  show zx_E _ _ _ (4, [some (.inr (some (1, l, 0, 0))), some (.inr (some (7, l, i, 0))), none], [.inl v1], (zx_lay M, n)) _
  refine zx_E.go 3 (s' := (7, [some (.inr (some (1, l, 0, 0))), some (.inr (some (7, l, i, 0))), some (.inl v1)], [.inr (some (7, l, i, 0)), .inr (some (1, l, 0, 0))], (zx_lay M, n))) rfl ?_
  refine zx_E.cb (y := 86) (as := [.inr (some (7, l, i, 0))]) (rest := [.inr (some (1, l, 0, 0))]) h rfl (fun _ hv => zx_run_up (by omega) (r_X9_nextBlock (d := d) hv)) (fun v2 h => ?_)
  show zx_E _ _ _ (10, [some (.inr (some (1, l, 0, 0))), some (.inr (some (7, l, i, 0))), some (.inl v1)], [.inl v2, .inr (some (1, l, 0, 0))], (zx_lay M, n)) _
  refine zx_E.cb (y := 36) (as := [.inr (some (1, l, 0, 0)), .inl v2]) (rest := []) h rfl (fun _ hv => zx_run_up (by omega) (r_X2_occupant (d := d) hv)) (fun v3 h => ?_)
  show zx_E _ _ _ (13, [some (.inr (some (1, l, 0, 0))), some (.inr (some (7, l, i, 0))), some (.inl v1)], [.inl v3], (zx_lay M, n)) _
  refine zx_E.go 1 (s' := (15, [some (.inr (some (1, l, 0, 0))), some (.inr (some (7, l, i, 0))), some (.inl v1)], [.inl (-5), .inl v3], (zx_lay M, n))) rfl ?_
  refine zx_E.brh (c := v3 = (-5)) (s1 := (20, [some (.inr (some (1, l, 0, 0))), some (.inr (some (7, l, i, 0))), some (.inl v1)], [], (zx_lay M, n))) (s2 := (18, [some (.inr (some (1, l, 0, 0))), some (.inr (some (7, l, i, 0))), some (.inl v1)], [], (zx_lay M, n))) h (zx_ic_eq rfl) (fun _ h => ?_) (fun _ h => ?_)
  · refine zx_E.go 3 (s' := (25, [some (.inr (some (1, l, 0, 0))), some (.inr (some (7, l, i, 0))), some (.inl v1)], [.inl (M (7, l, i, 0) 3), .inl v1], (zx_lay M, n))) rfl ?_
    refine zx_E.brh (c := v1 = (M (7, l, i, 0) 3)) (s1 := (38, [some (.inr (some (1, l, 0, 0))), some (.inr (some (7, l, i, 0))), some (.inl v1)], [], (zx_lay M, n))) (s2 := (28, [some (.inr (some (1, l, 0, 0))), some (.inr (some (7, l, i, 0))), some (.inl v1)], [], (zx_lay M, n))) h (zx_ic_eq rfl) (fun _ h => ?_) (fun _ h => ?_)
    · refine zx_E.go 2 (s' := (40, [some (.inr (some (1, l, 0, 0))), some (.inr (some (7, l, i, 0))), some (.inl v1)], [.inr (some (7, l, i, 0)), .inr (some (1, l, 0, 0))], (zx_lay M, n))) rfl ?_
      refine zx_E.cb (y := 33) (as := [.inr (some (1, l, 0, 0)), .inr (some (7, l, i, 0))]) (rest := []) h rfl (fun _ hv => zx_run_up (by omega) (r_X2_overHours (d := d) hv)) (fun v4 h => ?_)
      show zx_E _ _ _ (43, [some (.inr (some (1, l, 0, 0))), some (.inr (some (7, l, i, 0))), some (.inl v1)], [.inl v4], (zx_lay M, n)) _
      refine zx_E.brh (c := v4 ≤ 0) (s1 := (51, [some (.inr (some (1, l, 0, 0))), some (.inr (some (7, l, i, 0))), some (.inl v1)], [], (zx_lay M, n))) (s2 := (46, [some (.inr (some (1, l, 0, 0))), some (.inr (some (7, l, i, 0))), some (.inl v1)], [], (zx_lay M, n))) h (zx_if_le rfl) (fun _ h => ?_) (fun _ h => ?_)
      · refine zx_E.go 1 (s' := (53, [some (.inr (some (1, l, 0, 0))), some (.inr (some (7, l, i, 0))), some (.inl v1)], [.inl 8], (zx_lay M, n))) rfl ?_
        exact zx_E.rp h rfl (fun h => absurd h (by decide))
      · refine zx_E.go 2 (s' := (53, [some (.inr (some (1, l, 0, 0))), some (.inr (some (7, l, i, 0))), some (.inl v1)], [.inl 6], (zx_lay M, n))) rfl ?_
        exact zx_E.rp h rfl (fun h => absurd h (by decide))
    · refine zx_E.go 2 (s' := (30, [some (.inr (some (1, l, 0, 0))), some (.inr (some (7, l, i, 0))), some (.inl v1)], [.inl v1, .inr (some (1, l, 0, 0))], (zx_lay M, n))) rfl ?_
      refine zx_E.cb (y := 38) (as := [.inr (some (1, l, 0, 0)), .inl v1]) (rest := []) h rfl (fun _ hv => zx_run_up (by omega) (r_X2_hasFreeTrack (d := d) hv)) (fun v5 h => ?_)
      show zx_E _ _ _ (33, [some (.inr (some (1, l, 0, 0))), some (.inr (some (7, l, i, 0))), some (.inl v1)], [.inl v5], (zx_lay M, n)) _
      refine zx_E.brh (c := v5 = 0) (s1 := (36, [some (.inr (some (1, l, 0, 0))), some (.inr (some (7, l, i, 0))), some (.inl v1)], [], (zx_lay M, n))) (s2 := (38, [some (.inr (some (1, l, 0, 0))), some (.inr (some (7, l, i, 0))), some (.inl v1)], [], (zx_lay M, n))) h (zx_if_ne rfl) (fun _ h => ?_) (fun _ h => ?_)
      · refine zx_E.go 1 (s' := (37, [some (.inr (some (1, l, 0, 0))), some (.inr (some (7, l, i, 0))), some (.inl v1)], [.inl 5], (zx_lay M, n))) rfl ?_
        exact zx_E.rp h rfl (fun h => absurd h (by decide))
      · refine zx_E.go 2 (s' := (40, [some (.inr (some (1, l, 0, 0))), some (.inr (some (7, l, i, 0))), some (.inl v1)], [.inr (some (7, l, i, 0)), .inr (some (1, l, 0, 0))], (zx_lay M, n))) rfl ?_
        refine zx_E.cb (y := 33) (as := [.inr (some (1, l, 0, 0)), .inr (some (7, l, i, 0))]) (rest := []) h rfl (fun _ hv => zx_run_up (by omega) (r_X2_overHours (d := d) hv)) (fun v6 h => ?_)
        show zx_E _ _ _ (43, [some (.inr (some (1, l, 0, 0))), some (.inr (some (7, l, i, 0))), some (.inl v1)], [.inl v6], (zx_lay M, n)) _
        refine zx_E.brh (c := v6 ≤ 0) (s1 := (51, [some (.inr (some (1, l, 0, 0))), some (.inr (some (7, l, i, 0))), some (.inl v1)], [], (zx_lay M, n))) (s2 := (46, [some (.inr (some (1, l, 0, 0))), some (.inr (some (7, l, i, 0))), some (.inl v1)], [], (zx_lay M, n))) h (zx_if_le rfl) (fun _ h => ?_) (fun _ h => ?_)
        · refine zx_E.go 1 (s' := (53, [some (.inr (some (1, l, 0, 0))), some (.inr (some (7, l, i, 0))), some (.inl v1)], [.inl 8], (zx_lay M, n))) rfl ?_
          exact zx_E.rp h rfl (fun h => absurd h (by decide))
        · refine zx_E.go 2 (s' := (53, [some (.inr (some (1, l, 0, 0))), some (.inr (some (7, l, i, 0))), some (.inl v1)], [.inl 6], (zx_lay M, n))) rfl ?_
          exact zx_E.rp h rfl (fun h => absurd h (by decide))
  · refine zx_E.go 1 (s' := (19, [some (.inr (some (1, l, 0, 0))), some (.inr (some (7, l, i, 0))), some (.inl v1)], [.inl 4], (zx_lay M, n))) rfl ?_
    exact zx_E.rp h rfl (fun h => absurd h (by decide))
def g_X2_enter (M : zx_Y) (l : Nat) (i : Nat) (x0 : Int32) : Option zx_Y := (zb (g_X2_hasBlock M l x0) fun v1 => (if v1 = 0 then (some M) else (zb (g_X2_minutesFor M l i x0) fun v2 => (zi x0 7 fun k1 => (zl (zx_up M (5, l, k1, 0) 2 ((M (5, l, k1, 0) 2) + 1)) fun M1 => (zm (g_X9_note M1 l i 1 (M1 (7, l, i, 0) 9) (M1 (1, l, 0, 0) 0)) fun M2 => (zb (g_X9_nextStation M2 l i) fun v3 => (zl (zx_up M2 (7, l, i, 0) 10 v3) fun M3 => (zl (zx_up M3 (7, l, i, 0) 1 2) fun M4 => (zl (zx_up M4 (7, l, i, 0) 11 (M4 (1, l, 0, 0) 0)) fun M5 => (zl (zx_up M5 (7, l, i, 0) 9 x0) fun M6 => (zl (zx_up M6 (7, l, i, 0) 12 ((M6 (1, l, 0, 0) 0) + v2)) fun M7 => (some M7)))))))))))))
set_option maxRecDepth 100000 in
set_option maxHeartbeats 4000000 in
theorem r_X2_enter {X : zx_X} {d n : Nat} {M : zx_Y} {l : Nat} {i : Nat} {x0 : Int32} {rM : zx_Y} (h : g_X2_enter M l i x0 = some rM) : zx_run X (d + 3) 27 [.inr (some (1, l, 0, 0)), .inr (some (7, l, i, 0)), .inl x0] (zx_lay M, n) (none, (zx_lay rM, n)) := by
  refine zx_run_of zc_X2_enter [some (.inr (some (1, l, 0, 0))), some (.inr (some (7, l, i, 0))), some (.inl x0), none] rfl rfl ?_
  unfold g_X2_enter at h
  refine zx_E.go 2 (s' := (2, [some (.inr (some (1, l, 0, 0))), some (.inr (some (7, l, i, 0))), some (.inl x0), none], [.inl x0, .inr (some (1, l, 0, 0))], (zx_lay M, n))) rfl ?_
  refine zx_E.cb (y := 17) (as := [.inr (some (1, l, 0, 0)), .inl x0]) (rest := []) h rfl (fun _ hv => zx_run_up (by omega) (r_X2_hasBlock (d := d) hv)) (fun v1 h => ?_)
  show zx_E _ _ _ (5, [some (.inr (some (1, l, 0, 0))), some (.inr (some (7, l, i, 0))), some (.inl x0), none], [.inl v1], (zx_lay M, n)) _
  refine zx_E.brh (c := v1 = 0) (s1 := (8, [some (.inr (some (1, l, 0, 0))), some (.inr (some (7, l, i, 0))), some (.inl x0), none], [], (zx_lay M, n))) (s2 := (9, [some (.inr (some (1, l, 0, 0))), some (.inr (some (7, l, i, 0))), some (.inl x0), none], [], (zx_lay M, n))) h (zx_if_ne rfl) (fun _ h => ?_) (fun _ h => ?_)
  · exact zx_E.r0 h rfl
  · refine zx_E.go 3 (s' := (12, [some (.inr (some (1, l, 0, 0))), some (.inr (some (7, l, i, 0))), some (.inl x0), none], [.inl x0, .inr (some (7, l, i, 0)), .inr (some (1, l, 0, 0))], (zx_lay M, n))) rfl ?_
    refine zx_E.cb (y := 34) (as := [.inr (some (1, l, 0, 0)), .inr (some (7, l, i, 0)), .inl x0]) (rest := []) h rfl (fun _ hv => zx_run_up (by omega) (r_X2_minutesFor (d := d) hv)) (fun v2 h => ?_)
    show zx_E _ _ _ (15, [some (.inr (some (1, l, 0, 0))), some (.inr (some (7, l, i, 0))), some (.inl x0), none], [.inl v2], (zx_lay M, n)) _
    refine zx_E.go 4 (s' := (21, [some (.inr (some (1, l, 0, 0))), some (.inr (some (7, l, i, 0))), some (.inl x0), some (.inl v2)], [.inl x0, .inr (some (4, l, 0, 0))], (zx_lay M, n))) rfl ?_
    refine zx_E.ix h (fun k1 hx_k1 hl_k1 h => ?_)
    refine zx_E.aald (k := k1) (h := (4, l, 0, 0)) (h' := (5, l, k1, 0)) rfl rfl hx_k1 hl_k1 rfl ?_
    show zx_E _ _ _ (22, [some (.inr (some (1, l, 0, 0))), some (.inr (some (7, l, i, 0))), some (.inl x0), some (.inl v2)], [.inr (some (5, l, k1, 0))], (zx_lay M, n)) _
    refine zx_E.go 3 (s' := (27, [some (.inr (some (1, l, 0, 0))), some (.inr (some (7, l, i, 0))), some (.inl x0), some (.inl v2)], [.inl 1, .inl (M (5, l, k1, 0) 2), .inr (some (5, l, k1, 0))], (zx_lay M, n))) rfl ?_
    refine zx_E.go 1 (s' := (28, [some (.inr (some (1, l, 0, 0))), some (.inr (some (7, l, i, 0))), some (.inl x0), some (.inl v2)], [.inl ((M (5, l, k1, 0) 2) + 1), .inr (some (5, l, k1, 0))], (zx_lay M, n))) rfl ?_
    refine zx_E.pu h rfl rfl (fun h => absurd h (by decide)) (fun M1 h => ?_)
    show zx_E _ _ _ (31, [some (.inr (some (1, l, 0, 0))), some (.inr (some (7, l, i, 0))), some (.inl x0), some (.inl v2)], [], (zx_lay M1, n)) _
    refine zx_E.go 6 (s' := (41, [some (.inr (some (1, l, 0, 0))), some (.inr (some (7, l, i, 0))), some (.inl x0), some (.inl v2)], [.inl (M1 (1, l, 0, 0) 0), .inl (M1 (7, l, i, 0) 9), .inl 1, .inr (some (7, l, i, 0))], (zx_lay M1, n))) rfl ?_
    refine zx_E.cm (y := 91) (as := [.inr (some (7, l, i, 0)), .inl 1, .inl (M1 (7, l, i, 0) 9), .inl (M1 (1, l, 0, 0) 0)]) (rest := []) h rfl (fun _ hv => zx_run_up (by omega) (r_X9_note (d := d) hv)) (fun M2 h => ?_)
    show zx_E _ _ _ (44, [some (.inr (some (1, l, 0, 0))), some (.inr (some (7, l, i, 0))), some (.inl x0), some (.inl v2)], [], (zx_lay M2, n)) _
    refine zx_E.go 2 (s' := (46, [some (.inr (some (1, l, 0, 0))), some (.inr (some (7, l, i, 0))), some (.inl x0), some (.inl v2)], [.inr (some (7, l, i, 0)), .inr (some (7, l, i, 0))], (zx_lay M2, n))) rfl ?_
    refine zx_E.cb (y := 87) (as := [.inr (some (7, l, i, 0))]) (rest := [.inr (some (7, l, i, 0))]) h rfl (fun _ hv => zx_run_up (by omega) (r_X9_nextStation (d := d) hv)) (fun v3 h => ?_)
    show zx_E _ _ _ (49, [some (.inr (some (1, l, 0, 0))), some (.inr (some (7, l, i, 0))), some (.inl x0), some (.inl v2)], [.inl v3, .inr (some (7, l, i, 0))], (zx_lay M2, n)) _
    refine zx_E.pu h rfl rfl (fun h => absurd h (by decide)) (fun M3 h => ?_)
    show zx_E _ _ _ (52, [some (.inr (some (1, l, 0, 0))), some (.inr (some (7, l, i, 0))), some (.inl x0), some (.inl v2)], [], (zx_lay M3, n)) _
    refine zx_E.go 2 (s' := (54, [some (.inr (some (1, l, 0, 0))), some (.inr (some (7, l, i, 0))), some (.inl x0), some (.inl v2)], [.inl 2, .inr (some (7, l, i, 0))], (zx_lay M3, n))) rfl ?_
    refine zx_E.pu h rfl rfl (fun h => absurd h (by decide)) (fun M4 h => ?_)
    show zx_E _ _ _ (57, [some (.inr (some (1, l, 0, 0))), some (.inr (some (7, l, i, 0))), some (.inl x0), some (.inl v2)], [], (zx_lay M4, n)) _
    refine zx_E.go 3 (s' := (62, [some (.inr (some (1, l, 0, 0))), some (.inr (some (7, l, i, 0))), some (.inl x0), some (.inl v2)], [.inl (M4 (1, l, 0, 0) 0), .inr (some (7, l, i, 0))], (zx_lay M4, n))) rfl ?_
    refine zx_E.pu h rfl rfl (fun h => absurd h (by decide)) (fun M5 h => ?_)
    show zx_E _ _ _ (65, [some (.inr (some (1, l, 0, 0))), some (.inr (some (7, l, i, 0))), some (.inl x0), some (.inl v2)], [], (zx_lay M5, n)) _
    refine zx_E.go 2 (s' := (67, [some (.inr (some (1, l, 0, 0))), some (.inr (some (7, l, i, 0))), some (.inl x0), some (.inl v2)], [.inl x0, .inr (some (7, l, i, 0))], (zx_lay M5, n))) rfl ?_
    refine zx_E.pu h rfl rfl (fun h => absurd h (by decide)) (fun M6 h => ?_)
    show zx_E _ _ _ (70, [some (.inr (some (1, l, 0, 0))), some (.inr (some (7, l, i, 0))), some (.inl x0), some (.inl v2)], [], (zx_lay M6, n)) _
    refine zx_E.go 4 (s' := (76, [some (.inr (some (1, l, 0, 0))), some (.inr (some (7, l, i, 0))), some (.inl x0), some (.inl v2)], [.inl v2, .inl (M6 (1, l, 0, 0) 0), .inr (some (7, l, i, 0))], (zx_lay M6, n))) rfl ?_
    refine zx_E.go 1 (s' := (77, [some (.inr (some (1, l, 0, 0))), some (.inr (some (7, l, i, 0))), some (.inl x0), some (.inl v2)], [.inl ((M6 (1, l, 0, 0) 0) + v2), .inr (some (7, l, i, 0))], (zx_lay M6, n))) rfl ?_
    refine zx_E.pu h rfl rfl (fun h => absurd h (by decide)) (fun M7 h => ?_)
    show zx_E _ _ _ (80, [some (.inr (some (1, l, 0, 0))), some (.inr (some (7, l, i, 0))), some (.inl x0), some (.inl v2)], [], (zx_lay M7, n)) _
    exact zx_E.r0 h rfl
def g_X2_isCrewAlone (M : zx_Y) (l : Nat) (i : Nat) (x0 : Int32) : Option Int32 := (if x0 = 6 then (zb (g_X9_nextBlock M l i) fun v1 => (zb (g_X2_minutesFor M l i v1) fun v2 => (if (M (7, l, i, 0) 7) < v2 then (some 0) else (some 1)))) else (some 0))
set_option maxRecDepth 100000 in
set_option maxHeartbeats 4000000 in
theorem r_X2_isCrewAlone {X : zx_X} {d n : Nat} {M : zx_Y} {l : Nat} {i : Nat} {x0 : Int32} {rv : Int32} (h : g_X2_isCrewAlone M l i x0 = some rv) : zx_run X (d + 3) 32 [.inr (some (1, l, 0, 0)), .inr (some (7, l, i, 0)), .inl x0] (zx_lay M, n) (some (.inl rv), (zx_lay M, n)) := by
  refine zx_run_of zc_X2_isCrewAlone [some (.inr (some (1, l, 0, 0))), some (.inr (some (7, l, i, 0))), some (.inl x0)] rfl rfl ?_
  unfold g_X2_isCrewAlone at h
  refine zx_E.go 2 (s' := (3, [some (.inr (some (1, l, 0, 0))), some (.inr (some (7, l, i, 0))), some (.inl x0)], [.inl 6, .inl x0], (zx_lay M, n))) rfl ?_
  refine zx_E.brh (c := x0 = 6) (s1 := (6, [some (.inr (some (1, l, 0, 0))), some (.inr (some (7, l, i, 0))), some (.inl x0)], [], (zx_lay M, n))) (s2 := (26, [some (.inr (some (1, l, 0, 0))), some (.inr (some (7, l, i, 0))), some (.inl x0)], [], (zx_lay M, n))) h (zx_ic_ne rfl) (fun _ h => ?_) (fun _ h => ?_)
  · refine zx_E.go 3 (s' := (9, [some (.inr (some (1, l, 0, 0))), some (.inr (some (7, l, i, 0))), some (.inl x0)], [.inr (some (7, l, i, 0)), .inr (some (7, l, i, 0)), .inr (some (1, l, 0, 0))], (zx_lay M, n))) rfl ?_
    refine zx_E.cb (y := 86) (as := [.inr (some (7, l, i, 0))]) (rest := [.inr (some (7, l, i, 0)), .inr (some (1, l, 0, 0))]) h rfl (fun _ hv => zx_run_up (by omega) (r_X9_nextBlock (d := d) hv)) (fun v1 h => ?_)
    show zx_E _ _ _ (12, [some (.inr (some (1, l, 0, 0))), some (.inr (some (7, l, i, 0))), some (.inl x0)], [.inl v1, .inr (some (7, l, i, 0)), .inr (some (1, l, 0, 0))], (zx_lay M, n)) _
    refine zx_E.cb (y := 34) (as := [.inr (some (1, l, 0, 0)), .inr (some (7, l, i, 0)), .inl v1]) (rest := []) h rfl (fun _ hv => zx_run_up (by omega) (r_X2_minutesFor (d := d) hv)) (fun v2 h => ?_)
    show zx_E _ _ _ (15, [some (.inr (some (1, l, 0, 0))), some (.inr (some (7, l, i, 0))), some (.inl x0)], [.inl v2], (zx_lay M, n)) _
    refine zx_E.go 2 (s' := (19, [some (.inr (some (1, l, 0, 0))), some (.inr (some (7, l, i, 0))), some (.inl x0)], [.inl (M (7, l, i, 0) 7), .inl v2], (zx_lay M, n))) rfl ?_
    refine zx_E.brh (c := (M (7, l, i, 0) 7) < v2) (s1 := (26, [some (.inr (some (1, l, 0, 0))), some (.inr (some (7, l, i, 0))), some (.inl x0)], [], (zx_lay M, n))) (s2 := (22, [some (.inr (some (1, l, 0, 0))), some (.inr (some (7, l, i, 0))), some (.inl x0)], [], (zx_lay M, n))) h (zx_ic_gt rfl) (fun _ h => ?_) (fun _ h => ?_)
    · refine zx_E.go 1 (s' := (27, [some (.inr (some (1, l, 0, 0))), some (.inr (some (7, l, i, 0))), some (.inl x0)], [.inl 0], (zx_lay M, n))) rfl ?_
      exact zx_E.rp h rfl (fun _ => Or.inl rfl)
    · refine zx_E.go 2 (s' := (27, [some (.inr (some (1, l, 0, 0))), some (.inr (some (7, l, i, 0))), some (.inl x0)], [.inl 1], (zx_lay M, n))) rfl ?_
      exact zx_E.rp h rfl (fun _ => Or.inr rfl)
  · refine zx_E.go 1 (s' := (27, [some (.inr (some (1, l, 0, 0))), some (.inr (some (7, l, i, 0))), some (.inl x0)], [.inl 0], (zx_lay M, n))) rfl ?_
    exact zx_E.rp h rfl (fun _ => Or.inl rfl)
def g_X2_beginRelief (M : zx_Y) (l : Nat) (i : Nat) : Option zx_Y := (zb (g_X2_hasStation M l (M (7, l, i, 0) 9)) fun v1 => (if v1 = 0 then (some M) else (zi (M (7, l, i, 0) 9) 8 fun k1 => (if (M (3, l, k1, 0) 1) = 0 then (zl (zx_up M (7, l, i, 0) 1 3) fun M1 => (zl (zx_up M1 (7, l, i, 0) 11 (M1 (1, l, 0, 0) 0)) fun M2 => (zl (zx_up M2 (7, l, i, 0) 12 ((M2 (1, l, 0, 0) 0) + (zmax 1 (3 * (M (1, l, 0, 0) 2))))) fun M3 => (zl (zx_up M3 (7, l, i, 0) 14 (-5)) fun M4 => (zl (zx_up M4 (7, l, i, 0) 8 ((M4 (7, l, i, 0) 8) + 1)) fun M5 => (some M5)))))) else (zl (zx_up M (7, l, i, 0) 1 3) fun M6 => (zl (zx_up M6 (7, l, i, 0) 11 (M6 (1, l, 0, 0) 0)) fun M7 => (zl (zx_up M7 (7, l, i, 0) 12 ((M7 (1, l, 0, 0) 0) + (zmax 1 (M (1, l, 0, 0) 2)))) fun M8 => (zl (zx_up M8 (7, l, i, 0) 14 (-5)) fun M9 => (zl (zx_up M9 (7, l, i, 0) 8 ((M9 (7, l, i, 0) 8) + 1)) fun M10 => (some M10))))))))))
set_option maxRecDepth 100000 in
set_option maxHeartbeats 4000000 in
theorem r_X2_beginRelief {X : zx_X} {d n : Nat} {M : zx_Y} {l : Nat} {i : Nat} {rM : zx_Y} (h : g_X2_beginRelief M l i = some rM) : zx_run X (d + 2) 28 [.inr (some (1, l, 0, 0)), .inr (some (7, l, i, 0))] (zx_lay M, n) (none, (zx_lay rM, n)) := by
  refine zx_run_of zc_X2_beginRelief [some (.inr (some (1, l, 0, 0))), some (.inr (some (7, l, i, 0))), none] rfl rfl ?_
  unfold g_X2_beginRelief at h
  refine zx_E.go 3 (s' := (5, [some (.inr (some (1, l, 0, 0))), some (.inr (some (7, l, i, 0))), none], [.inl (M (7, l, i, 0) 9), .inr (some (1, l, 0, 0))], (zx_lay M, n))) rfl ?_
  refine zx_E.cb (y := 16) (as := [.inr (some (1, l, 0, 0)), .inl (M (7, l, i, 0) 9)]) (rest := []) h rfl (fun _ hv => zx_run_up (by omega) (r_X2_hasStation (d := d) hv)) (fun v1 h => ?_)
  show zx_E _ _ _ (8, [some (.inr (some (1, l, 0, 0))), some (.inr (some (7, l, i, 0))), none], [.inl v1], (zx_lay M, n)) _
  refine zx_E.brh (c := v1 = 0) (s1 := (11, [some (.inr (some (1, l, 0, 0))), some (.inr (some (7, l, i, 0))), none], [], (zx_lay M, n))) (s2 := (12, [some (.inr (some (1, l, 0, 0))), some (.inr (some (7, l, i, 0))), none], [], (zx_lay M, n))) h (zx_if_ne rfl) (fun _ h => ?_) (fun _ h => ?_)
  · exact zx_E.r0 h rfl
  · refine zx_E.go 4 (s' := (20, [some (.inr (some (1, l, 0, 0))), some (.inr (some (7, l, i, 0))), none], [.inl (M (7, l, i, 0) 9), .inr (some (2, l, 0, 0))], (zx_lay M, n))) rfl ?_
    refine zx_E.ix h (fun k1 hx_k1 hl_k1 h => ?_)
    refine zx_E.aald (k := k1) (h := (2, l, 0, 0)) (h' := (3, l, k1, 0)) rfl rfl hx_k1 hl_k1 rfl ?_
    show zx_E _ _ _ (21, [some (.inr (some (1, l, 0, 0))), some (.inr (some (7, l, i, 0))), none], [.inr (some (3, l, k1, 0))], (zx_lay M, n)) _
    refine zx_E.go 1 (s' := (24, [some (.inr (some (1, l, 0, 0))), some (.inr (some (7, l, i, 0))), none], [.inl (M (3, l, k1, 0) 1)], (zx_lay M, n))) rfl ?_
    refine zx_E.brh (c := (M (3, l, k1, 0) 1) = 0) (s1 := (34, [some (.inr (some (1, l, 0, 0))), some (.inr (some (7, l, i, 0))), none], [], (zx_lay M, n))) (s2 := (27, [some (.inr (some (1, l, 0, 0))), some (.inr (some (7, l, i, 0))), none], [], (zx_lay M, n))) h (zx_if_eq rfl) (fun _ h => ?_) (fun _ h => ?_)
    · refine zx_E.go 3 (s' := (39, [some (.inr (some (1, l, 0, 0))), some (.inr (some (7, l, i, 0))), none], [.inl (M (1, l, 0, 0) 2), .inl 3], (zx_lay M, n))) rfl ?_
      refine zx_E.go 4 (s' := (43, [some (.inr (some (1, l, 0, 0))), some (.inr (some (7, l, i, 0))), some (.inl (3 * (M (1, l, 0, 0) 2)))], [.inl 3, .inr (some (7, l, i, 0))], (zx_lay M, n))) rfl ?_
      refine zx_E.pu h rfl rfl (fun h => absurd h (by decide)) (fun M1 h => ?_)
      show zx_E _ _ _ (46, [some (.inr (some (1, l, 0, 0))), some (.inr (some (7, l, i, 0))), some (.inl (3 * (M (1, l, 0, 0) 2)))], [], (zx_lay M1, n)) _
      refine zx_E.go 3 (s' := (51, [some (.inr (some (1, l, 0, 0))), some (.inr (some (7, l, i, 0))), some (.inl (3 * (M (1, l, 0, 0) 2)))], [.inl (M1 (1, l, 0, 0) 0), .inr (some (7, l, i, 0))], (zx_lay M1, n))) rfl ?_
      refine zx_E.pu h rfl rfl (fun h => absurd h (by decide)) (fun M2 h => ?_)
      show zx_E _ _ _ (54, [some (.inr (some (1, l, 0, 0))), some (.inr (some (7, l, i, 0))), some (.inl (3 * (M (1, l, 0, 0) 2)))], [], (zx_lay M2, n)) _
      refine zx_E.go 5 (s' := (61, [some (.inr (some (1, l, 0, 0))), some (.inr (some (7, l, i, 0))), some (.inl (3 * (M (1, l, 0, 0) 2)))], [.inl (3 * (M (1, l, 0, 0) 2)), .inl 1, .inl (M2 (1, l, 0, 0) 0), .inr (some (7, l, i, 0))], (zx_lay M2, n))) rfl ?_
      refine zx_E.go 2 (s' := (65, [some (.inr (some (1, l, 0, 0))), some (.inr (some (7, l, i, 0))), some (.inl (3 * (M (1, l, 0, 0) 2)))], [.inl ((M2 (1, l, 0, 0) 0) + (zmax 1 (3 * (M (1, l, 0, 0) 2)))), .inr (some (7, l, i, 0))], (zx_lay M2, n))) rfl ?_
      refine zx_E.pu h rfl rfl (fun h => absurd h (by decide)) (fun M3 h => ?_)
      show zx_E _ _ _ (68, [some (.inr (some (1, l, 0, 0))), some (.inr (some (7, l, i, 0))), some (.inl (3 * (M (1, l, 0, 0) 2)))], [], (zx_lay M3, n)) _
      refine zx_E.go 2 (s' := (71, [some (.inr (some (1, l, 0, 0))), some (.inr (some (7, l, i, 0))), some (.inl (3 * (M (1, l, 0, 0) 2)))], [.inl (-5), .inr (some (7, l, i, 0))], (zx_lay M3, n))) rfl ?_
      refine zx_E.pu h rfl rfl (fun h => absurd h (by decide)) (fun M4 h => ?_)
      show zx_E _ _ _ (74, [some (.inr (some (1, l, 0, 0))), some (.inr (some (7, l, i, 0))), some (.inl (3 * (M (1, l, 0, 0) 2)))], [], (zx_lay M4, n)) _
      refine zx_E.go 4 (s' := (80, [some (.inr (some (1, l, 0, 0))), some (.inr (some (7, l, i, 0))), some (.inl (3 * (M (1, l, 0, 0) 2)))], [.inl 1, .inl (M4 (7, l, i, 0) 8), .inr (some (7, l, i, 0))], (zx_lay M4, n))) rfl ?_
      refine zx_E.go 1 (s' := (81, [some (.inr (some (1, l, 0, 0))), some (.inr (some (7, l, i, 0))), some (.inl (3 * (M (1, l, 0, 0) 2)))], [.inl ((M4 (7, l, i, 0) 8) + 1), .inr (some (7, l, i, 0))], (zx_lay M4, n))) rfl ?_
      refine zx_E.pu h rfl rfl (fun h => absurd h (by decide)) (fun M5 h => ?_)
      show zx_E _ _ _ (84, [some (.inr (some (1, l, 0, 0))), some (.inr (some (7, l, i, 0))), some (.inl (3 * (M (1, l, 0, 0) 2)))], [], (zx_lay M5, n)) _
      exact zx_E.r0 h rfl
    · refine zx_E.go 6 (s' := (43, [some (.inr (some (1, l, 0, 0))), some (.inr (some (7, l, i, 0))), some (.inl (M (1, l, 0, 0) 2))], [.inl 3, .inr (some (7, l, i, 0))], (zx_lay M, n))) rfl ?_
      refine zx_E.pu h rfl rfl (fun h => absurd h (by decide)) (fun M6 h => ?_)
      show zx_E _ _ _ (46, [some (.inr (some (1, l, 0, 0))), some (.inr (some (7, l, i, 0))), some (.inl (M (1, l, 0, 0) 2))], [], (zx_lay M6, n)) _
      refine zx_E.go 3 (s' := (51, [some (.inr (some (1, l, 0, 0))), some (.inr (some (7, l, i, 0))), some (.inl (M (1, l, 0, 0) 2))], [.inl (M6 (1, l, 0, 0) 0), .inr (some (7, l, i, 0))], (zx_lay M6, n))) rfl ?_
      refine zx_E.pu h rfl rfl (fun h => absurd h (by decide)) (fun M7 h => ?_)
      show zx_E _ _ _ (54, [some (.inr (some (1, l, 0, 0))), some (.inr (some (7, l, i, 0))), some (.inl (M (1, l, 0, 0) 2))], [], (zx_lay M7, n)) _
      refine zx_E.go 5 (s' := (61, [some (.inr (some (1, l, 0, 0))), some (.inr (some (7, l, i, 0))), some (.inl (M (1, l, 0, 0) 2))], [.inl (M (1, l, 0, 0) 2), .inl 1, .inl (M7 (1, l, 0, 0) 0), .inr (some (7, l, i, 0))], (zx_lay M7, n))) rfl ?_
      refine zx_E.go 2 (s' := (65, [some (.inr (some (1, l, 0, 0))), some (.inr (some (7, l, i, 0))), some (.inl (M (1, l, 0, 0) 2))], [.inl ((M7 (1, l, 0, 0) 0) + (zmax 1 (M (1, l, 0, 0) 2))), .inr (some (7, l, i, 0))], (zx_lay M7, n))) rfl ?_
      refine zx_E.pu h rfl rfl (fun h => absurd h (by decide)) (fun M8 h => ?_)
      show zx_E _ _ _ (68, [some (.inr (some (1, l, 0, 0))), some (.inr (some (7, l, i, 0))), some (.inl (M (1, l, 0, 0) 2))], [], (zx_lay M8, n)) _
      refine zx_E.go 2 (s' := (71, [some (.inr (some (1, l, 0, 0))), some (.inr (some (7, l, i, 0))), some (.inl (M (1, l, 0, 0) 2))], [.inl (-5), .inr (some (7, l, i, 0))], (zx_lay M8, n))) rfl ?_
      refine zx_E.pu h rfl rfl (fun h => absurd h (by decide)) (fun M9 h => ?_)
      show zx_E _ _ _ (74, [some (.inr (some (1, l, 0, 0))), some (.inr (some (7, l, i, 0))), some (.inl (M (1, l, 0, 0) 2))], [], (zx_lay M9, n)) _
      refine zx_E.go 4 (s' := (80, [some (.inr (some (1, l, 0, 0))), some (.inr (some (7, l, i, 0))), some (.inl (M (1, l, 0, 0) 2))], [.inl 1, .inl (M9 (7, l, i, 0) 8), .inr (some (7, l, i, 0))], (zx_lay M9, n))) rfl ?_
      refine zx_E.go 1 (s' := (81, [some (.inr (some (1, l, 0, 0))), some (.inr (some (7, l, i, 0))), some (.inl (M (1, l, 0, 0) 2))], [.inl ((M9 (7, l, i, 0) 8) + 1), .inr (some (7, l, i, 0))], (zx_lay M9, n))) rfl ?_
      refine zx_E.pu h rfl rfl (fun h => absurd h (by decide)) (fun M10 h => ?_)
      show zx_E _ _ _ (84, [some (.inr (some (1, l, 0, 0))), some (.inr (some (7, l, i, 0))), some (.inl (M (1, l, 0, 0) 2))], [], (zx_lay M10, n)) _
      exact zx_E.r0 h rfl
def lg_X2_dispatchTrains_6 (l : Nat) (kk : Int32 → zx_Y → Option zx_Y) : Nat → Int32 → zx_Y → Option zx_Y
  | 0, _, _ => none
  | q + 1, w1, M => (if (M (1, l, 0, 0) 11) ≤ w1 then (kk w1 M) else (zi w1 10 fun k1 => (zi (M (10, l, 0, 0) k1) 10 fun k2 => (zb (g_X2_obstacleOf M l k2) fun v1 => (if v1 = 8 then (zb (g_X9_nextBlock M l k2) fun v2 => (zm (g_X2_enter M l k2 v2) fun M1 => (lg_X2_dispatchTrains_6 l kk q (w1 + 1) M1))) else (zb (g_X2_isCrewAlone M l k2 v1) fun v3 => (if v3 = 0 then (lg_X2_dispatchTrains_6 l kk q (w1 + 1) M) else (zm (g_X2_beginRelief M l k2) fun M2 => (lg_X2_dispatchTrains_6 l kk q (w1 + 1) M2)))))))))
set_option maxRecDepth 100000 in
set_option maxHeartbeats 4000000 in
theorem rl_X2_dispatchTrains_6 {X : zx_X} {d n : Nat} {l : Nat} {kk : Int32 → zx_Y → Option zx_Y} {rM : zx_Y} (hk : ∀ (w1 : Int32) (M : zx_Y) (e2 : Option zx_V) (e3 : Option zx_V), kk w1 M = some rM → zx_E X (d + 4) zc_X2_dispatchTrains (70, [some (.inr (some (1, l, 0, 0))), some (.inl w1), e2, e3], [], (zx_lay M, n)) (none, (zx_lay rM, n))) : ∀ (q : Nat) (g2 : Option zx_V) (g3 : Option zx_V) (w1 : Int32) (M : zx_Y), lg_X2_dispatchTrains_6 l kk q w1 M = some rM → zx_E X (d + 4) zc_X2_dispatchTrains (6, [some (.inr (some (1, l, 0, 0))), some (.inl w1), g2, g3], [], (zx_lay M, n)) (none, (zx_lay rM, n))
  | 0, g2, g3, w1, M, h => by
    rw [lg_X2_dispatchTrains_6.eq_1] at h
    cases h
  | q + 1, g2, g3, w1, M, h => by
    rw [lg_X2_dispatchTrains_6.eq_2] at h
    refine zx_E.go 3 (s' := (11, [some (.inr (some (1, l, 0, 0))), some (.inl w1), g2, g3], [.inl (M (1, l, 0, 0) 11), .inl w1], (zx_lay M, n))) rfl ?_
    refine zx_E.brh (c := (M (1, l, 0, 0) 11) ≤ w1) (s1 := (70, [some (.inr (some (1, l, 0, 0))), some (.inl w1), g2, g3], [], (zx_lay M, n))) (s2 := (14, [some (.inr (some (1, l, 0, 0))), some (.inl w1), g2, g3], [], (zx_lay M, n))) h (zx_ic_ge rfl) (fun _ h => ?_) (fun _ h => ?_)
    · exact hk _ _ _ _ h
    · refine zx_E.go 5 (s' := (23, [some (.inr (some (1, l, 0, 0))), some (.inl w1), g2, g3], [.inl w1, .inr (some (10, l, 0, 0)), .inr (some (6, l, 0, 0))], (zx_lay M, n))) rfl ?_
      refine zx_E.ix h (fun k1 hx_k1 hl_k1 h => ?_)
      refine zx_E.iald (k := k1) (h := (10, l, 0, 0)) rfl rfl hx_k1 hl_k1 ?_
      show zx_E _ _ _ (24, [some (.inr (some (1, l, 0, 0))), some (.inl w1), g2, g3], [.inl (M (10, l, 0, 0) k1), .inr (some (6, l, 0, 0))], (zx_lay M, n)) _
      refine zx_E.ix h (fun k2 hx_k2 hl_k2 h => ?_)
      refine zx_E.aald (k := k2) (h := (6, l, 0, 0)) (h' := (7, l, k2, 0)) rfl rfl hx_k2 hl_k2 rfl ?_
      show zx_E _ _ _ (25, [some (.inr (some (1, l, 0, 0))), some (.inl w1), g2, g3], [.inr (some (7, l, k2, 0))], (zx_lay M, n)) _
      refine zx_E.go 3 (s' := (28, [some (.inr (some (1, l, 0, 0))), some (.inl w1), some (.inr (some (7, l, k2, 0))), g3], [.inr (some (7, l, k2, 0)), .inr (some (1, l, 0, 0))], (zx_lay M, n))) rfl ?_
      refine zx_E.cb (y := 31) (as := [.inr (some (1, l, 0, 0)), .inr (some (7, l, k2, 0))]) (rest := []) h rfl (fun _ hv => zx_run_up (by omega) (r_X2_obstacleOf (d := d) hv)) (fun v1 h => ?_)
      show zx_E _ _ _ (31, [some (.inr (some (1, l, 0, 0))), some (.inl w1), some (.inr (some (7, l, k2, 0))), g3], [.inl v1], (zx_lay M, n)) _
      refine zx_E.go 3 (s' := (35, [some (.inr (some (1, l, 0, 0))), some (.inl w1), some (.inr (some (7, l, k2, 0))), some (.inl v1)], [.inl 8, .inl v1], (zx_lay M, n))) rfl ?_
      refine zx_E.brh (c := v1 = 8) (s1 := (38, [some (.inr (some (1, l, 0, 0))), some (.inl w1), some (.inr (some (7, l, k2, 0))), some (.inl v1)], [], (zx_lay M, n))) (s2 := (50, [some (.inr (some (1, l, 0, 0))), some (.inl w1), some (.inr (some (7, l, k2, 0))), some (.inl v1)], [], (zx_lay M, n))) h (zx_ic_ne rfl) (fun _ h => ?_) (fun _ h => ?_)
      · refine zx_E.go 3 (s' := (41, [some (.inr (some (1, l, 0, 0))), some (.inl w1), some (.inr (some (7, l, k2, 0))), some (.inl v1)], [.inr (some (7, l, k2, 0)), .inr (some (7, l, k2, 0)), .inr (some (1, l, 0, 0))], (zx_lay M, n))) rfl ?_
        refine zx_E.cb (y := 86) (as := [.inr (some (7, l, k2, 0))]) (rest := [.inr (some (7, l, k2, 0)), .inr (some (1, l, 0, 0))]) h rfl (fun _ hv => zx_run_up (by omega) (r_X9_nextBlock (d := d) hv)) (fun v2 h => ?_)
        show zx_E _ _ _ (44, [some (.inr (some (1, l, 0, 0))), some (.inl w1), some (.inr (some (7, l, k2, 0))), some (.inl v1)], [.inl v2, .inr (some (7, l, k2, 0)), .inr (some (1, l, 0, 0))], (zx_lay M, n)) _
        refine zx_E.cm (y := 27) (as := [.inr (some (1, l, 0, 0)), .inr (some (7, l, k2, 0)), .inl v2]) (rest := []) h rfl (fun _ hv => zx_run_up (by omega) (r_X2_enter (d := d) hv)) (fun M1 h => ?_)
        show zx_E _ _ _ (47, [some (.inr (some (1, l, 0, 0))), some (.inl w1), some (.inr (some (7, l, k2, 0))), some (.inl v1)], [], (zx_lay M1, n)) _
        refine zx_E.go 3 (s' := (6, [some (.inr (some (1, l, 0, 0))), some (.inl (w1 + 1)), some (.inr (some (7, l, k2, 0))), some (.inl v1)], [], (zx_lay M1, n))) rfl ?_
        exact rl_X2_dispatchTrains_6 hk q _ _ (w1 + 1) M1 h
      · refine zx_E.go 3 (s' := (53, [some (.inr (some (1, l, 0, 0))), some (.inl w1), some (.inr (some (7, l, k2, 0))), some (.inl v1)], [.inl v1, .inr (some (7, l, k2, 0)), .inr (some (1, l, 0, 0))], (zx_lay M, n))) rfl ?_
        refine zx_E.cb (y := 32) (as := [.inr (some (1, l, 0, 0)), .inr (some (7, l, k2, 0)), .inl v1]) (rest := []) h rfl (fun _ hv => zx_run_up (by omega) (r_X2_isCrewAlone (d := d) hv)) (fun v3 h => ?_)
        show zx_E _ _ _ (56, [some (.inr (some (1, l, 0, 0))), some (.inl w1), some (.inr (some (7, l, k2, 0))), some (.inl v1)], [.inl v3], (zx_lay M, n)) _
        refine zx_E.brh (c := v3 = 0) (s1 := (64, [some (.inr (some (1, l, 0, 0))), some (.inl w1), some (.inr (some (7, l, k2, 0))), some (.inl v1)], [], (zx_lay M, n))) (s2 := (59, [some (.inr (some (1, l, 0, 0))), some (.inl w1), some (.inr (some (7, l, k2, 0))), some (.inl v1)], [], (zx_lay M, n))) h (zx_if_eq rfl) (fun _ h => ?_) (fun _ h => ?_)
        · refine zx_E.go 2 (s' := (6, [some (.inr (some (1, l, 0, 0))), some (.inl (w1 + 1)), some (.inr (some (7, l, k2, 0))), some (.inl v1)], [], (zx_lay M, n))) rfl ?_
          exact rl_X2_dispatchTrains_6 hk q _ _ (w1 + 1) M h
        · refine zx_E.go 2 (s' := (61, [some (.inr (some (1, l, 0, 0))), some (.inl w1), some (.inr (some (7, l, k2, 0))), some (.inl v1)], [.inr (some (7, l, k2, 0)), .inr (some (1, l, 0, 0))], (zx_lay M, n))) rfl ?_
          refine zx_E.cm (y := 28) (as := [.inr (some (1, l, 0, 0)), .inr (some (7, l, k2, 0))]) (rest := []) h rfl (fun _ hv => zx_run_up (by omega) (r_X2_beginRelief (d := d) hv)) (fun M2 h => ?_)
          show zx_E _ _ _ (64, [some (.inr (some (1, l, 0, 0))), some (.inl w1), some (.inr (some (7, l, k2, 0))), some (.inl v1)], [], (zx_lay M2, n)) _
          refine zx_E.go 2 (s' := (6, [some (.inr (some (1, l, 0, 0))), some (.inl (w1 + 1)), some (.inr (some (7, l, k2, 0))), some (.inl v1)], [], (zx_lay M2, n))) rfl ?_
          exact rl_X2_dispatchTrains_6 hk q _ _ (w1 + 1) M2 h
def g_X2_dispatchTrains (M : zx_Y) (l : Nat) : Option zx_Y := (zm (g_X2_rank M l) fun M1 => (lg_X2_dispatchTrains_6 l (fun v1 M2 => (some M2)) 1000 0 M1))
set_option maxRecDepth 100000 in
set_option maxHeartbeats 4000000 in
theorem r_X2_dispatchTrains {X : zx_X} {d n : Nat} {M : zx_Y} {l : Nat} {rM : zx_Y} (h : g_X2_dispatchTrains M l = some rM) : zx_run X (d + 5) 26 [.inr (some (1, l, 0, 0))] (zx_lay M, n) (none, (zx_lay rM, n)) := by
  refine zx_run_of zc_X2_dispatchTrains [some (.inr (some (1, l, 0, 0))), none, none, none] rfl rfl ?_
  unfold g_X2_dispatchTrains at h
  refine zx_E.go 1 (s' := (1, [some (.inr (some (1, l, 0, 0))), none, none, none], [.inr (some (1, l, 0, 0))], (zx_lay M, n))) rfl ?_
  refine zx_E.cm (y := 29) (as := [.inr (some (1, l, 0, 0))]) (rest := []) h rfl (fun _ hv => zx_run_up (by omega) (r_X2_rank (d := d) hv)) (fun M1 h => ?_)
  show zx_E _ _ _ (4, [some (.inr (some (1, l, 0, 0))), none, none, none], [], (zx_lay M1, n)) _
  refine zx_E.go 2 (s' := (6, [some (.inr (some (1, l, 0, 0))), some (.inl 0), none, none], [], (zx_lay M1, n))) rfl ?_
  refine rl_X2_dispatchTrains_6 (fun v1 M2 e1 e2 h => ?_) 1000 _ _ 0 M1 h
  exact zx_E.r0 h rfl
def lg_X2_advance_2 (l : Nat) (x0 : Int32) (kk : Int32 → zx_Y → Option zx_Y) : Nat → Int32 → zx_Y → Option zx_Y
  | 0, _, _ => none
  | q + 1, w2, M => (if x0 ≤ w2 then (kk w2 M) else (zm (g_X2_countMinute M l) fun M1 => (zl (zx_up M1 (1, l, 0, 0) 0 ((M1 (1, l, 0, 0) 0) + 1)) fun M2 => (zm (g_X2_endRuns M2 l) fun M3 => (zm (g_X2_admitTrains M3 l) fun M4 => (zm (g_X2_endReliefs M4 l) fun M5 => (zm (g_X2_dispatchTrains M5 l) fun M6 => (lg_X2_advance_2 l x0 kk q (w2 + 1) M6))))))))
set_option maxRecDepth 100000 in
set_option maxHeartbeats 4000000 in
theorem rl_X2_advance_2 {X : zx_X} {d n : Nat} {l : Nat} {x0 : Int32} {kk : Int32 → zx_Y → Option zx_Y} {rM : zx_Y} (hk : ∀ (w2 : Int32) (M : zx_Y), kk w2 M = some rM → zx_E X (d + 5) zc_X2_advance (43, [some (.inr (some (1, l, 0, 0))), some (.inl x0), some (.inl w2)], [], (zx_lay M, n)) (none, (zx_lay rM, n))) : ∀ (q : Nat) (w2 : Int32) (M : zx_Y), lg_X2_advance_2 l x0 kk q w2 M = some rM → zx_E X (d + 5) zc_X2_advance (2, [some (.inr (some (1, l, 0, 0))), some (.inl x0), some (.inl w2)], [], (zx_lay M, n)) (none, (zx_lay rM, n))
  | 0, w2, M, h => by
    rw [lg_X2_advance_2.eq_1] at h
    cases h
  | q + 1, w2, M, h => by
    rw [lg_X2_advance_2.eq_2] at h
    refine zx_E.go 2 (s' := (4, [some (.inr (some (1, l, 0, 0))), some (.inl x0), some (.inl w2)], [.inl x0, .inl w2], (zx_lay M, n))) rfl ?_
    refine zx_E.brh (c := x0 ≤ w2) (s1 := (43, [some (.inr (some (1, l, 0, 0))), some (.inl x0), some (.inl w2)], [], (zx_lay M, n))) (s2 := (7, [some (.inr (some (1, l, 0, 0))), some (.inl x0), some (.inl w2)], [], (zx_lay M, n))) h (zx_ic_ge rfl) (fun _ h => ?_) (fun _ h => ?_)
    · exact hk _ _ h
    · refine zx_E.go 1 (s' := (8, [some (.inr (some (1, l, 0, 0))), some (.inl x0), some (.inl w2)], [.inr (some (1, l, 0, 0))], (zx_lay M, n))) rfl ?_
      refine zx_E.cm (y := 21) (as := [.inr (some (1, l, 0, 0))]) (rest := []) h rfl (fun _ hv => zx_run_up (by omega) (r_X2_countMinute (d := d) hv)) (fun M1 h => ?_)
      show zx_E _ _ _ (11, [some (.inr (some (1, l, 0, 0))), some (.inl x0), some (.inl w2)], [], (zx_lay M1, n)) _
      refine zx_E.go 4 (s' := (17, [some (.inr (some (1, l, 0, 0))), some (.inl x0), some (.inl w2)], [.inl 1, .inl (M1 (1, l, 0, 0) 0), .inr (some (1, l, 0, 0))], (zx_lay M1, n))) rfl ?_
      refine zx_E.go 1 (s' := (18, [some (.inr (some (1, l, 0, 0))), some (.inl x0), some (.inl w2)], [.inl ((M1 (1, l, 0, 0) 0) + 1), .inr (some (1, l, 0, 0))], (zx_lay M1, n))) rfl ?_
      refine zx_E.pu h rfl rfl (fun h => absurd h (by decide)) (fun M2 h => ?_)
      show zx_E _ _ _ (21, [some (.inr (some (1, l, 0, 0))), some (.inl x0), some (.inl w2)], [], (zx_lay M2, n)) _
      refine zx_E.go 1 (s' := (22, [some (.inr (some (1, l, 0, 0))), some (.inl x0), some (.inl w2)], [.inr (some (1, l, 0, 0))], (zx_lay M2, n))) rfl ?_
      refine zx_E.cm (y := 22) (as := [.inr (some (1, l, 0, 0))]) (rest := []) h rfl (fun _ hv => zx_run_up (by omega) (r_X2_endRuns (d := d) hv)) (fun M3 h => ?_)
      show zx_E _ _ _ (25, [some (.inr (some (1, l, 0, 0))), some (.inl x0), some (.inl w2)], [], (zx_lay M3, n)) _
      refine zx_E.go 1 (s' := (26, [some (.inr (some (1, l, 0, 0))), some (.inl x0), some (.inl w2)], [.inr (some (1, l, 0, 0))], (zx_lay M3, n))) rfl ?_
      refine zx_E.cm (y := 23) (as := [.inr (some (1, l, 0, 0))]) (rest := []) h rfl (fun _ hv => zx_run_up (by omega) (r_X2_admitTrains (d := d) hv)) (fun M4 h => ?_)
      show zx_E _ _ _ (29, [some (.inr (some (1, l, 0, 0))), some (.inl x0), some (.inl w2)], [], (zx_lay M4, n)) _
      refine zx_E.go 1 (s' := (30, [some (.inr (some (1, l, 0, 0))), some (.inl x0), some (.inl w2)], [.inr (some (1, l, 0, 0))], (zx_lay M4, n))) rfl ?_
      refine zx_E.cm (y := 25) (as := [.inr (some (1, l, 0, 0))]) (rest := []) h rfl (fun _ hv => zx_run_up (by omega) (r_X2_endReliefs (d := d) hv)) (fun M5 h => ?_)
      show zx_E _ _ _ (33, [some (.inr (some (1, l, 0, 0))), some (.inl x0), some (.inl w2)], [], (zx_lay M5, n)) _
      refine zx_E.go 1 (s' := (34, [some (.inr (some (1, l, 0, 0))), some (.inl x0), some (.inl w2)], [.inr (some (1, l, 0, 0))], (zx_lay M5, n))) rfl ?_
      refine zx_E.cm (y := 26) (as := [.inr (some (1, l, 0, 0))]) (rest := []) h rfl (fun _ hv => zx_run_up (by omega) (r_X2_dispatchTrains (d := d) hv)) (fun M6 h => ?_)
      show zx_E _ _ _ (37, [some (.inr (some (1, l, 0, 0))), some (.inl x0), some (.inl w2)], [], (zx_lay M6, n)) _
      refine zx_E.go 2 (s' := (2, [some (.inr (some (1, l, 0, 0))), some (.inl x0), some (.inl (w2 + 1))], [], (zx_lay M6, n))) rfl ?_
      exact rl_X2_advance_2 hk q (w2 + 1) M6 h
def g_X2_advance (M : zx_Y) (l : Nat) (x0 : Int32) : Option zx_Y := (lg_X2_advance_2 l x0 (fun v1 M1 => (some M1)) 1000 0 M)
set_option maxRecDepth 100000 in
set_option maxHeartbeats 4000000 in
theorem r_X2_advance {X : zx_X} {d n : Nat} {M : zx_Y} {l : Nat} {x0 : Int32} {rM : zx_Y} (h : g_X2_advance M l x0 = some rM) : zx_run X (d + 6) 20 [.inr (some (1, l, 0, 0)), .inl x0] (zx_lay M, n) (none, (zx_lay rM, n)) := by
  refine zx_run_of zc_X2_advance [some (.inr (some (1, l, 0, 0))), some (.inl x0), none] rfl rfl ?_
  unfold g_X2_advance at h
  refine zx_E.go 2 (s' := (2, [some (.inr (some (1, l, 0, 0))), some (.inl x0), some (.inl 0)], [], (zx_lay M, n))) rfl ?_
  refine rl_X2_advance_2 (fun v1 M1 h => ?_) 1000  0 M h
  exact zx_E.r0 h rfl
def g_X10_pass (M : zx_Y) (x0 : Int32) : Option (Int32 × zx_Y) := (zb (g_X2_exists M 0) fun v1 => (if v1 = 0 then (some ((-3), M)) else (zb (g_X10_isMinutes M x0) fun v2 => (if v2 = 0 then (some ((-2), M)) else (if ((M (1, 0, 0, 0) 0) + x0) ≤ 9999 then (zm (g_X2_advance M 0 x0) fun M1 => (some ((M1 (1, 0, 0, 0) 0), M1))) else (some ((-4), M)))))))
set_option maxRecDepth 100000 in
set_option maxHeartbeats 4000000 in
theorem r_X10_pass {X : zx_X} {d n : Nat} {M : zx_Y} {x0 : Int32} {rv : Int32} {rM : zx_Y} (h : g_X10_pass M x0 = some (rv, rM)) : zx_run X (d + 7) 100 [.inr (some (0, 0, 0, 0)), .inl x0] (zx_lay M, n) (some (.inl rv), (zx_lay rM, n)) := by
  refine zx_run_of zc_X10_pass [some (.inr (some (0, 0, 0, 0))), some (.inl x0)] rfl rfl ?_
  unfold g_X10_pass at h
  refine zx_E.go 2 (s' := (4, [some (.inr (some (0, 0, 0, 0))), some (.inl x0)], [.inr (some (1, 0, 0, 0))], (zx_lay M, n))) rfl ?_
  refine zx_E.cb (y := 15) (as := [.inr (some (1, 0, 0, 0))]) (rest := []) h rfl (fun _ hv => zx_run_up (by omega) (r_X2_exists (d := d) hv)) (fun v1 h => ?_)
  show zx_E _ _ _ (7, [some (.inr (some (0, 0, 0, 0))), some (.inl x0)], [.inl v1], (zx_lay M, n)) _
  refine zx_E.brh (c := v1 = 0) (s1 := (10, [some (.inr (some (0, 0, 0, 0))), some (.inl x0)], [], (zx_lay M, n))) (s2 := (13, [some (.inr (some (0, 0, 0, 0))), some (.inl x0)], [], (zx_lay M, n))) h (zx_if_ne rfl) (fun _ h => ?_) (fun _ h => ?_)
  · refine zx_E.go 1 (s' := (12, [some (.inr (some (0, 0, 0, 0))), some (.inl x0)], [.inl (-3)], (zx_lay M, n))) rfl ?_
    exact zx_E.ri h rfl (fun h => absurd h (by decide))
  · refine zx_E.go 1 (s' := (14, [some (.inr (some (0, 0, 0, 0))), some (.inl x0)], [.inl x0], (zx_lay M, n))) rfl ?_
    refine zx_E.cb (y := 117) (as := [.inl x0]) (rest := []) h rfl (fun _ hv => zx_run_up (by omega) (r_X10_isMinutes (d := d) hv)) (fun v2 h => ?_)
    show zx_E _ _ _ (17, [some (.inr (some (0, 0, 0, 0))), some (.inl x0)], [.inl v2], (zx_lay M, n)) _
    refine zx_E.brh (c := v2 = 0) (s1 := (20, [some (.inr (some (0, 0, 0, 0))), some (.inl x0)], [], (zx_lay M, n))) (s2 := (23, [some (.inr (some (0, 0, 0, 0))), some (.inl x0)], [], (zx_lay M, n))) h (zx_if_ne rfl) (fun _ h => ?_) (fun _ h => ?_)
    · refine zx_E.go 1 (s' := (22, [some (.inr (some (0, 0, 0, 0))), some (.inl x0)], [.inl (-2)], (zx_lay M, n))) rfl ?_
      exact zx_E.ri h rfl (fun h => absurd h (by decide))
    · refine zx_E.go 4 (s' := (31, [some (.inr (some (0, 0, 0, 0))), some (.inl x0)], [.inl x0, .inl (M (1, 0, 0, 0) 0)], (zx_lay M, n))) rfl ?_
      refine zx_E.go 2 (s' := (35, [some (.inr (some (0, 0, 0, 0))), some (.inl x0)], [.inl 9999, .inl ((M (1, 0, 0, 0) 0) + x0)], (zx_lay M, n))) rfl ?_
      refine zx_E.brh (c := ((M (1, 0, 0, 0) 0) + x0) ≤ 9999) (s1 := (41, [some (.inr (some (0, 0, 0, 0))), some (.inl x0)], [], (zx_lay M, n))) (s2 := (38, [some (.inr (some (0, 0, 0, 0))), some (.inl x0)], [], (zx_lay M, n))) h (zx_ic_le rfl) (fun _ h => ?_) (fun _ h => ?_)
      · refine zx_E.go 3 (s' := (46, [some (.inr (some (0, 0, 0, 0))), some (.inl x0)], [.inl x0, .inr (some (1, 0, 0, 0))], (zx_lay M, n))) rfl ?_
        refine zx_E.cm (y := 20) (as := [.inr (some (1, 0, 0, 0)), .inl x0]) (rest := []) h rfl (fun _ hv => zx_run_up (by omega) (r_X2_advance (d := d) hv)) (fun M1 h => ?_)
        show zx_E _ _ _ (49, [some (.inr (some (0, 0, 0, 0))), some (.inl x0)], [], (zx_lay M1, n)) _
        refine zx_E.go 3 (s' := (56, [some (.inr (some (0, 0, 0, 0))), some (.inl x0)], [.inl (M1 (1, 0, 0, 0) 0)], (zx_lay M1, n))) rfl ?_
        exact zx_E.ri h rfl (fun h => absurd h (by decide))
      · refine zx_E.go 1 (s' := (40, [some (.inr (some (0, 0, 0, 0))), some (.inl x0)], [.inl (-4)], (zx_lay M, n))) rfl ?_
        exact zx_E.ri h rfl (fun h => absurd h (by decide))
def lg_X11_account_2 (kk : Int32 → zx_Y → Option zx_Y) : Nat → Int32 → zx_Y → Option zx_Y
  | 0, _, _ => none
  | q + 1, w1, M => (if (M (26, 0, 0, 0) 27) ≤ w1 then (kk w1 M) else (zb (g_X11_at M w1 0) fun v1 => (if v1 = 0 then (if v1 = 0 then (zb (g_X11_at M w1 4) fun v2 => (if (M (26, 0, 0, 0) 0) < v2 then (zb (g_X11_at M w1 13) fun v3 => (zm (g_X11_set M w1 13 (v3 + 0)) fun M1 => (if v1 = 2 then (zb (g_X11_at M1 w1 11) fun v4 => (zi (36 + v4) 640 fun k1 => (zi (36 + v4) 640 fun k2 => (zl (zx_up M1 (26, 0, 0, 0) k2 ((M1 (26, 0, 0, 0) k1) + 1)) fun M2 => (lg_X11_account_2 kk q (w1 + 1) M2))))) else (lg_X11_account_2 kk q (w1 + 1) M1)))) else (zb (g_X11_at M w1 13) fun v5 => (zm (g_X11_set M w1 13 (v5 + 1)) fun M3 => (if v1 = 2 then (zb (g_X11_at M3 w1 11) fun v6 => (zi (36 + v6) 640 fun k3 => (zi (36 + v6) 640 fun k4 => (zl (zx_up M3 (26, 0, 0, 0) k4 ((M3 (26, 0, 0, 0) k3) + 1)) fun M4 => (lg_X11_account_2 kk q (w1 + 1) M4))))) else (lg_X11_account_2 kk q (w1 + 1) M3)))))) else (if (3 : Int32) < v1 then (zb (g_X11_at M w1 13) fun v7 => (zm (g_X11_set M w1 13 (v7 + 0)) fun M5 => (if v1 = 2 then (zb (g_X11_at M5 w1 11) fun v8 => (zi (36 + v8) 640 fun k5 => (zi (36 + v8) 640 fun k6 => (zl (zx_up M5 (26, 0, 0, 0) k6 ((M5 (26, 0, 0, 0) k5) + 1)) fun M6 => (lg_X11_account_2 kk q (w1 + 1) M6))))) else (lg_X11_account_2 kk q (w1 + 1) M5)))) else (zb (g_X11_at M w1 13) fun v9 => (zm (g_X11_set M w1 13 (v9 + 1)) fun M7 => (if v1 = 2 then (zb (g_X11_at M7 w1 11) fun v10 => (zi (36 + v10) 640 fun k7 => (zi (36 + v10) 640 fun k8 => (zl (zx_up M7 (26, 0, 0, 0) k8 ((M7 (26, 0, 0, 0) k7) + 1)) fun M8 => (lg_X11_account_2 kk q (w1 + 1) M8))))) else (lg_X11_account_2 kk q (w1 + 1) M7)))))) else (if v1 = 2 then (if v1 = 0 then (zb (g_X11_at M w1 4) fun v11 => (if (M (26, 0, 0, 0) 0) < v11 then (zb (g_X11_at M w1 14) fun v12 => (zm (g_X11_set M w1 14 (v12 + 0)) fun M9 => (if v1 = 2 then (zb (g_X11_at M9 w1 11) fun v13 => (zi (36 + v13) 640 fun k9 => (zi (36 + v13) 640 fun k10 => (zl (zx_up M9 (26, 0, 0, 0) k10 ((M9 (26, 0, 0, 0) k9) + 1)) fun M10 => (lg_X11_account_2 kk q (w1 + 1) M10))))) else (lg_X11_account_2 kk q (w1 + 1) M9)))) else (zb (g_X11_at M w1 14) fun v14 => (zm (g_X11_set M w1 14 (v14 + 1)) fun M11 => (if v1 = 2 then (zb (g_X11_at M11 w1 11) fun v15 => (zi (36 + v15) 640 fun k11 => (zi (36 + v15) 640 fun k12 => (zl (zx_up M11 (26, 0, 0, 0) k12 ((M11 (26, 0, 0, 0) k11) + 1)) fun M12 => (lg_X11_account_2 kk q (w1 + 1) M12))))) else (lg_X11_account_2 kk q (w1 + 1) M11)))))) else (if (3 : Int32) < v1 then (zb (g_X11_at M w1 14) fun v16 => (zm (g_X11_set M w1 14 (v16 + 0)) fun M13 => (if v1 = 2 then (zb (g_X11_at M13 w1 11) fun v17 => (zi (36 + v17) 640 fun k13 => (zi (36 + v17) 640 fun k14 => (zl (zx_up M13 (26, 0, 0, 0) k14 ((M13 (26, 0, 0, 0) k13) + 1)) fun M14 => (lg_X11_account_2 kk q (w1 + 1) M14))))) else (lg_X11_account_2 kk q (w1 + 1) M13)))) else (zb (g_X11_at M w1 14) fun v18 => (zm (g_X11_set M w1 14 (v18 + 1)) fun M15 => (if v1 = 2 then (zb (g_X11_at M15 w1 11) fun v19 => (zi (36 + v19) 640 fun k15 => (zi (36 + v19) 640 fun k16 => (zl (zx_up M15 (26, 0, 0, 0) k16 ((M15 (26, 0, 0, 0) k15) + 1)) fun M16 => (lg_X11_account_2 kk q (w1 + 1) M16))))) else (lg_X11_account_2 kk q (w1 + 1) M15)))))) else (if v1 = 3 then (if v1 = 0 then (zb (g_X11_at M w1 4) fun v20 => (if (M (26, 0, 0, 0) 0) < v20 then (zb (g_X11_at M w1 15) fun v21 => (zm (g_X11_set M w1 15 (v21 + 0)) fun M17 => (if v1 = 2 then (zb (g_X11_at M17 w1 11) fun v22 => (zi (36 + v22) 640 fun k17 => (zi (36 + v22) 640 fun k18 => (zl (zx_up M17 (26, 0, 0, 0) k18 ((M17 (26, 0, 0, 0) k17) + 1)) fun M18 => (lg_X11_account_2 kk q (w1 + 1) M18))))) else (lg_X11_account_2 kk q (w1 + 1) M17)))) else (zb (g_X11_at M w1 15) fun v23 => (zm (g_X11_set M w1 15 (v23 + 1)) fun M19 => (if v1 = 2 then (zb (g_X11_at M19 w1 11) fun v24 => (zi (36 + v24) 640 fun k19 => (zi (36 + v24) 640 fun k20 => (zl (zx_up M19 (26, 0, 0, 0) k20 ((M19 (26, 0, 0, 0) k19) + 1)) fun M20 => (lg_X11_account_2 kk q (w1 + 1) M20))))) else (lg_X11_account_2 kk q (w1 + 1) M19)))))) else (if (3 : Int32) < v1 then (zb (g_X11_at M w1 15) fun v25 => (zm (g_X11_set M w1 15 (v25 + 0)) fun M21 => (if v1 = 2 then (zb (g_X11_at M21 w1 11) fun v26 => (zi (36 + v26) 640 fun k21 => (zi (36 + v26) 640 fun k22 => (zl (zx_up M21 (26, 0, 0, 0) k22 ((M21 (26, 0, 0, 0) k21) + 1)) fun M22 => (lg_X11_account_2 kk q (w1 + 1) M22))))) else (lg_X11_account_2 kk q (w1 + 1) M21)))) else (zb (g_X11_at M w1 15) fun v27 => (zm (g_X11_set M w1 15 (v27 + 1)) fun M23 => (if v1 = 2 then (zb (g_X11_at M23 w1 11) fun v28 => (zi (36 + v28) 640 fun k23 => (zi (36 + v28) 640 fun k24 => (zl (zx_up M23 (26, 0, 0, 0) k24 ((M23 (26, 0, 0, 0) k23) + 1)) fun M24 => (lg_X11_account_2 kk q (w1 + 1) M24))))) else (lg_X11_account_2 kk q (w1 + 1) M23)))))) else (if v1 = 0 then (zb (g_X11_at M w1 4) fun v29 => (if (M (26, 0, 0, 0) 0) < v29 then (zb (g_X11_at M w1 16) fun v30 => (zm (g_X11_set M w1 16 (v30 + 0)) fun M25 => (if v1 = 2 then (zb (g_X11_at M25 w1 11) fun v31 => (zi (36 + v31) 640 fun k25 => (zi (36 + v31) 640 fun k26 => (zl (zx_up M25 (26, 0, 0, 0) k26 ((M25 (26, 0, 0, 0) k25) + 1)) fun M26 => (lg_X11_account_2 kk q (w1 + 1) M26))))) else (lg_X11_account_2 kk q (w1 + 1) M25)))) else (zb (g_X11_at M w1 16) fun v32 => (zm (g_X11_set M w1 16 (v32 + 1)) fun M27 => (if v1 = 2 then (zb (g_X11_at M27 w1 11) fun v33 => (zi (36 + v33) 640 fun k27 => (zi (36 + v33) 640 fun k28 => (zl (zx_up M27 (26, 0, 0, 0) k28 ((M27 (26, 0, 0, 0) k27) + 1)) fun M28 => (lg_X11_account_2 kk q (w1 + 1) M28))))) else (lg_X11_account_2 kk q (w1 + 1) M27)))))) else (if (3 : Int32) < v1 then (zb (g_X11_at M w1 16) fun v34 => (zm (g_X11_set M w1 16 (v34 + 0)) fun M29 => (if v1 = 2 then (zb (g_X11_at M29 w1 11) fun v35 => (zi (36 + v35) 640 fun k29 => (zi (36 + v35) 640 fun k30 => (zl (zx_up M29 (26, 0, 0, 0) k30 ((M29 (26, 0, 0, 0) k29) + 1)) fun M30 => (lg_X11_account_2 kk q (w1 + 1) M30))))) else (lg_X11_account_2 kk q (w1 + 1) M29)))) else (zb (g_X11_at M w1 16) fun v36 => (zm (g_X11_set M w1 16 (v36 + 1)) fun M31 => (if v1 = 2 then (zb (g_X11_at M31 w1 11) fun v37 => (zi (36 + v37) 640 fun k31 => (zi (36 + v37) 640 fun k32 => (zl (zx_up M31 (26, 0, 0, 0) k32 ((M31 (26, 0, 0, 0) k31) + 1)) fun M32 => (lg_X11_account_2 kk q (w1 + 1) M32))))) else (lg_X11_account_2 kk q (w1 + 1) M31)))))))))))
set_option maxRecDepth 100000 in
set_option maxHeartbeats 4000000 in
theorem rl_X11_account_2 {X : zx_X} {d n : Nat} {kk : Int32 → zx_Y → Option zx_Y} {rM : zx_Y} (hk : ∀ (w1 : Int32) (M : zx_Y) (e2 : Option zx_V) (e3 : Option zx_V) (e4 : Option zx_V), kk w1 M = some rM → zx_E X (d + 1) zc_X11_account (146, [some (.inr (some (25, 0, 0, 0))), some (.inl w1), e2, e3, e4], [], (zx_lay M, n)) (none, (zx_lay rM, n))) : ∀ (q : Nat) (g2 : Option zx_V) (g3 : Option zx_V) (g4 : Option zx_V) (w1 : Int32) (M : zx_Y), lg_X11_account_2 kk q w1 M = some rM → zx_E X (d + 1) zc_X11_account (2, [some (.inr (some (25, 0, 0, 0))), some (.inl w1), g2, g3, g4], [], (zx_lay M, n)) (none, (zx_lay rM, n))
  | 0, g2, g3, g4, w1, M, h => by
    rw [lg_X11_account_2.eq_1] at h
    cases h
  | q + 1, g2, g3, g4, w1, M, h => by
    rw [lg_X11_account_2.eq_2] at h
    refine zx_E.go 4 (s' := (9, [some (.inr (some (25, 0, 0, 0))), some (.inl w1), g2, g3, g4], [.inl 27, .inr (some (26, 0, 0, 0)), .inl w1], (zx_lay M, n))) rfl ?_
    refine zx_E.iald (k := 27) (h := (26, 0, 0, 0)) rfl rfl rfl (by decide) ?_
    show zx_E _ _ _ (10, [some (.inr (some (25, 0, 0, 0))), some (.inl w1), g2, g3, g4], [.inl (M (26, 0, 0, 0) 27), .inl w1], (zx_lay M, n)) _
    refine zx_E.brh (c := (M (26, 0, 0, 0) 27) ≤ w1) (s1 := (146, [some (.inr (some (25, 0, 0, 0))), some (.inl w1), g2, g3, g4], [], (zx_lay M, n))) (s2 := (13, [some (.inr (some (25, 0, 0, 0))), some (.inl w1), g2, g3, g4], [], (zx_lay M, n))) h (zx_ic_ge rfl) (fun _ h => ?_) (fun _ h => ?_)
    · exact hk _ _ _ _ _ h
    · refine zx_E.go 3 (s' := (16, [some (.inr (some (25, 0, 0, 0))), some (.inl w1), g2, g3, g4], [.inl 0, .inl w1, .inr (some (25, 0, 0, 0))], (zx_lay M, n))) rfl ?_
      refine zx_E.cb (y := 125) (as := [.inr (some (25, 0, 0, 0)), .inl w1, .inl 0]) (rest := []) h rfl (fun _ hv => zx_run_up (by omega) (r_X11_at (d := d) hv)) (fun v1 h => ?_)
      show zx_E _ _ _ (19, [some (.inr (some (25, 0, 0, 0))), some (.inl w1), g2, g3, g4], [.inl v1], (zx_lay M, n)) _
      refine zx_E.go 2 (s' := (21, [some (.inr (some (25, 0, 0, 0))), some (.inl w1), some (.inl v1), g3, g4], [.inl v1], (zx_lay M, n))) rfl ?_
      refine zx_E.brh (c := v1 = 0) (s1 := (24, [some (.inr (some (25, 0, 0, 0))), some (.inl w1), some (.inl v1), g3, g4], [], (zx_lay M, n))) (s2 := (28, [some (.inr (some (25, 0, 0, 0))), some (.inl w1), some (.inl v1), g3, g4], [], (zx_lay M, n))) h (zx_if_ne rfl) (fun _ h => ?_) (fun _ h => ?_)
      · refine zx_E.go 4 (s' := (49, [some (.inr (some (25, 0, 0, 0))), some (.inl w1), some (.inl v1), some (.inl 0), g4], [.inl v1], (zx_lay M, n))) rfl ?_
        refine zx_E.brh (c := v1 = 0) (s1 := (52, [some (.inr (some (25, 0, 0, 0))), some (.inl w1), some (.inl v1), some (.inl 0), g4], [], (zx_lay M, n))) (s2 := (75, [some (.inr (some (25, 0, 0, 0))), some (.inl w1), some (.inl v1), some (.inl 0), g4], [], (zx_lay M, n))) h (zx_if_ne rfl) (fun _ h => ?_) (fun _ h => ?_)
        · refine zx_E.go 3 (s' := (57, [some (.inr (some (25, 0, 0, 0))), some (.inl w1), some (.inl v1), some (.inl 0), g4], [.inl 0, .inr (some (26, 0, 0, 0))], (zx_lay M, n))) rfl ?_
          refine zx_E.iald (k := 0) (h := (26, 0, 0, 0)) rfl rfl rfl (by decide) ?_
          show zx_E _ _ _ (58, [some (.inr (some (25, 0, 0, 0))), some (.inl w1), some (.inl v1), some (.inl 0), g4], [.inl (M (26, 0, 0, 0) 0)], (zx_lay M, n)) _
          refine zx_E.go 3 (s' := (61, [some (.inr (some (25, 0, 0, 0))), some (.inl w1), some (.inl v1), some (.inl 0), g4], [.inl 4, .inl w1, .inr (some (25, 0, 0, 0)), .inl (M (26, 0, 0, 0) 0)], (zx_lay M, n))) rfl ?_
          refine zx_E.cb (y := 125) (as := [.inr (some (25, 0, 0, 0)), .inl w1, .inl 4]) (rest := [.inl (M (26, 0, 0, 0) 0)]) h rfl (fun _ hv => zx_run_up (by omega) (r_X11_at (d := d) hv)) (fun v2 h => ?_)
          show zx_E _ _ _ (64, [some (.inr (some (25, 0, 0, 0))), some (.inl w1), some (.inl v1), some (.inl 0), g4], [.inl v2, .inl (M (26, 0, 0, 0) 0)], (zx_lay M, n)) _
          refine zx_E.brh (c := (M (26, 0, 0, 0) 0) < v2) (s1 := (71, [some (.inr (some (25, 0, 0, 0))), some (.inl w1), some (.inl v1), some (.inl 0), g4], [], (zx_lay M, n))) (s2 := (67, [some (.inr (some (25, 0, 0, 0))), some (.inl w1), some (.inl v1), some (.inl 0), g4], [], (zx_lay M, n))) h (zx_ic_lt rfl) (fun _ h => ?_) (fun _ h => ?_)
          · refine zx_E.go 13 (s' := (99, [some (.inr (some (25, 0, 0, 0))), some (.inl w1), some (.inl v1), some (.inl 0), some (.inl 0)], [.inl 13, .inl w1, .inr (some (25, 0, 0, 0)), .inl 13, .inl w1, .inr (some (25, 0, 0, 0))], (zx_lay M, n))) rfl ?_
            refine zx_E.cb (y := 125) (as := [.inr (some (25, 0, 0, 0)), .inl w1, .inl 13]) (rest := [.inl 13, .inl w1, .inr (some (25, 0, 0, 0))]) h rfl (fun _ hv => zx_run_up (by omega) (r_X11_at (d := d) hv)) (fun v3 h => ?_)
            show zx_E _ _ _ (102, [some (.inr (some (25, 0, 0, 0))), some (.inl w1), some (.inl v1), some (.inl 0), some (.inl 0)], [.inl v3, .inl 13, .inl w1, .inr (some (25, 0, 0, 0))], (zx_lay M, n)) _
            refine zx_E.go 1 (s' := (104, [some (.inr (some (25, 0, 0, 0))), some (.inl w1), some (.inl v1), some (.inl 0), some (.inl 0)], [.inl 0, .inl v3, .inl 13, .inl w1, .inr (some (25, 0, 0, 0))], (zx_lay M, n))) rfl ?_
            refine zx_E.bt (c := ((0 : Int32) = 0 : Prop)) (s1 := (111, [some (.inr (some (25, 0, 0, 0))), some (.inl w1), some (.inl v1), some (.inl 0), some (.inl 0)], [.inl v3, .inl 13, .inl w1, .inr (some (25, 0, 0, 0))], (zx_lay M, n))) (s2 := (107, [some (.inr (some (25, 0, 0, 0))), some (.inl w1), some (.inl v1), some (.inl 0), some (.inl 0)], [.inl v3, .inl 13, .inl w1, .inr (some (25, 0, 0, 0))], (zx_lay M, n))) (zx_if_eq rfl) (by decide) ?_
            refine zx_E.go 2 (s' := (113, [some (.inr (some (25, 0, 0, 0))), some (.inl w1), some (.inl v1), some (.inl 0), some (.inl 0)], [.inl (v3 + 0), .inl 13, .inl w1, .inr (some (25, 0, 0, 0))], (zx_lay M, n))) rfl ?_
            refine zx_E.cm (y := 126) (as := [.inr (some (25, 0, 0, 0)), .inl w1, .inl 13, .inl (v3 + 0)]) (rest := []) h rfl (fun _ hv => zx_run_up (by omega) (r_X11_set (d := d) hv)) (fun M1 h => ?_)
            show zx_E _ _ _ (116, [some (.inr (some (25, 0, 0, 0))), some (.inl w1), some (.inl v1), some (.inl 0), some (.inl 0)], [], (zx_lay M1, n)) _
            refine zx_E.go 2 (s' := (118, [some (.inr (some (25, 0, 0, 0))), some (.inl w1), some (.inl v1), some (.inl 0), some (.inl 0)], [.inl 2, .inl v1], (zx_lay M1, n))) rfl ?_
            refine zx_E.brh (c := v1 = 2) (s1 := (121, [some (.inr (some (25, 0, 0, 0))), some (.inl w1), some (.inl v1), some (.inl 0), some (.inl 0)], [], (zx_lay M1, n))) (s2 := (140, [some (.inr (some (25, 0, 0, 0))), some (.inl w1), some (.inl v1), some (.inl 0), some (.inl 0)], [], (zx_lay M1, n))) h (zx_ic_ne rfl) (fun _ h => ?_) (fun _ h => ?_)
            · refine zx_E.go 6 (s' := (131, [some (.inr (some (25, 0, 0, 0))), some (.inl w1), some (.inl v1), some (.inl 0), some (.inl 0)], [.inl 11, .inl w1, .inr (some (25, 0, 0, 0)), .inl 36, .inr (some (26, 0, 0, 0))], (zx_lay M1, n))) rfl ?_
              refine zx_E.cb (y := 125) (as := [.inr (some (25, 0, 0, 0)), .inl w1, .inl 11]) (rest := [.inl 36, .inr (some (26, 0, 0, 0))]) h rfl (fun _ hv => zx_run_up (by omega) (r_X11_at (d := d) hv)) (fun v4 h => ?_)
              show zx_E _ _ _ (134, [some (.inr (some (25, 0, 0, 0))), some (.inl w1), some (.inl v1), some (.inl 0), some (.inl 0)], [.inl v4, .inl 36, .inr (some (26, 0, 0, 0))], (zx_lay M1, n)) _
              refine zx_E.go 2 (s' := (136, [some (.inr (some (25, 0, 0, 0))), some (.inl w1), some (.inl v1), some (.inl 0), some (.inl 0)], [.inl (36 + v4), .inr (some (26, 0, 0, 0)), .inl (36 + v4), .inr (some (26, 0, 0, 0))], (zx_lay M1, n))) rfl ?_
              refine zx_E.ix h (fun k1 hx_k1 hl_k1 h => ?_)
              refine zx_E.iald (k := k1) (h := (26, 0, 0, 0)) rfl rfl hx_k1 hl_k1 ?_
              show zx_E _ _ _ (137, [some (.inr (some (25, 0, 0, 0))), some (.inl w1), some (.inl v1), some (.inl 0), some (.inl 0)], [.inl (M1 (26, 0, 0, 0) k1), .inl (36 + v4), .inr (some (26, 0, 0, 0))], (zx_lay M1, n)) _
              refine zx_E.go 2 (s' := (139, [some (.inr (some (25, 0, 0, 0))), some (.inl w1), some (.inl v1), some (.inl 0), some (.inl 0)], [.inl ((M1 (26, 0, 0, 0) k1) + 1), .inl (36 + v4), .inr (some (26, 0, 0, 0))], (zx_lay M1, n))) rfl ?_
              refine zx_E.ix h (fun k2 hx_k2 hl_k2 h => ?_)
              refine zx_E.ia h rfl rfl hx_k2 hl_k2 (fun M2 h => ?_)
              show zx_E _ _ _ (140, [some (.inr (some (25, 0, 0, 0))), some (.inl w1), some (.inl v1), some (.inl 0), some (.inl 0)], [], (zx_lay M2, n)) _
              refine zx_E.go 2 (s' := (2, [some (.inr (some (25, 0, 0, 0))), some (.inl (w1 + 1)), some (.inl v1), some (.inl 0), some (.inl 0)], [], (zx_lay M2, n))) rfl ?_
              exact rl_X11_account_2 hk q _ _ _ (w1 + 1) M2 h
            · refine zx_E.go 2 (s' := (2, [some (.inr (some (25, 0, 0, 0))), some (.inl (w1 + 1)), some (.inl v1), some (.inl 0), some (.inl 0)], [], (zx_lay M1, n))) rfl ?_
              exact rl_X11_account_2 hk q _ _ _ (w1 + 1) M1 h
          · refine zx_E.go 13 (s' := (99, [some (.inr (some (25, 0, 0, 0))), some (.inl w1), some (.inl v1), some (.inl 0), some (.inl 1)], [.inl 13, .inl w1, .inr (some (25, 0, 0, 0)), .inl 13, .inl w1, .inr (some (25, 0, 0, 0))], (zx_lay M, n))) rfl ?_
            refine zx_E.cb (y := 125) (as := [.inr (some (25, 0, 0, 0)), .inl w1, .inl 13]) (rest := [.inl 13, .inl w1, .inr (some (25, 0, 0, 0))]) h rfl (fun _ hv => zx_run_up (by omega) (r_X11_at (d := d) hv)) (fun v5 h => ?_)
            show zx_E _ _ _ (102, [some (.inr (some (25, 0, 0, 0))), some (.inl w1), some (.inl v1), some (.inl 0), some (.inl 1)], [.inl v5, .inl 13, .inl w1, .inr (some (25, 0, 0, 0))], (zx_lay M, n)) _
            refine zx_E.go 1 (s' := (104, [some (.inr (some (25, 0, 0, 0))), some (.inl w1), some (.inl v1), some (.inl 0), some (.inl 1)], [.inl 1, .inl v5, .inl 13, .inl w1, .inr (some (25, 0, 0, 0))], (zx_lay M, n))) rfl ?_
            refine zx_E.bf (c := ((1 : Int32) = 0 : Prop)) (s1 := (111, [some (.inr (some (25, 0, 0, 0))), some (.inl w1), some (.inl v1), some (.inl 0), some (.inl 1)], [.inl v5, .inl 13, .inl w1, .inr (some (25, 0, 0, 0))], (zx_lay M, n))) (s2 := (107, [some (.inr (some (25, 0, 0, 0))), some (.inl w1), some (.inl v1), some (.inl 0), some (.inl 1)], [.inl v5, .inl 13, .inl w1, .inr (some (25, 0, 0, 0))], (zx_lay M, n))) (zx_if_eq rfl) (by decide) ?_
            refine zx_E.go 3 (s' := (113, [some (.inr (some (25, 0, 0, 0))), some (.inl w1), some (.inl v1), some (.inl 0), some (.inl 1)], [.inl (v5 + 1), .inl 13, .inl w1, .inr (some (25, 0, 0, 0))], (zx_lay M, n))) rfl ?_
            refine zx_E.cm (y := 126) (as := [.inr (some (25, 0, 0, 0)), .inl w1, .inl 13, .inl (v5 + 1)]) (rest := []) h rfl (fun _ hv => zx_run_up (by omega) (r_X11_set (d := d) hv)) (fun M3 h => ?_)
            show zx_E _ _ _ (116, [some (.inr (some (25, 0, 0, 0))), some (.inl w1), some (.inl v1), some (.inl 0), some (.inl 1)], [], (zx_lay M3, n)) _
            refine zx_E.go 2 (s' := (118, [some (.inr (some (25, 0, 0, 0))), some (.inl w1), some (.inl v1), some (.inl 0), some (.inl 1)], [.inl 2, .inl v1], (zx_lay M3, n))) rfl ?_
            refine zx_E.brh (c := v1 = 2) (s1 := (121, [some (.inr (some (25, 0, 0, 0))), some (.inl w1), some (.inl v1), some (.inl 0), some (.inl 1)], [], (zx_lay M3, n))) (s2 := (140, [some (.inr (some (25, 0, 0, 0))), some (.inl w1), some (.inl v1), some (.inl 0), some (.inl 1)], [], (zx_lay M3, n))) h (zx_ic_ne rfl) (fun _ h => ?_) (fun _ h => ?_)
            · refine zx_E.go 6 (s' := (131, [some (.inr (some (25, 0, 0, 0))), some (.inl w1), some (.inl v1), some (.inl 0), some (.inl 1)], [.inl 11, .inl w1, .inr (some (25, 0, 0, 0)), .inl 36, .inr (some (26, 0, 0, 0))], (zx_lay M3, n))) rfl ?_
              refine zx_E.cb (y := 125) (as := [.inr (some (25, 0, 0, 0)), .inl w1, .inl 11]) (rest := [.inl 36, .inr (some (26, 0, 0, 0))]) h rfl (fun _ hv => zx_run_up (by omega) (r_X11_at (d := d) hv)) (fun v6 h => ?_)
              show zx_E _ _ _ (134, [some (.inr (some (25, 0, 0, 0))), some (.inl w1), some (.inl v1), some (.inl 0), some (.inl 1)], [.inl v6, .inl 36, .inr (some (26, 0, 0, 0))], (zx_lay M3, n)) _
              refine zx_E.go 2 (s' := (136, [some (.inr (some (25, 0, 0, 0))), some (.inl w1), some (.inl v1), some (.inl 0), some (.inl 1)], [.inl (36 + v6), .inr (some (26, 0, 0, 0)), .inl (36 + v6), .inr (some (26, 0, 0, 0))], (zx_lay M3, n))) rfl ?_
              refine zx_E.ix h (fun k3 hx_k3 hl_k3 h => ?_)
              refine zx_E.iald (k := k3) (h := (26, 0, 0, 0)) rfl rfl hx_k3 hl_k3 ?_
              show zx_E _ _ _ (137, [some (.inr (some (25, 0, 0, 0))), some (.inl w1), some (.inl v1), some (.inl 0), some (.inl 1)], [.inl (M3 (26, 0, 0, 0) k3), .inl (36 + v6), .inr (some (26, 0, 0, 0))], (zx_lay M3, n)) _
              refine zx_E.go 2 (s' := (139, [some (.inr (some (25, 0, 0, 0))), some (.inl w1), some (.inl v1), some (.inl 0), some (.inl 1)], [.inl ((M3 (26, 0, 0, 0) k3) + 1), .inl (36 + v6), .inr (some (26, 0, 0, 0))], (zx_lay M3, n))) rfl ?_
              refine zx_E.ix h (fun k4 hx_k4 hl_k4 h => ?_)
              refine zx_E.ia h rfl rfl hx_k4 hl_k4 (fun M4 h => ?_)
              show zx_E _ _ _ (140, [some (.inr (some (25, 0, 0, 0))), some (.inl w1), some (.inl v1), some (.inl 0), some (.inl 1)], [], (zx_lay M4, n)) _
              refine zx_E.go 2 (s' := (2, [some (.inr (some (25, 0, 0, 0))), some (.inl (w1 + 1)), some (.inl v1), some (.inl 0), some (.inl 1)], [], (zx_lay M4, n))) rfl ?_
              exact rl_X11_account_2 hk q _ _ _ (w1 + 1) M4 h
            · refine zx_E.go 2 (s' := (2, [some (.inr (some (25, 0, 0, 0))), some (.inl (w1 + 1)), some (.inl v1), some (.inl 0), some (.inl 1)], [], (zx_lay M3, n))) rfl ?_
              exact rl_X11_account_2 hk q _ _ _ (w1 + 1) M3 h
        · refine zx_E.go 2 (s' := (77, [some (.inr (some (25, 0, 0, 0))), some (.inl w1), some (.inl v1), some (.inl 0), g4], [.inl 3, .inl v1], (zx_lay M, n))) rfl ?_
          refine zx_E.brh (c := (3 : Int32) < v1) (s1 := (84, [some (.inr (some (25, 0, 0, 0))), some (.inl w1), some (.inl v1), some (.inl 0), g4], [], (zx_lay M, n))) (s2 := (80, [some (.inr (some (25, 0, 0, 0))), some (.inl w1), some (.inl v1), some (.inl 0), g4], [], (zx_lay M, n))) h (zx_ic_gt rfl) (fun _ h => ?_) (fun _ h => ?_)
          · refine zx_E.go 12 (s' := (99, [some (.inr (some (25, 0, 0, 0))), some (.inl w1), some (.inl v1), some (.inl 0), some (.inl 0)], [.inl 13, .inl w1, .inr (some (25, 0, 0, 0)), .inl 13, .inl w1, .inr (some (25, 0, 0, 0))], (zx_lay M, n))) rfl ?_
            refine zx_E.cb (y := 125) (as := [.inr (some (25, 0, 0, 0)), .inl w1, .inl 13]) (rest := [.inl 13, .inl w1, .inr (some (25, 0, 0, 0))]) h rfl (fun _ hv => zx_run_up (by omega) (r_X11_at (d := d) hv)) (fun v7 h => ?_)
            show zx_E _ _ _ (102, [some (.inr (some (25, 0, 0, 0))), some (.inl w1), some (.inl v1), some (.inl 0), some (.inl 0)], [.inl v7, .inl 13, .inl w1, .inr (some (25, 0, 0, 0))], (zx_lay M, n)) _
            refine zx_E.go 1 (s' := (104, [some (.inr (some (25, 0, 0, 0))), some (.inl w1), some (.inl v1), some (.inl 0), some (.inl 0)], [.inl 0, .inl v7, .inl 13, .inl w1, .inr (some (25, 0, 0, 0))], (zx_lay M, n))) rfl ?_
            refine zx_E.bt (c := ((0 : Int32) = 0 : Prop)) (s1 := (111, [some (.inr (some (25, 0, 0, 0))), some (.inl w1), some (.inl v1), some (.inl 0), some (.inl 0)], [.inl v7, .inl 13, .inl w1, .inr (some (25, 0, 0, 0))], (zx_lay M, n))) (s2 := (107, [some (.inr (some (25, 0, 0, 0))), some (.inl w1), some (.inl v1), some (.inl 0), some (.inl 0)], [.inl v7, .inl 13, .inl w1, .inr (some (25, 0, 0, 0))], (zx_lay M, n))) (zx_if_eq rfl) (by decide) ?_
            refine zx_E.go 2 (s' := (113, [some (.inr (some (25, 0, 0, 0))), some (.inl w1), some (.inl v1), some (.inl 0), some (.inl 0)], [.inl (v7 + 0), .inl 13, .inl w1, .inr (some (25, 0, 0, 0))], (zx_lay M, n))) rfl ?_
            refine zx_E.cm (y := 126) (as := [.inr (some (25, 0, 0, 0)), .inl w1, .inl 13, .inl (v7 + 0)]) (rest := []) h rfl (fun _ hv => zx_run_up (by omega) (r_X11_set (d := d) hv)) (fun M5 h => ?_)
            show zx_E _ _ _ (116, [some (.inr (some (25, 0, 0, 0))), some (.inl w1), some (.inl v1), some (.inl 0), some (.inl 0)], [], (zx_lay M5, n)) _
            refine zx_E.go 2 (s' := (118, [some (.inr (some (25, 0, 0, 0))), some (.inl w1), some (.inl v1), some (.inl 0), some (.inl 0)], [.inl 2, .inl v1], (zx_lay M5, n))) rfl ?_
            refine zx_E.brh (c := v1 = 2) (s1 := (121, [some (.inr (some (25, 0, 0, 0))), some (.inl w1), some (.inl v1), some (.inl 0), some (.inl 0)], [], (zx_lay M5, n))) (s2 := (140, [some (.inr (some (25, 0, 0, 0))), some (.inl w1), some (.inl v1), some (.inl 0), some (.inl 0)], [], (zx_lay M5, n))) h (zx_ic_ne rfl) (fun _ h => ?_) (fun _ h => ?_)
            · refine zx_E.go 6 (s' := (131, [some (.inr (some (25, 0, 0, 0))), some (.inl w1), some (.inl v1), some (.inl 0), some (.inl 0)], [.inl 11, .inl w1, .inr (some (25, 0, 0, 0)), .inl 36, .inr (some (26, 0, 0, 0))], (zx_lay M5, n))) rfl ?_
              refine zx_E.cb (y := 125) (as := [.inr (some (25, 0, 0, 0)), .inl w1, .inl 11]) (rest := [.inl 36, .inr (some (26, 0, 0, 0))]) h rfl (fun _ hv => zx_run_up (by omega) (r_X11_at (d := d) hv)) (fun v8 h => ?_)
              show zx_E _ _ _ (134, [some (.inr (some (25, 0, 0, 0))), some (.inl w1), some (.inl v1), some (.inl 0), some (.inl 0)], [.inl v8, .inl 36, .inr (some (26, 0, 0, 0))], (zx_lay M5, n)) _
              refine zx_E.go 2 (s' := (136, [some (.inr (some (25, 0, 0, 0))), some (.inl w1), some (.inl v1), some (.inl 0), some (.inl 0)], [.inl (36 + v8), .inr (some (26, 0, 0, 0)), .inl (36 + v8), .inr (some (26, 0, 0, 0))], (zx_lay M5, n))) rfl ?_
              refine zx_E.ix h (fun k5 hx_k5 hl_k5 h => ?_)
              refine zx_E.iald (k := k5) (h := (26, 0, 0, 0)) rfl rfl hx_k5 hl_k5 ?_
              show zx_E _ _ _ (137, [some (.inr (some (25, 0, 0, 0))), some (.inl w1), some (.inl v1), some (.inl 0), some (.inl 0)], [.inl (M5 (26, 0, 0, 0) k5), .inl (36 + v8), .inr (some (26, 0, 0, 0))], (zx_lay M5, n)) _
              refine zx_E.go 2 (s' := (139, [some (.inr (some (25, 0, 0, 0))), some (.inl w1), some (.inl v1), some (.inl 0), some (.inl 0)], [.inl ((M5 (26, 0, 0, 0) k5) + 1), .inl (36 + v8), .inr (some (26, 0, 0, 0))], (zx_lay M5, n))) rfl ?_
              refine zx_E.ix h (fun k6 hx_k6 hl_k6 h => ?_)
              refine zx_E.ia h rfl rfl hx_k6 hl_k6 (fun M6 h => ?_)
              show zx_E _ _ _ (140, [some (.inr (some (25, 0, 0, 0))), some (.inl w1), some (.inl v1), some (.inl 0), some (.inl 0)], [], (zx_lay M6, n)) _
              refine zx_E.go 2 (s' := (2, [some (.inr (some (25, 0, 0, 0))), some (.inl (w1 + 1)), some (.inl v1), some (.inl 0), some (.inl 0)], [], (zx_lay M6, n))) rfl ?_
              exact rl_X11_account_2 hk q _ _ _ (w1 + 1) M6 h
            · refine zx_E.go 2 (s' := (2, [some (.inr (some (25, 0, 0, 0))), some (.inl (w1 + 1)), some (.inl v1), some (.inl 0), some (.inl 0)], [], (zx_lay M5, n))) rfl ?_
              exact rl_X11_account_2 hk q _ _ _ (w1 + 1) M5 h
          · refine zx_E.go 13 (s' := (99, [some (.inr (some (25, 0, 0, 0))), some (.inl w1), some (.inl v1), some (.inl 0), some (.inl 1)], [.inl 13, .inl w1, .inr (some (25, 0, 0, 0)), .inl 13, .inl w1, .inr (some (25, 0, 0, 0))], (zx_lay M, n))) rfl ?_
            refine zx_E.cb (y := 125) (as := [.inr (some (25, 0, 0, 0)), .inl w1, .inl 13]) (rest := [.inl 13, .inl w1, .inr (some (25, 0, 0, 0))]) h rfl (fun _ hv => zx_run_up (by omega) (r_X11_at (d := d) hv)) (fun v9 h => ?_)
            show zx_E _ _ _ (102, [some (.inr (some (25, 0, 0, 0))), some (.inl w1), some (.inl v1), some (.inl 0), some (.inl 1)], [.inl v9, .inl 13, .inl w1, .inr (some (25, 0, 0, 0))], (zx_lay M, n)) _
            refine zx_E.go 1 (s' := (104, [some (.inr (some (25, 0, 0, 0))), some (.inl w1), some (.inl v1), some (.inl 0), some (.inl 1)], [.inl 1, .inl v9, .inl 13, .inl w1, .inr (some (25, 0, 0, 0))], (zx_lay M, n))) rfl ?_
            refine zx_E.bf (c := ((1 : Int32) = 0 : Prop)) (s1 := (111, [some (.inr (some (25, 0, 0, 0))), some (.inl w1), some (.inl v1), some (.inl 0), some (.inl 1)], [.inl v9, .inl 13, .inl w1, .inr (some (25, 0, 0, 0))], (zx_lay M, n))) (s2 := (107, [some (.inr (some (25, 0, 0, 0))), some (.inl w1), some (.inl v1), some (.inl 0), some (.inl 1)], [.inl v9, .inl 13, .inl w1, .inr (some (25, 0, 0, 0))], (zx_lay M, n))) (zx_if_eq rfl) (by decide) ?_
            refine zx_E.go 3 (s' := (113, [some (.inr (some (25, 0, 0, 0))), some (.inl w1), some (.inl v1), some (.inl 0), some (.inl 1)], [.inl (v9 + 1), .inl 13, .inl w1, .inr (some (25, 0, 0, 0))], (zx_lay M, n))) rfl ?_
            refine zx_E.cm (y := 126) (as := [.inr (some (25, 0, 0, 0)), .inl w1, .inl 13, .inl (v9 + 1)]) (rest := []) h rfl (fun _ hv => zx_run_up (by omega) (r_X11_set (d := d) hv)) (fun M7 h => ?_)
            show zx_E _ _ _ (116, [some (.inr (some (25, 0, 0, 0))), some (.inl w1), some (.inl v1), some (.inl 0), some (.inl 1)], [], (zx_lay M7, n)) _
            refine zx_E.go 2 (s' := (118, [some (.inr (some (25, 0, 0, 0))), some (.inl w1), some (.inl v1), some (.inl 0), some (.inl 1)], [.inl 2, .inl v1], (zx_lay M7, n))) rfl ?_
            refine zx_E.brh (c := v1 = 2) (s1 := (121, [some (.inr (some (25, 0, 0, 0))), some (.inl w1), some (.inl v1), some (.inl 0), some (.inl 1)], [], (zx_lay M7, n))) (s2 := (140, [some (.inr (some (25, 0, 0, 0))), some (.inl w1), some (.inl v1), some (.inl 0), some (.inl 1)], [], (zx_lay M7, n))) h (zx_ic_ne rfl) (fun _ h => ?_) (fun _ h => ?_)
            · refine zx_E.go 6 (s' := (131, [some (.inr (some (25, 0, 0, 0))), some (.inl w1), some (.inl v1), some (.inl 0), some (.inl 1)], [.inl 11, .inl w1, .inr (some (25, 0, 0, 0)), .inl 36, .inr (some (26, 0, 0, 0))], (zx_lay M7, n))) rfl ?_
              refine zx_E.cb (y := 125) (as := [.inr (some (25, 0, 0, 0)), .inl w1, .inl 11]) (rest := [.inl 36, .inr (some (26, 0, 0, 0))]) h rfl (fun _ hv => zx_run_up (by omega) (r_X11_at (d := d) hv)) (fun v10 h => ?_)
              show zx_E _ _ _ (134, [some (.inr (some (25, 0, 0, 0))), some (.inl w1), some (.inl v1), some (.inl 0), some (.inl 1)], [.inl v10, .inl 36, .inr (some (26, 0, 0, 0))], (zx_lay M7, n)) _
              refine zx_E.go 2 (s' := (136, [some (.inr (some (25, 0, 0, 0))), some (.inl w1), some (.inl v1), some (.inl 0), some (.inl 1)], [.inl (36 + v10), .inr (some (26, 0, 0, 0)), .inl (36 + v10), .inr (some (26, 0, 0, 0))], (zx_lay M7, n))) rfl ?_
              refine zx_E.ix h (fun k7 hx_k7 hl_k7 h => ?_)
              refine zx_E.iald (k := k7) (h := (26, 0, 0, 0)) rfl rfl hx_k7 hl_k7 ?_
              show zx_E _ _ _ (137, [some (.inr (some (25, 0, 0, 0))), some (.inl w1), some (.inl v1), some (.inl 0), some (.inl 1)], [.inl (M7 (26, 0, 0, 0) k7), .inl (36 + v10), .inr (some (26, 0, 0, 0))], (zx_lay M7, n)) _
              refine zx_E.go 2 (s' := (139, [some (.inr (some (25, 0, 0, 0))), some (.inl w1), some (.inl v1), some (.inl 0), some (.inl 1)], [.inl ((M7 (26, 0, 0, 0) k7) + 1), .inl (36 + v10), .inr (some (26, 0, 0, 0))], (zx_lay M7, n))) rfl ?_
              refine zx_E.ix h (fun k8 hx_k8 hl_k8 h => ?_)
              refine zx_E.ia h rfl rfl hx_k8 hl_k8 (fun M8 h => ?_)
              show zx_E _ _ _ (140, [some (.inr (some (25, 0, 0, 0))), some (.inl w1), some (.inl v1), some (.inl 0), some (.inl 1)], [], (zx_lay M8, n)) _
              refine zx_E.go 2 (s' := (2, [some (.inr (some (25, 0, 0, 0))), some (.inl (w1 + 1)), some (.inl v1), some (.inl 0), some (.inl 1)], [], (zx_lay M8, n))) rfl ?_
              exact rl_X11_account_2 hk q _ _ _ (w1 + 1) M8 h
            · refine zx_E.go 2 (s' := (2, [some (.inr (some (25, 0, 0, 0))), some (.inl (w1 + 1)), some (.inl v1), some (.inl 0), some (.inl 1)], [], (zx_lay M7, n))) rfl ?_
              exact rl_X11_account_2 hk q _ _ _ (w1 + 1) M7 h
      · refine zx_E.go 2 (s' := (30, [some (.inr (some (25, 0, 0, 0))), some (.inl w1), some (.inl v1), g3, g4], [.inl 2, .inl v1], (zx_lay M, n))) rfl ?_
        refine zx_E.brh (c := v1 = 2) (s1 := (33, [some (.inr (some (25, 0, 0, 0))), some (.inl w1), some (.inl v1), g3, g4], [], (zx_lay M, n))) (s2 := (37, [some (.inr (some (25, 0, 0, 0))), some (.inl w1), some (.inl v1), g3, g4], [], (zx_lay M, n))) h (zx_ic_ne rfl) (fun _ h => ?_) (fun _ h => ?_)
        · refine zx_E.go 4 (s' := (49, [some (.inr (some (25, 0, 0, 0))), some (.inl w1), some (.inl v1), some (.inl 1), g4], [.inl v1], (zx_lay M, n))) rfl ?_
          refine zx_E.brh (c := v1 = 0) (s1 := (52, [some (.inr (some (25, 0, 0, 0))), some (.inl w1), some (.inl v1), some (.inl 1), g4], [], (zx_lay M, n))) (s2 := (75, [some (.inr (some (25, 0, 0, 0))), some (.inl w1), some (.inl v1), some (.inl 1), g4], [], (zx_lay M, n))) h (zx_if_ne rfl) (fun _ h => ?_) (fun _ h => ?_)
          · refine zx_E.go 3 (s' := (57, [some (.inr (some (25, 0, 0, 0))), some (.inl w1), some (.inl v1), some (.inl 1), g4], [.inl 0, .inr (some (26, 0, 0, 0))], (zx_lay M, n))) rfl ?_
            refine zx_E.iald (k := 0) (h := (26, 0, 0, 0)) rfl rfl rfl (by decide) ?_
            show zx_E _ _ _ (58, [some (.inr (some (25, 0, 0, 0))), some (.inl w1), some (.inl v1), some (.inl 1), g4], [.inl (M (26, 0, 0, 0) 0)], (zx_lay M, n)) _
            refine zx_E.go 3 (s' := (61, [some (.inr (some (25, 0, 0, 0))), some (.inl w1), some (.inl v1), some (.inl 1), g4], [.inl 4, .inl w1, .inr (some (25, 0, 0, 0)), .inl (M (26, 0, 0, 0) 0)], (zx_lay M, n))) rfl ?_
            refine zx_E.cb (y := 125) (as := [.inr (some (25, 0, 0, 0)), .inl w1, .inl 4]) (rest := [.inl (M (26, 0, 0, 0) 0)]) h rfl (fun _ hv => zx_run_up (by omega) (r_X11_at (d := d) hv)) (fun v11 h => ?_)
            show zx_E _ _ _ (64, [some (.inr (some (25, 0, 0, 0))), some (.inl w1), some (.inl v1), some (.inl 1), g4], [.inl v11, .inl (M (26, 0, 0, 0) 0)], (zx_lay M, n)) _
            refine zx_E.brh (c := (M (26, 0, 0, 0) 0) < v11) (s1 := (71, [some (.inr (some (25, 0, 0, 0))), some (.inl w1), some (.inl v1), some (.inl 1), g4], [], (zx_lay M, n))) (s2 := (67, [some (.inr (some (25, 0, 0, 0))), some (.inl w1), some (.inl v1), some (.inl 1), g4], [], (zx_lay M, n))) h (zx_ic_lt rfl) (fun _ h => ?_) (fun _ h => ?_)
            · refine zx_E.go 13 (s' := (99, [some (.inr (some (25, 0, 0, 0))), some (.inl w1), some (.inl v1), some (.inl 1), some (.inl 0)], [.inl 14, .inl w1, .inr (some (25, 0, 0, 0)), .inl 14, .inl w1, .inr (some (25, 0, 0, 0))], (zx_lay M, n))) rfl ?_
              refine zx_E.cb (y := 125) (as := [.inr (some (25, 0, 0, 0)), .inl w1, .inl 14]) (rest := [.inl 14, .inl w1, .inr (some (25, 0, 0, 0))]) h rfl (fun _ hv => zx_run_up (by omega) (r_X11_at (d := d) hv)) (fun v12 h => ?_)
              show zx_E _ _ _ (102, [some (.inr (some (25, 0, 0, 0))), some (.inl w1), some (.inl v1), some (.inl 1), some (.inl 0)], [.inl v12, .inl 14, .inl w1, .inr (some (25, 0, 0, 0))], (zx_lay M, n)) _
              refine zx_E.go 1 (s' := (104, [some (.inr (some (25, 0, 0, 0))), some (.inl w1), some (.inl v1), some (.inl 1), some (.inl 0)], [.inl 0, .inl v12, .inl 14, .inl w1, .inr (some (25, 0, 0, 0))], (zx_lay M, n))) rfl ?_
              refine zx_E.bt (c := ((0 : Int32) = 0 : Prop)) (s1 := (111, [some (.inr (some (25, 0, 0, 0))), some (.inl w1), some (.inl v1), some (.inl 1), some (.inl 0)], [.inl v12, .inl 14, .inl w1, .inr (some (25, 0, 0, 0))], (zx_lay M, n))) (s2 := (107, [some (.inr (some (25, 0, 0, 0))), some (.inl w1), some (.inl v1), some (.inl 1), some (.inl 0)], [.inl v12, .inl 14, .inl w1, .inr (some (25, 0, 0, 0))], (zx_lay M, n))) (zx_if_eq rfl) (by decide) ?_
              refine zx_E.go 2 (s' := (113, [some (.inr (some (25, 0, 0, 0))), some (.inl w1), some (.inl v1), some (.inl 1), some (.inl 0)], [.inl (v12 + 0), .inl 14, .inl w1, .inr (some (25, 0, 0, 0))], (zx_lay M, n))) rfl ?_
              refine zx_E.cm (y := 126) (as := [.inr (some (25, 0, 0, 0)), .inl w1, .inl 14, .inl (v12 + 0)]) (rest := []) h rfl (fun _ hv => zx_run_up (by omega) (r_X11_set (d := d) hv)) (fun M9 h => ?_)
              show zx_E _ _ _ (116, [some (.inr (some (25, 0, 0, 0))), some (.inl w1), some (.inl v1), some (.inl 1), some (.inl 0)], [], (zx_lay M9, n)) _
              refine zx_E.go 2 (s' := (118, [some (.inr (some (25, 0, 0, 0))), some (.inl w1), some (.inl v1), some (.inl 1), some (.inl 0)], [.inl 2, .inl v1], (zx_lay M9, n))) rfl ?_
              refine zx_E.brh (c := v1 = 2) (s1 := (121, [some (.inr (some (25, 0, 0, 0))), some (.inl w1), some (.inl v1), some (.inl 1), some (.inl 0)], [], (zx_lay M9, n))) (s2 := (140, [some (.inr (some (25, 0, 0, 0))), some (.inl w1), some (.inl v1), some (.inl 1), some (.inl 0)], [], (zx_lay M9, n))) h (zx_ic_ne rfl) (fun _ h => ?_) (fun _ h => ?_)
              · refine zx_E.go 6 (s' := (131, [some (.inr (some (25, 0, 0, 0))), some (.inl w1), some (.inl v1), some (.inl 1), some (.inl 0)], [.inl 11, .inl w1, .inr (some (25, 0, 0, 0)), .inl 36, .inr (some (26, 0, 0, 0))], (zx_lay M9, n))) rfl ?_
                refine zx_E.cb (y := 125) (as := [.inr (some (25, 0, 0, 0)), .inl w1, .inl 11]) (rest := [.inl 36, .inr (some (26, 0, 0, 0))]) h rfl (fun _ hv => zx_run_up (by omega) (r_X11_at (d := d) hv)) (fun v13 h => ?_)
                show zx_E _ _ _ (134, [some (.inr (some (25, 0, 0, 0))), some (.inl w1), some (.inl v1), some (.inl 1), some (.inl 0)], [.inl v13, .inl 36, .inr (some (26, 0, 0, 0))], (zx_lay M9, n)) _
                refine zx_E.go 2 (s' := (136, [some (.inr (some (25, 0, 0, 0))), some (.inl w1), some (.inl v1), some (.inl 1), some (.inl 0)], [.inl (36 + v13), .inr (some (26, 0, 0, 0)), .inl (36 + v13), .inr (some (26, 0, 0, 0))], (zx_lay M9, n))) rfl ?_
                refine zx_E.ix h (fun k9 hx_k9 hl_k9 h => ?_)
                refine zx_E.iald (k := k9) (h := (26, 0, 0, 0)) rfl rfl hx_k9 hl_k9 ?_
                show zx_E _ _ _ (137, [some (.inr (some (25, 0, 0, 0))), some (.inl w1), some (.inl v1), some (.inl 1), some (.inl 0)], [.inl (M9 (26, 0, 0, 0) k9), .inl (36 + v13), .inr (some (26, 0, 0, 0))], (zx_lay M9, n)) _
                refine zx_E.go 2 (s' := (139, [some (.inr (some (25, 0, 0, 0))), some (.inl w1), some (.inl v1), some (.inl 1), some (.inl 0)], [.inl ((M9 (26, 0, 0, 0) k9) + 1), .inl (36 + v13), .inr (some (26, 0, 0, 0))], (zx_lay M9, n))) rfl ?_
                refine zx_E.ix h (fun k10 hx_k10 hl_k10 h => ?_)
                refine zx_E.ia h rfl rfl hx_k10 hl_k10 (fun M10 h => ?_)
                show zx_E _ _ _ (140, [some (.inr (some (25, 0, 0, 0))), some (.inl w1), some (.inl v1), some (.inl 1), some (.inl 0)], [], (zx_lay M10, n)) _
                refine zx_E.go 2 (s' := (2, [some (.inr (some (25, 0, 0, 0))), some (.inl (w1 + 1)), some (.inl v1), some (.inl 1), some (.inl 0)], [], (zx_lay M10, n))) rfl ?_
                exact rl_X11_account_2 hk q _ _ _ (w1 + 1) M10 h
              · refine zx_E.go 2 (s' := (2, [some (.inr (some (25, 0, 0, 0))), some (.inl (w1 + 1)), some (.inl v1), some (.inl 1), some (.inl 0)], [], (zx_lay M9, n))) rfl ?_
                exact rl_X11_account_2 hk q _ _ _ (w1 + 1) M9 h
            · refine zx_E.go 13 (s' := (99, [some (.inr (some (25, 0, 0, 0))), some (.inl w1), some (.inl v1), some (.inl 1), some (.inl 1)], [.inl 14, .inl w1, .inr (some (25, 0, 0, 0)), .inl 14, .inl w1, .inr (some (25, 0, 0, 0))], (zx_lay M, n))) rfl ?_
              refine zx_E.cb (y := 125) (as := [.inr (some (25, 0, 0, 0)), .inl w1, .inl 14]) (rest := [.inl 14, .inl w1, .inr (some (25, 0, 0, 0))]) h rfl (fun _ hv => zx_run_up (by omega) (r_X11_at (d := d) hv)) (fun v14 h => ?_)
              show zx_E _ _ _ (102, [some (.inr (some (25, 0, 0, 0))), some (.inl w1), some (.inl v1), some (.inl 1), some (.inl 1)], [.inl v14, .inl 14, .inl w1, .inr (some (25, 0, 0, 0))], (zx_lay M, n)) _
              refine zx_E.go 1 (s' := (104, [some (.inr (some (25, 0, 0, 0))), some (.inl w1), some (.inl v1), some (.inl 1), some (.inl 1)], [.inl 1, .inl v14, .inl 14, .inl w1, .inr (some (25, 0, 0, 0))], (zx_lay M, n))) rfl ?_
              refine zx_E.bf (c := ((1 : Int32) = 0 : Prop)) (s1 := (111, [some (.inr (some (25, 0, 0, 0))), some (.inl w1), some (.inl v1), some (.inl 1), some (.inl 1)], [.inl v14, .inl 14, .inl w1, .inr (some (25, 0, 0, 0))], (zx_lay M, n))) (s2 := (107, [some (.inr (some (25, 0, 0, 0))), some (.inl w1), some (.inl v1), some (.inl 1), some (.inl 1)], [.inl v14, .inl 14, .inl w1, .inr (some (25, 0, 0, 0))], (zx_lay M, n))) (zx_if_eq rfl) (by decide) ?_
              refine zx_E.go 3 (s' := (113, [some (.inr (some (25, 0, 0, 0))), some (.inl w1), some (.inl v1), some (.inl 1), some (.inl 1)], [.inl (v14 + 1), .inl 14, .inl w1, .inr (some (25, 0, 0, 0))], (zx_lay M, n))) rfl ?_
              refine zx_E.cm (y := 126) (as := [.inr (some (25, 0, 0, 0)), .inl w1, .inl 14, .inl (v14 + 1)]) (rest := []) h rfl (fun _ hv => zx_run_up (by omega) (r_X11_set (d := d) hv)) (fun M11 h => ?_)
              show zx_E _ _ _ (116, [some (.inr (some (25, 0, 0, 0))), some (.inl w1), some (.inl v1), some (.inl 1), some (.inl 1)], [], (zx_lay M11, n)) _
              refine zx_E.go 2 (s' := (118, [some (.inr (some (25, 0, 0, 0))), some (.inl w1), some (.inl v1), some (.inl 1), some (.inl 1)], [.inl 2, .inl v1], (zx_lay M11, n))) rfl ?_
              refine zx_E.brh (c := v1 = 2) (s1 := (121, [some (.inr (some (25, 0, 0, 0))), some (.inl w1), some (.inl v1), some (.inl 1), some (.inl 1)], [], (zx_lay M11, n))) (s2 := (140, [some (.inr (some (25, 0, 0, 0))), some (.inl w1), some (.inl v1), some (.inl 1), some (.inl 1)], [], (zx_lay M11, n))) h (zx_ic_ne rfl) (fun _ h => ?_) (fun _ h => ?_)
              · refine zx_E.go 6 (s' := (131, [some (.inr (some (25, 0, 0, 0))), some (.inl w1), some (.inl v1), some (.inl 1), some (.inl 1)], [.inl 11, .inl w1, .inr (some (25, 0, 0, 0)), .inl 36, .inr (some (26, 0, 0, 0))], (zx_lay M11, n))) rfl ?_
                refine zx_E.cb (y := 125) (as := [.inr (some (25, 0, 0, 0)), .inl w1, .inl 11]) (rest := [.inl 36, .inr (some (26, 0, 0, 0))]) h rfl (fun _ hv => zx_run_up (by omega) (r_X11_at (d := d) hv)) (fun v15 h => ?_)
                show zx_E _ _ _ (134, [some (.inr (some (25, 0, 0, 0))), some (.inl w1), some (.inl v1), some (.inl 1), some (.inl 1)], [.inl v15, .inl 36, .inr (some (26, 0, 0, 0))], (zx_lay M11, n)) _
                refine zx_E.go 2 (s' := (136, [some (.inr (some (25, 0, 0, 0))), some (.inl w1), some (.inl v1), some (.inl 1), some (.inl 1)], [.inl (36 + v15), .inr (some (26, 0, 0, 0)), .inl (36 + v15), .inr (some (26, 0, 0, 0))], (zx_lay M11, n))) rfl ?_
                refine zx_E.ix h (fun k11 hx_k11 hl_k11 h => ?_)
                refine zx_E.iald (k := k11) (h := (26, 0, 0, 0)) rfl rfl hx_k11 hl_k11 ?_
                show zx_E _ _ _ (137, [some (.inr (some (25, 0, 0, 0))), some (.inl w1), some (.inl v1), some (.inl 1), some (.inl 1)], [.inl (M11 (26, 0, 0, 0) k11), .inl (36 + v15), .inr (some (26, 0, 0, 0))], (zx_lay M11, n)) _
                refine zx_E.go 2 (s' := (139, [some (.inr (some (25, 0, 0, 0))), some (.inl w1), some (.inl v1), some (.inl 1), some (.inl 1)], [.inl ((M11 (26, 0, 0, 0) k11) + 1), .inl (36 + v15), .inr (some (26, 0, 0, 0))], (zx_lay M11, n))) rfl ?_
                refine zx_E.ix h (fun k12 hx_k12 hl_k12 h => ?_)
                refine zx_E.ia h rfl rfl hx_k12 hl_k12 (fun M12 h => ?_)
                show zx_E _ _ _ (140, [some (.inr (some (25, 0, 0, 0))), some (.inl w1), some (.inl v1), some (.inl 1), some (.inl 1)], [], (zx_lay M12, n)) _
                refine zx_E.go 2 (s' := (2, [some (.inr (some (25, 0, 0, 0))), some (.inl (w1 + 1)), some (.inl v1), some (.inl 1), some (.inl 1)], [], (zx_lay M12, n))) rfl ?_
                exact rl_X11_account_2 hk q _ _ _ (w1 + 1) M12 h
              · refine zx_E.go 2 (s' := (2, [some (.inr (some (25, 0, 0, 0))), some (.inl (w1 + 1)), some (.inl v1), some (.inl 1), some (.inl 1)], [], (zx_lay M11, n))) rfl ?_
                exact rl_X11_account_2 hk q _ _ _ (w1 + 1) M11 h
          · refine zx_E.go 2 (s' := (77, [some (.inr (some (25, 0, 0, 0))), some (.inl w1), some (.inl v1), some (.inl 1), g4], [.inl 3, .inl v1], (zx_lay M, n))) rfl ?_
            refine zx_E.brh (c := (3 : Int32) < v1) (s1 := (84, [some (.inr (some (25, 0, 0, 0))), some (.inl w1), some (.inl v1), some (.inl 1), g4], [], (zx_lay M, n))) (s2 := (80, [some (.inr (some (25, 0, 0, 0))), some (.inl w1), some (.inl v1), some (.inl 1), g4], [], (zx_lay M, n))) h (zx_ic_gt rfl) (fun _ h => ?_) (fun _ h => ?_)
            · refine zx_E.go 12 (s' := (99, [some (.inr (some (25, 0, 0, 0))), some (.inl w1), some (.inl v1), some (.inl 1), some (.inl 0)], [.inl 14, .inl w1, .inr (some (25, 0, 0, 0)), .inl 14, .inl w1, .inr (some (25, 0, 0, 0))], (zx_lay M, n))) rfl ?_
              refine zx_E.cb (y := 125) (as := [.inr (some (25, 0, 0, 0)), .inl w1, .inl 14]) (rest := [.inl 14, .inl w1, .inr (some (25, 0, 0, 0))]) h rfl (fun _ hv => zx_run_up (by omega) (r_X11_at (d := d) hv)) (fun v16 h => ?_)
              show zx_E _ _ _ (102, [some (.inr (some (25, 0, 0, 0))), some (.inl w1), some (.inl v1), some (.inl 1), some (.inl 0)], [.inl v16, .inl 14, .inl w1, .inr (some (25, 0, 0, 0))], (zx_lay M, n)) _
              refine zx_E.go 1 (s' := (104, [some (.inr (some (25, 0, 0, 0))), some (.inl w1), some (.inl v1), some (.inl 1), some (.inl 0)], [.inl 0, .inl v16, .inl 14, .inl w1, .inr (some (25, 0, 0, 0))], (zx_lay M, n))) rfl ?_
              refine zx_E.bt (c := ((0 : Int32) = 0 : Prop)) (s1 := (111, [some (.inr (some (25, 0, 0, 0))), some (.inl w1), some (.inl v1), some (.inl 1), some (.inl 0)], [.inl v16, .inl 14, .inl w1, .inr (some (25, 0, 0, 0))], (zx_lay M, n))) (s2 := (107, [some (.inr (some (25, 0, 0, 0))), some (.inl w1), some (.inl v1), some (.inl 1), some (.inl 0)], [.inl v16, .inl 14, .inl w1, .inr (some (25, 0, 0, 0))], (zx_lay M, n))) (zx_if_eq rfl) (by decide) ?_
              refine zx_E.go 2 (s' := (113, [some (.inr (some (25, 0, 0, 0))), some (.inl w1), some (.inl v1), some (.inl 1), some (.inl 0)], [.inl (v16 + 0), .inl 14, .inl w1, .inr (some (25, 0, 0, 0))], (zx_lay M, n))) rfl ?_
              refine zx_E.cm (y := 126) (as := [.inr (some (25, 0, 0, 0)), .inl w1, .inl 14, .inl (v16 + 0)]) (rest := []) h rfl (fun _ hv => zx_run_up (by omega) (r_X11_set (d := d) hv)) (fun M13 h => ?_)
              show zx_E _ _ _ (116, [some (.inr (some (25, 0, 0, 0))), some (.inl w1), some (.inl v1), some (.inl 1), some (.inl 0)], [], (zx_lay M13, n)) _
              refine zx_E.go 2 (s' := (118, [some (.inr (some (25, 0, 0, 0))), some (.inl w1), some (.inl v1), some (.inl 1), some (.inl 0)], [.inl 2, .inl v1], (zx_lay M13, n))) rfl ?_
              refine zx_E.brh (c := v1 = 2) (s1 := (121, [some (.inr (some (25, 0, 0, 0))), some (.inl w1), some (.inl v1), some (.inl 1), some (.inl 0)], [], (zx_lay M13, n))) (s2 := (140, [some (.inr (some (25, 0, 0, 0))), some (.inl w1), some (.inl v1), some (.inl 1), some (.inl 0)], [], (zx_lay M13, n))) h (zx_ic_ne rfl) (fun _ h => ?_) (fun _ h => ?_)
              · refine zx_E.go 6 (s' := (131, [some (.inr (some (25, 0, 0, 0))), some (.inl w1), some (.inl v1), some (.inl 1), some (.inl 0)], [.inl 11, .inl w1, .inr (some (25, 0, 0, 0)), .inl 36, .inr (some (26, 0, 0, 0))], (zx_lay M13, n))) rfl ?_
                refine zx_E.cb (y := 125) (as := [.inr (some (25, 0, 0, 0)), .inl w1, .inl 11]) (rest := [.inl 36, .inr (some (26, 0, 0, 0))]) h rfl (fun _ hv => zx_run_up (by omega) (r_X11_at (d := d) hv)) (fun v17 h => ?_)
                show zx_E _ _ _ (134, [some (.inr (some (25, 0, 0, 0))), some (.inl w1), some (.inl v1), some (.inl 1), some (.inl 0)], [.inl v17, .inl 36, .inr (some (26, 0, 0, 0))], (zx_lay M13, n)) _
                refine zx_E.go 2 (s' := (136, [some (.inr (some (25, 0, 0, 0))), some (.inl w1), some (.inl v1), some (.inl 1), some (.inl 0)], [.inl (36 + v17), .inr (some (26, 0, 0, 0)), .inl (36 + v17), .inr (some (26, 0, 0, 0))], (zx_lay M13, n))) rfl ?_
                refine zx_E.ix h (fun k13 hx_k13 hl_k13 h => ?_)
                refine zx_E.iald (k := k13) (h := (26, 0, 0, 0)) rfl rfl hx_k13 hl_k13 ?_
                show zx_E _ _ _ (137, [some (.inr (some (25, 0, 0, 0))), some (.inl w1), some (.inl v1), some (.inl 1), some (.inl 0)], [.inl (M13 (26, 0, 0, 0) k13), .inl (36 + v17), .inr (some (26, 0, 0, 0))], (zx_lay M13, n)) _
                refine zx_E.go 2 (s' := (139, [some (.inr (some (25, 0, 0, 0))), some (.inl w1), some (.inl v1), some (.inl 1), some (.inl 0)], [.inl ((M13 (26, 0, 0, 0) k13) + 1), .inl (36 + v17), .inr (some (26, 0, 0, 0))], (zx_lay M13, n))) rfl ?_
                refine zx_E.ix h (fun k14 hx_k14 hl_k14 h => ?_)
                refine zx_E.ia h rfl rfl hx_k14 hl_k14 (fun M14 h => ?_)
                show zx_E _ _ _ (140, [some (.inr (some (25, 0, 0, 0))), some (.inl w1), some (.inl v1), some (.inl 1), some (.inl 0)], [], (zx_lay M14, n)) _
                refine zx_E.go 2 (s' := (2, [some (.inr (some (25, 0, 0, 0))), some (.inl (w1 + 1)), some (.inl v1), some (.inl 1), some (.inl 0)], [], (zx_lay M14, n))) rfl ?_
                exact rl_X11_account_2 hk q _ _ _ (w1 + 1) M14 h
              · refine zx_E.go 2 (s' := (2, [some (.inr (some (25, 0, 0, 0))), some (.inl (w1 + 1)), some (.inl v1), some (.inl 1), some (.inl 0)], [], (zx_lay M13, n))) rfl ?_
                exact rl_X11_account_2 hk q _ _ _ (w1 + 1) M13 h
            · refine zx_E.go 13 (s' := (99, [some (.inr (some (25, 0, 0, 0))), some (.inl w1), some (.inl v1), some (.inl 1), some (.inl 1)], [.inl 14, .inl w1, .inr (some (25, 0, 0, 0)), .inl 14, .inl w1, .inr (some (25, 0, 0, 0))], (zx_lay M, n))) rfl ?_
              refine zx_E.cb (y := 125) (as := [.inr (some (25, 0, 0, 0)), .inl w1, .inl 14]) (rest := [.inl 14, .inl w1, .inr (some (25, 0, 0, 0))]) h rfl (fun _ hv => zx_run_up (by omega) (r_X11_at (d := d) hv)) (fun v18 h => ?_)
              show zx_E _ _ _ (102, [some (.inr (some (25, 0, 0, 0))), some (.inl w1), some (.inl v1), some (.inl 1), some (.inl 1)], [.inl v18, .inl 14, .inl w1, .inr (some (25, 0, 0, 0))], (zx_lay M, n)) _
              refine zx_E.go 1 (s' := (104, [some (.inr (some (25, 0, 0, 0))), some (.inl w1), some (.inl v1), some (.inl 1), some (.inl 1)], [.inl 1, .inl v18, .inl 14, .inl w1, .inr (some (25, 0, 0, 0))], (zx_lay M, n))) rfl ?_
              refine zx_E.bf (c := ((1 : Int32) = 0 : Prop)) (s1 := (111, [some (.inr (some (25, 0, 0, 0))), some (.inl w1), some (.inl v1), some (.inl 1), some (.inl 1)], [.inl v18, .inl 14, .inl w1, .inr (some (25, 0, 0, 0))], (zx_lay M, n))) (s2 := (107, [some (.inr (some (25, 0, 0, 0))), some (.inl w1), some (.inl v1), some (.inl 1), some (.inl 1)], [.inl v18, .inl 14, .inl w1, .inr (some (25, 0, 0, 0))], (zx_lay M, n))) (zx_if_eq rfl) (by decide) ?_
              refine zx_E.go 3 (s' := (113, [some (.inr (some (25, 0, 0, 0))), some (.inl w1), some (.inl v1), some (.inl 1), some (.inl 1)], [.inl (v18 + 1), .inl 14, .inl w1, .inr (some (25, 0, 0, 0))], (zx_lay M, n))) rfl ?_
              refine zx_E.cm (y := 126) (as := [.inr (some (25, 0, 0, 0)), .inl w1, .inl 14, .inl (v18 + 1)]) (rest := []) h rfl (fun _ hv => zx_run_up (by omega) (r_X11_set (d := d) hv)) (fun M15 h => ?_)
              show zx_E _ _ _ (116, [some (.inr (some (25, 0, 0, 0))), some (.inl w1), some (.inl v1), some (.inl 1), some (.inl 1)], [], (zx_lay M15, n)) _
              refine zx_E.go 2 (s' := (118, [some (.inr (some (25, 0, 0, 0))), some (.inl w1), some (.inl v1), some (.inl 1), some (.inl 1)], [.inl 2, .inl v1], (zx_lay M15, n))) rfl ?_
              refine zx_E.brh (c := v1 = 2) (s1 := (121, [some (.inr (some (25, 0, 0, 0))), some (.inl w1), some (.inl v1), some (.inl 1), some (.inl 1)], [], (zx_lay M15, n))) (s2 := (140, [some (.inr (some (25, 0, 0, 0))), some (.inl w1), some (.inl v1), some (.inl 1), some (.inl 1)], [], (zx_lay M15, n))) h (zx_ic_ne rfl) (fun _ h => ?_) (fun _ h => ?_)
              · refine zx_E.go 6 (s' := (131, [some (.inr (some (25, 0, 0, 0))), some (.inl w1), some (.inl v1), some (.inl 1), some (.inl 1)], [.inl 11, .inl w1, .inr (some (25, 0, 0, 0)), .inl 36, .inr (some (26, 0, 0, 0))], (zx_lay M15, n))) rfl ?_
                refine zx_E.cb (y := 125) (as := [.inr (some (25, 0, 0, 0)), .inl w1, .inl 11]) (rest := [.inl 36, .inr (some (26, 0, 0, 0))]) h rfl (fun _ hv => zx_run_up (by omega) (r_X11_at (d := d) hv)) (fun v19 h => ?_)
                show zx_E _ _ _ (134, [some (.inr (some (25, 0, 0, 0))), some (.inl w1), some (.inl v1), some (.inl 1), some (.inl 1)], [.inl v19, .inl 36, .inr (some (26, 0, 0, 0))], (zx_lay M15, n)) _
                refine zx_E.go 2 (s' := (136, [some (.inr (some (25, 0, 0, 0))), some (.inl w1), some (.inl v1), some (.inl 1), some (.inl 1)], [.inl (36 + v19), .inr (some (26, 0, 0, 0)), .inl (36 + v19), .inr (some (26, 0, 0, 0))], (zx_lay M15, n))) rfl ?_
                refine zx_E.ix h (fun k15 hx_k15 hl_k15 h => ?_)
                refine zx_E.iald (k := k15) (h := (26, 0, 0, 0)) rfl rfl hx_k15 hl_k15 ?_
                show zx_E _ _ _ (137, [some (.inr (some (25, 0, 0, 0))), some (.inl w1), some (.inl v1), some (.inl 1), some (.inl 1)], [.inl (M15 (26, 0, 0, 0) k15), .inl (36 + v19), .inr (some (26, 0, 0, 0))], (zx_lay M15, n)) _
                refine zx_E.go 2 (s' := (139, [some (.inr (some (25, 0, 0, 0))), some (.inl w1), some (.inl v1), some (.inl 1), some (.inl 1)], [.inl ((M15 (26, 0, 0, 0) k15) + 1), .inl (36 + v19), .inr (some (26, 0, 0, 0))], (zx_lay M15, n))) rfl ?_
                refine zx_E.ix h (fun k16 hx_k16 hl_k16 h => ?_)
                refine zx_E.ia h rfl rfl hx_k16 hl_k16 (fun M16 h => ?_)
                show zx_E _ _ _ (140, [some (.inr (some (25, 0, 0, 0))), some (.inl w1), some (.inl v1), some (.inl 1), some (.inl 1)], [], (zx_lay M16, n)) _
                refine zx_E.go 2 (s' := (2, [some (.inr (some (25, 0, 0, 0))), some (.inl (w1 + 1)), some (.inl v1), some (.inl 1), some (.inl 1)], [], (zx_lay M16, n))) rfl ?_
                exact rl_X11_account_2 hk q _ _ _ (w1 + 1) M16 h
              · refine zx_E.go 2 (s' := (2, [some (.inr (some (25, 0, 0, 0))), some (.inl (w1 + 1)), some (.inl v1), some (.inl 1), some (.inl 1)], [], (zx_lay M15, n))) rfl ?_
                exact rl_X11_account_2 hk q _ _ _ (w1 + 1) M15 h
        · refine zx_E.go 2 (s' := (39, [some (.inr (some (25, 0, 0, 0))), some (.inl w1), some (.inl v1), g3, g4], [.inl 3, .inl v1], (zx_lay M, n))) rfl ?_
          refine zx_E.brh (c := v1 = 3) (s1 := (42, [some (.inr (some (25, 0, 0, 0))), some (.inl w1), some (.inl v1), g3, g4], [], (zx_lay M, n))) (s2 := (46, [some (.inr (some (25, 0, 0, 0))), some (.inl w1), some (.inl v1), g3, g4], [], (zx_lay M, n))) h (zx_ic_ne rfl) (fun _ h => ?_) (fun _ h => ?_)
          · refine zx_E.go 4 (s' := (49, [some (.inr (some (25, 0, 0, 0))), some (.inl w1), some (.inl v1), some (.inl 2), g4], [.inl v1], (zx_lay M, n))) rfl ?_
            refine zx_E.brh (c := v1 = 0) (s1 := (52, [some (.inr (some (25, 0, 0, 0))), some (.inl w1), some (.inl v1), some (.inl 2), g4], [], (zx_lay M, n))) (s2 := (75, [some (.inr (some (25, 0, 0, 0))), some (.inl w1), some (.inl v1), some (.inl 2), g4], [], (zx_lay M, n))) h (zx_if_ne rfl) (fun _ h => ?_) (fun _ h => ?_)
            · refine zx_E.go 3 (s' := (57, [some (.inr (some (25, 0, 0, 0))), some (.inl w1), some (.inl v1), some (.inl 2), g4], [.inl 0, .inr (some (26, 0, 0, 0))], (zx_lay M, n))) rfl ?_
              refine zx_E.iald (k := 0) (h := (26, 0, 0, 0)) rfl rfl rfl (by decide) ?_
              show zx_E _ _ _ (58, [some (.inr (some (25, 0, 0, 0))), some (.inl w1), some (.inl v1), some (.inl 2), g4], [.inl (M (26, 0, 0, 0) 0)], (zx_lay M, n)) _
              refine zx_E.go 3 (s' := (61, [some (.inr (some (25, 0, 0, 0))), some (.inl w1), some (.inl v1), some (.inl 2), g4], [.inl 4, .inl w1, .inr (some (25, 0, 0, 0)), .inl (M (26, 0, 0, 0) 0)], (zx_lay M, n))) rfl ?_
              refine zx_E.cb (y := 125) (as := [.inr (some (25, 0, 0, 0)), .inl w1, .inl 4]) (rest := [.inl (M (26, 0, 0, 0) 0)]) h rfl (fun _ hv => zx_run_up (by omega) (r_X11_at (d := d) hv)) (fun v20 h => ?_)
              show zx_E _ _ _ (64, [some (.inr (some (25, 0, 0, 0))), some (.inl w1), some (.inl v1), some (.inl 2), g4], [.inl v20, .inl (M (26, 0, 0, 0) 0)], (zx_lay M, n)) _
              refine zx_E.brh (c := (M (26, 0, 0, 0) 0) < v20) (s1 := (71, [some (.inr (some (25, 0, 0, 0))), some (.inl w1), some (.inl v1), some (.inl 2), g4], [], (zx_lay M, n))) (s2 := (67, [some (.inr (some (25, 0, 0, 0))), some (.inl w1), some (.inl v1), some (.inl 2), g4], [], (zx_lay M, n))) h (zx_ic_lt rfl) (fun _ h => ?_) (fun _ h => ?_)
              · refine zx_E.go 13 (s' := (99, [some (.inr (some (25, 0, 0, 0))), some (.inl w1), some (.inl v1), some (.inl 2), some (.inl 0)], [.inl 15, .inl w1, .inr (some (25, 0, 0, 0)), .inl 15, .inl w1, .inr (some (25, 0, 0, 0))], (zx_lay M, n))) rfl ?_
                refine zx_E.cb (y := 125) (as := [.inr (some (25, 0, 0, 0)), .inl w1, .inl 15]) (rest := [.inl 15, .inl w1, .inr (some (25, 0, 0, 0))]) h rfl (fun _ hv => zx_run_up (by omega) (r_X11_at (d := d) hv)) (fun v21 h => ?_)
                show zx_E _ _ _ (102, [some (.inr (some (25, 0, 0, 0))), some (.inl w1), some (.inl v1), some (.inl 2), some (.inl 0)], [.inl v21, .inl 15, .inl w1, .inr (some (25, 0, 0, 0))], (zx_lay M, n)) _
                refine zx_E.go 1 (s' := (104, [some (.inr (some (25, 0, 0, 0))), some (.inl w1), some (.inl v1), some (.inl 2), some (.inl 0)], [.inl 0, .inl v21, .inl 15, .inl w1, .inr (some (25, 0, 0, 0))], (zx_lay M, n))) rfl ?_
                refine zx_E.bt (c := ((0 : Int32) = 0 : Prop)) (s1 := (111, [some (.inr (some (25, 0, 0, 0))), some (.inl w1), some (.inl v1), some (.inl 2), some (.inl 0)], [.inl v21, .inl 15, .inl w1, .inr (some (25, 0, 0, 0))], (zx_lay M, n))) (s2 := (107, [some (.inr (some (25, 0, 0, 0))), some (.inl w1), some (.inl v1), some (.inl 2), some (.inl 0)], [.inl v21, .inl 15, .inl w1, .inr (some (25, 0, 0, 0))], (zx_lay M, n))) (zx_if_eq rfl) (by decide) ?_
                refine zx_E.go 2 (s' := (113, [some (.inr (some (25, 0, 0, 0))), some (.inl w1), some (.inl v1), some (.inl 2), some (.inl 0)], [.inl (v21 + 0), .inl 15, .inl w1, .inr (some (25, 0, 0, 0))], (zx_lay M, n))) rfl ?_
                refine zx_E.cm (y := 126) (as := [.inr (some (25, 0, 0, 0)), .inl w1, .inl 15, .inl (v21 + 0)]) (rest := []) h rfl (fun _ hv => zx_run_up (by omega) (r_X11_set (d := d) hv)) (fun M17 h => ?_)
                show zx_E _ _ _ (116, [some (.inr (some (25, 0, 0, 0))), some (.inl w1), some (.inl v1), some (.inl 2), some (.inl 0)], [], (zx_lay M17, n)) _
                refine zx_E.go 2 (s' := (118, [some (.inr (some (25, 0, 0, 0))), some (.inl w1), some (.inl v1), some (.inl 2), some (.inl 0)], [.inl 2, .inl v1], (zx_lay M17, n))) rfl ?_
                refine zx_E.brh (c := v1 = 2) (s1 := (121, [some (.inr (some (25, 0, 0, 0))), some (.inl w1), some (.inl v1), some (.inl 2), some (.inl 0)], [], (zx_lay M17, n))) (s2 := (140, [some (.inr (some (25, 0, 0, 0))), some (.inl w1), some (.inl v1), some (.inl 2), some (.inl 0)], [], (zx_lay M17, n))) h (zx_ic_ne rfl) (fun _ h => ?_) (fun _ h => ?_)
                · refine zx_E.go 6 (s' := (131, [some (.inr (some (25, 0, 0, 0))), some (.inl w1), some (.inl v1), some (.inl 2), some (.inl 0)], [.inl 11, .inl w1, .inr (some (25, 0, 0, 0)), .inl 36, .inr (some (26, 0, 0, 0))], (zx_lay M17, n))) rfl ?_
                  refine zx_E.cb (y := 125) (as := [.inr (some (25, 0, 0, 0)), .inl w1, .inl 11]) (rest := [.inl 36, .inr (some (26, 0, 0, 0))]) h rfl (fun _ hv => zx_run_up (by omega) (r_X11_at (d := d) hv)) (fun v22 h => ?_)
                  show zx_E _ _ _ (134, [some (.inr (some (25, 0, 0, 0))), some (.inl w1), some (.inl v1), some (.inl 2), some (.inl 0)], [.inl v22, .inl 36, .inr (some (26, 0, 0, 0))], (zx_lay M17, n)) _
                  refine zx_E.go 2 (s' := (136, [some (.inr (some (25, 0, 0, 0))), some (.inl w1), some (.inl v1), some (.inl 2), some (.inl 0)], [.inl (36 + v22), .inr (some (26, 0, 0, 0)), .inl (36 + v22), .inr (some (26, 0, 0, 0))], (zx_lay M17, n))) rfl ?_
                  refine zx_E.ix h (fun k17 hx_k17 hl_k17 h => ?_)
                  refine zx_E.iald (k := k17) (h := (26, 0, 0, 0)) rfl rfl hx_k17 hl_k17 ?_
                  show zx_E _ _ _ (137, [some (.inr (some (25, 0, 0, 0))), some (.inl w1), some (.inl v1), some (.inl 2), some (.inl 0)], [.inl (M17 (26, 0, 0, 0) k17), .inl (36 + v22), .inr (some (26, 0, 0, 0))], (zx_lay M17, n)) _
                  refine zx_E.go 2 (s' := (139, [some (.inr (some (25, 0, 0, 0))), some (.inl w1), some (.inl v1), some (.inl 2), some (.inl 0)], [.inl ((M17 (26, 0, 0, 0) k17) + 1), .inl (36 + v22), .inr (some (26, 0, 0, 0))], (zx_lay M17, n))) rfl ?_
                  refine zx_E.ix h (fun k18 hx_k18 hl_k18 h => ?_)
                  refine zx_E.ia h rfl rfl hx_k18 hl_k18 (fun M18 h => ?_)
                  show zx_E _ _ _ (140, [some (.inr (some (25, 0, 0, 0))), some (.inl w1), some (.inl v1), some (.inl 2), some (.inl 0)], [], (zx_lay M18, n)) _
                  refine zx_E.go 2 (s' := (2, [some (.inr (some (25, 0, 0, 0))), some (.inl (w1 + 1)), some (.inl v1), some (.inl 2), some (.inl 0)], [], (zx_lay M18, n))) rfl ?_
                  exact rl_X11_account_2 hk q _ _ _ (w1 + 1) M18 h
                · refine zx_E.go 2 (s' := (2, [some (.inr (some (25, 0, 0, 0))), some (.inl (w1 + 1)), some (.inl v1), some (.inl 2), some (.inl 0)], [], (zx_lay M17, n))) rfl ?_
                  exact rl_X11_account_2 hk q _ _ _ (w1 + 1) M17 h
              · refine zx_E.go 13 (s' := (99, [some (.inr (some (25, 0, 0, 0))), some (.inl w1), some (.inl v1), some (.inl 2), some (.inl 1)], [.inl 15, .inl w1, .inr (some (25, 0, 0, 0)), .inl 15, .inl w1, .inr (some (25, 0, 0, 0))], (zx_lay M, n))) rfl ?_
                refine zx_E.cb (y := 125) (as := [.inr (some (25, 0, 0, 0)), .inl w1, .inl 15]) (rest := [.inl 15, .inl w1, .inr (some (25, 0, 0, 0))]) h rfl (fun _ hv => zx_run_up (by omega) (r_X11_at (d := d) hv)) (fun v23 h => ?_)
                show zx_E _ _ _ (102, [some (.inr (some (25, 0, 0, 0))), some (.inl w1), some (.inl v1), some (.inl 2), some (.inl 1)], [.inl v23, .inl 15, .inl w1, .inr (some (25, 0, 0, 0))], (zx_lay M, n)) _
                refine zx_E.go 1 (s' := (104, [some (.inr (some (25, 0, 0, 0))), some (.inl w1), some (.inl v1), some (.inl 2), some (.inl 1)], [.inl 1, .inl v23, .inl 15, .inl w1, .inr (some (25, 0, 0, 0))], (zx_lay M, n))) rfl ?_
                refine zx_E.bf (c := ((1 : Int32) = 0 : Prop)) (s1 := (111, [some (.inr (some (25, 0, 0, 0))), some (.inl w1), some (.inl v1), some (.inl 2), some (.inl 1)], [.inl v23, .inl 15, .inl w1, .inr (some (25, 0, 0, 0))], (zx_lay M, n))) (s2 := (107, [some (.inr (some (25, 0, 0, 0))), some (.inl w1), some (.inl v1), some (.inl 2), some (.inl 1)], [.inl v23, .inl 15, .inl w1, .inr (some (25, 0, 0, 0))], (zx_lay M, n))) (zx_if_eq rfl) (by decide) ?_
                refine zx_E.go 3 (s' := (113, [some (.inr (some (25, 0, 0, 0))), some (.inl w1), some (.inl v1), some (.inl 2), some (.inl 1)], [.inl (v23 + 1), .inl 15, .inl w1, .inr (some (25, 0, 0, 0))], (zx_lay M, n))) rfl ?_
                refine zx_E.cm (y := 126) (as := [.inr (some (25, 0, 0, 0)), .inl w1, .inl 15, .inl (v23 + 1)]) (rest := []) h rfl (fun _ hv => zx_run_up (by omega) (r_X11_set (d := d) hv)) (fun M19 h => ?_)
                show zx_E _ _ _ (116, [some (.inr (some (25, 0, 0, 0))), some (.inl w1), some (.inl v1), some (.inl 2), some (.inl 1)], [], (zx_lay M19, n)) _
                refine zx_E.go 2 (s' := (118, [some (.inr (some (25, 0, 0, 0))), some (.inl w1), some (.inl v1), some (.inl 2), some (.inl 1)], [.inl 2, .inl v1], (zx_lay M19, n))) rfl ?_
                refine zx_E.brh (c := v1 = 2) (s1 := (121, [some (.inr (some (25, 0, 0, 0))), some (.inl w1), some (.inl v1), some (.inl 2), some (.inl 1)], [], (zx_lay M19, n))) (s2 := (140, [some (.inr (some (25, 0, 0, 0))), some (.inl w1), some (.inl v1), some (.inl 2), some (.inl 1)], [], (zx_lay M19, n))) h (zx_ic_ne rfl) (fun _ h => ?_) (fun _ h => ?_)
                · refine zx_E.go 6 (s' := (131, [some (.inr (some (25, 0, 0, 0))), some (.inl w1), some (.inl v1), some (.inl 2), some (.inl 1)], [.inl 11, .inl w1, .inr (some (25, 0, 0, 0)), .inl 36, .inr (some (26, 0, 0, 0))], (zx_lay M19, n))) rfl ?_
                  refine zx_E.cb (y := 125) (as := [.inr (some (25, 0, 0, 0)), .inl w1, .inl 11]) (rest := [.inl 36, .inr (some (26, 0, 0, 0))]) h rfl (fun _ hv => zx_run_up (by omega) (r_X11_at (d := d) hv)) (fun v24 h => ?_)
                  show zx_E _ _ _ (134, [some (.inr (some (25, 0, 0, 0))), some (.inl w1), some (.inl v1), some (.inl 2), some (.inl 1)], [.inl v24, .inl 36, .inr (some (26, 0, 0, 0))], (zx_lay M19, n)) _
                  refine zx_E.go 2 (s' := (136, [some (.inr (some (25, 0, 0, 0))), some (.inl w1), some (.inl v1), some (.inl 2), some (.inl 1)], [.inl (36 + v24), .inr (some (26, 0, 0, 0)), .inl (36 + v24), .inr (some (26, 0, 0, 0))], (zx_lay M19, n))) rfl ?_
                  refine zx_E.ix h (fun k19 hx_k19 hl_k19 h => ?_)
                  refine zx_E.iald (k := k19) (h := (26, 0, 0, 0)) rfl rfl hx_k19 hl_k19 ?_
                  show zx_E _ _ _ (137, [some (.inr (some (25, 0, 0, 0))), some (.inl w1), some (.inl v1), some (.inl 2), some (.inl 1)], [.inl (M19 (26, 0, 0, 0) k19), .inl (36 + v24), .inr (some (26, 0, 0, 0))], (zx_lay M19, n)) _
                  refine zx_E.go 2 (s' := (139, [some (.inr (some (25, 0, 0, 0))), some (.inl w1), some (.inl v1), some (.inl 2), some (.inl 1)], [.inl ((M19 (26, 0, 0, 0) k19) + 1), .inl (36 + v24), .inr (some (26, 0, 0, 0))], (zx_lay M19, n))) rfl ?_
                  refine zx_E.ix h (fun k20 hx_k20 hl_k20 h => ?_)
                  refine zx_E.ia h rfl rfl hx_k20 hl_k20 (fun M20 h => ?_)
                  show zx_E _ _ _ (140, [some (.inr (some (25, 0, 0, 0))), some (.inl w1), some (.inl v1), some (.inl 2), some (.inl 1)], [], (zx_lay M20, n)) _
                  refine zx_E.go 2 (s' := (2, [some (.inr (some (25, 0, 0, 0))), some (.inl (w1 + 1)), some (.inl v1), some (.inl 2), some (.inl 1)], [], (zx_lay M20, n))) rfl ?_
                  exact rl_X11_account_2 hk q _ _ _ (w1 + 1) M20 h
                · refine zx_E.go 2 (s' := (2, [some (.inr (some (25, 0, 0, 0))), some (.inl (w1 + 1)), some (.inl v1), some (.inl 2), some (.inl 1)], [], (zx_lay M19, n))) rfl ?_
                  exact rl_X11_account_2 hk q _ _ _ (w1 + 1) M19 h
            · refine zx_E.go 2 (s' := (77, [some (.inr (some (25, 0, 0, 0))), some (.inl w1), some (.inl v1), some (.inl 2), g4], [.inl 3, .inl v1], (zx_lay M, n))) rfl ?_
              refine zx_E.brh (c := (3 : Int32) < v1) (s1 := (84, [some (.inr (some (25, 0, 0, 0))), some (.inl w1), some (.inl v1), some (.inl 2), g4], [], (zx_lay M, n))) (s2 := (80, [some (.inr (some (25, 0, 0, 0))), some (.inl w1), some (.inl v1), some (.inl 2), g4], [], (zx_lay M, n))) h (zx_ic_gt rfl) (fun _ h => ?_) (fun _ h => ?_)
              · refine zx_E.go 12 (s' := (99, [some (.inr (some (25, 0, 0, 0))), some (.inl w1), some (.inl v1), some (.inl 2), some (.inl 0)], [.inl 15, .inl w1, .inr (some (25, 0, 0, 0)), .inl 15, .inl w1, .inr (some (25, 0, 0, 0))], (zx_lay M, n))) rfl ?_
                refine zx_E.cb (y := 125) (as := [.inr (some (25, 0, 0, 0)), .inl w1, .inl 15]) (rest := [.inl 15, .inl w1, .inr (some (25, 0, 0, 0))]) h rfl (fun _ hv => zx_run_up (by omega) (r_X11_at (d := d) hv)) (fun v25 h => ?_)
                show zx_E _ _ _ (102, [some (.inr (some (25, 0, 0, 0))), some (.inl w1), some (.inl v1), some (.inl 2), some (.inl 0)], [.inl v25, .inl 15, .inl w1, .inr (some (25, 0, 0, 0))], (zx_lay M, n)) _
                refine zx_E.go 1 (s' := (104, [some (.inr (some (25, 0, 0, 0))), some (.inl w1), some (.inl v1), some (.inl 2), some (.inl 0)], [.inl 0, .inl v25, .inl 15, .inl w1, .inr (some (25, 0, 0, 0))], (zx_lay M, n))) rfl ?_
                refine zx_E.bt (c := ((0 : Int32) = 0 : Prop)) (s1 := (111, [some (.inr (some (25, 0, 0, 0))), some (.inl w1), some (.inl v1), some (.inl 2), some (.inl 0)], [.inl v25, .inl 15, .inl w1, .inr (some (25, 0, 0, 0))], (zx_lay M, n))) (s2 := (107, [some (.inr (some (25, 0, 0, 0))), some (.inl w1), some (.inl v1), some (.inl 2), some (.inl 0)], [.inl v25, .inl 15, .inl w1, .inr (some (25, 0, 0, 0))], (zx_lay M, n))) (zx_if_eq rfl) (by decide) ?_
                refine zx_E.go 2 (s' := (113, [some (.inr (some (25, 0, 0, 0))), some (.inl w1), some (.inl v1), some (.inl 2), some (.inl 0)], [.inl (v25 + 0), .inl 15, .inl w1, .inr (some (25, 0, 0, 0))], (zx_lay M, n))) rfl ?_
                refine zx_E.cm (y := 126) (as := [.inr (some (25, 0, 0, 0)), .inl w1, .inl 15, .inl (v25 + 0)]) (rest := []) h rfl (fun _ hv => zx_run_up (by omega) (r_X11_set (d := d) hv)) (fun M21 h => ?_)
                show zx_E _ _ _ (116, [some (.inr (some (25, 0, 0, 0))), some (.inl w1), some (.inl v1), some (.inl 2), some (.inl 0)], [], (zx_lay M21, n)) _
                refine zx_E.go 2 (s' := (118, [some (.inr (some (25, 0, 0, 0))), some (.inl w1), some (.inl v1), some (.inl 2), some (.inl 0)], [.inl 2, .inl v1], (zx_lay M21, n))) rfl ?_
                refine zx_E.brh (c := v1 = 2) (s1 := (121, [some (.inr (some (25, 0, 0, 0))), some (.inl w1), some (.inl v1), some (.inl 2), some (.inl 0)], [], (zx_lay M21, n))) (s2 := (140, [some (.inr (some (25, 0, 0, 0))), some (.inl w1), some (.inl v1), some (.inl 2), some (.inl 0)], [], (zx_lay M21, n))) h (zx_ic_ne rfl) (fun _ h => ?_) (fun _ h => ?_)
                · refine zx_E.go 6 (s' := (131, [some (.inr (some (25, 0, 0, 0))), some (.inl w1), some (.inl v1), some (.inl 2), some (.inl 0)], [.inl 11, .inl w1, .inr (some (25, 0, 0, 0)), .inl 36, .inr (some (26, 0, 0, 0))], (zx_lay M21, n))) rfl ?_
                  refine zx_E.cb (y := 125) (as := [.inr (some (25, 0, 0, 0)), .inl w1, .inl 11]) (rest := [.inl 36, .inr (some (26, 0, 0, 0))]) h rfl (fun _ hv => zx_run_up (by omega) (r_X11_at (d := d) hv)) (fun v26 h => ?_)
                  show zx_E _ _ _ (134, [some (.inr (some (25, 0, 0, 0))), some (.inl w1), some (.inl v1), some (.inl 2), some (.inl 0)], [.inl v26, .inl 36, .inr (some (26, 0, 0, 0))], (zx_lay M21, n)) _
                  refine zx_E.go 2 (s' := (136, [some (.inr (some (25, 0, 0, 0))), some (.inl w1), some (.inl v1), some (.inl 2), some (.inl 0)], [.inl (36 + v26), .inr (some (26, 0, 0, 0)), .inl (36 + v26), .inr (some (26, 0, 0, 0))], (zx_lay M21, n))) rfl ?_
                  refine zx_E.ix h (fun k21 hx_k21 hl_k21 h => ?_)
                  refine zx_E.iald (k := k21) (h := (26, 0, 0, 0)) rfl rfl hx_k21 hl_k21 ?_
                  show zx_E _ _ _ (137, [some (.inr (some (25, 0, 0, 0))), some (.inl w1), some (.inl v1), some (.inl 2), some (.inl 0)], [.inl (M21 (26, 0, 0, 0) k21), .inl (36 + v26), .inr (some (26, 0, 0, 0))], (zx_lay M21, n)) _
                  refine zx_E.go 2 (s' := (139, [some (.inr (some (25, 0, 0, 0))), some (.inl w1), some (.inl v1), some (.inl 2), some (.inl 0)], [.inl ((M21 (26, 0, 0, 0) k21) + 1), .inl (36 + v26), .inr (some (26, 0, 0, 0))], (zx_lay M21, n))) rfl ?_
                  refine zx_E.ix h (fun k22 hx_k22 hl_k22 h => ?_)
                  refine zx_E.ia h rfl rfl hx_k22 hl_k22 (fun M22 h => ?_)
                  show zx_E _ _ _ (140, [some (.inr (some (25, 0, 0, 0))), some (.inl w1), some (.inl v1), some (.inl 2), some (.inl 0)], [], (zx_lay M22, n)) _
                  refine zx_E.go 2 (s' := (2, [some (.inr (some (25, 0, 0, 0))), some (.inl (w1 + 1)), some (.inl v1), some (.inl 2), some (.inl 0)], [], (zx_lay M22, n))) rfl ?_
                  exact rl_X11_account_2 hk q _ _ _ (w1 + 1) M22 h
                · refine zx_E.go 2 (s' := (2, [some (.inr (some (25, 0, 0, 0))), some (.inl (w1 + 1)), some (.inl v1), some (.inl 2), some (.inl 0)], [], (zx_lay M21, n))) rfl ?_
                  exact rl_X11_account_2 hk q _ _ _ (w1 + 1) M21 h
              · refine zx_E.go 13 (s' := (99, [some (.inr (some (25, 0, 0, 0))), some (.inl w1), some (.inl v1), some (.inl 2), some (.inl 1)], [.inl 15, .inl w1, .inr (some (25, 0, 0, 0)), .inl 15, .inl w1, .inr (some (25, 0, 0, 0))], (zx_lay M, n))) rfl ?_
                refine zx_E.cb (y := 125) (as := [.inr (some (25, 0, 0, 0)), .inl w1, .inl 15]) (rest := [.inl 15, .inl w1, .inr (some (25, 0, 0, 0))]) h rfl (fun _ hv => zx_run_up (by omega) (r_X11_at (d := d) hv)) (fun v27 h => ?_)
                show zx_E _ _ _ (102, [some (.inr (some (25, 0, 0, 0))), some (.inl w1), some (.inl v1), some (.inl 2), some (.inl 1)], [.inl v27, .inl 15, .inl w1, .inr (some (25, 0, 0, 0))], (zx_lay M, n)) _
                refine zx_E.go 1 (s' := (104, [some (.inr (some (25, 0, 0, 0))), some (.inl w1), some (.inl v1), some (.inl 2), some (.inl 1)], [.inl 1, .inl v27, .inl 15, .inl w1, .inr (some (25, 0, 0, 0))], (zx_lay M, n))) rfl ?_
                refine zx_E.bf (c := ((1 : Int32) = 0 : Prop)) (s1 := (111, [some (.inr (some (25, 0, 0, 0))), some (.inl w1), some (.inl v1), some (.inl 2), some (.inl 1)], [.inl v27, .inl 15, .inl w1, .inr (some (25, 0, 0, 0))], (zx_lay M, n))) (s2 := (107, [some (.inr (some (25, 0, 0, 0))), some (.inl w1), some (.inl v1), some (.inl 2), some (.inl 1)], [.inl v27, .inl 15, .inl w1, .inr (some (25, 0, 0, 0))], (zx_lay M, n))) (zx_if_eq rfl) (by decide) ?_
                refine zx_E.go 3 (s' := (113, [some (.inr (some (25, 0, 0, 0))), some (.inl w1), some (.inl v1), some (.inl 2), some (.inl 1)], [.inl (v27 + 1), .inl 15, .inl w1, .inr (some (25, 0, 0, 0))], (zx_lay M, n))) rfl ?_
                refine zx_E.cm (y := 126) (as := [.inr (some (25, 0, 0, 0)), .inl w1, .inl 15, .inl (v27 + 1)]) (rest := []) h rfl (fun _ hv => zx_run_up (by omega) (r_X11_set (d := d) hv)) (fun M23 h => ?_)
                show zx_E _ _ _ (116, [some (.inr (some (25, 0, 0, 0))), some (.inl w1), some (.inl v1), some (.inl 2), some (.inl 1)], [], (zx_lay M23, n)) _
                refine zx_E.go 2 (s' := (118, [some (.inr (some (25, 0, 0, 0))), some (.inl w1), some (.inl v1), some (.inl 2), some (.inl 1)], [.inl 2, .inl v1], (zx_lay M23, n))) rfl ?_
                refine zx_E.brh (c := v1 = 2) (s1 := (121, [some (.inr (some (25, 0, 0, 0))), some (.inl w1), some (.inl v1), some (.inl 2), some (.inl 1)], [], (zx_lay M23, n))) (s2 := (140, [some (.inr (some (25, 0, 0, 0))), some (.inl w1), some (.inl v1), some (.inl 2), some (.inl 1)], [], (zx_lay M23, n))) h (zx_ic_ne rfl) (fun _ h => ?_) (fun _ h => ?_)
                · refine zx_E.go 6 (s' := (131, [some (.inr (some (25, 0, 0, 0))), some (.inl w1), some (.inl v1), some (.inl 2), some (.inl 1)], [.inl 11, .inl w1, .inr (some (25, 0, 0, 0)), .inl 36, .inr (some (26, 0, 0, 0))], (zx_lay M23, n))) rfl ?_
                  refine zx_E.cb (y := 125) (as := [.inr (some (25, 0, 0, 0)), .inl w1, .inl 11]) (rest := [.inl 36, .inr (some (26, 0, 0, 0))]) h rfl (fun _ hv => zx_run_up (by omega) (r_X11_at (d := d) hv)) (fun v28 h => ?_)
                  show zx_E _ _ _ (134, [some (.inr (some (25, 0, 0, 0))), some (.inl w1), some (.inl v1), some (.inl 2), some (.inl 1)], [.inl v28, .inl 36, .inr (some (26, 0, 0, 0))], (zx_lay M23, n)) _
                  refine zx_E.go 2 (s' := (136, [some (.inr (some (25, 0, 0, 0))), some (.inl w1), some (.inl v1), some (.inl 2), some (.inl 1)], [.inl (36 + v28), .inr (some (26, 0, 0, 0)), .inl (36 + v28), .inr (some (26, 0, 0, 0))], (zx_lay M23, n))) rfl ?_
                  refine zx_E.ix h (fun k23 hx_k23 hl_k23 h => ?_)
                  refine zx_E.iald (k := k23) (h := (26, 0, 0, 0)) rfl rfl hx_k23 hl_k23 ?_
                  show zx_E _ _ _ (137, [some (.inr (some (25, 0, 0, 0))), some (.inl w1), some (.inl v1), some (.inl 2), some (.inl 1)], [.inl (M23 (26, 0, 0, 0) k23), .inl (36 + v28), .inr (some (26, 0, 0, 0))], (zx_lay M23, n)) _
                  refine zx_E.go 2 (s' := (139, [some (.inr (some (25, 0, 0, 0))), some (.inl w1), some (.inl v1), some (.inl 2), some (.inl 1)], [.inl ((M23 (26, 0, 0, 0) k23) + 1), .inl (36 + v28), .inr (some (26, 0, 0, 0))], (zx_lay M23, n))) rfl ?_
                  refine zx_E.ix h (fun k24 hx_k24 hl_k24 h => ?_)
                  refine zx_E.ia h rfl rfl hx_k24 hl_k24 (fun M24 h => ?_)
                  show zx_E _ _ _ (140, [some (.inr (some (25, 0, 0, 0))), some (.inl w1), some (.inl v1), some (.inl 2), some (.inl 1)], [], (zx_lay M24, n)) _
                  refine zx_E.go 2 (s' := (2, [some (.inr (some (25, 0, 0, 0))), some (.inl (w1 + 1)), some (.inl v1), some (.inl 2), some (.inl 1)], [], (zx_lay M24, n))) rfl ?_
                  exact rl_X11_account_2 hk q _ _ _ (w1 + 1) M24 h
                · refine zx_E.go 2 (s' := (2, [some (.inr (some (25, 0, 0, 0))), some (.inl (w1 + 1)), some (.inl v1), some (.inl 2), some (.inl 1)], [], (zx_lay M23, n))) rfl ?_
                  exact rl_X11_account_2 hk q _ _ _ (w1 + 1) M23 h
          · refine zx_E.go 3 (s' := (49, [some (.inr (some (25, 0, 0, 0))), some (.inl w1), some (.inl v1), some (.inl 3), g4], [.inl v1], (zx_lay M, n))) rfl ?_
            refine zx_E.brh (c := v1 = 0) (s1 := (52, [some (.inr (some (25, 0, 0, 0))), some (.inl w1), some (.inl v1), some (.inl 3), g4], [], (zx_lay M, n))) (s2 := (75, [some (.inr (some (25, 0, 0, 0))), some (.inl w1), some (.inl v1), some (.inl 3), g4], [], (zx_lay M, n))) h (zx_if_ne rfl) (fun _ h => ?_) (fun _ h => ?_)
            · refine zx_E.go 3 (s' := (57, [some (.inr (some (25, 0, 0, 0))), some (.inl w1), some (.inl v1), some (.inl 3), g4], [.inl 0, .inr (some (26, 0, 0, 0))], (zx_lay M, n))) rfl ?_
              refine zx_E.iald (k := 0) (h := (26, 0, 0, 0)) rfl rfl rfl (by decide) ?_
              show zx_E _ _ _ (58, [some (.inr (some (25, 0, 0, 0))), some (.inl w1), some (.inl v1), some (.inl 3), g4], [.inl (M (26, 0, 0, 0) 0)], (zx_lay M, n)) _
              refine zx_E.go 3 (s' := (61, [some (.inr (some (25, 0, 0, 0))), some (.inl w1), some (.inl v1), some (.inl 3), g4], [.inl 4, .inl w1, .inr (some (25, 0, 0, 0)), .inl (M (26, 0, 0, 0) 0)], (zx_lay M, n))) rfl ?_
              refine zx_E.cb (y := 125) (as := [.inr (some (25, 0, 0, 0)), .inl w1, .inl 4]) (rest := [.inl (M (26, 0, 0, 0) 0)]) h rfl (fun _ hv => zx_run_up (by omega) (r_X11_at (d := d) hv)) (fun v29 h => ?_)
              show zx_E _ _ _ (64, [some (.inr (some (25, 0, 0, 0))), some (.inl w1), some (.inl v1), some (.inl 3), g4], [.inl v29, .inl (M (26, 0, 0, 0) 0)], (zx_lay M, n)) _
              refine zx_E.brh (c := (M (26, 0, 0, 0) 0) < v29) (s1 := (71, [some (.inr (some (25, 0, 0, 0))), some (.inl w1), some (.inl v1), some (.inl 3), g4], [], (zx_lay M, n))) (s2 := (67, [some (.inr (some (25, 0, 0, 0))), some (.inl w1), some (.inl v1), some (.inl 3), g4], [], (zx_lay M, n))) h (zx_ic_lt rfl) (fun _ h => ?_) (fun _ h => ?_)
              · refine zx_E.go 13 (s' := (99, [some (.inr (some (25, 0, 0, 0))), some (.inl w1), some (.inl v1), some (.inl 3), some (.inl 0)], [.inl 16, .inl w1, .inr (some (25, 0, 0, 0)), .inl 16, .inl w1, .inr (some (25, 0, 0, 0))], (zx_lay M, n))) rfl ?_
                refine zx_E.cb (y := 125) (as := [.inr (some (25, 0, 0, 0)), .inl w1, .inl 16]) (rest := [.inl 16, .inl w1, .inr (some (25, 0, 0, 0))]) h rfl (fun _ hv => zx_run_up (by omega) (r_X11_at (d := d) hv)) (fun v30 h => ?_)
                show zx_E _ _ _ (102, [some (.inr (some (25, 0, 0, 0))), some (.inl w1), some (.inl v1), some (.inl 3), some (.inl 0)], [.inl v30, .inl 16, .inl w1, .inr (some (25, 0, 0, 0))], (zx_lay M, n)) _
                refine zx_E.go 1 (s' := (104, [some (.inr (some (25, 0, 0, 0))), some (.inl w1), some (.inl v1), some (.inl 3), some (.inl 0)], [.inl 0, .inl v30, .inl 16, .inl w1, .inr (some (25, 0, 0, 0))], (zx_lay M, n))) rfl ?_
                refine zx_E.bt (c := ((0 : Int32) = 0 : Prop)) (s1 := (111, [some (.inr (some (25, 0, 0, 0))), some (.inl w1), some (.inl v1), some (.inl 3), some (.inl 0)], [.inl v30, .inl 16, .inl w1, .inr (some (25, 0, 0, 0))], (zx_lay M, n))) (s2 := (107, [some (.inr (some (25, 0, 0, 0))), some (.inl w1), some (.inl v1), some (.inl 3), some (.inl 0)], [.inl v30, .inl 16, .inl w1, .inr (some (25, 0, 0, 0))], (zx_lay M, n))) (zx_if_eq rfl) (by decide) ?_
                refine zx_E.go 2 (s' := (113, [some (.inr (some (25, 0, 0, 0))), some (.inl w1), some (.inl v1), some (.inl 3), some (.inl 0)], [.inl (v30 + 0), .inl 16, .inl w1, .inr (some (25, 0, 0, 0))], (zx_lay M, n))) rfl ?_
                refine zx_E.cm (y := 126) (as := [.inr (some (25, 0, 0, 0)), .inl w1, .inl 16, .inl (v30 + 0)]) (rest := []) h rfl (fun _ hv => zx_run_up (by omega) (r_X11_set (d := d) hv)) (fun M25 h => ?_)
                show zx_E _ _ _ (116, [some (.inr (some (25, 0, 0, 0))), some (.inl w1), some (.inl v1), some (.inl 3), some (.inl 0)], [], (zx_lay M25, n)) _
                refine zx_E.go 2 (s' := (118, [some (.inr (some (25, 0, 0, 0))), some (.inl w1), some (.inl v1), some (.inl 3), some (.inl 0)], [.inl 2, .inl v1], (zx_lay M25, n))) rfl ?_
                refine zx_E.brh (c := v1 = 2) (s1 := (121, [some (.inr (some (25, 0, 0, 0))), some (.inl w1), some (.inl v1), some (.inl 3), some (.inl 0)], [], (zx_lay M25, n))) (s2 := (140, [some (.inr (some (25, 0, 0, 0))), some (.inl w1), some (.inl v1), some (.inl 3), some (.inl 0)], [], (zx_lay M25, n))) h (zx_ic_ne rfl) (fun _ h => ?_) (fun _ h => ?_)
                · refine zx_E.go 6 (s' := (131, [some (.inr (some (25, 0, 0, 0))), some (.inl w1), some (.inl v1), some (.inl 3), some (.inl 0)], [.inl 11, .inl w1, .inr (some (25, 0, 0, 0)), .inl 36, .inr (some (26, 0, 0, 0))], (zx_lay M25, n))) rfl ?_
                  refine zx_E.cb (y := 125) (as := [.inr (some (25, 0, 0, 0)), .inl w1, .inl 11]) (rest := [.inl 36, .inr (some (26, 0, 0, 0))]) h rfl (fun _ hv => zx_run_up (by omega) (r_X11_at (d := d) hv)) (fun v31 h => ?_)
                  show zx_E _ _ _ (134, [some (.inr (some (25, 0, 0, 0))), some (.inl w1), some (.inl v1), some (.inl 3), some (.inl 0)], [.inl v31, .inl 36, .inr (some (26, 0, 0, 0))], (zx_lay M25, n)) _
                  refine zx_E.go 2 (s' := (136, [some (.inr (some (25, 0, 0, 0))), some (.inl w1), some (.inl v1), some (.inl 3), some (.inl 0)], [.inl (36 + v31), .inr (some (26, 0, 0, 0)), .inl (36 + v31), .inr (some (26, 0, 0, 0))], (zx_lay M25, n))) rfl ?_
                  refine zx_E.ix h (fun k25 hx_k25 hl_k25 h => ?_)
                  refine zx_E.iald (k := k25) (h := (26, 0, 0, 0)) rfl rfl hx_k25 hl_k25 ?_
                  show zx_E _ _ _ (137, [some (.inr (some (25, 0, 0, 0))), some (.inl w1), some (.inl v1), some (.inl 3), some (.inl 0)], [.inl (M25 (26, 0, 0, 0) k25), .inl (36 + v31), .inr (some (26, 0, 0, 0))], (zx_lay M25, n)) _
                  refine zx_E.go 2 (s' := (139, [some (.inr (some (25, 0, 0, 0))), some (.inl w1), some (.inl v1), some (.inl 3), some (.inl 0)], [.inl ((M25 (26, 0, 0, 0) k25) + 1), .inl (36 + v31), .inr (some (26, 0, 0, 0))], (zx_lay M25, n))) rfl ?_
                  refine zx_E.ix h (fun k26 hx_k26 hl_k26 h => ?_)
                  refine zx_E.ia h rfl rfl hx_k26 hl_k26 (fun M26 h => ?_)
                  show zx_E _ _ _ (140, [some (.inr (some (25, 0, 0, 0))), some (.inl w1), some (.inl v1), some (.inl 3), some (.inl 0)], [], (zx_lay M26, n)) _
                  refine zx_E.go 2 (s' := (2, [some (.inr (some (25, 0, 0, 0))), some (.inl (w1 + 1)), some (.inl v1), some (.inl 3), some (.inl 0)], [], (zx_lay M26, n))) rfl ?_
                  exact rl_X11_account_2 hk q _ _ _ (w1 + 1) M26 h
                · refine zx_E.go 2 (s' := (2, [some (.inr (some (25, 0, 0, 0))), some (.inl (w1 + 1)), some (.inl v1), some (.inl 3), some (.inl 0)], [], (zx_lay M25, n))) rfl ?_
                  exact rl_X11_account_2 hk q _ _ _ (w1 + 1) M25 h
              · refine zx_E.go 13 (s' := (99, [some (.inr (some (25, 0, 0, 0))), some (.inl w1), some (.inl v1), some (.inl 3), some (.inl 1)], [.inl 16, .inl w1, .inr (some (25, 0, 0, 0)), .inl 16, .inl w1, .inr (some (25, 0, 0, 0))], (zx_lay M, n))) rfl ?_
                refine zx_E.cb (y := 125) (as := [.inr (some (25, 0, 0, 0)), .inl w1, .inl 16]) (rest := [.inl 16, .inl w1, .inr (some (25, 0, 0, 0))]) h rfl (fun _ hv => zx_run_up (by omega) (r_X11_at (d := d) hv)) (fun v32 h => ?_)
                show zx_E _ _ _ (102, [some (.inr (some (25, 0, 0, 0))), some (.inl w1), some (.inl v1), some (.inl 3), some (.inl 1)], [.inl v32, .inl 16, .inl w1, .inr (some (25, 0, 0, 0))], (zx_lay M, n)) _
                refine zx_E.go 1 (s' := (104, [some (.inr (some (25, 0, 0, 0))), some (.inl w1), some (.inl v1), some (.inl 3), some (.inl 1)], [.inl 1, .inl v32, .inl 16, .inl w1, .inr (some (25, 0, 0, 0))], (zx_lay M, n))) rfl ?_
                refine zx_E.bf (c := ((1 : Int32) = 0 : Prop)) (s1 := (111, [some (.inr (some (25, 0, 0, 0))), some (.inl w1), some (.inl v1), some (.inl 3), some (.inl 1)], [.inl v32, .inl 16, .inl w1, .inr (some (25, 0, 0, 0))], (zx_lay M, n))) (s2 := (107, [some (.inr (some (25, 0, 0, 0))), some (.inl w1), some (.inl v1), some (.inl 3), some (.inl 1)], [.inl v32, .inl 16, .inl w1, .inr (some (25, 0, 0, 0))], (zx_lay M, n))) (zx_if_eq rfl) (by decide) ?_
                refine zx_E.go 3 (s' := (113, [some (.inr (some (25, 0, 0, 0))), some (.inl w1), some (.inl v1), some (.inl 3), some (.inl 1)], [.inl (v32 + 1), .inl 16, .inl w1, .inr (some (25, 0, 0, 0))], (zx_lay M, n))) rfl ?_
                refine zx_E.cm (y := 126) (as := [.inr (some (25, 0, 0, 0)), .inl w1, .inl 16, .inl (v32 + 1)]) (rest := []) h rfl (fun _ hv => zx_run_up (by omega) (r_X11_set (d := d) hv)) (fun M27 h => ?_)
                show zx_E _ _ _ (116, [some (.inr (some (25, 0, 0, 0))), some (.inl w1), some (.inl v1), some (.inl 3), some (.inl 1)], [], (zx_lay M27, n)) _
                refine zx_E.go 2 (s' := (118, [some (.inr (some (25, 0, 0, 0))), some (.inl w1), some (.inl v1), some (.inl 3), some (.inl 1)], [.inl 2, .inl v1], (zx_lay M27, n))) rfl ?_
                refine zx_E.brh (c := v1 = 2) (s1 := (121, [some (.inr (some (25, 0, 0, 0))), some (.inl w1), some (.inl v1), some (.inl 3), some (.inl 1)], [], (zx_lay M27, n))) (s2 := (140, [some (.inr (some (25, 0, 0, 0))), some (.inl w1), some (.inl v1), some (.inl 3), some (.inl 1)], [], (zx_lay M27, n))) h (zx_ic_ne rfl) (fun _ h => ?_) (fun _ h => ?_)
                · refine zx_E.go 6 (s' := (131, [some (.inr (some (25, 0, 0, 0))), some (.inl w1), some (.inl v1), some (.inl 3), some (.inl 1)], [.inl 11, .inl w1, .inr (some (25, 0, 0, 0)), .inl 36, .inr (some (26, 0, 0, 0))], (zx_lay M27, n))) rfl ?_
                  refine zx_E.cb (y := 125) (as := [.inr (some (25, 0, 0, 0)), .inl w1, .inl 11]) (rest := [.inl 36, .inr (some (26, 0, 0, 0))]) h rfl (fun _ hv => zx_run_up (by omega) (r_X11_at (d := d) hv)) (fun v33 h => ?_)
                  show zx_E _ _ _ (134, [some (.inr (some (25, 0, 0, 0))), some (.inl w1), some (.inl v1), some (.inl 3), some (.inl 1)], [.inl v33, .inl 36, .inr (some (26, 0, 0, 0))], (zx_lay M27, n)) _
                  refine zx_E.go 2 (s' := (136, [some (.inr (some (25, 0, 0, 0))), some (.inl w1), some (.inl v1), some (.inl 3), some (.inl 1)], [.inl (36 + v33), .inr (some (26, 0, 0, 0)), .inl (36 + v33), .inr (some (26, 0, 0, 0))], (zx_lay M27, n))) rfl ?_
                  refine zx_E.ix h (fun k27 hx_k27 hl_k27 h => ?_)
                  refine zx_E.iald (k := k27) (h := (26, 0, 0, 0)) rfl rfl hx_k27 hl_k27 ?_
                  show zx_E _ _ _ (137, [some (.inr (some (25, 0, 0, 0))), some (.inl w1), some (.inl v1), some (.inl 3), some (.inl 1)], [.inl (M27 (26, 0, 0, 0) k27), .inl (36 + v33), .inr (some (26, 0, 0, 0))], (zx_lay M27, n)) _
                  refine zx_E.go 2 (s' := (139, [some (.inr (some (25, 0, 0, 0))), some (.inl w1), some (.inl v1), some (.inl 3), some (.inl 1)], [.inl ((M27 (26, 0, 0, 0) k27) + 1), .inl (36 + v33), .inr (some (26, 0, 0, 0))], (zx_lay M27, n))) rfl ?_
                  refine zx_E.ix h (fun k28 hx_k28 hl_k28 h => ?_)
                  refine zx_E.ia h rfl rfl hx_k28 hl_k28 (fun M28 h => ?_)
                  show zx_E _ _ _ (140, [some (.inr (some (25, 0, 0, 0))), some (.inl w1), some (.inl v1), some (.inl 3), some (.inl 1)], [], (zx_lay M28, n)) _
                  refine zx_E.go 2 (s' := (2, [some (.inr (some (25, 0, 0, 0))), some (.inl (w1 + 1)), some (.inl v1), some (.inl 3), some (.inl 1)], [], (zx_lay M28, n))) rfl ?_
                  exact rl_X11_account_2 hk q _ _ _ (w1 + 1) M28 h
                · refine zx_E.go 2 (s' := (2, [some (.inr (some (25, 0, 0, 0))), some (.inl (w1 + 1)), some (.inl v1), some (.inl 3), some (.inl 1)], [], (zx_lay M27, n))) rfl ?_
                  exact rl_X11_account_2 hk q _ _ _ (w1 + 1) M27 h
            · refine zx_E.go 2 (s' := (77, [some (.inr (some (25, 0, 0, 0))), some (.inl w1), some (.inl v1), some (.inl 3), g4], [.inl 3, .inl v1], (zx_lay M, n))) rfl ?_
              refine zx_E.brh (c := (3 : Int32) < v1) (s1 := (84, [some (.inr (some (25, 0, 0, 0))), some (.inl w1), some (.inl v1), some (.inl 3), g4], [], (zx_lay M, n))) (s2 := (80, [some (.inr (some (25, 0, 0, 0))), some (.inl w1), some (.inl v1), some (.inl 3), g4], [], (zx_lay M, n))) h (zx_ic_gt rfl) (fun _ h => ?_) (fun _ h => ?_)
              · refine zx_E.go 12 (s' := (99, [some (.inr (some (25, 0, 0, 0))), some (.inl w1), some (.inl v1), some (.inl 3), some (.inl 0)], [.inl 16, .inl w1, .inr (some (25, 0, 0, 0)), .inl 16, .inl w1, .inr (some (25, 0, 0, 0))], (zx_lay M, n))) rfl ?_
                refine zx_E.cb (y := 125) (as := [.inr (some (25, 0, 0, 0)), .inl w1, .inl 16]) (rest := [.inl 16, .inl w1, .inr (some (25, 0, 0, 0))]) h rfl (fun _ hv => zx_run_up (by omega) (r_X11_at (d := d) hv)) (fun v34 h => ?_)
                show zx_E _ _ _ (102, [some (.inr (some (25, 0, 0, 0))), some (.inl w1), some (.inl v1), some (.inl 3), some (.inl 0)], [.inl v34, .inl 16, .inl w1, .inr (some (25, 0, 0, 0))], (zx_lay M, n)) _
                refine zx_E.go 1 (s' := (104, [some (.inr (some (25, 0, 0, 0))), some (.inl w1), some (.inl v1), some (.inl 3), some (.inl 0)], [.inl 0, .inl v34, .inl 16, .inl w1, .inr (some (25, 0, 0, 0))], (zx_lay M, n))) rfl ?_
                refine zx_E.bt (c := ((0 : Int32) = 0 : Prop)) (s1 := (111, [some (.inr (some (25, 0, 0, 0))), some (.inl w1), some (.inl v1), some (.inl 3), some (.inl 0)], [.inl v34, .inl 16, .inl w1, .inr (some (25, 0, 0, 0))], (zx_lay M, n))) (s2 := (107, [some (.inr (some (25, 0, 0, 0))), some (.inl w1), some (.inl v1), some (.inl 3), some (.inl 0)], [.inl v34, .inl 16, .inl w1, .inr (some (25, 0, 0, 0))], (zx_lay M, n))) (zx_if_eq rfl) (by decide) ?_
                refine zx_E.go 2 (s' := (113, [some (.inr (some (25, 0, 0, 0))), some (.inl w1), some (.inl v1), some (.inl 3), some (.inl 0)], [.inl (v34 + 0), .inl 16, .inl w1, .inr (some (25, 0, 0, 0))], (zx_lay M, n))) rfl ?_
                refine zx_E.cm (y := 126) (as := [.inr (some (25, 0, 0, 0)), .inl w1, .inl 16, .inl (v34 + 0)]) (rest := []) h rfl (fun _ hv => zx_run_up (by omega) (r_X11_set (d := d) hv)) (fun M29 h => ?_)
                show zx_E _ _ _ (116, [some (.inr (some (25, 0, 0, 0))), some (.inl w1), some (.inl v1), some (.inl 3), some (.inl 0)], [], (zx_lay M29, n)) _
                refine zx_E.go 2 (s' := (118, [some (.inr (some (25, 0, 0, 0))), some (.inl w1), some (.inl v1), some (.inl 3), some (.inl 0)], [.inl 2, .inl v1], (zx_lay M29, n))) rfl ?_
                refine zx_E.brh (c := v1 = 2) (s1 := (121, [some (.inr (some (25, 0, 0, 0))), some (.inl w1), some (.inl v1), some (.inl 3), some (.inl 0)], [], (zx_lay M29, n))) (s2 := (140, [some (.inr (some (25, 0, 0, 0))), some (.inl w1), some (.inl v1), some (.inl 3), some (.inl 0)], [], (zx_lay M29, n))) h (zx_ic_ne rfl) (fun _ h => ?_) (fun _ h => ?_)
                · refine zx_E.go 6 (s' := (131, [some (.inr (some (25, 0, 0, 0))), some (.inl w1), some (.inl v1), some (.inl 3), some (.inl 0)], [.inl 11, .inl w1, .inr (some (25, 0, 0, 0)), .inl 36, .inr (some (26, 0, 0, 0))], (zx_lay M29, n))) rfl ?_
                  refine zx_E.cb (y := 125) (as := [.inr (some (25, 0, 0, 0)), .inl w1, .inl 11]) (rest := [.inl 36, .inr (some (26, 0, 0, 0))]) h rfl (fun _ hv => zx_run_up (by omega) (r_X11_at (d := d) hv)) (fun v35 h => ?_)
                  show zx_E _ _ _ (134, [some (.inr (some (25, 0, 0, 0))), some (.inl w1), some (.inl v1), some (.inl 3), some (.inl 0)], [.inl v35, .inl 36, .inr (some (26, 0, 0, 0))], (zx_lay M29, n)) _
                  refine zx_E.go 2 (s' := (136, [some (.inr (some (25, 0, 0, 0))), some (.inl w1), some (.inl v1), some (.inl 3), some (.inl 0)], [.inl (36 + v35), .inr (some (26, 0, 0, 0)), .inl (36 + v35), .inr (some (26, 0, 0, 0))], (zx_lay M29, n))) rfl ?_
                  refine zx_E.ix h (fun k29 hx_k29 hl_k29 h => ?_)
                  refine zx_E.iald (k := k29) (h := (26, 0, 0, 0)) rfl rfl hx_k29 hl_k29 ?_
                  show zx_E _ _ _ (137, [some (.inr (some (25, 0, 0, 0))), some (.inl w1), some (.inl v1), some (.inl 3), some (.inl 0)], [.inl (M29 (26, 0, 0, 0) k29), .inl (36 + v35), .inr (some (26, 0, 0, 0))], (zx_lay M29, n)) _
                  refine zx_E.go 2 (s' := (139, [some (.inr (some (25, 0, 0, 0))), some (.inl w1), some (.inl v1), some (.inl 3), some (.inl 0)], [.inl ((M29 (26, 0, 0, 0) k29) + 1), .inl (36 + v35), .inr (some (26, 0, 0, 0))], (zx_lay M29, n))) rfl ?_
                  refine zx_E.ix h (fun k30 hx_k30 hl_k30 h => ?_)
                  refine zx_E.ia h rfl rfl hx_k30 hl_k30 (fun M30 h => ?_)
                  show zx_E _ _ _ (140, [some (.inr (some (25, 0, 0, 0))), some (.inl w1), some (.inl v1), some (.inl 3), some (.inl 0)], [], (zx_lay M30, n)) _
                  refine zx_E.go 2 (s' := (2, [some (.inr (some (25, 0, 0, 0))), some (.inl (w1 + 1)), some (.inl v1), some (.inl 3), some (.inl 0)], [], (zx_lay M30, n))) rfl ?_
                  exact rl_X11_account_2 hk q _ _ _ (w1 + 1) M30 h
                · refine zx_E.go 2 (s' := (2, [some (.inr (some (25, 0, 0, 0))), some (.inl (w1 + 1)), some (.inl v1), some (.inl 3), some (.inl 0)], [], (zx_lay M29, n))) rfl ?_
                  exact rl_X11_account_2 hk q _ _ _ (w1 + 1) M29 h
              · refine zx_E.go 13 (s' := (99, [some (.inr (some (25, 0, 0, 0))), some (.inl w1), some (.inl v1), some (.inl 3), some (.inl 1)], [.inl 16, .inl w1, .inr (some (25, 0, 0, 0)), .inl 16, .inl w1, .inr (some (25, 0, 0, 0))], (zx_lay M, n))) rfl ?_
                refine zx_E.cb (y := 125) (as := [.inr (some (25, 0, 0, 0)), .inl w1, .inl 16]) (rest := [.inl 16, .inl w1, .inr (some (25, 0, 0, 0))]) h rfl (fun _ hv => zx_run_up (by omega) (r_X11_at (d := d) hv)) (fun v36 h => ?_)
                show zx_E _ _ _ (102, [some (.inr (some (25, 0, 0, 0))), some (.inl w1), some (.inl v1), some (.inl 3), some (.inl 1)], [.inl v36, .inl 16, .inl w1, .inr (some (25, 0, 0, 0))], (zx_lay M, n)) _
                refine zx_E.go 1 (s' := (104, [some (.inr (some (25, 0, 0, 0))), some (.inl w1), some (.inl v1), some (.inl 3), some (.inl 1)], [.inl 1, .inl v36, .inl 16, .inl w1, .inr (some (25, 0, 0, 0))], (zx_lay M, n))) rfl ?_
                refine zx_E.bf (c := ((1 : Int32) = 0 : Prop)) (s1 := (111, [some (.inr (some (25, 0, 0, 0))), some (.inl w1), some (.inl v1), some (.inl 3), some (.inl 1)], [.inl v36, .inl 16, .inl w1, .inr (some (25, 0, 0, 0))], (zx_lay M, n))) (s2 := (107, [some (.inr (some (25, 0, 0, 0))), some (.inl w1), some (.inl v1), some (.inl 3), some (.inl 1)], [.inl v36, .inl 16, .inl w1, .inr (some (25, 0, 0, 0))], (zx_lay M, n))) (zx_if_eq rfl) (by decide) ?_
                refine zx_E.go 3 (s' := (113, [some (.inr (some (25, 0, 0, 0))), some (.inl w1), some (.inl v1), some (.inl 3), some (.inl 1)], [.inl (v36 + 1), .inl 16, .inl w1, .inr (some (25, 0, 0, 0))], (zx_lay M, n))) rfl ?_
                refine zx_E.cm (y := 126) (as := [.inr (some (25, 0, 0, 0)), .inl w1, .inl 16, .inl (v36 + 1)]) (rest := []) h rfl (fun _ hv => zx_run_up (by omega) (r_X11_set (d := d) hv)) (fun M31 h => ?_)
                show zx_E _ _ _ (116, [some (.inr (some (25, 0, 0, 0))), some (.inl w1), some (.inl v1), some (.inl 3), some (.inl 1)], [], (zx_lay M31, n)) _
                refine zx_E.go 2 (s' := (118, [some (.inr (some (25, 0, 0, 0))), some (.inl w1), some (.inl v1), some (.inl 3), some (.inl 1)], [.inl 2, .inl v1], (zx_lay M31, n))) rfl ?_
                refine zx_E.brh (c := v1 = 2) (s1 := (121, [some (.inr (some (25, 0, 0, 0))), some (.inl w1), some (.inl v1), some (.inl 3), some (.inl 1)], [], (zx_lay M31, n))) (s2 := (140, [some (.inr (some (25, 0, 0, 0))), some (.inl w1), some (.inl v1), some (.inl 3), some (.inl 1)], [], (zx_lay M31, n))) h (zx_ic_ne rfl) (fun _ h => ?_) (fun _ h => ?_)
                · refine zx_E.go 6 (s' := (131, [some (.inr (some (25, 0, 0, 0))), some (.inl w1), some (.inl v1), some (.inl 3), some (.inl 1)], [.inl 11, .inl w1, .inr (some (25, 0, 0, 0)), .inl 36, .inr (some (26, 0, 0, 0))], (zx_lay M31, n))) rfl ?_
                  refine zx_E.cb (y := 125) (as := [.inr (some (25, 0, 0, 0)), .inl w1, .inl 11]) (rest := [.inl 36, .inr (some (26, 0, 0, 0))]) h rfl (fun _ hv => zx_run_up (by omega) (r_X11_at (d := d) hv)) (fun v37 h => ?_)
                  show zx_E _ _ _ (134, [some (.inr (some (25, 0, 0, 0))), some (.inl w1), some (.inl v1), some (.inl 3), some (.inl 1)], [.inl v37, .inl 36, .inr (some (26, 0, 0, 0))], (zx_lay M31, n)) _
                  refine zx_E.go 2 (s' := (136, [some (.inr (some (25, 0, 0, 0))), some (.inl w1), some (.inl v1), some (.inl 3), some (.inl 1)], [.inl (36 + v37), .inr (some (26, 0, 0, 0)), .inl (36 + v37), .inr (some (26, 0, 0, 0))], (zx_lay M31, n))) rfl ?_
                  refine zx_E.ix h (fun k31 hx_k31 hl_k31 h => ?_)
                  refine zx_E.iald (k := k31) (h := (26, 0, 0, 0)) rfl rfl hx_k31 hl_k31 ?_
                  show zx_E _ _ _ (137, [some (.inr (some (25, 0, 0, 0))), some (.inl w1), some (.inl v1), some (.inl 3), some (.inl 1)], [.inl (M31 (26, 0, 0, 0) k31), .inl (36 + v37), .inr (some (26, 0, 0, 0))], (zx_lay M31, n)) _
                  refine zx_E.go 2 (s' := (139, [some (.inr (some (25, 0, 0, 0))), some (.inl w1), some (.inl v1), some (.inl 3), some (.inl 1)], [.inl ((M31 (26, 0, 0, 0) k31) + 1), .inl (36 + v37), .inr (some (26, 0, 0, 0))], (zx_lay M31, n))) rfl ?_
                  refine zx_E.ix h (fun k32 hx_k32 hl_k32 h => ?_)
                  refine zx_E.ia h rfl rfl hx_k32 hl_k32 (fun M32 h => ?_)
                  show zx_E _ _ _ (140, [some (.inr (some (25, 0, 0, 0))), some (.inl w1), some (.inl v1), some (.inl 3), some (.inl 1)], [], (zx_lay M32, n)) _
                  refine zx_E.go 2 (s' := (2, [some (.inr (some (25, 0, 0, 0))), some (.inl (w1 + 1)), some (.inl v1), some (.inl 3), some (.inl 1)], [], (zx_lay M32, n))) rfl ?_
                  exact rl_X11_account_2 hk q _ _ _ (w1 + 1) M32 h
                · refine zx_E.go 2 (s' := (2, [some (.inr (some (25, 0, 0, 0))), some (.inl (w1 + 1)), some (.inl v1), some (.inl 3), some (.inl 1)], [], (zx_lay M31, n))) rfl ?_
                  exact rl_X11_account_2 hk q _ _ _ (w1 + 1) M31 h
def g_X11_account (M : zx_Y) : Option zx_Y := (lg_X11_account_2 (fun v1 M1 => (some M1)) 1000 0 M)
set_option maxRecDepth 100000 in
set_option maxHeartbeats 4000000 in
theorem r_X11_account {X : zx_X} {d n : Nat} {M : zx_Y} {rM : zx_Y} (h : g_X11_account M = some rM) : zx_run X (d + 2) 145 [.inr (some (25, 0, 0, 0))] (zx_lay M, n) (none, (zx_lay rM, n)) := by
  refine zx_run_of zc_X11_account [some (.inr (some (25, 0, 0, 0))), none, none, none, none] rfl rfl ?_
  unfold g_X11_account at h
  refine zx_E.go 2 (s' := (2, [some (.inr (some (25, 0, 0, 0))), some (.inl 0), none, none, none], [], (zx_lay M, n))) rfl ?_
  refine rl_X11_account_2 (fun v1 M1 e1 e2 e3 h => ?_) 1000 _ _ _ 0 M h
  exact zx_E.r0 h rfl
def g_X11_comeIn (M : zx_Y) (x0 : Int32) (x1 : Int32) : Option zx_Y := (zm (g_X11_become M x0 1 x1) fun M1 => (zm (g_X11_set M1 x0 12 (M1 (26, 0, 0, 0) 0)) fun M2 => (zm (g_X11_set M2 x0 (17 + x1) (M2 (26, 0, 0, 0) 0)) fun M3 => (zi (28 + x1) 640 fun k1 => (zi (28 + x1) 640 fun k2 => (zl (zx_up M3 (26, 0, 0, 0) k2 ((M3 (26, 0, 0, 0) k1) + 1)) fun M4 => (some M4)))))))
set_option maxRecDepth 100000 in
set_option maxHeartbeats 4000000 in
theorem r_X11_comeIn {X : zx_X} {d n : Nat} {M : zx_Y} {x0 : Int32} {x1 : Int32} {rM : zx_Y} (h : g_X11_comeIn M x0 x1 = some rM) : zx_run X (d + 3) 144 [.inr (some (25, 0, 0, 0)), .inl x0, .inl x1] (zx_lay M, n) (none, (zx_lay rM, n)) := by
  refine zx_run_of zc_X11_comeIn [some (.inr (some (25, 0, 0, 0))), some (.inl x0), some (.inl x1)] rfl rfl ?_
  unfold g_X11_comeIn at h
  refine zx_E.go 4 (s' := (4, [some (.inr (some (25, 0, 0, 0))), some (.inl x0), some (.inl x1)], [.inl x1, .inl 1, .inl x0, .inr (some (25, 0, 0, 0))], (zx_lay M, n))) rfl ?_
  refine zx_E.cm (y := 143) (as := [.inr (some (25, 0, 0, 0)), .inl x0, .inl 1, .inl x1]) (rest := []) h rfl (fun _ hv => zx_run_up (by omega) (r_X11_become (d := d) hv)) (fun M1 h => ?_)
  show zx_E _ _ _ (7, [some (.inr (some (25, 0, 0, 0))), some (.inl x0), some (.inl x1)], [], (zx_lay M1, n)) _
  refine zx_E.go 6 (s' := (16, [some (.inr (some (25, 0, 0, 0))), some (.inl x0), some (.inl x1)], [.inl 0, .inr (some (26, 0, 0, 0)), .inl 12, .inl x0, .inr (some (25, 0, 0, 0))], (zx_lay M1, n))) rfl ?_
  refine zx_E.iald (k := 0) (h := (26, 0, 0, 0)) rfl rfl rfl (by decide) ?_
  show zx_E _ _ _ (17, [some (.inr (some (25, 0, 0, 0))), some (.inl x0), some (.inl x1)], [.inl (M1 (26, 0, 0, 0) 0), .inl 12, .inl x0, .inr (some (25, 0, 0, 0))], (zx_lay M1, n)) _
  refine zx_E.cm (y := 126) (as := [.inr (some (25, 0, 0, 0)), .inl x0, .inl 12, .inl (M1 (26, 0, 0, 0) 0)]) (rest := []) h rfl (fun _ hv => zx_run_up (by omega) (r_X11_set (d := d) hv)) (fun M2 h => ?_)
  show zx_E _ _ _ (20, [some (.inr (some (25, 0, 0, 0))), some (.inl x0), some (.inl x1)], [], (zx_lay M2, n)) _
  refine zx_E.go 8 (s' := (31, [some (.inr (some (25, 0, 0, 0))), some (.inl x0), some (.inl x1)], [.inl 0, .inr (some (26, 0, 0, 0)), .inl (17 + x1), .inl x0, .inr (some (25, 0, 0, 0))], (zx_lay M2, n))) rfl ?_
  refine zx_E.iald (k := 0) (h := (26, 0, 0, 0)) rfl rfl rfl (by decide) ?_
  show zx_E _ _ _ (32, [some (.inr (some (25, 0, 0, 0))), some (.inl x0), some (.inl x1)], [.inl (M2 (26, 0, 0, 0) 0), .inl (17 + x1), .inl x0, .inr (some (25, 0, 0, 0))], (zx_lay M2, n)) _
  refine zx_E.cm (y := 126) (as := [.inr (some (25, 0, 0, 0)), .inl x0, .inl (17 + x1), .inl (M2 (26, 0, 0, 0) 0)]) (rest := []) h rfl (fun _ hv => zx_run_up (by omega) (r_X11_set (d := d) hv)) (fun M3 h => ?_)
  show zx_E _ _ _ (35, [some (.inr (some (25, 0, 0, 0))), some (.inl x0), some (.inl x1)], [], (zx_lay M3, n)) _
  refine zx_E.go 4 (s' := (42, [some (.inr (some (25, 0, 0, 0))), some (.inl x0), some (.inl x1)], [.inl x1, .inl 28, .inr (some (26, 0, 0, 0))], (zx_lay M3, n))) rfl ?_
  refine zx_E.go 2 (s' := (44, [some (.inr (some (25, 0, 0, 0))), some (.inl x0), some (.inl x1)], [.inl (28 + x1), .inr (some (26, 0, 0, 0)), .inl (28 + x1), .inr (some (26, 0, 0, 0))], (zx_lay M3, n))) rfl ?_
  refine zx_E.ix h (fun k1 hx_k1 hl_k1 h => ?_)
  refine zx_E.iald (k := k1) (h := (26, 0, 0, 0)) rfl rfl hx_k1 hl_k1 ?_
  show zx_E _ _ _ (45, [some (.inr (some (25, 0, 0, 0))), some (.inl x0), some (.inl x1)], [.inl (M3 (26, 0, 0, 0) k1), .inl (28 + x1), .inr (some (26, 0, 0, 0))], (zx_lay M3, n)) _
  refine zx_E.go 2 (s' := (47, [some (.inr (some (25, 0, 0, 0))), some (.inl x0), some (.inl x1)], [.inl ((M3 (26, 0, 0, 0) k1) + 1), .inl (28 + x1), .inr (some (26, 0, 0, 0))], (zx_lay M3, n))) rfl ?_
  refine zx_E.ix h (fun k2 hx_k2 hl_k2 h => ?_)
  refine zx_E.ia h rfl rfl hx_k2 hl_k2 (fun M4 h => ?_)
  show zx_E _ _ _ (48, [some (.inr (some (25, 0, 0, 0))), some (.inl x0), some (.inl x1)], [], (zx_lay M4, n)) _
  exact zx_E.r0 h rfl
def g_X11_arrive (M : zx_Y) (x0 : Int32) : Option zx_Y := (zb (g_X11_goal M x0) fun v1 => (zm (g_X11_comeIn M x0 v1) fun M1 => (zb (g_X11_at M1 x0 2) fun v2 => (if v1 = v2 then (zm (g_X11_become M1 x0 4 (-5)) fun M2 => (zm (g_X11_set M2 x0 9 (-5)) fun M3 => (some M3))) else (some M1)))))
set_option maxRecDepth 100000 in
set_option maxHeartbeats 4000000 in
theorem r_X11_arrive {X : zx_X} {d n : Nat} {M : zx_Y} {x0 : Int32} {rM : zx_Y} (h : g_X11_arrive M x0 = some rM) : zx_run X (d + 4) 146 [.inr (some (25, 0, 0, 0)), .inl x0] (zx_lay M, n) (none, (zx_lay rM, n)) := by
  refine zx_run_of zc_X11_arrive [some (.inr (some (25, 0, 0, 0))), some (.inl x0), none] rfl rfl ?_
  unfold g_X11_arrive at h
  refine zx_E.go 2 (s' := (2, [some (.inr (some (25, 0, 0, 0))), some (.inl x0), none], [.inl x0, .inr (some (25, 0, 0, 0))], (zx_lay M, n))) rfl ?_
  refine zx_E.cb (y := 131) (as := [.inr (some (25, 0, 0, 0)), .inl x0]) (rest := []) h rfl (fun _ hv => zx_run_up (by omega) (r_X11_goal (d := d) hv)) (fun v1 h => ?_)
  show zx_E _ _ _ (5, [some (.inr (some (25, 0, 0, 0))), some (.inl x0), none], [.inl v1], (zx_lay M, n)) _
  refine zx_E.go 4 (s' := (9, [some (.inr (some (25, 0, 0, 0))), some (.inl x0), some (.inl v1)], [.inl v1, .inl x0, .inr (some (25, 0, 0, 0))], (zx_lay M, n))) rfl ?_
  refine zx_E.cm (y := 144) (as := [.inr (some (25, 0, 0, 0)), .inl x0, .inl v1]) (rest := []) h rfl (fun _ hv => zx_run_up (by omega) (r_X11_comeIn (d := d) hv)) (fun M1 h => ?_)
  show zx_E _ _ _ (12, [some (.inr (some (25, 0, 0, 0))), some (.inl x0), some (.inl v1)], [], (zx_lay M1, n)) _
  refine zx_E.go 4 (s' := (16, [some (.inr (some (25, 0, 0, 0))), some (.inl x0), some (.inl v1)], [.inl 2, .inl x0, .inr (some (25, 0, 0, 0)), .inl v1], (zx_lay M1, n))) rfl ?_
  refine zx_E.cb (y := 125) (as := [.inr (some (25, 0, 0, 0)), .inl x0, .inl 2]) (rest := [.inl v1]) h rfl (fun _ hv => zx_run_up (by omega) (r_X11_at (d := d) hv)) (fun v2 h => ?_)
  show zx_E _ _ _ (19, [some (.inr (some (25, 0, 0, 0))), some (.inl x0), some (.inl v1)], [.inl v2, .inl v1], (zx_lay M1, n)) _
  refine zx_E.brh (c := v1 = v2) (s1 := (22, [some (.inr (some (25, 0, 0, 0))), some (.inl x0), some (.inl v1)], [], (zx_lay M1, n))) (s2 := (39, [some (.inr (some (25, 0, 0, 0))), some (.inl x0), some (.inl v1)], [], (zx_lay M1, n))) h (zx_ic_ne rfl) (fun _ h => ?_) (fun _ h => ?_)
  · refine zx_E.go 4 (s' := (27, [some (.inr (some (25, 0, 0, 0))), some (.inl x0), some (.inl v1)], [.inl (-5), .inl 4, .inl x0, .inr (some (25, 0, 0, 0))], (zx_lay M1, n))) rfl ?_
    refine zx_E.cm (y := 143) (as := [.inr (some (25, 0, 0, 0)), .inl x0, .inl 4, .inl (-5)]) (rest := []) h rfl (fun _ hv => zx_run_up (by omega) (r_X11_become (d := d) hv)) (fun M2 h => ?_)
    show zx_E _ _ _ (30, [some (.inr (some (25, 0, 0, 0))), some (.inl x0), some (.inl v1)], [], (zx_lay M2, n)) _
    refine zx_E.go 4 (s' := (36, [some (.inr (some (25, 0, 0, 0))), some (.inl x0), some (.inl v1)], [.inl (-5), .inl 9, .inl x0, .inr (some (25, 0, 0, 0))], (zx_lay M2, n))) rfl ?_
    refine zx_E.cm (y := 126) (as := [.inr (some (25, 0, 0, 0)), .inl x0, .inl 9, .inl (-5)]) (rest := []) h rfl (fun _ hv => zx_run_up (by omega) (r_X11_set (d := d) hv)) (fun M3 h => ?_)
    show zx_E _ _ _ (39, [some (.inr (some (25, 0, 0, 0))), some (.inl x0), some (.inl v1)], [], (zx_lay M3, n)) _
    exact zx_E.r0 h rfl
  · exact zx_E.r0 h rfl
