def lg_X11_minute_16 (kk : Int32 → zx_Y → Option zx_Y) : Nat → Int32 → zx_Y → Option zx_Y
  | 0, _, _ => none
  | q + 1, w1, M => (if (M (26, 0, 0, 0) 27) ≤ w1 then (kk w1 M) else (zb (g_X11_at M w1 0) fun v1 => (if v1 = 2 then (zb (g_X11_at M w1 8) fun v2 => (if (M (26, 0, 0, 0) 0) < v2 then (lg_X11_minute_16 kk q (w1 + 1) M) else (zm (g_X11_arrive M w1) fun M1 => (lg_X11_minute_16 kk q (w1 + 1) M1)))) else (lg_X11_minute_16 kk q (w1 + 1) M))))
set_option maxRecDepth 100000 in
set_option maxHeartbeats 4000000 in
theorem rl_X11_minute_16 {X : zx_X} {d n : Nat} {kk : Int32 → zx_Y → Option zx_Y} {rM : zx_Y} {g2 : Option zx_V} (hk : ∀ (w1 : Int32) (M : zx_Y), kk w1 M = some rM → zx_E X (d + 7) zc_X11_minute (64, [some (.inr (some (25, 0, 0, 0))), some (.inl w1), g2], [], (zx_lay M, n)) (none, (zx_lay rM, n))) : ∀ (q : Nat) (w1 : Int32) (M : zx_Y), lg_X11_minute_16 kk q w1 M = some rM → zx_E X (d + 7) zc_X11_minute (16, [some (.inr (some (25, 0, 0, 0))), some (.inl w1), g2], [], (zx_lay M, n)) (none, (zx_lay rM, n))
  | 0, w1, M, h => by
    rw [lg_X11_minute_16.eq_1] at h
    cases h
  | q + 1, w1, M, h => by
    rw [lg_X11_minute_16.eq_2] at h
    refine zx_E.go 4 (s' := (23, [some (.inr (some (25, 0, 0, 0))), some (.inl w1), g2], [.inl 27, .inr (some (26, 0, 0, 0)), .inl w1], (zx_lay M, n))) rfl ?_
    refine zx_E.iald (k := 27) (h := (26, 0, 0, 0)) rfl rfl rfl (by decide) ?_
    show zx_E _ _ _ (24, [some (.inr (some (25, 0, 0, 0))), some (.inl w1), g2], [.inl (M (26, 0, 0, 0) 27), .inl w1], (zx_lay M, n)) _
    refine zx_E.brh (c := (M (26, 0, 0, 0) 27) ≤ w1) (s1 := (64, [some (.inr (some (25, 0, 0, 0))), some (.inl w1), g2], [], (zx_lay M, n))) (s2 := (27, [some (.inr (some (25, 0, 0, 0))), some (.inl w1), g2], [], (zx_lay M, n))) h (zx_ic_ge rfl) (fun _ h => ?_) (fun _ h => ?_)
    · exact hk _ _ h
    · refine zx_E.go 3 (s' := (30, [some (.inr (some (25, 0, 0, 0))), some (.inl w1), g2], [.inl 0, .inl w1, .inr (some (25, 0, 0, 0))], (zx_lay M, n))) rfl ?_
      refine zx_E.cb (y := 125) (as := [.inr (some (25, 0, 0, 0)), .inl w1, .inl 0]) (rest := []) h rfl (fun _ hv => zx_run_up (by omega) (r_X11_at (d := d) hv)) (fun v1 h => ?_)
      show zx_E _ _ _ (33, [some (.inr (some (25, 0, 0, 0))), some (.inl w1), g2], [.inl v1], (zx_lay M, n)) _
      refine zx_E.go 1 (s' := (34, [some (.inr (some (25, 0, 0, 0))), some (.inl w1), g2], [.inl 2, .inl v1], (zx_lay M, n))) rfl ?_
      refine zx_E.brh (c := v1 = 2) (s1 := (37, [some (.inr (some (25, 0, 0, 0))), some (.inl w1), g2], [], (zx_lay M, n))) (s2 := (58, [some (.inr (some (25, 0, 0, 0))), some (.inl w1), g2], [], (zx_lay M, n))) h (zx_ic_ne rfl) (fun _ h => ?_) (fun _ h => ?_)
      · refine zx_E.go 3 (s' := (41, [some (.inr (some (25, 0, 0, 0))), some (.inl w1), g2], [.inl 8, .inl w1, .inr (some (25, 0, 0, 0))], (zx_lay M, n))) rfl ?_
        refine zx_E.cb (y := 125) (as := [.inr (some (25, 0, 0, 0)), .inl w1, .inl 8]) (rest := []) h rfl (fun _ hv => zx_run_up (by omega) (r_X11_at (d := d) hv)) (fun v2 h => ?_)
        show zx_E _ _ _ (44, [some (.inr (some (25, 0, 0, 0))), some (.inl w1), g2], [.inl v2], (zx_lay M, n)) _
        refine zx_E.go 3 (s' := (49, [some (.inr (some (25, 0, 0, 0))), some (.inl w1), g2], [.inl 0, .inr (some (26, 0, 0, 0)), .inl v2], (zx_lay M, n))) rfl ?_
        refine zx_E.iald (k := 0) (h := (26, 0, 0, 0)) rfl rfl rfl (by decide) ?_
        show zx_E _ _ _ (50, [some (.inr (some (25, 0, 0, 0))), some (.inl w1), g2], [.inl (M (26, 0, 0, 0) 0), .inl v2], (zx_lay M, n)) _
        refine zx_E.brh (c := (M (26, 0, 0, 0) 0) < v2) (s1 := (58, [some (.inr (some (25, 0, 0, 0))), some (.inl w1), g2], [], (zx_lay M, n))) (s2 := (53, [some (.inr (some (25, 0, 0, 0))), some (.inl w1), g2], [], (zx_lay M, n))) h (zx_ic_gt rfl) (fun _ h => ?_) (fun _ h => ?_)
        · refine zx_E.go 2 (s' := (16, [some (.inr (some (25, 0, 0, 0))), some (.inl (w1 + 1)), g2], [], (zx_lay M, n))) rfl ?_
          exact rl_X11_minute_16 hk q (w1 + 1) M h
        · refine zx_E.go 2 (s' := (55, [some (.inr (some (25, 0, 0, 0))), some (.inl w1), g2], [.inl w1, .inr (some (25, 0, 0, 0))], (zx_lay M, n))) rfl ?_
          refine zx_E.cm (y := 146) (as := [.inr (some (25, 0, 0, 0)), .inl w1]) (rest := []) h rfl (fun _ hv => zx_run_up (by omega) (r_X11_arrive (d := d) hv)) (fun M1 h => ?_)
          show zx_E _ _ _ (58, [some (.inr (some (25, 0, 0, 0))), some (.inl w1), g2], [], (zx_lay M1, n)) _
          refine zx_E.go 2 (s' := (16, [some (.inr (some (25, 0, 0, 0))), some (.inl (w1 + 1)), g2], [], (zx_lay M1, n))) rfl ?_
          exact rl_X11_minute_16 hk q (w1 + 1) M1 h
      · refine zx_E.go 2 (s' := (16, [some (.inr (some (25, 0, 0, 0))), some (.inl (w1 + 1)), g2], [], (zx_lay M, n))) rfl ?_
        exact rl_X11_minute_16 hk q (w1 + 1) M h
def g_X11_hasTrack (M : zx_Y) (x0 : Int32) : Option Int32 := (zb (g_X11_taken M x0) fun v1 => (zi (9 + x0) 640 fun k1 => (if (M (26, 0, 0, 0) k1) ≤ v1 then (some 0) else (some 1))))
set_option maxRecDepth 100000 in
set_option maxHeartbeats 4000000 in
theorem r_X11_hasTrack {X : zx_X} {d n : Nat} {M : zx_Y} {x0 : Int32} {rv : Int32} (h : g_X11_hasTrack M x0 = some rv) : zx_run X (d + 5) 133 [.inr (some (25, 0, 0, 0)), .inl x0] (zx_lay M, n) (some (.inl rv), (zx_lay M, n)) := by
  refine zx_run_of zc_X11_hasTrack [some (.inr (some (25, 0, 0, 0))), some (.inl x0)] rfl rfl ?_
  unfold g_X11_hasTrack at h
  refine zx_E.go 2 (s' := (2, [some (.inr (some (25, 0, 0, 0))), some (.inl x0)], [.inl x0, .inr (some (25, 0, 0, 0))], (zx_lay M, n))) rfl ?_
  refine zx_E.cb (y := 132) (as := [.inr (some (25, 0, 0, 0)), .inl x0]) (rest := []) h rfl (fun _ hv => zx_run_up (by omega) (r_X11_taken (d := d) hv)) (fun v1 h => ?_)
  show zx_E _ _ _ (5, [some (.inr (some (25, 0, 0, 0))), some (.inl x0)], [.inl v1], (zx_lay M, n)) _
  refine zx_E.go 4 (s' := (12, [some (.inr (some (25, 0, 0, 0))), some (.inl x0)], [.inl x0, .inl 9, .inr (some (26, 0, 0, 0)), .inl v1], (zx_lay M, n))) rfl ?_
  refine zx_E.go 1 (s' := (13, [some (.inr (some (25, 0, 0, 0))), some (.inl x0)], [.inl (9 + x0), .inr (some (26, 0, 0, 0)), .inl v1], (zx_lay M, n))) rfl ?_
  refine zx_E.ix h (fun k1 hx_k1 hl_k1 h => ?_)
  refine zx_E.iald (k := k1) (h := (26, 0, 0, 0)) rfl rfl hx_k1 hl_k1 ?_
  show zx_E _ _ _ (14, [some (.inr (some (25, 0, 0, 0))), some (.inl x0)], [.inl (M (26, 0, 0, 0) k1), .inl v1], (zx_lay M, n)) _
  refine zx_E.brh (c := (M (26, 0, 0, 0) k1) ≤ v1) (s1 := (21, [some (.inr (some (25, 0, 0, 0))), some (.inl x0)], [], (zx_lay M, n))) (s2 := (17, [some (.inr (some (25, 0, 0, 0))), some (.inl x0)], [], (zx_lay M, n))) h (zx_ic_ge rfl) (fun _ h => ?_) (fun _ h => ?_)
  · refine zx_E.go 1 (s' := (22, [some (.inr (some (25, 0, 0, 0))), some (.inl x0)], [.inl 0], (zx_lay M, n))) rfl ?_
    exact zx_E.rp h rfl (fun _ => Or.inl rfl)
  · refine zx_E.go 2 (s' := (22, [some (.inr (some (25, 0, 0, 0))), some (.inl x0)], [.inl 1], (zx_lay M, n))) rfl ?_
    exact zx_E.rp h rfl (fun _ => Or.inr rfl)
def lg_X11_minute_66 (kk : Int32 → zx_Y → Option zx_Y) : Nat → Int32 → zx_Y → Option zx_Y
  | 0, _, _ => none
  | q + 1, w1, M => (if (M (26, 0, 0, 0) 27) ≤ w1 then (kk w1 M) else (zb (g_X11_at M w1 0) fun v1 => (if v1 = 0 then (zb (g_X11_at M w1 4) fun v2 => (if (M (26, 0, 0, 0) 0) < v2 then (lg_X11_minute_66 kk q (w1 + 1) M) else (zb (g_X11_at M w1 1) fun v3 => (zb (g_X11_hasTrack M v3) fun v4 => (if v4 = 0 then (lg_X11_minute_66 kk q (w1 + 1) M) else (zb (g_X11_at M w1 1) fun v5 => (zm (g_X11_comeIn M w1 v5) fun M1 => (zm (g_X11_set M1 w1 9 (M1 (26, 0, 0, 0) 0)) fun M2 => (lg_X11_minute_66 kk q (w1 + 1) M2))))))))) else (lg_X11_minute_66 kk q (w1 + 1) M))))
set_option maxRecDepth 100000 in
set_option maxHeartbeats 4000000 in
theorem rl_X11_minute_66 {X : zx_X} {d n : Nat} {kk : Int32 → zx_Y → Option zx_Y} {rM : zx_Y} {g2 : Option zx_V} (hk : ∀ (w1 : Int32) (M : zx_Y), kk w1 M = some rM → zx_E X (d + 7) zc_X11_minute (144, [some (.inr (some (25, 0, 0, 0))), some (.inl w1), g2], [], (zx_lay M, n)) (none, (zx_lay rM, n))) : ∀ (q : Nat) (w1 : Int32) (M : zx_Y), lg_X11_minute_66 kk q w1 M = some rM → zx_E X (d + 7) zc_X11_minute (66, [some (.inr (some (25, 0, 0, 0))), some (.inl w1), g2], [], (zx_lay M, n)) (none, (zx_lay rM, n))
  | 0, w1, M, h => by
    rw [lg_X11_minute_66.eq_1] at h
    cases h
  | q + 1, w1, M, h => by
    rw [lg_X11_minute_66.eq_2] at h
    refine zx_E.go 4 (s' := (73, [some (.inr (some (25, 0, 0, 0))), some (.inl w1), g2], [.inl 27, .inr (some (26, 0, 0, 0)), .inl w1], (zx_lay M, n))) rfl ?_
    refine zx_E.iald (k := 27) (h := (26, 0, 0, 0)) rfl rfl rfl (by decide) ?_
    show zx_E _ _ _ (74, [some (.inr (some (25, 0, 0, 0))), some (.inl w1), g2], [.inl (M (26, 0, 0, 0) 27), .inl w1], (zx_lay M, n)) _
    refine zx_E.brh (c := (M (26, 0, 0, 0) 27) ≤ w1) (s1 := (144, [some (.inr (some (25, 0, 0, 0))), some (.inl w1), g2], [], (zx_lay M, n))) (s2 := (77, [some (.inr (some (25, 0, 0, 0))), some (.inl w1), g2], [], (zx_lay M, n))) h (zx_ic_ge rfl) (fun _ h => ?_) (fun _ h => ?_)
    · exact hk _ _ h
    · refine zx_E.go 3 (s' := (80, [some (.inr (some (25, 0, 0, 0))), some (.inl w1), g2], [.inl 0, .inl w1, .inr (some (25, 0, 0, 0))], (zx_lay M, n))) rfl ?_
      refine zx_E.cb (y := 125) (as := [.inr (some (25, 0, 0, 0)), .inl w1, .inl 0]) (rest := []) h rfl (fun _ hv => zx_run_up (by omega) (r_X11_at (d := d) hv)) (fun v1 h => ?_)
      show zx_E _ _ _ (83, [some (.inr (some (25, 0, 0, 0))), some (.inl w1), g2], [.inl v1], (zx_lay M, n)) _
      refine zx_E.brh (c := v1 = 0) (s1 := (86, [some (.inr (some (25, 0, 0, 0))), some (.inl w1), g2], [], (zx_lay M, n))) (s2 := (138, [some (.inr (some (25, 0, 0, 0))), some (.inl w1), g2], [], (zx_lay M, n))) h (zx_if_ne rfl) (fun _ h => ?_) (fun _ h => ?_)
      · refine zx_E.go 3 (s' := (89, [some (.inr (some (25, 0, 0, 0))), some (.inl w1), g2], [.inl 4, .inl w1, .inr (some (25, 0, 0, 0))], (zx_lay M, n))) rfl ?_
        refine zx_E.cb (y := 125) (as := [.inr (some (25, 0, 0, 0)), .inl w1, .inl 4]) (rest := []) h rfl (fun _ hv => zx_run_up (by omega) (r_X11_at (d := d) hv)) (fun v2 h => ?_)
        show zx_E _ _ _ (92, [some (.inr (some (25, 0, 0, 0))), some (.inl w1), g2], [.inl v2], (zx_lay M, n)) _
        refine zx_E.go 3 (s' := (97, [some (.inr (some (25, 0, 0, 0))), some (.inl w1), g2], [.inl 0, .inr (some (26, 0, 0, 0)), .inl v2], (zx_lay M, n))) rfl ?_
        refine zx_E.iald (k := 0) (h := (26, 0, 0, 0)) rfl rfl rfl (by decide) ?_
        show zx_E _ _ _ (98, [some (.inr (some (25, 0, 0, 0))), some (.inl w1), g2], [.inl (M (26, 0, 0, 0) 0), .inl v2], (zx_lay M, n)) _
        refine zx_E.brh (c := (M (26, 0, 0, 0) 0) < v2) (s1 := (138, [some (.inr (some (25, 0, 0, 0))), some (.inl w1), g2], [], (zx_lay M, n))) (s2 := (101, [some (.inr (some (25, 0, 0, 0))), some (.inl w1), g2], [], (zx_lay M, n))) h (zx_ic_gt rfl) (fun _ h => ?_) (fun _ h => ?_)
        · refine zx_E.go 2 (s' := (66, [some (.inr (some (25, 0, 0, 0))), some (.inl (w1 + 1)), g2], [], (zx_lay M, n))) rfl ?_
          exact rl_X11_minute_66 hk q (w1 + 1) M h
        · refine zx_E.go 4 (s' := (105, [some (.inr (some (25, 0, 0, 0))), some (.inl w1), g2], [.inl 1, .inl w1, .inr (some (25, 0, 0, 0)), .inr (some (25, 0, 0, 0))], (zx_lay M, n))) rfl ?_
          refine zx_E.cb (y := 125) (as := [.inr (some (25, 0, 0, 0)), .inl w1, .inl 1]) (rest := [.inr (some (25, 0, 0, 0))]) h rfl (fun _ hv => zx_run_up (by omega) (r_X11_at (d := d) hv)) (fun v3 h => ?_)
          show zx_E _ _ _ (108, [some (.inr (some (25, 0, 0, 0))), some (.inl w1), g2], [.inl v3, .inr (some (25, 0, 0, 0))], (zx_lay M, n)) _
          refine zx_E.cb (y := 133) (as := [.inr (some (25, 0, 0, 0)), .inl v3]) (rest := []) h rfl (fun _ hv => zx_run_up (by omega) (r_X11_hasTrack (d := d) hv)) (fun v4 h => ?_)
          show zx_E _ _ _ (111, [some (.inr (some (25, 0, 0, 0))), some (.inl w1), g2], [.inl v4], (zx_lay M, n)) _
          refine zx_E.brh (c := v4 = 0) (s1 := (138, [some (.inr (some (25, 0, 0, 0))), some (.inl w1), g2], [], (zx_lay M, n))) (s2 := (114, [some (.inr (some (25, 0, 0, 0))), some (.inl w1), g2], [], (zx_lay M, n))) h (zx_if_eq rfl) (fun _ h => ?_) (fun _ h => ?_)
          · refine zx_E.go 2 (s' := (66, [some (.inr (some (25, 0, 0, 0))), some (.inl (w1 + 1)), g2], [], (zx_lay M, n))) rfl ?_
            exact rl_X11_minute_66 hk q (w1 + 1) M h
          · refine zx_E.go 5 (s' := (119, [some (.inr (some (25, 0, 0, 0))), some (.inl w1), g2], [.inl 1, .inl w1, .inr (some (25, 0, 0, 0)), .inl w1, .inr (some (25, 0, 0, 0))], (zx_lay M, n))) rfl ?_
            refine zx_E.cb (y := 125) (as := [.inr (some (25, 0, 0, 0)), .inl w1, .inl 1]) (rest := [.inl w1, .inr (some (25, 0, 0, 0))]) h rfl (fun _ hv => zx_run_up (by omega) (r_X11_at (d := d) hv)) (fun v5 h => ?_)
            show zx_E _ _ _ (122, [some (.inr (some (25, 0, 0, 0))), some (.inl w1), g2], [.inl v5, .inl w1, .inr (some (25, 0, 0, 0))], (zx_lay M, n)) _
            refine zx_E.cm (y := 144) (as := [.inr (some (25, 0, 0, 0)), .inl w1, .inl v5]) (rest := []) h rfl (fun _ hv => zx_run_up (by omega) (r_X11_comeIn (d := d) hv)) (fun M1 h => ?_)
            show zx_E _ _ _ (125, [some (.inr (some (25, 0, 0, 0))), some (.inl w1), g2], [], (zx_lay M1, n)) _
            refine zx_E.go 6 (s' := (134, [some (.inr (some (25, 0, 0, 0))), some (.inl w1), g2], [.inl 0, .inr (some (26, 0, 0, 0)), .inl 9, .inl w1, .inr (some (25, 0, 0, 0))], (zx_lay M1, n))) rfl ?_
            refine zx_E.iald (k := 0) (h := (26, 0, 0, 0)) rfl rfl rfl (by decide) ?_
            show zx_E _ _ _ (135, [some (.inr (some (25, 0, 0, 0))), some (.inl w1), g2], [.inl (M1 (26, 0, 0, 0) 0), .inl 9, .inl w1, .inr (some (25, 0, 0, 0))], (zx_lay M1, n)) _
            refine zx_E.cm (y := 126) (as := [.inr (some (25, 0, 0, 0)), .inl w1, .inl 9, .inl (M1 (26, 0, 0, 0) 0)]) (rest := []) h rfl (fun _ hv => zx_run_up (by omega) (r_X11_set (d := d) hv)) (fun M2 h => ?_)
            show zx_E _ _ _ (138, [some (.inr (some (25, 0, 0, 0))), some (.inl w1), g2], [], (zx_lay M2, n)) _
            refine zx_E.go 2 (s' := (66, [some (.inr (some (25, 0, 0, 0))), some (.inl (w1 + 1)), g2], [], (zx_lay M2, n))) rfl ?_
            exact rl_X11_minute_66 hk q (w1 + 1) M2 h
      · refine zx_E.go 2 (s' := (66, [some (.inr (some (25, 0, 0, 0))), some (.inl (w1 + 1)), g2], [], (zx_lay M, n))) rfl ?_
        exact rl_X11_minute_66 hk q (w1 + 1) M h
def lg_X11_minute_146 (kk : Int32 → zx_Y → Option zx_Y) : Nat → Int32 → zx_Y → Option zx_Y
  | 0, _, _ => none
  | q + 1, w1, M => (if (M (26, 0, 0, 0) 27) ≤ w1 then (kk w1 M) else (zb (g_X11_at M w1 0) fun v1 => (if v1 = 3 then (zb (g_X11_at M w1 8) fun v2 => (if (M (26, 0, 0, 0) 0) < v2 then (lg_X11_minute_146 kk q (w1 + 1) M) else (zb (g_X11_at M w1 11) fun v3 => (zm (g_X11_become M w1 1 v3) fun M1 => (zm (g_X11_set M1 w1 9 (M1 (26, 0, 0, 0) 0)) fun M2 => (lg_X11_minute_146 kk q (w1 + 1) M2)))))) else (lg_X11_minute_146 kk q (w1 + 1) M))))
set_option maxRecDepth 100000 in
set_option maxHeartbeats 4000000 in
theorem rl_X11_minute_146 {X : zx_X} {d n : Nat} {kk : Int32 → zx_Y → Option zx_Y} {rM : zx_Y} {g2 : Option zx_V} (hk : ∀ (w1 : Int32) (M : zx_Y), kk w1 M = some rM → zx_E X (d + 7) zc_X11_minute (215, [some (.inr (some (25, 0, 0, 0))), some (.inl w1), g2], [], (zx_lay M, n)) (none, (zx_lay rM, n))) : ∀ (q : Nat) (w1 : Int32) (M : zx_Y), lg_X11_minute_146 kk q w1 M = some rM → zx_E X (d + 7) zc_X11_minute (146, [some (.inr (some (25, 0, 0, 0))), some (.inl w1), g2], [], (zx_lay M, n)) (none, (zx_lay rM, n))
  | 0, w1, M, h => by
    rw [lg_X11_minute_146.eq_1] at h
    cases h
  | q + 1, w1, M, h => by
    rw [lg_X11_minute_146.eq_2] at h
    refine zx_E.go 4 (s' := (153, [some (.inr (some (25, 0, 0, 0))), some (.inl w1), g2], [.inl 27, .inr (some (26, 0, 0, 0)), .inl w1], (zx_lay M, n))) rfl ?_
    refine zx_E.iald (k := 27) (h := (26, 0, 0, 0)) rfl rfl rfl (by decide) ?_
    show zx_E _ _ _ (154, [some (.inr (some (25, 0, 0, 0))), some (.inl w1), g2], [.inl (M (26, 0, 0, 0) 27), .inl w1], (zx_lay M, n)) _
    refine zx_E.brh (c := (M (26, 0, 0, 0) 27) ≤ w1) (s1 := (215, [some (.inr (some (25, 0, 0, 0))), some (.inl w1), g2], [], (zx_lay M, n))) (s2 := (157, [some (.inr (some (25, 0, 0, 0))), some (.inl w1), g2], [], (zx_lay M, n))) h (zx_ic_ge rfl) (fun _ h => ?_) (fun _ h => ?_)
    · exact hk _ _ h
    · refine zx_E.go 3 (s' := (160, [some (.inr (some (25, 0, 0, 0))), some (.inl w1), g2], [.inl 0, .inl w1, .inr (some (25, 0, 0, 0))], (zx_lay M, n))) rfl ?_
      refine zx_E.cb (y := 125) (as := [.inr (some (25, 0, 0, 0)), .inl w1, .inl 0]) (rest := []) h rfl (fun _ hv => zx_run_up (by omega) (r_X11_at (d := d) hv)) (fun v1 h => ?_)
      show zx_E _ _ _ (163, [some (.inr (some (25, 0, 0, 0))), some (.inl w1), g2], [.inl v1], (zx_lay M, n)) _
      refine zx_E.go 1 (s' := (164, [some (.inr (some (25, 0, 0, 0))), some (.inl w1), g2], [.inl 3, .inl v1], (zx_lay M, n))) rfl ?_
      refine zx_E.brh (c := v1 = 3) (s1 := (167, [some (.inr (some (25, 0, 0, 0))), some (.inl w1), g2], [], (zx_lay M, n))) (s2 := (209, [some (.inr (some (25, 0, 0, 0))), some (.inl w1), g2], [], (zx_lay M, n))) h (zx_ic_ne rfl) (fun _ h => ?_) (fun _ h => ?_)
      · refine zx_E.go 3 (s' := (171, [some (.inr (some (25, 0, 0, 0))), some (.inl w1), g2], [.inl 8, .inl w1, .inr (some (25, 0, 0, 0))], (zx_lay M, n))) rfl ?_
        refine zx_E.cb (y := 125) (as := [.inr (some (25, 0, 0, 0)), .inl w1, .inl 8]) (rest := []) h rfl (fun _ hv => zx_run_up (by omega) (r_X11_at (d := d) hv)) (fun v2 h => ?_)
        show zx_E _ _ _ (174, [some (.inr (some (25, 0, 0, 0))), some (.inl w1), g2], [.inl v2], (zx_lay M, n)) _
        refine zx_E.go 3 (s' := (179, [some (.inr (some (25, 0, 0, 0))), some (.inl w1), g2], [.inl 0, .inr (some (26, 0, 0, 0)), .inl v2], (zx_lay M, n))) rfl ?_
        refine zx_E.iald (k := 0) (h := (26, 0, 0, 0)) rfl rfl rfl (by decide) ?_
        show zx_E _ _ _ (180, [some (.inr (some (25, 0, 0, 0))), some (.inl w1), g2], [.inl (M (26, 0, 0, 0) 0), .inl v2], (zx_lay M, n)) _
        refine zx_E.brh (c := (M (26, 0, 0, 0) 0) < v2) (s1 := (209, [some (.inr (some (25, 0, 0, 0))), some (.inl w1), g2], [], (zx_lay M, n))) (s2 := (183, [some (.inr (some (25, 0, 0, 0))), some (.inl w1), g2], [], (zx_lay M, n))) h (zx_ic_gt rfl) (fun _ h => ?_) (fun _ h => ?_)
        · refine zx_E.go 2 (s' := (146, [some (.inr (some (25, 0, 0, 0))), some (.inl (w1 + 1)), g2], [], (zx_lay M, n))) rfl ?_
          exact rl_X11_minute_146 hk q (w1 + 1) M h
        · refine zx_E.go 6 (s' := (190, [some (.inr (some (25, 0, 0, 0))), some (.inl w1), g2], [.inl 11, .inl w1, .inr (some (25, 0, 0, 0)), .inl 1, .inl w1, .inr (some (25, 0, 0, 0))], (zx_lay M, n))) rfl ?_
          refine zx_E.cb (y := 125) (as := [.inr (some (25, 0, 0, 0)), .inl w1, .inl 11]) (rest := [.inl 1, .inl w1, .inr (some (25, 0, 0, 0))]) h rfl (fun _ hv => zx_run_up (by omega) (r_X11_at (d := d) hv)) (fun v3 h => ?_)
          show zx_E _ _ _ (193, [some (.inr (some (25, 0, 0, 0))), some (.inl w1), g2], [.inl v3, .inl 1, .inl w1, .inr (some (25, 0, 0, 0))], (zx_lay M, n)) _
          refine zx_E.cm (y := 143) (as := [.inr (some (25, 0, 0, 0)), .inl w1, .inl 1, .inl v3]) (rest := []) h rfl (fun _ hv => zx_run_up (by omega) (r_X11_become (d := d) hv)) (fun M1 h => ?_)
          show zx_E _ _ _ (196, [some (.inr (some (25, 0, 0, 0))), some (.inl w1), g2], [], (zx_lay M1, n)) _
          refine zx_E.go 6 (s' := (205, [some (.inr (some (25, 0, 0, 0))), some (.inl w1), g2], [.inl 0, .inr (some (26, 0, 0, 0)), .inl 9, .inl w1, .inr (some (25, 0, 0, 0))], (zx_lay M1, n))) rfl ?_
          refine zx_E.iald (k := 0) (h := (26, 0, 0, 0)) rfl rfl rfl (by decide) ?_
          show zx_E _ _ _ (206, [some (.inr (some (25, 0, 0, 0))), some (.inl w1), g2], [.inl (M1 (26, 0, 0, 0) 0), .inl 9, .inl w1, .inr (some (25, 0, 0, 0))], (zx_lay M1, n)) _
          refine zx_E.cm (y := 126) (as := [.inr (some (25, 0, 0, 0)), .inl w1, .inl 9, .inl (M1 (26, 0, 0, 0) 0)]) (rest := []) h rfl (fun _ hv => zx_run_up (by omega) (r_X11_set (d := d) hv)) (fun M2 h => ?_)
          show zx_E _ _ _ (209, [some (.inr (some (25, 0, 0, 0))), some (.inl w1), g2], [], (zx_lay M2, n)) _
          refine zx_E.go 2 (s' := (146, [some (.inr (some (25, 0, 0, 0))), some (.inl (w1 + 1)), g2], [], (zx_lay M2, n))) rfl ?_
          exact rl_X11_minute_146 hk q (w1 + 1) M2 h
      · refine zx_E.go 2 (s' := (146, [some (.inr (some (25, 0, 0, 0))), some (.inl (w1 + 1)), g2], [], (zx_lay M, n))) rfl ?_
        exact rl_X11_minute_146 hk q (w1 + 1) M h
def g_X11_isAhead (M : zx_Y) (x0 : Int32) (x1 : Int32) : Option Int32 := (zb (g_X11_at M x0 12) fun v1 => (if ((M (26, 0, 0, 0) 0) - v1) < (M (26, 0, 0, 0) 25) then (zb (g_X11_at M x1 12) fun v2 => (if ((M (26, 0, 0, 0) 0) - v2) < (M (26, 0, 0, 0) 25) then (zb (g_X11_at M x0 3) fun v3 => (zb (g_X11_at M x1 3) fun v4 => (if v3 = v4 then (zb (g_X11_at M x0 12) fun v5 => (zb (g_X11_at M x1 12) fun v6 => (if v5 = v6 then (if x1 ≤ x0 then (some 0) else (some 1)) else (zb (g_X11_at M x0 12) fun v7 => (zb (g_X11_at M x1 12) fun v8 => (if v8 ≤ v7 then (some 0) else (some 1))))))) else (zb (g_X11_at M x0 3) fun v9 => (zb (g_X11_at M x1 3) fun v10 => (if v9 ≤ v10 then (some 0) else (some 1))))))) else (some 0))) else (zb (g_X11_at M x1 12) fun v11 => (if ((M (26, 0, 0, 0) 0) - v11) < (M (26, 0, 0, 0) 25) then (some 1) else (zb (g_X11_at M x0 3) fun v12 => (zb (g_X11_at M x1 3) fun v13 => (if v12 = v13 then (zb (g_X11_at M x0 12) fun v14 => (zb (g_X11_at M x1 12) fun v15 => (if v14 = v15 then (if x1 ≤ x0 then (some 0) else (some 1)) else (zb (g_X11_at M x0 12) fun v16 => (zb (g_X11_at M x1 12) fun v17 => (if v17 ≤ v16 then (some 0) else (some 1))))))) else (zb (g_X11_at M x0 3) fun v18 => (zb (g_X11_at M x1 3) fun v19 => (if v18 ≤ v19 then (some 0) else (some 1)))))))))))
set_option maxRecDepth 100000 in
set_option maxHeartbeats 4000000 in
theorem r_X11_isAhead {X : zx_X} {d n : Nat} {M : zx_Y} {x0 : Int32} {x1 : Int32} {rv : Int32} (h : g_X11_isAhead M x0 x1 = some rv) : zx_run X (d + 2) 140 [.inr (some (25, 0, 0, 0)), .inl x0, .inl x1] (zx_lay M, n) (some (.inl rv), (zx_lay M, n)) := by
  refine zx_run_of zc_X11_isAhead [some (.inr (some (25, 0, 0, 0))), some (.inl x0), some (.inl x1), none, none] rfl rfl ?_
  unfold g_X11_isAhead at h
  refine zx_E.go 3 (s' := (5, [some (.inr (some (25, 0, 0, 0))), some (.inl x0), some (.inl x1), none, none], [.inl 0, .inr (some (26, 0, 0, 0))], (zx_lay M, n))) rfl ?_
  refine zx_E.iald (k := 0) (h := (26, 0, 0, 0)) rfl rfl rfl (by decide) ?_
  show zx_E _ _ _ (6, [some (.inr (some (25, 0, 0, 0))), some (.inl x0), some (.inl x1), none, none], [.inl (M (26, 0, 0, 0) 0)], (zx_lay M, n)) _
  refine zx_E.go 3 (s' := (10, [some (.inr (some (25, 0, 0, 0))), some (.inl x0), some (.inl x1), none, none], [.inl 12, .inl x0, .inr (some (25, 0, 0, 0)), .inl (M (26, 0, 0, 0) 0)], (zx_lay M, n))) rfl ?_
  refine zx_E.cb (y := 125) (as := [.inr (some (25, 0, 0, 0)), .inl x0, .inl 12]) (rest := [.inl (M (26, 0, 0, 0) 0)]) h rfl (fun _ hv => zx_run_up (by omega) (r_X11_at (d := d) hv)) (fun v1 h => ?_)
  show zx_E _ _ _ (13, [some (.inr (some (25, 0, 0, 0))), some (.inl x0), some (.inl x1), none, none], [.inl v1, .inl (M (26, 0, 0, 0) 0)], (zx_lay M, n)) _
  refine zx_E.go 4 (s' := (20, [some (.inr (some (25, 0, 0, 0))), some (.inl x0), some (.inl x1), none, none], [.inl 25, .inr (some (26, 0, 0, 0)), .inl ((M (26, 0, 0, 0) 0) - v1)], (zx_lay M, n))) rfl ?_
  refine zx_E.iald (k := 25) (h := (26, 0, 0, 0)) rfl rfl rfl (by decide) ?_
  show zx_E _ _ _ (21, [some (.inr (some (25, 0, 0, 0))), some (.inl x0), some (.inl x1), none, none], [.inl (M (26, 0, 0, 0) 25), .inl ((M (26, 0, 0, 0) 0) - v1)], (zx_lay M, n)) _
  refine zx_E.brh (c := ((M (26, 0, 0, 0) 0) - v1) < (M (26, 0, 0, 0) 25)) (s1 := (28, [some (.inr (some (25, 0, 0, 0))), some (.inl x0), some (.inl x1), none, none], [], (zx_lay M, n))) (s2 := (24, [some (.inr (some (25, 0, 0, 0))), some (.inl x0), some (.inl x1), none, none], [], (zx_lay M, n))) h (zx_ic_lt rfl) (fun _ h => ?_) (fun _ h => ?_)
  · refine zx_E.go 5 (s' := (35, [some (.inr (some (25, 0, 0, 0))), some (.inl x0), some (.inl x1), some (.inl 0), none], [.inl 0, .inr (some (26, 0, 0, 0))], (zx_lay M, n))) rfl ?_
    refine zx_E.iald (k := 0) (h := (26, 0, 0, 0)) rfl rfl rfl (by decide) ?_
    show zx_E _ _ _ (36, [some (.inr (some (25, 0, 0, 0))), some (.inl x0), some (.inl x1), some (.inl 0), none], [.inl (M (26, 0, 0, 0) 0)], (zx_lay M, n)) _
    refine zx_E.go 3 (s' := (40, [some (.inr (some (25, 0, 0, 0))), some (.inl x0), some (.inl x1), some (.inl 0), none], [.inl 12, .inl x1, .inr (some (25, 0, 0, 0)), .inl (M (26, 0, 0, 0) 0)], (zx_lay M, n))) rfl ?_
    refine zx_E.cb (y := 125) (as := [.inr (some (25, 0, 0, 0)), .inl x1, .inl 12]) (rest := [.inl (M (26, 0, 0, 0) 0)]) h rfl (fun _ hv => zx_run_up (by omega) (r_X11_at (d := d) hv)) (fun v2 h => ?_)
    show zx_E _ _ _ (43, [some (.inr (some (25, 0, 0, 0))), some (.inl x0), some (.inl x1), some (.inl 0), none], [.inl v2, .inl (M (26, 0, 0, 0) 0)], (zx_lay M, n)) _
    refine zx_E.go 4 (s' := (50, [some (.inr (some (25, 0, 0, 0))), some (.inl x0), some (.inl x1), some (.inl 0), none], [.inl 25, .inr (some (26, 0, 0, 0)), .inl ((M (26, 0, 0, 0) 0) - v2)], (zx_lay M, n))) rfl ?_
    refine zx_E.iald (k := 25) (h := (26, 0, 0, 0)) rfl rfl rfl (by decide) ?_
    show zx_E _ _ _ (51, [some (.inr (some (25, 0, 0, 0))), some (.inl x0), some (.inl x1), some (.inl 0), none], [.inl (M (26, 0, 0, 0) 25), .inl ((M (26, 0, 0, 0) 0) - v2)], (zx_lay M, n)) _
    refine zx_E.brh (c := ((M (26, 0, 0, 0) 0) - v2) < (M (26, 0, 0, 0) 25)) (s1 := (58, [some (.inr (some (25, 0, 0, 0))), some (.inl x0), some (.inl x1), some (.inl 0), none], [], (zx_lay M, n))) (s2 := (54, [some (.inr (some (25, 0, 0, 0))), some (.inl x0), some (.inl x1), some (.inl 0), none], [], (zx_lay M, n))) h (zx_ic_lt rfl) (fun _ h => ?_) (fun _ h => ?_)
    · refine zx_E.go 4 (s' := (64, [some (.inr (some (25, 0, 0, 0))), some (.inl x0), some (.inl x1), some (.inl 0), some (.inl 0)], [.inl 0, .inl 0], (zx_lay M, n))) rfl ?_
      refine zx_E.bt (c := ((0 : Int32) = 0 : Prop)) (s1 := (69, [some (.inr (some (25, 0, 0, 0))), some (.inl x0), some (.inl x1), some (.inl 0), some (.inl 0)], [], (zx_lay M, n))) (s2 := (67, [some (.inr (some (25, 0, 0, 0))), some (.inl x0), some (.inl x1), some (.inl 0), some (.inl 0)], [], (zx_lay M, n))) (zx_ic_eq rfl) (by decide) ?_
      refine zx_E.go 3 (s' := (72, [some (.inr (some (25, 0, 0, 0))), some (.inl x0), some (.inl x1), some (.inl 0), some (.inl 0)], [.inl 3, .inl x0, .inr (some (25, 0, 0, 0))], (zx_lay M, n))) rfl ?_
      refine zx_E.cb (y := 125) (as := [.inr (some (25, 0, 0, 0)), .inl x0, .inl 3]) (rest := []) h rfl (fun _ hv => zx_run_up (by omega) (r_X11_at (d := d) hv)) (fun v3 h => ?_)
      show zx_E _ _ _ (75, [some (.inr (some (25, 0, 0, 0))), some (.inl x0), some (.inl x1), some (.inl 0), some (.inl 0)], [.inl v3], (zx_lay M, n)) _
      refine zx_E.go 3 (s' := (78, [some (.inr (some (25, 0, 0, 0))), some (.inl x0), some (.inl x1), some (.inl 0), some (.inl 0)], [.inl 3, .inl x1, .inr (some (25, 0, 0, 0)), .inl v3], (zx_lay M, n))) rfl ?_
      refine zx_E.cb (y := 125) (as := [.inr (some (25, 0, 0, 0)), .inl x1, .inl 3]) (rest := [.inl v3]) h rfl (fun _ hv => zx_run_up (by omega) (r_X11_at (d := d) hv)) (fun v4 h => ?_)
      show zx_E _ _ _ (81, [some (.inr (some (25, 0, 0, 0))), some (.inl x0), some (.inl x1), some (.inl 0), some (.inl 0)], [.inl v4, .inl v3], (zx_lay M, n)) _
      refine zx_E.brh (c := v3 = v4) (s1 := (105, [some (.inr (some (25, 0, 0, 0))), some (.inl x0), some (.inl x1), some (.inl 0), some (.inl 0)], [], (zx_lay M, n))) (s2 := (84, [some (.inr (some (25, 0, 0, 0))), some (.inl x0), some (.inl x1), some (.inl 0), some (.inl 0)], [], (zx_lay M, n))) h (zx_ic_eq rfl) (fun _ h => ?_) (fun _ h => ?_)
      · refine zx_E.go 3 (s' := (109, [some (.inr (some (25, 0, 0, 0))), some (.inl x0), some (.inl x1), some (.inl 0), some (.inl 0)], [.inl 12, .inl x0, .inr (some (25, 0, 0, 0))], (zx_lay M, n))) rfl ?_
        refine zx_E.cb (y := 125) (as := [.inr (some (25, 0, 0, 0)), .inl x0, .inl 12]) (rest := []) h rfl (fun _ hv => zx_run_up (by omega) (r_X11_at (d := d) hv)) (fun v5 h => ?_)
        show zx_E _ _ _ (112, [some (.inr (some (25, 0, 0, 0))), some (.inl x0), some (.inl x1), some (.inl 0), some (.inl 0)], [.inl v5], (zx_lay M, n)) _
        refine zx_E.go 3 (s' := (116, [some (.inr (some (25, 0, 0, 0))), some (.inl x0), some (.inl x1), some (.inl 0), some (.inl 0)], [.inl 12, .inl x1, .inr (some (25, 0, 0, 0)), .inl v5], (zx_lay M, n))) rfl ?_
        refine zx_E.cb (y := 125) (as := [.inr (some (25, 0, 0, 0)), .inl x1, .inl 12]) (rest := [.inl v5]) h rfl (fun _ hv => zx_run_up (by omega) (r_X11_at (d := d) hv)) (fun v6 h => ?_)
        show zx_E _ _ _ (119, [some (.inr (some (25, 0, 0, 0))), some (.inl x0), some (.inl x1), some (.inl 0), some (.inl 0)], [.inl v6, .inl v5], (zx_lay M, n)) _
        refine zx_E.brh (c := v5 = v6) (s1 := (147, [some (.inr (some (25, 0, 0, 0))), some (.inl x0), some (.inl x1), some (.inl 0), some (.inl 0)], [], (zx_lay M, n))) (s2 := (122, [some (.inr (some (25, 0, 0, 0))), some (.inl x0), some (.inl x1), some (.inl 0), some (.inl 0)], [], (zx_lay M, n))) h (zx_ic_eq rfl) (fun _ h => ?_) (fun _ h => ?_)
        · refine zx_E.go 2 (s' := (149, [some (.inr (some (25, 0, 0, 0))), some (.inl x0), some (.inl x1), some (.inl 0), some (.inl 0)], [.inl x1, .inl x0], (zx_lay M, n))) rfl ?_
          refine zx_E.brh (c := x1 ≤ x0) (s1 := (156, [some (.inr (some (25, 0, 0, 0))), some (.inl x0), some (.inl x1), some (.inl 0), some (.inl 0)], [], (zx_lay M, n))) (s2 := (152, [some (.inr (some (25, 0, 0, 0))), some (.inl x0), some (.inl x1), some (.inl 0), some (.inl 0)], [], (zx_lay M, n))) h (zx_ic_ge rfl) (fun _ h => ?_) (fun _ h => ?_)
          · refine zx_E.go 1 (s' := (157, [some (.inr (some (25, 0, 0, 0))), some (.inl x0), some (.inl x1), some (.inl 0), some (.inl 0)], [.inl 0], (zx_lay M, n))) rfl ?_
            exact zx_E.rp h rfl (fun _ => Or.inl rfl)
          · refine zx_E.go 2 (s' := (157, [some (.inr (some (25, 0, 0, 0))), some (.inl x0), some (.inl x1), some (.inl 0), some (.inl 0)], [.inl 1], (zx_lay M, n))) rfl ?_
            exact zx_E.rp h rfl (fun _ => Or.inr rfl)
        · refine zx_E.go 3 (s' := (126, [some (.inr (some (25, 0, 0, 0))), some (.inl x0), some (.inl x1), some (.inl 0), some (.inl 0)], [.inl 12, .inl x0, .inr (some (25, 0, 0, 0))], (zx_lay M, n))) rfl ?_
          refine zx_E.cb (y := 125) (as := [.inr (some (25, 0, 0, 0)), .inl x0, .inl 12]) (rest := []) h rfl (fun _ hv => zx_run_up (by omega) (r_X11_at (d := d) hv)) (fun v7 h => ?_)
          show zx_E _ _ _ (129, [some (.inr (some (25, 0, 0, 0))), some (.inl x0), some (.inl x1), some (.inl 0), some (.inl 0)], [.inl v7], (zx_lay M, n)) _
          refine zx_E.go 3 (s' := (133, [some (.inr (some (25, 0, 0, 0))), some (.inl x0), some (.inl x1), some (.inl 0), some (.inl 0)], [.inl 12, .inl x1, .inr (some (25, 0, 0, 0)), .inl v7], (zx_lay M, n))) rfl ?_
          refine zx_E.cb (y := 125) (as := [.inr (some (25, 0, 0, 0)), .inl x1, .inl 12]) (rest := [.inl v7]) h rfl (fun _ hv => zx_run_up (by omega) (r_X11_at (d := d) hv)) (fun v8 h => ?_)
          show zx_E _ _ _ (136, [some (.inr (some (25, 0, 0, 0))), some (.inl x0), some (.inl x1), some (.inl 0), some (.inl 0)], [.inl v8, .inl v7], (zx_lay M, n)) _
          refine zx_E.brh (c := v8 ≤ v7) (s1 := (143, [some (.inr (some (25, 0, 0, 0))), some (.inl x0), some (.inl x1), some (.inl 0), some (.inl 0)], [], (zx_lay M, n))) (s2 := (139, [some (.inr (some (25, 0, 0, 0))), some (.inl x0), some (.inl x1), some (.inl 0), some (.inl 0)], [], (zx_lay M, n))) h (zx_ic_ge rfl) (fun _ h => ?_) (fun _ h => ?_)
          · refine zx_E.go 2 (s' := (157, [some (.inr (some (25, 0, 0, 0))), some (.inl x0), some (.inl x1), some (.inl 0), some (.inl 0)], [.inl 0], (zx_lay M, n))) rfl ?_
            exact zx_E.rp h rfl (fun _ => Or.inl rfl)
          · refine zx_E.go 2 (s' := (157, [some (.inr (some (25, 0, 0, 0))), some (.inl x0), some (.inl x1), some (.inl 0), some (.inl 0)], [.inl 1], (zx_lay M, n))) rfl ?_
            exact zx_E.rp h rfl (fun _ => Or.inr rfl)
      · refine zx_E.go 3 (s' := (87, [some (.inr (some (25, 0, 0, 0))), some (.inl x0), some (.inl x1), some (.inl 0), some (.inl 0)], [.inl 3, .inl x0, .inr (some (25, 0, 0, 0))], (zx_lay M, n))) rfl ?_
        refine zx_E.cb (y := 125) (as := [.inr (some (25, 0, 0, 0)), .inl x0, .inl 3]) (rest := []) h rfl (fun _ hv => zx_run_up (by omega) (r_X11_at (d := d) hv)) (fun v9 h => ?_)
        show zx_E _ _ _ (90, [some (.inr (some (25, 0, 0, 0))), some (.inl x0), some (.inl x1), some (.inl 0), some (.inl 0)], [.inl v9], (zx_lay M, n)) _
        refine zx_E.go 3 (s' := (93, [some (.inr (some (25, 0, 0, 0))), some (.inl x0), some (.inl x1), some (.inl 0), some (.inl 0)], [.inl 3, .inl x1, .inr (some (25, 0, 0, 0)), .inl v9], (zx_lay M, n))) rfl ?_
        refine zx_E.cb (y := 125) (as := [.inr (some (25, 0, 0, 0)), .inl x1, .inl 3]) (rest := [.inl v9]) h rfl (fun _ hv => zx_run_up (by omega) (r_X11_at (d := d) hv)) (fun v10 h => ?_)
        show zx_E _ _ _ (96, [some (.inr (some (25, 0, 0, 0))), some (.inl x0), some (.inl x1), some (.inl 0), some (.inl 0)], [.inl v10, .inl v9], (zx_lay M, n)) _
        refine zx_E.brh (c := v9 ≤ v10) (s1 := (103, [some (.inr (some (25, 0, 0, 0))), some (.inl x0), some (.inl x1), some (.inl 0), some (.inl 0)], [], (zx_lay M, n))) (s2 := (99, [some (.inr (some (25, 0, 0, 0))), some (.inl x0), some (.inl x1), some (.inl 0), some (.inl 0)], [], (zx_lay M, n))) h (zx_ic_le rfl) (fun _ h => ?_) (fun _ h => ?_)
        · refine zx_E.go 1 (s' := (104, [some (.inr (some (25, 0, 0, 0))), some (.inl x0), some (.inl x1), some (.inl 0), some (.inl 0)], [.inl 0], (zx_lay M, n))) rfl ?_
          exact zx_E.rp h rfl (fun _ => Or.inl rfl)
        · refine zx_E.go 2 (s' := (104, [some (.inr (some (25, 0, 0, 0))), some (.inl x0), some (.inl x1), some (.inl 0), some (.inl 0)], [.inl 1], (zx_lay M, n))) rfl ?_
          exact zx_E.rp h rfl (fun _ => Or.inr rfl)
    · refine zx_E.go 5 (s' := (64, [some (.inr (some (25, 0, 0, 0))), some (.inl x0), some (.inl x1), some (.inl 0), some (.inl 1)], [.inl 1, .inl 0], (zx_lay M, n))) rfl ?_
      refine zx_E.bf (c := ((0 : Int32) = 1 : Prop)) (s1 := (69, [some (.inr (some (25, 0, 0, 0))), some (.inl x0), some (.inl x1), some (.inl 0), some (.inl 1)], [], (zx_lay M, n))) (s2 := (67, [some (.inr (some (25, 0, 0, 0))), some (.inl x0), some (.inl x1), some (.inl 0), some (.inl 1)], [], (zx_lay M, n))) (zx_ic_eq rfl) (by decide) ?_
      refine zx_E.go 1 (s' := (68, [some (.inr (some (25, 0, 0, 0))), some (.inl x0), some (.inl x1), some (.inl 0), some (.inl 1)], [.inl 0], (zx_lay M, n))) rfl ?_
      exact zx_E.rp h rfl (fun _ => Or.inl rfl)
  · refine zx_E.go 6 (s' := (35, [some (.inr (some (25, 0, 0, 0))), some (.inl x0), some (.inl x1), some (.inl 1), none], [.inl 0, .inr (some (26, 0, 0, 0))], (zx_lay M, n))) rfl ?_
    refine zx_E.iald (k := 0) (h := (26, 0, 0, 0)) rfl rfl rfl (by decide) ?_
    show zx_E _ _ _ (36, [some (.inr (some (25, 0, 0, 0))), some (.inl x0), some (.inl x1), some (.inl 1), none], [.inl (M (26, 0, 0, 0) 0)], (zx_lay M, n)) _
    refine zx_E.go 3 (s' := (40, [some (.inr (some (25, 0, 0, 0))), some (.inl x0), some (.inl x1), some (.inl 1), none], [.inl 12, .inl x1, .inr (some (25, 0, 0, 0)), .inl (M (26, 0, 0, 0) 0)], (zx_lay M, n))) rfl ?_
    refine zx_E.cb (y := 125) (as := [.inr (some (25, 0, 0, 0)), .inl x1, .inl 12]) (rest := [.inl (M (26, 0, 0, 0) 0)]) h rfl (fun _ hv => zx_run_up (by omega) (r_X11_at (d := d) hv)) (fun v11 h => ?_)
    show zx_E _ _ _ (43, [some (.inr (some (25, 0, 0, 0))), some (.inl x0), some (.inl x1), some (.inl 1), none], [.inl v11, .inl (M (26, 0, 0, 0) 0)], (zx_lay M, n)) _
    refine zx_E.go 4 (s' := (50, [some (.inr (some (25, 0, 0, 0))), some (.inl x0), some (.inl x1), some (.inl 1), none], [.inl 25, .inr (some (26, 0, 0, 0)), .inl ((M (26, 0, 0, 0) 0) - v11)], (zx_lay M, n))) rfl ?_
    refine zx_E.iald (k := 25) (h := (26, 0, 0, 0)) rfl rfl rfl (by decide) ?_
    show zx_E _ _ _ (51, [some (.inr (some (25, 0, 0, 0))), some (.inl x0), some (.inl x1), some (.inl 1), none], [.inl (M (26, 0, 0, 0) 25), .inl ((M (26, 0, 0, 0) 0) - v11)], (zx_lay M, n)) _
    refine zx_E.brh (c := ((M (26, 0, 0, 0) 0) - v11) < (M (26, 0, 0, 0) 25)) (s1 := (58, [some (.inr (some (25, 0, 0, 0))), some (.inl x0), some (.inl x1), some (.inl 1), none], [], (zx_lay M, n))) (s2 := (54, [some (.inr (some (25, 0, 0, 0))), some (.inl x0), some (.inl x1), some (.inl 1), none], [], (zx_lay M, n))) h (zx_ic_lt rfl) (fun _ h => ?_) (fun _ h => ?_)
    · refine zx_E.go 4 (s' := (64, [some (.inr (some (25, 0, 0, 0))), some (.inl x0), some (.inl x1), some (.inl 1), some (.inl 0)], [.inl 0, .inl 1], (zx_lay M, n))) rfl ?_
      refine zx_E.bf (c := ((1 : Int32) = 0 : Prop)) (s1 := (69, [some (.inr (some (25, 0, 0, 0))), some (.inl x0), some (.inl x1), some (.inl 1), some (.inl 0)], [], (zx_lay M, n))) (s2 := (67, [some (.inr (some (25, 0, 0, 0))), some (.inl x0), some (.inl x1), some (.inl 1), some (.inl 0)], [], (zx_lay M, n))) (zx_ic_eq rfl) (by decide) ?_
      refine zx_E.go 1 (s' := (68, [some (.inr (some (25, 0, 0, 0))), some (.inl x0), some (.inl x1), some (.inl 1), some (.inl 0)], [.inl 1], (zx_lay M, n))) rfl ?_
      exact zx_E.rp h rfl (fun _ => Or.inr rfl)
    · refine zx_E.go 5 (s' := (64, [some (.inr (some (25, 0, 0, 0))), some (.inl x0), some (.inl x1), some (.inl 1), some (.inl 1)], [.inl 1, .inl 1], (zx_lay M, n))) rfl ?_
      refine zx_E.bt (c := ((1 : Int32) = 1 : Prop)) (s1 := (69, [some (.inr (some (25, 0, 0, 0))), some (.inl x0), some (.inl x1), some (.inl 1), some (.inl 1)], [], (zx_lay M, n))) (s2 := (67, [some (.inr (some (25, 0, 0, 0))), some (.inl x0), some (.inl x1), some (.inl 1), some (.inl 1)], [], (zx_lay M, n))) (zx_ic_eq rfl) (by decide) ?_
      refine zx_E.go 3 (s' := (72, [some (.inr (some (25, 0, 0, 0))), some (.inl x0), some (.inl x1), some (.inl 1), some (.inl 1)], [.inl 3, .inl x0, .inr (some (25, 0, 0, 0))], (zx_lay M, n))) rfl ?_
      refine zx_E.cb (y := 125) (as := [.inr (some (25, 0, 0, 0)), .inl x0, .inl 3]) (rest := []) h rfl (fun _ hv => zx_run_up (by omega) (r_X11_at (d := d) hv)) (fun v12 h => ?_)
      show zx_E _ _ _ (75, [some (.inr (some (25, 0, 0, 0))), some (.inl x0), some (.inl x1), some (.inl 1), some (.inl 1)], [.inl v12], (zx_lay M, n)) _
      refine zx_E.go 3 (s' := (78, [some (.inr (some (25, 0, 0, 0))), some (.inl x0), some (.inl x1), some (.inl 1), some (.inl 1)], [.inl 3, .inl x1, .inr (some (25, 0, 0, 0)), .inl v12], (zx_lay M, n))) rfl ?_
      refine zx_E.cb (y := 125) (as := [.inr (some (25, 0, 0, 0)), .inl x1, .inl 3]) (rest := [.inl v12]) h rfl (fun _ hv => zx_run_up (by omega) (r_X11_at (d := d) hv)) (fun v13 h => ?_)
      show zx_E _ _ _ (81, [some (.inr (some (25, 0, 0, 0))), some (.inl x0), some (.inl x1), some (.inl 1), some (.inl 1)], [.inl v13, .inl v12], (zx_lay M, n)) _
      refine zx_E.brh (c := v12 = v13) (s1 := (105, [some (.inr (some (25, 0, 0, 0))), some (.inl x0), some (.inl x1), some (.inl 1), some (.inl 1)], [], (zx_lay M, n))) (s2 := (84, [some (.inr (some (25, 0, 0, 0))), some (.inl x0), some (.inl x1), some (.inl 1), some (.inl 1)], [], (zx_lay M, n))) h (zx_ic_eq rfl) (fun _ h => ?_) (fun _ h => ?_)
      · refine zx_E.go 3 (s' := (109, [some (.inr (some (25, 0, 0, 0))), some (.inl x0), some (.inl x1), some (.inl 1), some (.inl 1)], [.inl 12, .inl x0, .inr (some (25, 0, 0, 0))], (zx_lay M, n))) rfl ?_
        refine zx_E.cb (y := 125) (as := [.inr (some (25, 0, 0, 0)), .inl x0, .inl 12]) (rest := []) h rfl (fun _ hv => zx_run_up (by omega) (r_X11_at (d := d) hv)) (fun v14 h => ?_)
        show zx_E _ _ _ (112, [some (.inr (some (25, 0, 0, 0))), some (.inl x0), some (.inl x1), some (.inl 1), some (.inl 1)], [.inl v14], (zx_lay M, n)) _
        refine zx_E.go 3 (s' := (116, [some (.inr (some (25, 0, 0, 0))), some (.inl x0), some (.inl x1), some (.inl 1), some (.inl 1)], [.inl 12, .inl x1, .inr (some (25, 0, 0, 0)), .inl v14], (zx_lay M, n))) rfl ?_
        refine zx_E.cb (y := 125) (as := [.inr (some (25, 0, 0, 0)), .inl x1, .inl 12]) (rest := [.inl v14]) h rfl (fun _ hv => zx_run_up (by omega) (r_X11_at (d := d) hv)) (fun v15 h => ?_)
        show zx_E _ _ _ (119, [some (.inr (some (25, 0, 0, 0))), some (.inl x0), some (.inl x1), some (.inl 1), some (.inl 1)], [.inl v15, .inl v14], (zx_lay M, n)) _
        refine zx_E.brh (c := v14 = v15) (s1 := (147, [some (.inr (some (25, 0, 0, 0))), some (.inl x0), some (.inl x1), some (.inl 1), some (.inl 1)], [], (zx_lay M, n))) (s2 := (122, [some (.inr (some (25, 0, 0, 0))), some (.inl x0), some (.inl x1), some (.inl 1), some (.inl 1)], [], (zx_lay M, n))) h (zx_ic_eq rfl) (fun _ h => ?_) (fun _ h => ?_)
        · refine zx_E.go 2 (s' := (149, [some (.inr (some (25, 0, 0, 0))), some (.inl x0), some (.inl x1), some (.inl 1), some (.inl 1)], [.inl x1, .inl x0], (zx_lay M, n))) rfl ?_
          refine zx_E.brh (c := x1 ≤ x0) (s1 := (156, [some (.inr (some (25, 0, 0, 0))), some (.inl x0), some (.inl x1), some (.inl 1), some (.inl 1)], [], (zx_lay M, n))) (s2 := (152, [some (.inr (some (25, 0, 0, 0))), some (.inl x0), some (.inl x1), some (.inl 1), some (.inl 1)], [], (zx_lay M, n))) h (zx_ic_ge rfl) (fun _ h => ?_) (fun _ h => ?_)
          · refine zx_E.go 1 (s' := (157, [some (.inr (some (25, 0, 0, 0))), some (.inl x0), some (.inl x1), some (.inl 1), some (.inl 1)], [.inl 0], (zx_lay M, n))) rfl ?_
            exact zx_E.rp h rfl (fun _ => Or.inl rfl)
          · refine zx_E.go 2 (s' := (157, [some (.inr (some (25, 0, 0, 0))), some (.inl x0), some (.inl x1), some (.inl 1), some (.inl 1)], [.inl 1], (zx_lay M, n))) rfl ?_
            exact zx_E.rp h rfl (fun _ => Or.inr rfl)
        · refine zx_E.go 3 (s' := (126, [some (.inr (some (25, 0, 0, 0))), some (.inl x0), some (.inl x1), some (.inl 1), some (.inl 1)], [.inl 12, .inl x0, .inr (some (25, 0, 0, 0))], (zx_lay M, n))) rfl ?_
          refine zx_E.cb (y := 125) (as := [.inr (some (25, 0, 0, 0)), .inl x0, .inl 12]) (rest := []) h rfl (fun _ hv => zx_run_up (by omega) (r_X11_at (d := d) hv)) (fun v16 h => ?_)
          show zx_E _ _ _ (129, [some (.inr (some (25, 0, 0, 0))), some (.inl x0), some (.inl x1), some (.inl 1), some (.inl 1)], [.inl v16], (zx_lay M, n)) _
          refine zx_E.go 3 (s' := (133, [some (.inr (some (25, 0, 0, 0))), some (.inl x0), some (.inl x1), some (.inl 1), some (.inl 1)], [.inl 12, .inl x1, .inr (some (25, 0, 0, 0)), .inl v16], (zx_lay M, n))) rfl ?_
          refine zx_E.cb (y := 125) (as := [.inr (some (25, 0, 0, 0)), .inl x1, .inl 12]) (rest := [.inl v16]) h rfl (fun _ hv => zx_run_up (by omega) (r_X11_at (d := d) hv)) (fun v17 h => ?_)
          show zx_E _ _ _ (136, [some (.inr (some (25, 0, 0, 0))), some (.inl x0), some (.inl x1), some (.inl 1), some (.inl 1)], [.inl v17, .inl v16], (zx_lay M, n)) _
          refine zx_E.brh (c := v17 ≤ v16) (s1 := (143, [some (.inr (some (25, 0, 0, 0))), some (.inl x0), some (.inl x1), some (.inl 1), some (.inl 1)], [], (zx_lay M, n))) (s2 := (139, [some (.inr (some (25, 0, 0, 0))), some (.inl x0), some (.inl x1), some (.inl 1), some (.inl 1)], [], (zx_lay M, n))) h (zx_ic_ge rfl) (fun _ h => ?_) (fun _ h => ?_)
          · refine zx_E.go 2 (s' := (157, [some (.inr (some (25, 0, 0, 0))), some (.inl x0), some (.inl x1), some (.inl 1), some (.inl 1)], [.inl 0], (zx_lay M, n))) rfl ?_
            exact zx_E.rp h rfl (fun _ => Or.inl rfl)
          · refine zx_E.go 2 (s' := (157, [some (.inr (some (25, 0, 0, 0))), some (.inl x0), some (.inl x1), some (.inl 1), some (.inl 1)], [.inl 1], (zx_lay M, n))) rfl ?_
            exact zx_E.rp h rfl (fun _ => Or.inr rfl)
      · refine zx_E.go 3 (s' := (87, [some (.inr (some (25, 0, 0, 0))), some (.inl x0), some (.inl x1), some (.inl 1), some (.inl 1)], [.inl 3, .inl x0, .inr (some (25, 0, 0, 0))], (zx_lay M, n))) rfl ?_
        refine zx_E.cb (y := 125) (as := [.inr (some (25, 0, 0, 0)), .inl x0, .inl 3]) (rest := []) h rfl (fun _ hv => zx_run_up (by omega) (r_X11_at (d := d) hv)) (fun v18 h => ?_)
        show zx_E _ _ _ (90, [some (.inr (some (25, 0, 0, 0))), some (.inl x0), some (.inl x1), some (.inl 1), some (.inl 1)], [.inl v18], (zx_lay M, n)) _
        refine zx_E.go 3 (s' := (93, [some (.inr (some (25, 0, 0, 0))), some (.inl x0), some (.inl x1), some (.inl 1), some (.inl 1)], [.inl 3, .inl x1, .inr (some (25, 0, 0, 0)), .inl v18], (zx_lay M, n))) rfl ?_
        refine zx_E.cb (y := 125) (as := [.inr (some (25, 0, 0, 0)), .inl x1, .inl 3]) (rest := [.inl v18]) h rfl (fun _ hv => zx_run_up (by omega) (r_X11_at (d := d) hv)) (fun v19 h => ?_)
        show zx_E _ _ _ (96, [some (.inr (some (25, 0, 0, 0))), some (.inl x0), some (.inl x1), some (.inl 1), some (.inl 1)], [.inl v19, .inl v18], (zx_lay M, n)) _
        refine zx_E.brh (c := v18 ≤ v19) (s1 := (103, [some (.inr (some (25, 0, 0, 0))), some (.inl x0), some (.inl x1), some (.inl 1), some (.inl 1)], [], (zx_lay M, n))) (s2 := (99, [some (.inr (some (25, 0, 0, 0))), some (.inl x0), some (.inl x1), some (.inl 1), some (.inl 1)], [], (zx_lay M, n))) h (zx_ic_le rfl) (fun _ h => ?_) (fun _ h => ?_)
        · refine zx_E.go 1 (s' := (104, [some (.inr (some (25, 0, 0, 0))), some (.inl x0), some (.inl x1), some (.inl 1), some (.inl 1)], [.inl 0], (zx_lay M, n))) rfl ?_
          exact zx_E.rp h rfl (fun _ => Or.inl rfl)
        · refine zx_E.go 2 (s' := (104, [some (.inr (some (25, 0, 0, 0))), some (.inl x0), some (.inl x1), some (.inl 1), some (.inl 1)], [.inl 1], (zx_lay M, n))) rfl ?_
          exact zx_E.rp h rfl (fun _ => Or.inr rfl)
def lg_X11_sortTrains_33 (p1 : Int32) (kk : Int32 → zx_Y → Option zx_Y) : Nat → Int32 → zx_Y → Option zx_Y
  | 0, _, _ => none
  | q + 1, w2, M => (if w2 ≤ 0 then (kk w2 M) else (zi (w2 - 1) 10 fun k1 => (zb (g_X11_isAhead M p1 (M (27, 0, 0, 0) k1)) fun v1 => (if v1 = 0 then (kk w2 M) else (zi (w2 - 1) 10 fun k2 => (zi w2 10 fun k3 => (zl (zx_up M (27, 0, 0, 0) k3 (M (27, 0, 0, 0) k2)) fun M1 => (lg_X11_sortTrains_33 p1 kk q (w2 + (-1)) M1))))))))
set_option maxRecDepth 100000 in
set_option maxHeartbeats 4000000 in
theorem rl_X11_sortTrains_33 {X : zx_X} {d n : Nat} {p1 : Int32} {kk : Int32 → zx_Y → Option zx_Y} {rM : zx_Y} (hk : ∀ (w2 : Int32) (M : zx_Y), kk w2 M = some rM → zx_E X (d + 2) zc_X11_sortTrains (73, [some (.inr (some (25, 0, 0, 0))), some (.inl p1), some (.inl w2)], [], (zx_lay M, n)) (none, (zx_lay rM, n))) : ∀ (q : Nat) (w2 : Int32) (M : zx_Y), lg_X11_sortTrains_33 p1 kk q w2 M = some rM → zx_E X (d + 2) zc_X11_sortTrains (33, [some (.inr (some (25, 0, 0, 0))), some (.inl p1), some (.inl w2)], [], (zx_lay M, n)) (none, (zx_lay rM, n))
  | 0, w2, M, h => by
    rw [lg_X11_sortTrains_33.eq_1] at h
    cases h
  | q + 1, w2, M, h => by
    rw [lg_X11_sortTrains_33.eq_2] at h
    refine zx_E.go 1 (s' := (34, [some (.inr (some (25, 0, 0, 0))), some (.inl p1), some (.inl w2)], [.inl w2], (zx_lay M, n))) rfl ?_
    refine zx_E.brh (c := w2 ≤ 0) (s1 := (73, [some (.inr (some (25, 0, 0, 0))), some (.inl p1), some (.inl w2)], [], (zx_lay M, n))) (s2 := (37, [some (.inr (some (25, 0, 0, 0))), some (.inl p1), some (.inl w2)], [], (zx_lay M, n))) h (zx_if_le rfl) (fun _ h => ?_) (fun _ h => ?_)
    · exact hk _ _ h
    · refine zx_E.go 6 (s' := (45, [some (.inr (some (25, 0, 0, 0))), some (.inl p1), some (.inl w2)], [.inl 1, .inl w2, .inr (some (27, 0, 0, 0)), .inl p1, .inr (some (25, 0, 0, 0))], (zx_lay M, n))) rfl ?_
      refine zx_E.go 1 (s' := (46, [some (.inr (some (25, 0, 0, 0))), some (.inl p1), some (.inl w2)], [.inl (w2 - 1), .inr (some (27, 0, 0, 0)), .inl p1, .inr (some (25, 0, 0, 0))], (zx_lay M, n))) rfl ?_
      refine zx_E.ix h (fun k1 hx_k1 hl_k1 h => ?_)
      refine zx_E.iald (k := k1) (h := (27, 0, 0, 0)) rfl rfl hx_k1 hl_k1 ?_
      show zx_E _ _ _ (47, [some (.inr (some (25, 0, 0, 0))), some (.inl p1), some (.inl w2)], [.inl (M (27, 0, 0, 0) k1), .inl p1, .inr (some (25, 0, 0, 0))], (zx_lay M, n)) _
      refine zx_E.cb (y := 140) (as := [.inr (some (25, 0, 0, 0)), .inl p1, .inl (M (27, 0, 0, 0) k1)]) (rest := []) h rfl (fun _ hv => zx_run_up (by omega) (r_X11_isAhead (d := d) hv)) (fun v1 h => ?_)
      show zx_E _ _ _ (50, [some (.inr (some (25, 0, 0, 0))), some (.inl p1), some (.inl w2)], [.inl v1], (zx_lay M, n)) _
      refine zx_E.brh (c := v1 = 0) (s1 := (73, [some (.inr (some (25, 0, 0, 0))), some (.inl p1), some (.inl w2)], [], (zx_lay M, n))) (s2 := (53, [some (.inr (some (25, 0, 0, 0))), some (.inl p1), some (.inl w2)], [], (zx_lay M, n))) h (zx_if_eq rfl) (fun _ h => ?_) (fun _ h => ?_)
      · exact hk _ _ h
      · refine zx_E.go 7 (s' := (64, [some (.inr (some (25, 0, 0, 0))), some (.inl p1), some (.inl w2)], [.inl 1, .inl w2, .inr (some (27, 0, 0, 0)), .inl w2, .inr (some (27, 0, 0, 0))], (zx_lay M, n))) rfl ?_
        refine zx_E.go 1 (s' := (65, [some (.inr (some (25, 0, 0, 0))), some (.inl p1), some (.inl w2)], [.inl (w2 - 1), .inr (some (27, 0, 0, 0)), .inl w2, .inr (some (27, 0, 0, 0))], (zx_lay M, n))) rfl ?_
        refine zx_E.ix h (fun k2 hx_k2 hl_k2 h => ?_)
        refine zx_E.iald (k := k2) (h := (27, 0, 0, 0)) rfl rfl hx_k2 hl_k2 ?_
        show zx_E _ _ _ (66, [some (.inr (some (25, 0, 0, 0))), some (.inl p1), some (.inl w2)], [.inl (M (27, 0, 0, 0) k2), .inl w2, .inr (some (27, 0, 0, 0))], (zx_lay M, n)) _
        refine zx_E.ix h (fun k3 hx_k3 hl_k3 h => ?_)
        refine zx_E.ia h rfl rfl hx_k3 hl_k3 (fun M1 h => ?_)
        show zx_E _ _ _ (67, [some (.inr (some (25, 0, 0, 0))), some (.inl p1), some (.inl w2)], [], (zx_lay M1, n)) _
        refine zx_E.go 2 (s' := (33, [some (.inr (some (25, 0, 0, 0))), some (.inl p1), some (.inl (w2 + (-1)))], [], (zx_lay M1, n))) rfl ?_
        exact rl_X11_sortTrains_33 hk q (w2 + (-1)) M1 h
def lg_X11_sortTrains_7 (kk : Int32 → zx_Y → Option zx_Y) : Nat → Int32 → zx_Y → Option zx_Y
  | 0, _, _ => none
  | q + 1, w1, M => (if (M (26, 0, 0, 0) 27) ≤ w1 then (kk w1 M) else (zb (g_X11_at M w1 0) fun v1 => (if v1 = 1 then (lg_X11_sortTrains_33 w1 (fun v2 M1 => (zi v2 10 fun k1 => (zl (zx_up M1 (27, 0, 0, 0) k1 w1) fun M2 => (zl (zx_up M2 (25, 0, 0, 0) 2 ((M2 (25, 0, 0, 0) 2) + 1)) fun M3 => (lg_X11_sortTrains_7 kk q (w1 + 1) M3))))) 1000 (M (25, 0, 0, 0) 2) M) else (lg_X11_sortTrains_7 kk q (w1 + 1) M))))
set_option maxRecDepth 100000 in
set_option maxHeartbeats 4000000 in
theorem rl_X11_sortTrains_7 {X : zx_X} {d n : Nat} {kk : Int32 → zx_Y → Option zx_Y} {rM : zx_Y} (hk : ∀ (w1 : Int32) (M : zx_Y) (e2 : Option zx_V), kk w1 M = some rM → zx_E X (d + 2) zc_X11_sortTrains (96, [some (.inr (some (25, 0, 0, 0))), some (.inl w1), e2], [], (zx_lay M, n)) (none, (zx_lay rM, n))) : ∀ (q : Nat) (g2 : Option zx_V) (w1 : Int32) (M : zx_Y), lg_X11_sortTrains_7 kk q w1 M = some rM → zx_E X (d + 2) zc_X11_sortTrains (7, [some (.inr (some (25, 0, 0, 0))), some (.inl w1), g2], [], (zx_lay M, n)) (none, (zx_lay rM, n))
  | 0, g2, w1, M, h => by
    rw [lg_X11_sortTrains_7.eq_1] at h
    cases h
  | q + 1, g2, w1, M, h => by
    rw [lg_X11_sortTrains_7.eq_2] at h
    refine zx_E.go 4 (s' := (14, [some (.inr (some (25, 0, 0, 0))), some (.inl w1), g2], [.inl 27, .inr (some (26, 0, 0, 0)), .inl w1], (zx_lay M, n))) rfl ?_
    refine zx_E.iald (k := 27) (h := (26, 0, 0, 0)) rfl rfl rfl (by decide) ?_
    show zx_E _ _ _ (15, [some (.inr (some (25, 0, 0, 0))), some (.inl w1), g2], [.inl (M (26, 0, 0, 0) 27), .inl w1], (zx_lay M, n)) _
    refine zx_E.brh (c := (M (26, 0, 0, 0) 27) ≤ w1) (s1 := (96, [some (.inr (some (25, 0, 0, 0))), some (.inl w1), g2], [], (zx_lay M, n))) (s2 := (18, [some (.inr (some (25, 0, 0, 0))), some (.inl w1), g2], [], (zx_lay M, n))) h (zx_ic_ge rfl) (fun _ h => ?_) (fun _ h => ?_)
    · exact hk _ _ _ h
    · refine zx_E.go 3 (s' := (21, [some (.inr (some (25, 0, 0, 0))), some (.inl w1), g2], [.inl 0, .inl w1, .inr (some (25, 0, 0, 0))], (zx_lay M, n))) rfl ?_
      refine zx_E.cb (y := 125) (as := [.inr (some (25, 0, 0, 0)), .inl w1, .inl 0]) (rest := []) h rfl (fun _ hv => zx_run_up (by omega) (r_X11_at (d := d) hv)) (fun v1 h => ?_)
      show zx_E _ _ _ (24, [some (.inr (some (25, 0, 0, 0))), some (.inl w1), g2], [.inl v1], (zx_lay M, n)) _
      refine zx_E.go 1 (s' := (25, [some (.inr (some (25, 0, 0, 0))), some (.inl w1), g2], [.inl 1, .inl v1], (zx_lay M, n))) rfl ?_
      refine zx_E.brh (c := v1 = 1) (s1 := (28, [some (.inr (some (25, 0, 0, 0))), some (.inl w1), g2], [], (zx_lay M, n))) (s2 := (90, [some (.inr (some (25, 0, 0, 0))), some (.inl w1), g2], [], (zx_lay M, n))) h (zx_ic_ne rfl) (fun _ h => ?_) (fun _ h => ?_)
      · refine zx_E.go 3 (s' := (33, [some (.inr (some (25, 0, 0, 0))), some (.inl w1), some (.inl (M (25, 0, 0, 0) 2))], [], (zx_lay M, n))) rfl ?_
        refine rl_X11_sortTrains_33 (fun v2 M1 h => ?_) 1000  (M (25, 0, 0, 0) 2) M h
        refine zx_E.go 4 (s' := (79, [some (.inr (some (25, 0, 0, 0))), some (.inl w1), some (.inl v2)], [.inl w1, .inl v2, .inr (some (27, 0, 0, 0))], (zx_lay M1, n))) rfl ?_
        refine zx_E.ix h (fun k1 hx_k1 hl_k1 h => ?_)
        refine zx_E.ia h rfl rfl hx_k1 hl_k1 (fun M2 h => ?_)
        show zx_E _ _ _ (80, [some (.inr (some (25, 0, 0, 0))), some (.inl w1), some (.inl v2)], [], (zx_lay M2, n)) _
        refine zx_E.go 4 (s' := (86, [some (.inr (some (25, 0, 0, 0))), some (.inl w1), some (.inl v2)], [.inl 1, .inl (M2 (25, 0, 0, 0) 2), .inr (some (25, 0, 0, 0))], (zx_lay M2, n))) rfl ?_
        refine zx_E.go 1 (s' := (87, [some (.inr (some (25, 0, 0, 0))), some (.inl w1), some (.inl v2)], [.inl ((M2 (25, 0, 0, 0) 2) + 1), .inr (some (25, 0, 0, 0))], (zx_lay M2, n))) rfl ?_
        refine zx_E.pu h rfl rfl (fun h => absurd h (by decide)) (fun M3 h => ?_)
        show zx_E _ _ _ (90, [some (.inr (some (25, 0, 0, 0))), some (.inl w1), some (.inl v2)], [], (zx_lay M3, n)) _
        refine zx_E.go 2 (s' := (7, [some (.inr (some (25, 0, 0, 0))), some (.inl (w1 + 1)), some (.inl v2)], [], (zx_lay M3, n))) rfl ?_
        exact rl_X11_sortTrains_7 hk q _ (w1 + 1) M3 h
      · refine zx_E.go 2 (s' := (7, [some (.inr (some (25, 0, 0, 0))), some (.inl (w1 + 1)), g2], [], (zx_lay M, n))) rfl ?_
        exact rl_X11_sortTrains_7 hk q _ (w1 + 1) M h
def g_X11_sortTrains (M : zx_Y) : Option zx_Y := (zl (zx_up M (25, 0, 0, 0) 2 0) fun M1 => (lg_X11_sortTrains_7 (fun v1 M2 => (some M2)) 1000 0 M1))
set_option maxRecDepth 100000 in
set_option maxHeartbeats 4000000 in
theorem r_X11_sortTrains {X : zx_X} {d n : Nat} {M : zx_Y} {rM : zx_Y} (h : g_X11_sortTrains M = some rM) : zx_run X (d + 3) 141 [.inr (some (25, 0, 0, 0))] (zx_lay M, n) (none, (zx_lay rM, n)) := by
  refine zx_run_of zc_X11_sortTrains [some (.inr (some (25, 0, 0, 0))), none, none] rfl rfl ?_
  unfold g_X11_sortTrains at h
  refine zx_E.go 2 (s' := (2, [some (.inr (some (25, 0, 0, 0))), none, none], [.inl 0, .inr (some (25, 0, 0, 0))], (zx_lay M, n))) rfl ?_
  refine zx_E.pu h rfl rfl (fun h => absurd h (by decide)) (fun M1 h => ?_)
  show zx_E _ _ _ (5, [some (.inr (some (25, 0, 0, 0))), none, none], [], (zx_lay M1, n)) _
  refine zx_E.go 2 (s' := (7, [some (.inr (some (25, 0, 0, 0))), some (.inl 0), none], [], (zx_lay M1, n))) rfl ?_
  refine rl_X11_sortTrains_7 (fun v1 M2 e1 h => ?_) 1000 _ 0 M1 h
  exact zx_E.r0 h rfl
def g_X11_stationBehind (M : zx_Y) (x0 : Int32) (x1 : Int32) : Option Int32 := (zb (g_X11_isUp M x0) fun v1 => (if v1 = 0 then (some (x1 - 1)) else (some (x1 + 1))))
set_option maxRecDepth 100000 in
set_option maxHeartbeats 4000000 in
theorem r_X11_stationBehind {X : zx_X} {d n : Nat} {M : zx_Y} {x0 : Int32} {x1 : Int32} {rv : Int32} (h : g_X11_stationBehind M x0 x1 = some rv) : zx_run X (d + 3) 129 [.inr (some (25, 0, 0, 0)), .inl x0, .inl x1] (zx_lay M, n) (some (.inl rv), (zx_lay M, n)) := by
  refine zx_run_of zc_X11_stationBehind [some (.inr (some (25, 0, 0, 0))), some (.inl x0), some (.inl x1)] rfl rfl ?_
  unfold g_X11_stationBehind at h
  refine zx_E.go 2 (s' := (2, [some (.inr (some (25, 0, 0, 0))), some (.inl x0), some (.inl x1)], [.inl x0, .inr (some (25, 0, 0, 0))], (zx_lay M, n))) rfl ?_
  refine zx_E.cb (y := 127) (as := [.inr (some (25, 0, 0, 0)), .inl x0]) (rest := []) h rfl (fun _ hv => zx_run_up (by omega) (r_X11_isUp (d := d) hv)) (fun v1 h => ?_)
  show zx_E _ _ _ (5, [some (.inr (some (25, 0, 0, 0))), some (.inl x0), some (.inl x1)], [.inl v1], (zx_lay M, n)) _
  refine zx_E.brh (c := v1 = 0) (s1 := (14, [some (.inr (some (25, 0, 0, 0))), some (.inl x0), some (.inl x1)], [], (zx_lay M, n))) (s2 := (8, [some (.inr (some (25, 0, 0, 0))), some (.inl x0), some (.inl x1)], [], (zx_lay M, n))) h (zx_if_eq rfl) (fun _ h => ?_) (fun _ h => ?_)
  · refine zx_E.go 3 (s' := (17, [some (.inr (some (25, 0, 0, 0))), some (.inl x0), some (.inl x1)], [.inl (x1 - 1)], (zx_lay M, n))) rfl ?_
    exact zx_E.rp h rfl (fun h => absurd h (by decide))
  · refine zx_E.go 4 (s' := (17, [some (.inr (some (25, 0, 0, 0))), some (.inl x0), some (.inl x1)], [.inl (x1 + 1)], (zx_lay M, n))) rfl ?_
    exact zx_E.rp h rfl (fun h => absurd h (by decide))
def g_X11_blockFrom (M : zx_Y) (x0 : Int32) (x1 : Int32) : Option Int32 := (zb (g_X11_isUp M x0) fun v1 => (if v1 = 0 then (some (x1 - 1)) else (some x1)))
set_option maxRecDepth 100000 in
set_option maxHeartbeats 4000000 in
theorem r_X11_blockFrom {X : zx_X} {d n : Nat} {M : zx_Y} {x0 : Int32} {x1 : Int32} {rv : Int32} (h : g_X11_blockFrom M x0 x1 = some rv) : zx_run X (d + 3) 128 [.inr (some (25, 0, 0, 0)), .inl x0, .inl x1] (zx_lay M, n) (some (.inl rv), (zx_lay M, n)) := by
  refine zx_run_of zc_X11_blockFrom [some (.inr (some (25, 0, 0, 0))), some (.inl x0), some (.inl x1)] rfl rfl ?_
  unfold g_X11_blockFrom at h
  refine zx_E.go 2 (s' := (2, [some (.inr (some (25, 0, 0, 0))), some (.inl x0), some (.inl x1)], [.inl x0, .inr (some (25, 0, 0, 0))], (zx_lay M, n))) rfl ?_
  refine zx_E.cb (y := 127) (as := [.inr (some (25, 0, 0, 0)), .inl x0]) (rest := []) h rfl (fun _ hv => zx_run_up (by omega) (r_X11_isUp (d := d) hv)) (fun v1 h => ?_)
  show zx_E _ _ _ (5, [some (.inr (some (25, 0, 0, 0))), some (.inl x0), some (.inl x1)], [.inl v1], (zx_lay M, n)) _
  refine zx_E.brh (c := v1 = 0) (s1 := (12, [some (.inr (some (25, 0, 0, 0))), some (.inl x0), some (.inl x1)], [], (zx_lay M, n))) (s2 := (8, [some (.inr (some (25, 0, 0, 0))), some (.inl x0), some (.inl x1)], [], (zx_lay M, n))) h (zx_if_eq rfl) (fun _ h => ?_) (fun _ h => ?_)
  · refine zx_E.go 3 (s' := (15, [some (.inr (some (25, 0, 0, 0))), some (.inl x0), some (.inl x1)], [.inl (x1 - 1)], (zx_lay M, n))) rfl ?_
    exact zx_E.rp h rfl (fun h => absurd h (by decide))
  · refine zx_E.go 2 (s' := (15, [some (.inr (some (25, 0, 0, 0))), some (.inl x0), some (.inl x1)], [.inl x1], (zx_lay M, n))) rfl ?_
    exact zx_E.rp h rfl (fun h => absurd h (by decide))
def lg_X11_trainIn_2 (M : zx_Y) (x0 : Int32) (kk : Int32 → Option Int32) : Nat → Int32 → Option Int32
  | 0, _ => none
  | q + 1, w2 => (if (M (26, 0, 0, 0) 27) ≤ w2 then (kk w2) else (zb (g_X11_at M w2 0) fun v1 => (if v1 = 2 then (zb (g_X11_at M w2 11) fun v2 => (if v2 = x0 then (some w2) else (lg_X11_trainIn_2 M x0 kk q (w2 + 1)))) else (lg_X11_trainIn_2 M x0 kk q (w2 + 1)))))
set_option maxRecDepth 100000 in
set_option maxHeartbeats 4000000 in
theorem rl_X11_trainIn_2 {X : zx_X} {d n : Nat} {M : zx_Y} {x0 : Int32} {kk : Int32 → Option Int32} {rv : Int32} (hk : ∀ (w2 : Int32), kk w2 = some rv → zx_E X (d + 1) zc_X11_trainIn (42, [some (.inr (some (25, 0, 0, 0))), some (.inl x0), some (.inl w2)], [], (zx_lay M, n)) (some (.inl rv), (zx_lay M, n))) : ∀ (q : Nat) (w2 : Int32), lg_X11_trainIn_2 M x0 kk q w2 = some rv → zx_E X (d + 1) zc_X11_trainIn (2, [some (.inr (some (25, 0, 0, 0))), some (.inl x0), some (.inl w2)], [], (zx_lay M, n)) (some (.inl rv), (zx_lay M, n))
  | 0, w2, h => by
    rw [lg_X11_trainIn_2.eq_1] at h
    cases h
  | q + 1, w2, h => by
    rw [lg_X11_trainIn_2.eq_2] at h
    refine zx_E.go 4 (s' := (9, [some (.inr (some (25, 0, 0, 0))), some (.inl x0), some (.inl w2)], [.inl 27, .inr (some (26, 0, 0, 0)), .inl w2], (zx_lay M, n))) rfl ?_
    refine zx_E.iald (k := 27) (h := (26, 0, 0, 0)) rfl rfl rfl (by decide) ?_
    show zx_E _ _ _ (10, [some (.inr (some (25, 0, 0, 0))), some (.inl x0), some (.inl w2)], [.inl (M (26, 0, 0, 0) 27), .inl w2], (zx_lay M, n)) _
    refine zx_E.brh (c := (M (26, 0, 0, 0) 27) ≤ w2) (s1 := (42, [some (.inr (some (25, 0, 0, 0))), some (.inl x0), some (.inl w2)], [], (zx_lay M, n))) (s2 := (13, [some (.inr (some (25, 0, 0, 0))), some (.inl x0), some (.inl w2)], [], (zx_lay M, n))) h (zx_ic_ge rfl) (fun _ h => ?_) (fun _ h => ?_)
    · exact hk _ h
    · refine zx_E.go 3 (s' := (16, [some (.inr (some (25, 0, 0, 0))), some (.inl x0), some (.inl w2)], [.inl 0, .inl w2, .inr (some (25, 0, 0, 0))], (zx_lay M, n))) rfl ?_
      refine zx_E.cb (y := 125) (as := [.inr (some (25, 0, 0, 0)), .inl w2, .inl 0]) (rest := []) h rfl (fun _ hv => zx_run_up (by omega) (r_X11_at (d := d) hv)) (fun v1 h => ?_)
      show zx_E _ _ _ (19, [some (.inr (some (25, 0, 0, 0))), some (.inl x0), some (.inl w2)], [.inl v1], (zx_lay M, n)) _
      refine zx_E.go 1 (s' := (20, [some (.inr (some (25, 0, 0, 0))), some (.inl x0), some (.inl w2)], [.inl 2, .inl v1], (zx_lay M, n))) rfl ?_
      refine zx_E.brh (c := v1 = 2) (s1 := (23, [some (.inr (some (25, 0, 0, 0))), some (.inl x0), some (.inl w2)], [], (zx_lay M, n))) (s2 := (36, [some (.inr (some (25, 0, 0, 0))), some (.inl x0), some (.inl w2)], [], (zx_lay M, n))) h (zx_ic_ne rfl) (fun _ h => ?_) (fun _ h => ?_)
      · refine zx_E.go 3 (s' := (27, [some (.inr (some (25, 0, 0, 0))), some (.inl x0), some (.inl w2)], [.inl 11, .inl w2, .inr (some (25, 0, 0, 0))], (zx_lay M, n))) rfl ?_
        refine zx_E.cb (y := 125) (as := [.inr (some (25, 0, 0, 0)), .inl w2, .inl 11]) (rest := []) h rfl (fun _ hv => zx_run_up (by omega) (r_X11_at (d := d) hv)) (fun v2 h => ?_)
        show zx_E _ _ _ (30, [some (.inr (some (25, 0, 0, 0))), some (.inl x0), some (.inl w2)], [.inl v2], (zx_lay M, n)) _
        refine zx_E.go 1 (s' := (31, [some (.inr (some (25, 0, 0, 0))), some (.inl x0), some (.inl w2)], [.inl x0, .inl v2], (zx_lay M, n))) rfl ?_
        refine zx_E.brh (c := v2 = x0) (s1 := (34, [some (.inr (some (25, 0, 0, 0))), some (.inl x0), some (.inl w2)], [], (zx_lay M, n))) (s2 := (36, [some (.inr (some (25, 0, 0, 0))), some (.inl x0), some (.inl w2)], [], (zx_lay M, n))) h (zx_ic_ne rfl) (fun _ h => ?_) (fun _ h => ?_)
        · refine zx_E.go 1 (s' := (35, [some (.inr (some (25, 0, 0, 0))), some (.inl x0), some (.inl w2)], [.inl w2], (zx_lay M, n))) rfl ?_
          exact zx_E.rp h rfl (fun h => absurd h (by decide))
        · refine zx_E.go 2 (s' := (2, [some (.inr (some (25, 0, 0, 0))), some (.inl x0), some (.inl (w2 + 1))], [], (zx_lay M, n))) rfl ?_
          exact rl_X11_trainIn_2 hk q (w2 + 1) h
      · refine zx_E.go 2 (s' := (2, [some (.inr (some (25, 0, 0, 0))), some (.inl x0), some (.inl (w2 + 1))], [], (zx_lay M, n))) rfl ?_
        exact rl_X11_trainIn_2 hk q (w2 + 1) h
def g_X11_trainIn (M : zx_Y) (x0 : Int32) : Option Int32 := (lg_X11_trainIn_2 M x0 (fun v1 => (some (-5))) 1000 0)
set_option maxRecDepth 100000 in
set_option maxHeartbeats 4000000 in
theorem r_X11_trainIn {X : zx_X} {d n : Nat} {M : zx_Y} {x0 : Int32} {rv : Int32} (h : g_X11_trainIn M x0 = some rv) : zx_run X (d + 2) 134 [.inr (some (25, 0, 0, 0)), .inl x0] (zx_lay M, n) (some (.inl rv), (zx_lay M, n)) := by
  refine zx_run_of zc_X11_trainIn [some (.inr (some (25, 0, 0, 0))), some (.inl x0), none] rfl rfl ?_
  unfold g_X11_trainIn at h
  refine zx_E.go 2 (s' := (2, [some (.inr (some (25, 0, 0, 0))), some (.inl x0), some (.inl 0)], [], (zx_lay M, n))) rfl ?_
  refine rl_X11_trainIn_2 (fun v1 h => ?_) 1000  0  h
  refine zx_E.go 1 (s' := (44, [some (.inr (some (25, 0, 0, 0))), some (.inl x0), some (.inl v1)], [.inl (-5)], (zx_lay M, n))) rfl ?_
  exact zx_E.rp h rfl (fun h => absurd h (by decide))
def g_X11_isWayFree (M : zx_Y) (x0 : Int32) : Option Int32 := (zb (g_X11_at M x0 11) fun v1 => (zb (g_X11_stationBehind M x0 v1) fun v2 => (zb (g_X11_at M x0 11) fun v3 => (zb (g_X11_blockFrom M x0 v3) fun v4 => (zb (g_X11_trainIn M v4) fun v5 => (if v5 = (-5) then (zb (g_X11_at M x0 2) fun v6 => (if v2 = v6 then (some 1) else (zb (g_X11_hasTrack M v2) fun v7 => (if v7 = 0 then (some 0) else (some 1))))) else (some 0)))))))
set_option maxRecDepth 100000 in
set_option maxHeartbeats 4000000 in
theorem r_X11_isWayFree {X : zx_X} {d n : Nat} {M : zx_Y} {x0 : Int32} {rv : Int32} (h : g_X11_isWayFree M x0 = some rv) : zx_run X (d + 6) 137 [.inr (some (25, 0, 0, 0)), .inl x0] (zx_lay M, n) (some (.inl rv), (zx_lay M, n)) := by
  refine zx_run_of zc_X11_isWayFree [some (.inr (some (25, 0, 0, 0))), some (.inl x0), none] rfl rfl ?_
  unfold g_X11_isWayFree at h
  refine zx_E.go 5 (s' := (6, [some (.inr (some (25, 0, 0, 0))), some (.inl x0), none], [.inl 11, .inl x0, .inr (some (25, 0, 0, 0)), .inl x0, .inr (some (25, 0, 0, 0))], (zx_lay M, n))) rfl ?_
  refine zx_E.cb (y := 125) (as := [.inr (some (25, 0, 0, 0)), .inl x0, .inl 11]) (rest := [.inl x0, .inr (some (25, 0, 0, 0))]) h rfl (fun _ hv => zx_run_up (by omega) (r_X11_at (d := d) hv)) (fun v1 h => ?_)
  show zx_E _ _ _ (9, [some (.inr (some (25, 0, 0, 0))), some (.inl x0), none], [.inl v1, .inl x0, .inr (some (25, 0, 0, 0))], (zx_lay M, n)) _
  refine zx_E.cb (y := 129) (as := [.inr (some (25, 0, 0, 0)), .inl x0, .inl v1]) (rest := []) h rfl (fun _ hv => zx_run_up (by omega) (r_X11_stationBehind (d := d) hv)) (fun v2 h => ?_)
  show zx_E _ _ _ (12, [some (.inr (some (25, 0, 0, 0))), some (.inl x0), none], [.inl v2], (zx_lay M, n)) _
  refine zx_E.go 7 (s' := (20, [some (.inr (some (25, 0, 0, 0))), some (.inl x0), some (.inl v2)], [.inl 11, .inl x0, .inr (some (25, 0, 0, 0)), .inl x0, .inr (some (25, 0, 0, 0)), .inr (some (25, 0, 0, 0))], (zx_lay M, n))) rfl ?_
  refine zx_E.cb (y := 125) (as := [.inr (some (25, 0, 0, 0)), .inl x0, .inl 11]) (rest := [.inl x0, .inr (some (25, 0, 0, 0)), .inr (some (25, 0, 0, 0))]) h rfl (fun _ hv => zx_run_up (by omega) (r_X11_at (d := d) hv)) (fun v3 h => ?_)
  show zx_E _ _ _ (23, [some (.inr (some (25, 0, 0, 0))), some (.inl x0), some (.inl v2)], [.inl v3, .inl x0, .inr (some (25, 0, 0, 0)), .inr (some (25, 0, 0, 0))], (zx_lay M, n)) _
  refine zx_E.cb (y := 128) (as := [.inr (some (25, 0, 0, 0)), .inl x0, .inl v3]) (rest := [.inr (some (25, 0, 0, 0))]) h rfl (fun _ hv => zx_run_up (by omega) (r_X11_blockFrom (d := d) hv)) (fun v4 h => ?_)
  show zx_E _ _ _ (26, [some (.inr (some (25, 0, 0, 0))), some (.inl x0), some (.inl v2)], [.inl v4, .inr (some (25, 0, 0, 0))], (zx_lay M, n)) _
  refine zx_E.cb (y := 134) (as := [.inr (some (25, 0, 0, 0)), .inl v4]) (rest := []) h rfl (fun _ hv => zx_run_up (by omega) (r_X11_trainIn (d := d) hv)) (fun v5 h => ?_)
  show zx_E _ _ _ (29, [some (.inr (some (25, 0, 0, 0))), some (.inl x0), some (.inl v2)], [.inl v5], (zx_lay M, n)) _
  refine zx_E.go 1 (s' := (31, [some (.inr (some (25, 0, 0, 0))), some (.inl x0), some (.inl v2)], [.inl (-5), .inl v5], (zx_lay M, n))) rfl ?_
  refine zx_E.brh (c := v5 = (-5)) (s1 := (34, [some (.inr (some (25, 0, 0, 0))), some (.inl x0), some (.inl v2)], [], (zx_lay M, n))) (s2 := (56, [some (.inr (some (25, 0, 0, 0))), some (.inl x0), some (.inl v2)], [], (zx_lay M, n))) h (zx_ic_ne rfl) (fun _ h => ?_) (fun _ h => ?_)
  · refine zx_E.go 4 (s' := (38, [some (.inr (some (25, 0, 0, 0))), some (.inl x0), some (.inl v2)], [.inl 2, .inl x0, .inr (some (25, 0, 0, 0)), .inl v2], (zx_lay M, n))) rfl ?_
    refine zx_E.cb (y := 125) (as := [.inr (some (25, 0, 0, 0)), .inl x0, .inl 2]) (rest := [.inl v2]) h rfl (fun _ hv => zx_run_up (by omega) (r_X11_at (d := d) hv)) (fun v6 h => ?_)
    show zx_E _ _ _ (41, [some (.inr (some (25, 0, 0, 0))), some (.inl x0), some (.inl v2)], [.inl v6, .inl v2], (zx_lay M, n)) _
    refine zx_E.brh (c := v2 = v6) (s1 := (52, [some (.inr (some (25, 0, 0, 0))), some (.inl x0), some (.inl v2)], [], (zx_lay M, n))) (s2 := (44, [some (.inr (some (25, 0, 0, 0))), some (.inl x0), some (.inl v2)], [], (zx_lay M, n))) h (zx_ic_eq rfl) (fun _ h => ?_) (fun _ h => ?_)
    · refine zx_E.go 2 (s' := (57, [some (.inr (some (25, 0, 0, 0))), some (.inl x0), some (.inl v2)], [.inl 1], (zx_lay M, n))) rfl ?_
      exact zx_E.rp h rfl (fun _ => Or.inr rfl)
    · refine zx_E.go 2 (s' := (46, [some (.inr (some (25, 0, 0, 0))), some (.inl x0), some (.inl v2)], [.inl v2, .inr (some (25, 0, 0, 0))], (zx_lay M, n))) rfl ?_
      refine zx_E.cb (y := 133) (as := [.inr (some (25, 0, 0, 0)), .inl v2]) (rest := []) h rfl (fun _ hv => zx_run_up (by omega) (r_X11_hasTrack (d := d) hv)) (fun v7 h => ?_)
      show zx_E _ _ _ (49, [some (.inr (some (25, 0, 0, 0))), some (.inl x0), some (.inl v2)], [.inl v7], (zx_lay M, n)) _
      refine zx_E.brh (c := v7 = 0) (s1 := (56, [some (.inr (some (25, 0, 0, 0))), some (.inl x0), some (.inl v2)], [], (zx_lay M, n))) (s2 := (52, [some (.inr (some (25, 0, 0, 0))), some (.inl x0), some (.inl v2)], [], (zx_lay M, n))) h (zx_if_eq rfl) (fun _ h => ?_) (fun _ h => ?_)
      · refine zx_E.go 1 (s' := (57, [some (.inr (some (25, 0, 0, 0))), some (.inl x0), some (.inl v2)], [.inl 0], (zx_lay M, n))) rfl ?_
        exact zx_E.rp h rfl (fun _ => Or.inl rfl)
      · refine zx_E.go 2 (s' := (57, [some (.inr (some (25, 0, 0, 0))), some (.inl x0), some (.inl v2)], [.inl 1], (zx_lay M, n))) rfl ?_
        exact zx_E.rp h rfl (fun _ => Or.inr rfl)
  · refine zx_E.go 1 (s' := (57, [some (.inr (some (25, 0, 0, 0))), some (.inl x0), some (.inl v2)], [.inl 0], (zx_lay M, n))) rfl ?_
    exact zx_E.rp h rfl (fun _ => Or.inl rfl)
def lg_X11_slowness_4 (M : zx_Y) (x0 : Int32) (kk : Int32 → Int32 → Option Int32) : Nat → Int32 → Int32 → Option Int32
  | 0, _, _ => none
  | q + 1, w2, w3 => (if (M (26, 0, 0, 0) 50) ≤ w3 then (kk w2 w3) else (zi (51 + (4 * w3)) 640 fun k1 => (if (M (26, 0, 0, 0) k1) = x0 then (zi ((51 + (4 * w3)) + 2) 640 fun k2 => (if (M (26, 0, 0, 0) 0) < (M (26, 0, 0, 0) k2) then (lg_X11_slowness_4 M x0 kk q (w2 + 0) (w3 + 1)) else (zi ((51 + (4 * w3)) + 3) 640 fun k3 => (if (M (26, 0, 0, 0) k3) ≤ (M (26, 0, 0, 0) 0) then (lg_X11_slowness_4 M x0 kk q (w2 + 0) (w3 + 1)) else (zi ((51 + (4 * w3)) + 1) 640 fun k4 => (lg_X11_slowness_4 M x0 kk q (w2 + (M (26, 0, 0, 0) k4)) (w3 + 1))))))) else (lg_X11_slowness_4 M x0 kk q (w2 + 0) (w3 + 1)))))
set_option maxRecDepth 100000 in
set_option maxHeartbeats 4000000 in
theorem rl_X11_slowness_4 {X : zx_X} {d n : Nat} {M : zx_Y} {x0 : Int32} {kk : Int32 → Int32 → Option Int32} {rv : Int32} (hk : ∀ (w2 : Int32) (w3 : Int32) (e4 : Option zx_V), kk w2 w3 = some rv → zx_E X (d + 0) zc_X11_slowness (92, [some (.inr (some (25, 0, 0, 0))), some (.inl x0), some (.inl w2), some (.inl w3), e4], [], (zx_lay M, n)) (some (.inl rv), (zx_lay M, n))) : ∀ (q : Nat) (g4 : Option zx_V) (w2 : Int32) (w3 : Int32), lg_X11_slowness_4 M x0 kk q w2 w3 = some rv → zx_E X (d + 0) zc_X11_slowness (4, [some (.inr (some (25, 0, 0, 0))), some (.inl x0), some (.inl w2), some (.inl w3), g4], [], (zx_lay M, n)) (some (.inl rv), (zx_lay M, n))
  | 0, g4, w2, w3, h => by
    rw [lg_X11_slowness_4.eq_1] at h
    cases h
  | q + 1, g4, w2, w3, h => by
    rw [lg_X11_slowness_4.eq_2] at h
    refine zx_E.go 4 (s' := (11, [some (.inr (some (25, 0, 0, 0))), some (.inl x0), some (.inl w2), some (.inl w3), g4], [.inl 50, .inr (some (26, 0, 0, 0)), .inl w3], (zx_lay M, n))) rfl ?_
    refine zx_E.iald (k := 50) (h := (26, 0, 0, 0)) rfl rfl rfl (by decide) ?_
    show zx_E _ _ _ (12, [some (.inr (some (25, 0, 0, 0))), some (.inl x0), some (.inl w2), some (.inl w3), g4], [.inl (M (26, 0, 0, 0) 50), .inl w3], (zx_lay M, n)) _
    refine zx_E.brh (c := (M (26, 0, 0, 0) 50) ≤ w3) (s1 := (92, [some (.inr (some (25, 0, 0, 0))), some (.inl x0), some (.inl w2), some (.inl w3), g4], [], (zx_lay M, n))) (s2 := (15, [some (.inr (some (25, 0, 0, 0))), some (.inl x0), some (.inl w2), some (.inl w3), g4], [], (zx_lay M, n))) h (zx_ic_ge rfl) (fun _ h => ?_) (fun _ h => ?_)
    · exact hk _ _ _ h
    · refine zx_E.go 10 (s' := (30, [some (.inr (some (25, 0, 0, 0))), some (.inl x0), some (.inl w2), some (.inl w3), some (.inl (51 + (4 * w3)))], [.inl (51 + (4 * w3)), .inr (some (26, 0, 0, 0)), .inl w2], (zx_lay M, n))) rfl ?_
      refine zx_E.ix h (fun k1 hx_k1 hl_k1 h => ?_)
      refine zx_E.iald (k := k1) (h := (26, 0, 0, 0)) rfl rfl hx_k1 hl_k1 ?_
      show zx_E _ _ _ (31, [some (.inr (some (25, 0, 0, 0))), some (.inl x0), some (.inl w2), some (.inl w3), some (.inl (51 + (4 * w3)))], [.inl (M (26, 0, 0, 0) k1), .inl w2], (zx_lay M, n)) _
      refine zx_E.go 1 (s' := (32, [some (.inr (some (25, 0, 0, 0))), some (.inl x0), some (.inl w2), some (.inl w3), some (.inl (51 + (4 * w3)))], [.inl x0, .inl (M (26, 0, 0, 0) k1), .inl w2], (zx_lay M, n))) rfl ?_
      refine zx_E.brh (c := (M (26, 0, 0, 0) k1) = x0) (s1 := (35, [some (.inr (some (25, 0, 0, 0))), some (.inl x0), some (.inl w2), some (.inl w3), some (.inl (51 + (4 * w3)))], [.inl w2], (zx_lay M, n))) (s2 := (83, [some (.inr (some (25, 0, 0, 0))), some (.inl x0), some (.inl w2), some (.inl w3), some (.inl (51 + (4 * w3)))], [.inl w2], (zx_lay M, n))) h (zx_ic_ne rfl) (fun _ h => ?_) (fun _ h => ?_)
      · refine zx_E.go 4 (s' := (42, [some (.inr (some (25, 0, 0, 0))), some (.inl x0), some (.inl w2), some (.inl w3), some (.inl (51 + (4 * w3)))], [.inl 2, .inl (51 + (4 * w3)), .inr (some (26, 0, 0, 0)), .inl w2], (zx_lay M, n))) rfl ?_
        refine zx_E.go 1 (s' := (43, [some (.inr (some (25, 0, 0, 0))), some (.inl x0), some (.inl w2), some (.inl w3), some (.inl (51 + (4 * w3)))], [.inl ((51 + (4 * w3)) + 2), .inr (some (26, 0, 0, 0)), .inl w2], (zx_lay M, n))) rfl ?_
        refine zx_E.ix h (fun k2 hx_k2 hl_k2 h => ?_)
        refine zx_E.iald (k := k2) (h := (26, 0, 0, 0)) rfl rfl hx_k2 hl_k2 ?_
        show zx_E _ _ _ (44, [some (.inr (some (25, 0, 0, 0))), some (.inl x0), some (.inl w2), some (.inl w3), some (.inl (51 + (4 * w3)))], [.inl (M (26, 0, 0, 0) k2), .inl w2], (zx_lay M, n)) _
        refine zx_E.go 3 (s' := (49, [some (.inr (some (25, 0, 0, 0))), some (.inl x0), some (.inl w2), some (.inl w3), some (.inl (51 + (4 * w3)))], [.inl 0, .inr (some (26, 0, 0, 0)), .inl (M (26, 0, 0, 0) k2), .inl w2], (zx_lay M, n))) rfl ?_
        refine zx_E.iald (k := 0) (h := (26, 0, 0, 0)) rfl rfl rfl (by decide) ?_
        show zx_E _ _ _ (50, [some (.inr (some (25, 0, 0, 0))), some (.inl x0), some (.inl w2), some (.inl w3), some (.inl (51 + (4 * w3)))], [.inl (M (26, 0, 0, 0) 0), .inl (M (26, 0, 0, 0) k2), .inl w2], (zx_lay M, n)) _
        refine zx_E.brh (c := (M (26, 0, 0, 0) 0) < (M (26, 0, 0, 0) k2)) (s1 := (83, [some (.inr (some (25, 0, 0, 0))), some (.inl x0), some (.inl w2), some (.inl w3), some (.inl (51 + (4 * w3)))], [.inl w2], (zx_lay M, n))) (s2 := (53, [some (.inr (some (25, 0, 0, 0))), some (.inl x0), some (.inl w2), some (.inl w3), some (.inl (51 + (4 * w3)))], [.inl w2], (zx_lay M, n))) h (zx_ic_gt rfl) (fun _ h => ?_) (fun _ h => ?_)
        · refine zx_E.go 5 (s' := (4, [some (.inr (some (25, 0, 0, 0))), some (.inl x0), some (.inl (w2 + 0)), some (.inl (w3 + 1)), some (.inl (51 + (4 * w3)))], [], (zx_lay M, n))) rfl ?_
          exact rl_X11_slowness_4 hk q _ (w2 + 0) (w3 + 1) h
        · refine zx_E.go 3 (s' := (58, [some (.inr (some (25, 0, 0, 0))), some (.inl x0), some (.inl w2), some (.inl w3), some (.inl (51 + (4 * w3)))], [.inl 0, .inr (some (26, 0, 0, 0)), .inl w2], (zx_lay M, n))) rfl ?_
          refine zx_E.iald (k := 0) (h := (26, 0, 0, 0)) rfl rfl rfl (by decide) ?_
          show zx_E _ _ _ (59, [some (.inr (some (25, 0, 0, 0))), some (.inl x0), some (.inl w2), some (.inl w3), some (.inl (51 + (4 * w3)))], [.inl (M (26, 0, 0, 0) 0), .inl w2], (zx_lay M, n)) _
          refine zx_E.go 4 (s' := (66, [some (.inr (some (25, 0, 0, 0))), some (.inl x0), some (.inl w2), some (.inl w3), some (.inl (51 + (4 * w3)))], [.inl 3, .inl (51 + (4 * w3)), .inr (some (26, 0, 0, 0)), .inl (M (26, 0, 0, 0) 0), .inl w2], (zx_lay M, n))) rfl ?_
          refine zx_E.go 1 (s' := (67, [some (.inr (some (25, 0, 0, 0))), some (.inl x0), some (.inl w2), some (.inl w3), some (.inl (51 + (4 * w3)))], [.inl ((51 + (4 * w3)) + 3), .inr (some (26, 0, 0, 0)), .inl (M (26, 0, 0, 0) 0), .inl w2], (zx_lay M, n))) rfl ?_
          refine zx_E.ix h (fun k3 hx_k3 hl_k3 h => ?_)
          refine zx_E.iald (k := k3) (h := (26, 0, 0, 0)) rfl rfl hx_k3 hl_k3 ?_
          show zx_E _ _ _ (68, [some (.inr (some (25, 0, 0, 0))), some (.inl x0), some (.inl w2), some (.inl w3), some (.inl (51 + (4 * w3)))], [.inl (M (26, 0, 0, 0) k3), .inl (M (26, 0, 0, 0) 0), .inl w2], (zx_lay M, n)) _
          refine zx_E.brh (c := (M (26, 0, 0, 0) k3) ≤ (M (26, 0, 0, 0) 0)) (s1 := (83, [some (.inr (some (25, 0, 0, 0))), some (.inl x0), some (.inl w2), some (.inl w3), some (.inl (51 + (4 * w3)))], [.inl w2], (zx_lay M, n))) (s2 := (71, [some (.inr (some (25, 0, 0, 0))), some (.inl x0), some (.inl w2), some (.inl w3), some (.inl (51 + (4 * w3)))], [.inl w2], (zx_lay M, n))) h (zx_ic_ge rfl) (fun _ h => ?_) (fun _ h => ?_)
          · refine zx_E.go 5 (s' := (4, [some (.inr (some (25, 0, 0, 0))), some (.inl x0), some (.inl (w2 + 0)), some (.inl (w3 + 1)), some (.inl (51 + (4 * w3)))], [], (zx_lay M, n))) rfl ?_
            exact rl_X11_slowness_4 hk q _ (w2 + 0) (w3 + 1) h
          · refine zx_E.go 4 (s' := (78, [some (.inr (some (25, 0, 0, 0))), some (.inl x0), some (.inl w2), some (.inl w3), some (.inl (51 + (4 * w3)))], [.inl 1, .inl (51 + (4 * w3)), .inr (some (26, 0, 0, 0)), .inl w2], (zx_lay M, n))) rfl ?_
            refine zx_E.go 1 (s' := (79, [some (.inr (some (25, 0, 0, 0))), some (.inl x0), some (.inl w2), some (.inl w3), some (.inl (51 + (4 * w3)))], [.inl ((51 + (4 * w3)) + 1), .inr (some (26, 0, 0, 0)), .inl w2], (zx_lay M, n))) rfl ?_
            refine zx_E.ix h (fun k4 hx_k4 hl_k4 h => ?_)
            refine zx_E.iald (k := k4) (h := (26, 0, 0, 0)) rfl rfl hx_k4 hl_k4 ?_
            show zx_E _ _ _ (80, [some (.inr (some (25, 0, 0, 0))), some (.inl x0), some (.inl w2), some (.inl w3), some (.inl (51 + (4 * w3)))], [.inl (M (26, 0, 0, 0) k4), .inl w2], (zx_lay M, n)) _
            refine zx_E.go 5 (s' := (4, [some (.inr (some (25, 0, 0, 0))), some (.inl x0), some (.inl (w2 + (M (26, 0, 0, 0) k4))), some (.inl (w3 + 1)), some (.inl (51 + (4 * w3)))], [], (zx_lay M, n))) rfl ?_
            exact rl_X11_slowness_4 hk q _ (w2 + (M (26, 0, 0, 0) k4)) (w3 + 1) h
      · refine zx_E.go 5 (s' := (4, [some (.inr (some (25, 0, 0, 0))), some (.inl x0), some (.inl (w2 + 0)), some (.inl (w3 + 1)), some (.inl (51 + (4 * w3)))], [], (zx_lay M, n))) rfl ?_
        exact rl_X11_slowness_4 hk q _ (w2 + 0) (w3 + 1) h
def g_X11_slowness (M : zx_Y) (x0 : Int32) : Option Int32 := (lg_X11_slowness_4 M x0 (fun v1 v2 => (some v1)) 1000 0 0)
set_option maxRecDepth 100000 in
set_option maxHeartbeats 4000000 in
theorem r_X11_slowness {X : zx_X} {d n : Nat} {M : zx_Y} {x0 : Int32} {rv : Int32} (h : g_X11_slowness M x0 = some rv) : zx_run X (d + 1) 135 [.inr (some (25, 0, 0, 0)), .inl x0] (zx_lay M, n) (some (.inl rv), (zx_lay M, n)) := by
  refine zx_run_of zc_X11_slowness [some (.inr (some (25, 0, 0, 0))), some (.inl x0), none, none, none] rfl rfl ?_
  unfold g_X11_slowness at h
  refine zx_E.go 4 (s' := (4, [some (.inr (some (25, 0, 0, 0))), some (.inl x0), some (.inl 0), some (.inl 0), none], [], (zx_lay M, n))) rfl ?_
  refine rl_X11_slowness_4 (fun v1 v2 e1 h => ?_) 1000 _ 0 0  h
  refine zx_E.go 1 (s' := (93, [some (.inr (some (25, 0, 0, 0))), some (.inl x0), some (.inl v1), some (.inl v2), e1], [.inl v1], (zx_lay M, n))) rfl ?_
  exact zx_E.rp h rfl (fun h => absurd h (by decide))
def g_X11_minutesFor (M : zx_Y) (x0 : Int32) : Option Int32 := (zb (g_X11_at M x0 11) fun v1 => (zb (g_X11_blockFrom M x0 v1) fun v2 => (zi (2 + v2) 640 fun k1 => (zb (g_X11_at M x0 5) fun v3 => (zb (g_X11_slowness M v2) fun v4 => (some (((M (26, 0, 0, 0) k1) + v3) + v4)))))))
set_option maxRecDepth 100000 in
set_option maxHeartbeats 4000000 in
theorem r_X11_minutesFor {X : zx_X} {d n : Nat} {M : zx_Y} {x0 : Int32} {rv : Int32} (h : g_X11_minutesFor M x0 = some rv) : zx_run X (d + 4) 136 [.inr (some (25, 0, 0, 0)), .inl x0] (zx_lay M, n) (some (.inl rv), (zx_lay M, n)) := by
  refine zx_run_of zc_X11_minutesFor [some (.inr (some (25, 0, 0, 0))), some (.inl x0), none] rfl rfl ?_
  unfold g_X11_minutesFor at h
  refine zx_E.go 5 (s' := (6, [some (.inr (some (25, 0, 0, 0))), some (.inl x0), none], [.inl 11, .inl x0, .inr (some (25, 0, 0, 0)), .inl x0, .inr (some (25, 0, 0, 0))], (zx_lay M, n))) rfl ?_
  refine zx_E.cb (y := 125) (as := [.inr (some (25, 0, 0, 0)), .inl x0, .inl 11]) (rest := [.inl x0, .inr (some (25, 0, 0, 0))]) h rfl (fun _ hv => zx_run_up (by omega) (r_X11_at (d := d) hv)) (fun v1 h => ?_)
  show zx_E _ _ _ (9, [some (.inr (some (25, 0, 0, 0))), some (.inl x0), none], [.inl v1, .inl x0, .inr (some (25, 0, 0, 0))], (zx_lay M, n)) _
  refine zx_E.cb (y := 128) (as := [.inr (some (25, 0, 0, 0)), .inl x0, .inl v1]) (rest := []) h rfl (fun _ hv => zx_run_up (by omega) (r_X11_blockFrom (d := d) hv)) (fun v2 h => ?_)
  show zx_E _ _ _ (12, [some (.inr (some (25, 0, 0, 0))), some (.inl x0), none], [.inl v2], (zx_lay M, n)) _
  refine zx_E.go 5 (s' := (19, [some (.inr (some (25, 0, 0, 0))), some (.inl x0), some (.inl v2)], [.inl v2, .inl 2, .inr (some (26, 0, 0, 0))], (zx_lay M, n))) rfl ?_
  refine zx_E.go 1 (s' := (20, [some (.inr (some (25, 0, 0, 0))), some (.inl x0), some (.inl v2)], [.inl (2 + v2), .inr (some (26, 0, 0, 0))], (zx_lay M, n))) rfl ?_
  refine zx_E.ix h (fun k1 hx_k1 hl_k1 h => ?_)
  refine zx_E.iald (k := k1) (h := (26, 0, 0, 0)) rfl rfl hx_k1 hl_k1 ?_
  show zx_E _ _ _ (21, [some (.inr (some (25, 0, 0, 0))), some (.inl x0), some (.inl v2)], [.inl (M (26, 0, 0, 0) k1)], (zx_lay M, n)) _
  refine zx_E.go 3 (s' := (24, [some (.inr (some (25, 0, 0, 0))), some (.inl x0), some (.inl v2)], [.inl 5, .inl x0, .inr (some (25, 0, 0, 0)), .inl (M (26, 0, 0, 0) k1)], (zx_lay M, n))) rfl ?_
  refine zx_E.cb (y := 125) (as := [.inr (some (25, 0, 0, 0)), .inl x0, .inl 5]) (rest := [.inl (M (26, 0, 0, 0) k1)]) h rfl (fun _ hv => zx_run_up (by omega) (r_X11_at (d := d) hv)) (fun v3 h => ?_)
  show zx_E _ _ _ (27, [some (.inr (some (25, 0, 0, 0))), some (.inl x0), some (.inl v2)], [.inl v3, .inl (M (26, 0, 0, 0) k1)], (zx_lay M, n)) _
  refine zx_E.go 3 (s' := (30, [some (.inr (some (25, 0, 0, 0))), some (.inl x0), some (.inl v2)], [.inl v2, .inr (some (25, 0, 0, 0)), .inl ((M (26, 0, 0, 0) k1) + v3)], (zx_lay M, n))) rfl ?_
  refine zx_E.cb (y := 135) (as := [.inr (some (25, 0, 0, 0)), .inl v2]) (rest := [.inl ((M (26, 0, 0, 0) k1) + v3)]) h rfl (fun _ hv => zx_run_up (by omega) (r_X11_slowness (d := d) hv)) (fun v4 h => ?_)
  show zx_E _ _ _ (33, [some (.inr (some (25, 0, 0, 0))), some (.inl x0), some (.inl v2)], [.inl v4, .inl ((M (26, 0, 0, 0) k1) + v3)], (zx_lay M, n)) _
  refine zx_E.go 1 (s' := (34, [some (.inr (some (25, 0, 0, 0))), some (.inl x0), some (.inl v2)], [.inl (((M (26, 0, 0, 0) k1) + v3) + v4)], (zx_lay M, n))) rfl ?_
  exact zx_E.rp h rfl (fun h => absurd h (by decide))
def g_X11_overtime (M : zx_Y) (x0 : Int32) : Option Int32 := (zb (g_X11_at M x0 9) fun v1 => (zb (g_X11_minutesFor M x0) fun v2 => (zb (g_X11_at M x0 6) fun v3 => (some ((((M (26, 0, 0, 0) 0) - v1) + v2) - v3)))))
set_option maxRecDepth 100000 in
set_option maxHeartbeats 4000000 in
theorem r_X11_overtime {X : zx_X} {d n : Nat} {M : zx_Y} {x0 : Int32} {rv : Int32} (h : g_X11_overtime M x0 = some rv) : zx_run X (d + 5) 138 [.inr (some (25, 0, 0, 0)), .inl x0] (zx_lay M, n) (some (.inl rv), (zx_lay M, n)) := by
  refine zx_run_of zc_X11_overtime [some (.inr (some (25, 0, 0, 0))), some (.inl x0)] rfl rfl ?_
  unfold g_X11_overtime at h
  refine zx_E.go 3 (s' := (5, [some (.inr (some (25, 0, 0, 0))), some (.inl x0)], [.inl 0, .inr (some (26, 0, 0, 0))], (zx_lay M, n))) rfl ?_
  refine zx_E.iald (k := 0) (h := (26, 0, 0, 0)) rfl rfl rfl (by decide) ?_
  show zx_E _ _ _ (6, [some (.inr (some (25, 0, 0, 0))), some (.inl x0)], [.inl (M (26, 0, 0, 0) 0)], (zx_lay M, n)) _
  refine zx_E.go 3 (s' := (10, [some (.inr (some (25, 0, 0, 0))), some (.inl x0)], [.inl 9, .inl x0, .inr (some (25, 0, 0, 0)), .inl (M (26, 0, 0, 0) 0)], (zx_lay M, n))) rfl ?_
  refine zx_E.cb (y := 125) (as := [.inr (some (25, 0, 0, 0)), .inl x0, .inl 9]) (rest := [.inl (M (26, 0, 0, 0) 0)]) h rfl (fun _ hv => zx_run_up (by omega) (r_X11_at (d := d) hv)) (fun v1 h => ?_)
  show zx_E _ _ _ (13, [some (.inr (some (25, 0, 0, 0))), some (.inl x0)], [.inl v1, .inl (M (26, 0, 0, 0) 0)], (zx_lay M, n)) _
  refine zx_E.go 3 (s' := (16, [some (.inr (some (25, 0, 0, 0))), some (.inl x0)], [.inl x0, .inr (some (25, 0, 0, 0)), .inl ((M (26, 0, 0, 0) 0) - v1)], (zx_lay M, n))) rfl ?_
  refine zx_E.cb (y := 136) (as := [.inr (some (25, 0, 0, 0)), .inl x0]) (rest := [.inl ((M (26, 0, 0, 0) 0) - v1)]) h rfl (fun _ hv => zx_run_up (by omega) (r_X11_minutesFor (d := d) hv)) (fun v2 h => ?_)
  show zx_E _ _ _ (19, [some (.inr (some (25, 0, 0, 0))), some (.inl x0)], [.inl v2, .inl ((M (26, 0, 0, 0) 0) - v1)], (zx_lay M, n)) _
  refine zx_E.go 4 (s' := (24, [some (.inr (some (25, 0, 0, 0))), some (.inl x0)], [.inl 6, .inl x0, .inr (some (25, 0, 0, 0)), .inl (((M (26, 0, 0, 0) 0) - v1) + v2)], (zx_lay M, n))) rfl ?_
  refine zx_E.cb (y := 125) (as := [.inr (some (25, 0, 0, 0)), .inl x0, .inl 6]) (rest := [.inl (((M (26, 0, 0, 0) 0) - v1) + v2)]) h rfl (fun _ hv => zx_run_up (by omega) (r_X11_at (d := d) hv)) (fun v3 h => ?_)
  show zx_E _ _ _ (27, [some (.inr (some (25, 0, 0, 0))), some (.inl x0)], [.inl v3, .inl (((M (26, 0, 0, 0) 0) - v1) + v2)], (zx_lay M, n)) _
  refine zx_E.go 1 (s' := (28, [some (.inr (some (25, 0, 0, 0))), some (.inl x0)], [.inl ((((M (26, 0, 0, 0) 0) - v1) + v2) - v3)], (zx_lay M, n))) rfl ?_
  exact zx_E.rp h rfl (fun h => absurd h (by decide))
def g_X11_mayRun (M : zx_Y) (x0 : Int32) : Option Int32 := (zb (g_X11_at M x0 0) fun v1 => (if v1 = 1 then (zb (g_X11_isWayFree M x0) fun v2 => (if v2 = 0 then (some 0) else (zb (g_X11_overtime M x0) fun v3 => (if (0 : Int32) < v3 then (some 0) else (some 1))))) else (some 0)))
set_option maxRecDepth 100000 in
set_option maxHeartbeats 4000000 in
theorem r_X11_mayRun {X : zx_X} {d n : Nat} {M : zx_Y} {x0 : Int32} {rv : Int32} (h : g_X11_mayRun M x0 = some rv) : zx_run X (d + 7) 139 [.inr (some (25, 0, 0, 0)), .inl x0] (zx_lay M, n) (some (.inl rv), (zx_lay M, n)) := by
  refine zx_run_of zc_X11_mayRun [some (.inr (some (25, 0, 0, 0))), some (.inl x0)] rfl rfl ?_
  unfold g_X11_mayRun at h
  refine zx_E.go 3 (s' := (3, [some (.inr (some (25, 0, 0, 0))), some (.inl x0)], [.inl 0, .inl x0, .inr (some (25, 0, 0, 0))], (zx_lay M, n))) rfl ?_
  refine zx_E.cb (y := 125) (as := [.inr (some (25, 0, 0, 0)), .inl x0, .inl 0]) (rest := []) h rfl (fun _ hv => zx_run_up (by omega) (r_X11_at (d := d) hv)) (fun v1 h => ?_)
  show zx_E _ _ _ (6, [some (.inr (some (25, 0, 0, 0))), some (.inl x0)], [.inl v1], (zx_lay M, n)) _
  refine zx_E.go 1 (s' := (7, [some (.inr (some (25, 0, 0, 0))), some (.inl x0)], [.inl 1, .inl v1], (zx_lay M, n))) rfl ?_
  refine zx_E.brh (c := v1 = 1) (s1 := (10, [some (.inr (some (25, 0, 0, 0))), some (.inl x0)], [], (zx_lay M, n))) (s2 := (30, [some (.inr (some (25, 0, 0, 0))), some (.inl x0)], [], (zx_lay M, n))) h (zx_ic_ne rfl) (fun _ h => ?_) (fun _ h => ?_)
  · refine zx_E.go 2 (s' := (12, [some (.inr (some (25, 0, 0, 0))), some (.inl x0)], [.inl x0, .inr (some (25, 0, 0, 0))], (zx_lay M, n))) rfl ?_
    refine zx_E.cb (y := 137) (as := [.inr (some (25, 0, 0, 0)), .inl x0]) (rest := []) h rfl (fun _ hv => zx_run_up (by omega) (r_X11_isWayFree (d := d) hv)) (fun v2 h => ?_)
    show zx_E _ _ _ (15, [some (.inr (some (25, 0, 0, 0))), some (.inl x0)], [.inl v2], (zx_lay M, n)) _
    refine zx_E.brh (c := v2 = 0) (s1 := (30, [some (.inr (some (25, 0, 0, 0))), some (.inl x0)], [], (zx_lay M, n))) (s2 := (18, [some (.inr (some (25, 0, 0, 0))), some (.inl x0)], [], (zx_lay M, n))) h (zx_if_eq rfl) (fun _ h => ?_) (fun _ h => ?_)
    · refine zx_E.go 1 (s' := (31, [some (.inr (some (25, 0, 0, 0))), some (.inl x0)], [.inl 0], (zx_lay M, n))) rfl ?_
      exact zx_E.rp h rfl (fun _ => Or.inl rfl)
    · refine zx_E.go 2 (s' := (20, [some (.inr (some (25, 0, 0, 0))), some (.inl x0)], [.inl x0, .inr (some (25, 0, 0, 0))], (zx_lay M, n))) rfl ?_
      refine zx_E.cb (y := 138) (as := [.inr (some (25, 0, 0, 0)), .inl x0]) (rest := []) h rfl (fun _ hv => zx_run_up (by omega) (r_X11_overtime (d := d) hv)) (fun v3 h => ?_)
      show zx_E _ _ _ (23, [some (.inr (some (25, 0, 0, 0))), some (.inl x0)], [.inl v3], (zx_lay M, n)) _
      refine zx_E.brh (c := (0 : Int32) < v3) (s1 := (30, [some (.inr (some (25, 0, 0, 0))), some (.inl x0)], [], (zx_lay M, n))) (s2 := (26, [some (.inr (some (25, 0, 0, 0))), some (.inl x0)], [], (zx_lay M, n))) h (zx_if_gt rfl) (fun _ h => ?_) (fun _ h => ?_)
      · refine zx_E.go 1 (s' := (31, [some (.inr (some (25, 0, 0, 0))), some (.inl x0)], [.inl 0], (zx_lay M, n))) rfl ?_
        exact zx_E.rp h rfl (fun _ => Or.inl rfl)
      · refine zx_E.go 2 (s' := (31, [some (.inr (some (25, 0, 0, 0))), some (.inl x0)], [.inl 1], (zx_lay M, n))) rfl ?_
        exact zx_E.rp h rfl (fun _ => Or.inr rfl)
  · refine zx_E.go 1 (s' := (31, [some (.inr (some (25, 0, 0, 0))), some (.inl x0)], [.inl 0], (zx_lay M, n))) rfl ?_
    exact zx_E.rp h rfl (fun _ => Or.inl rfl)
def g_X11_relieve (M : zx_Y) (x0 : Int32) : Option zx_Y := (zb (g_X11_at M x0 11) fun v1 => (zm (g_X11_become M x0 3 v1) fun M1 => (zi (17 + v1) 640 fun k1 => (if (M1 (26, 0, 0, 0) k1) = 1 then (zm (g_X11_set M1 x0 8 ((M1 (26, 0, 0, 0) 0) + ((M1 (26, 0, 0, 0) 26) * 1))) fun M2 => (zm (g_X11_set M2 x0 9 (-5)) fun M3 => (zb (g_X11_at M3 x0 10) fun v2 => (zm (g_X11_set M3 x0 10 (v2 + 1)) fun M4 => (some M4))))) else (zm (g_X11_set M1 x0 8 ((M1 (26, 0, 0, 0) 0) + ((M1 (26, 0, 0, 0) 26) * 3))) fun M5 => (zm (g_X11_set M5 x0 9 (-5)) fun M6 => (zb (g_X11_at M6 x0 10) fun v3 => (zm (g_X11_set M6 x0 10 (v3 + 1)) fun M7 => (some M7)))))))))
set_option maxRecDepth 100000 in
set_option maxHeartbeats 4000000 in
theorem r_X11_relieve {X : zx_X} {d n : Nat} {M : zx_Y} {x0 : Int32} {rM : zx_Y} (h : g_X11_relieve M x0 = some rM) : zx_run X (d + 3) 148 [.inr (some (25, 0, 0, 0)), .inl x0] (zx_lay M, n) (none, (zx_lay rM, n)) := by
  refine zx_run_of zc_X11_relieve [some (.inr (some (25, 0, 0, 0))), some (.inl x0), none] rfl rfl ?_
  unfold g_X11_relieve at h
  refine zx_E.go 3 (s' := (4, [some (.inr (some (25, 0, 0, 0))), some (.inl x0), none], [.inl 11, .inl x0, .inr (some (25, 0, 0, 0))], (zx_lay M, n))) rfl ?_
  refine zx_E.cb (y := 125) (as := [.inr (some (25, 0, 0, 0)), .inl x0, .inl 11]) (rest := []) h rfl (fun _ hv => zx_run_up (by omega) (r_X11_at (d := d) hv)) (fun v1 h => ?_)
  show zx_E _ _ _ (7, [some (.inr (some (25, 0, 0, 0))), some (.inl x0), none], [.inl v1], (zx_lay M, n)) _
  refine zx_E.go 5 (s' := (12, [some (.inr (some (25, 0, 0, 0))), some (.inl x0), some (.inl v1)], [.inl v1, .inl 3, .inl x0, .inr (some (25, 0, 0, 0))], (zx_lay M, n))) rfl ?_
  refine zx_E.cm (y := 143) (as := [.inr (some (25, 0, 0, 0)), .inl x0, .inl 3, .inl v1]) (rest := []) h rfl (fun _ hv => zx_run_up (by omega) (r_X11_become (d := d) hv)) (fun M1 h => ?_)
  show zx_E _ _ _ (15, [some (.inr (some (25, 0, 0, 0))), some (.inl x0), some (.inl v1)], [], (zx_lay M1, n)) _
  refine zx_E.go 6 (s' := (24, [some (.inr (some (25, 0, 0, 0))), some (.inl x0), some (.inl v1)], [.inl 0, .inr (some (26, 0, 0, 0)), .inl 8, .inl x0, .inr (some (25, 0, 0, 0))], (zx_lay M1, n))) rfl ?_
  refine zx_E.iald (k := 0) (h := (26, 0, 0, 0)) rfl rfl rfl (by decide) ?_
  show zx_E _ _ _ (25, [some (.inr (some (25, 0, 0, 0))), some (.inl x0), some (.inl v1)], [.inl (M1 (26, 0, 0, 0) 0), .inl 8, .inl x0, .inr (some (25, 0, 0, 0))], (zx_lay M1, n)) _
  refine zx_E.go 3 (s' := (31, [some (.inr (some (25, 0, 0, 0))), some (.inl x0), some (.inl v1)], [.inl 26, .inr (some (26, 0, 0, 0)), .inl (M1 (26, 0, 0, 0) 0), .inl 8, .inl x0, .inr (some (25, 0, 0, 0))], (zx_lay M1, n))) rfl ?_
  refine zx_E.iald (k := 26) (h := (26, 0, 0, 0)) rfl rfl rfl (by decide) ?_
  show zx_E _ _ _ (32, [some (.inr (some (25, 0, 0, 0))), some (.inl x0), some (.inl v1)], [.inl (M1 (26, 0, 0, 0) 26), .inl (M1 (26, 0, 0, 0) 0), .inl 8, .inl x0, .inr (some (25, 0, 0, 0))], (zx_lay M1, n)) _
  refine zx_E.go 4 (s' := (39, [some (.inr (some (25, 0, 0, 0))), some (.inl x0), some (.inl v1)], [.inl v1, .inl 17, .inr (some (26, 0, 0, 0)), .inl (M1 (26, 0, 0, 0) 26), .inl (M1 (26, 0, 0, 0) 0), .inl 8, .inl x0, .inr (some (25, 0, 0, 0))], (zx_lay M1, n))) rfl ?_
  refine zx_E.go 1 (s' := (40, [some (.inr (some (25, 0, 0, 0))), some (.inl x0), some (.inl v1)], [.inl (17 + v1), .inr (some (26, 0, 0, 0)), .inl (M1 (26, 0, 0, 0) 26), .inl (M1 (26, 0, 0, 0) 0), .inl 8, .inl x0, .inr (some (25, 0, 0, 0))], (zx_lay M1, n))) rfl ?_
  refine zx_E.ix h (fun k1 hx_k1 hl_k1 h => ?_)
  refine zx_E.iald (k := k1) (h := (26, 0, 0, 0)) rfl rfl hx_k1 hl_k1 ?_
  show zx_E _ _ _ (41, [some (.inr (some (25, 0, 0, 0))), some (.inl x0), some (.inl v1)], [.inl (M1 (26, 0, 0, 0) k1), .inl (M1 (26, 0, 0, 0) 26), .inl (M1 (26, 0, 0, 0) 0), .inl 8, .inl x0, .inr (some (25, 0, 0, 0))], (zx_lay M1, n)) _
  refine zx_E.go 1 (s' := (42, [some (.inr (some (25, 0, 0, 0))), some (.inl x0), some (.inl v1)], [.inl 1, .inl (M1 (26, 0, 0, 0) k1), .inl (M1 (26, 0, 0, 0) 26), .inl (M1 (26, 0, 0, 0) 0), .inl 8, .inl x0, .inr (some (25, 0, 0, 0))], (zx_lay M1, n))) rfl ?_
  refine zx_E.brh (c := (M1 (26, 0, 0, 0) k1) = 1) (s1 := (45, [some (.inr (some (25, 0, 0, 0))), some (.inl x0), some (.inl v1)], [.inl (M1 (26, 0, 0, 0) 26), .inl (M1 (26, 0, 0, 0) 0), .inl 8, .inl x0, .inr (some (25, 0, 0, 0))], (zx_lay M1, n))) (s2 := (49, [some (.inr (some (25, 0, 0, 0))), some (.inl x0), some (.inl v1)], [.inl (M1 (26, 0, 0, 0) 26), .inl (M1 (26, 0, 0, 0) 0), .inl 8, .inl x0, .inr (some (25, 0, 0, 0))], (zx_lay M1, n))) h (zx_ic_ne rfl) (fun _ h => ?_) (fun _ h => ?_)
  · refine zx_E.go 4 (s' := (52, [some (.inr (some (25, 0, 0, 0))), some (.inl x0), some (.inl v1)], [.inl ((M1 (26, 0, 0, 0) 0) + ((M1 (26, 0, 0, 0) 26) * 1)), .inl 8, .inl x0, .inr (some (25, 0, 0, 0))], (zx_lay M1, n))) rfl ?_
    refine zx_E.cm (y := 126) (as := [.inr (some (25, 0, 0, 0)), .inl x0, .inl 8, .inl ((M1 (26, 0, 0, 0) 0) + ((M1 (26, 0, 0, 0) 26) * 1))]) (rest := []) h rfl (fun _ hv => zx_run_up (by omega) (r_X11_set (d := d) hv)) (fun M2 h => ?_)
    show zx_E _ _ _ (55, [some (.inr (some (25, 0, 0, 0))), some (.inl x0), some (.inl v1)], [], (zx_lay M2, n)) _
    refine zx_E.go 4 (s' := (61, [some (.inr (some (25, 0, 0, 0))), some (.inl x0), some (.inl v1)], [.inl (-5), .inl 9, .inl x0, .inr (some (25, 0, 0, 0))], (zx_lay M2, n))) rfl ?_
    refine zx_E.cm (y := 126) (as := [.inr (some (25, 0, 0, 0)), .inl x0, .inl 9, .inl (-5)]) (rest := []) h rfl (fun _ hv => zx_run_up (by omega) (r_X11_set (d := d) hv)) (fun M3 h => ?_)
    show zx_E _ _ _ (64, [some (.inr (some (25, 0, 0, 0))), some (.inl x0), some (.inl v1)], [], (zx_lay M3, n)) _
    refine zx_E.go 6 (s' := (72, [some (.inr (some (25, 0, 0, 0))), some (.inl x0), some (.inl v1)], [.inl 10, .inl x0, .inr (some (25, 0, 0, 0)), .inl 10, .inl x0, .inr (some (25, 0, 0, 0))], (zx_lay M3, n))) rfl ?_
    refine zx_E.cb (y := 125) (as := [.inr (some (25, 0, 0, 0)), .inl x0, .inl 10]) (rest := [.inl 10, .inl x0, .inr (some (25, 0, 0, 0))]) h rfl (fun _ hv => zx_run_up (by omega) (r_X11_at (d := d) hv)) (fun v2 h => ?_)
    show zx_E _ _ _ (75, [some (.inr (some (25, 0, 0, 0))), some (.inl x0), some (.inl v1)], [.inl v2, .inl 10, .inl x0, .inr (some (25, 0, 0, 0))], (zx_lay M3, n)) _
    refine zx_E.go 2 (s' := (77, [some (.inr (some (25, 0, 0, 0))), some (.inl x0), some (.inl v1)], [.inl (v2 + 1), .inl 10, .inl x0, .inr (some (25, 0, 0, 0))], (zx_lay M3, n))) rfl ?_
    refine zx_E.cm (y := 126) (as := [.inr (some (25, 0, 0, 0)), .inl x0, .inl 10, .inl (v2 + 1)]) (rest := []) h rfl (fun _ hv => zx_run_up (by omega) (r_X11_set (d := d) hv)) (fun M4 h => ?_)
    show zx_E _ _ _ (80, [some (.inr (some (25, 0, 0, 0))), some (.inl x0), some (.inl v1)], [], (zx_lay M4, n)) _
    exact zx_E.r0 h rfl
  · refine zx_E.go 3 (s' := (52, [some (.inr (some (25, 0, 0, 0))), some (.inl x0), some (.inl v1)], [.inl ((M1 (26, 0, 0, 0) 0) + ((M1 (26, 0, 0, 0) 26) * 3)), .inl 8, .inl x0, .inr (some (25, 0, 0, 0))], (zx_lay M1, n))) rfl ?_
    refine zx_E.cm (y := 126) (as := [.inr (some (25, 0, 0, 0)), .inl x0, .inl 8, .inl ((M1 (26, 0, 0, 0) 0) + ((M1 (26, 0, 0, 0) 26) * 3))]) (rest := []) h rfl (fun _ hv => zx_run_up (by omega) (r_X11_set (d := d) hv)) (fun M5 h => ?_)
    show zx_E _ _ _ (55, [some (.inr (some (25, 0, 0, 0))), some (.inl x0), some (.inl v1)], [], (zx_lay M5, n)) _
    refine zx_E.go 4 (s' := (61, [some (.inr (some (25, 0, 0, 0))), some (.inl x0), some (.inl v1)], [.inl (-5), .inl 9, .inl x0, .inr (some (25, 0, 0, 0))], (zx_lay M5, n))) rfl ?_
    refine zx_E.cm (y := 126) (as := [.inr (some (25, 0, 0, 0)), .inl x0, .inl 9, .inl (-5)]) (rest := []) h rfl (fun _ hv => zx_run_up (by omega) (r_X11_set (d := d) hv)) (fun M6 h => ?_)
    show zx_E _ _ _ (64, [some (.inr (some (25, 0, 0, 0))), some (.inl x0), some (.inl v1)], [], (zx_lay M6, n)) _
    refine zx_E.go 6 (s' := (72, [some (.inr (some (25, 0, 0, 0))), some (.inl x0), some (.inl v1)], [.inl 10, .inl x0, .inr (some (25, 0, 0, 0)), .inl 10, .inl x0, .inr (some (25, 0, 0, 0))], (zx_lay M6, n))) rfl ?_
    refine zx_E.cb (y := 125) (as := [.inr (some (25, 0, 0, 0)), .inl x0, .inl 10]) (rest := [.inl 10, .inl x0, .inr (some (25, 0, 0, 0))]) h rfl (fun _ hv => zx_run_up (by omega) (r_X11_at (d := d) hv)) (fun v3 h => ?_)
    show zx_E _ _ _ (75, [some (.inr (some (25, 0, 0, 0))), some (.inl x0), some (.inl v1)], [.inl v3, .inl 10, .inl x0, .inr (some (25, 0, 0, 0))], (zx_lay M6, n)) _
    refine zx_E.go 2 (s' := (77, [some (.inr (some (25, 0, 0, 0))), some (.inl x0), some (.inl v1)], [.inl (v3 + 1), .inl 10, .inl x0, .inr (some (25, 0, 0, 0))], (zx_lay M6, n))) rfl ?_
    refine zx_E.cm (y := 126) (as := [.inr (some (25, 0, 0, 0)), .inl x0, .inl 10, .inl (v3 + 1)]) (rest := []) h rfl (fun _ hv => zx_run_up (by omega) (r_X11_set (d := d) hv)) (fun M7 h => ?_)
    show zx_E _ _ _ (80, [some (.inr (some (25, 0, 0, 0))), some (.inl x0), some (.inl v1)], [], (zx_lay M7, n)) _
    exact zx_E.r0 h rfl
def g_X11_enter (M : zx_Y) (x0 : Int32) : Option zx_Y := (zb (g_X11_at M x0 11) fun v1 => (zb (g_X11_blockFrom M x0 v1) fun v2 => (zb (g_X11_minutesFor M x0) fun v3 => (zm (g_X11_set M x0 (25 + v1) (M (26, 0, 0, 0) 0)) fun M1 => (zm (g_X11_become M1 x0 2 v2) fun M2 => (zm (g_X11_set M2 x0 8 ((M2 (26, 0, 0, 0) 0) + v3)) fun M3 => (zi (43 + v2) 640 fun k1 => (zi (43 + v2) 640 fun k2 => (zl (zx_up M3 (26, 0, 0, 0) k2 ((M3 (26, 0, 0, 0) k1) + 1)) fun M4 => (some M4))))))))))
set_option maxRecDepth 100000 in
set_option maxHeartbeats 4000000 in
theorem r_X11_enter {X : zx_X} {d n : Nat} {M : zx_Y} {x0 : Int32} {rM : zx_Y} (h : g_X11_enter M x0 = some rM) : zx_run X (d + 5) 147 [.inr (some (25, 0, 0, 0)), .inl x0] (zx_lay M, n) (none, (zx_lay rM, n)) := by
  refine zx_run_of zc_X11_enter [some (.inr (some (25, 0, 0, 0))), some (.inl x0), none, none, none] rfl rfl ?_
  unfold g_X11_enter at h
  refine zx_E.go 3 (s' := (4, [some (.inr (some (25, 0, 0, 0))), some (.inl x0), none, none, none], [.inl 11, .inl x0, .inr (some (25, 0, 0, 0))], (zx_lay M, n))) rfl ?_
  refine zx_E.cb (y := 125) (as := [.inr (some (25, 0, 0, 0)), .inl x0, .inl 11]) (rest := []) h rfl (fun _ hv => zx_run_up (by omega) (r_X11_at (d := d) hv)) (fun v1 h => ?_)
  show zx_E _ _ _ (7, [some (.inr (some (25, 0, 0, 0))), some (.inl x0), none, none, none], [.inl v1], (zx_lay M, n)) _
  refine zx_E.go 4 (s' := (11, [some (.inr (some (25, 0, 0, 0))), some (.inl x0), some (.inl v1), none, none], [.inl v1, .inl x0, .inr (some (25, 0, 0, 0))], (zx_lay M, n))) rfl ?_
  refine zx_E.cb (y := 128) (as := [.inr (some (25, 0, 0, 0)), .inl x0, .inl v1]) (rest := []) h rfl (fun _ hv => zx_run_up (by omega) (r_X11_blockFrom (d := d) hv)) (fun v2 h => ?_)
  show zx_E _ _ _ (14, [some (.inr (some (25, 0, 0, 0))), some (.inl x0), some (.inl v1), none, none], [.inl v2], (zx_lay M, n)) _
  refine zx_E.go 3 (s' := (17, [some (.inr (some (25, 0, 0, 0))), some (.inl x0), some (.inl v1), some (.inl v2), none], [.inl x0, .inr (some (25, 0, 0, 0))], (zx_lay M, n))) rfl ?_
  refine zx_E.cb (y := 136) (as := [.inr (some (25, 0, 0, 0)), .inl x0]) (rest := []) h rfl (fun _ hv => zx_run_up (by omega) (r_X11_minutesFor (d := d) hv)) (fun v3 h => ?_)
  show zx_E _ _ _ (20, [some (.inr (some (25, 0, 0, 0))), some (.inl x0), some (.inl v1), some (.inl v2), none], [.inl v3], (zx_lay M, n)) _
  refine zx_E.go 9 (s' := (33, [some (.inr (some (25, 0, 0, 0))), some (.inl x0), some (.inl v1), some (.inl v2), some (.inl v3)], [.inl 0, .inr (some (26, 0, 0, 0)), .inl (25 + v1), .inl x0, .inr (some (25, 0, 0, 0))], (zx_lay M, n))) rfl ?_
  refine zx_E.iald (k := 0) (h := (26, 0, 0, 0)) rfl rfl rfl (by decide) ?_
  show zx_E _ _ _ (34, [some (.inr (some (25, 0, 0, 0))), some (.inl x0), some (.inl v1), some (.inl v2), some (.inl v3)], [.inl (M (26, 0, 0, 0) 0), .inl (25 + v1), .inl x0, .inr (some (25, 0, 0, 0))], (zx_lay M, n)) _
  refine zx_E.cm (y := 126) (as := [.inr (some (25, 0, 0, 0)), .inl x0, .inl (25 + v1), .inl (M (26, 0, 0, 0) 0)]) (rest := []) h rfl (fun _ hv => zx_run_up (by omega) (r_X11_set (d := d) hv)) (fun M1 h => ?_)
  show zx_E _ _ _ (37, [some (.inr (some (25, 0, 0, 0))), some (.inl x0), some (.inl v1), some (.inl v2), some (.inl v3)], [], (zx_lay M1, n)) _
  refine zx_E.go 4 (s' := (41, [some (.inr (some (25, 0, 0, 0))), some (.inl x0), some (.inl v1), some (.inl v2), some (.inl v3)], [.inl v2, .inl 2, .inl x0, .inr (some (25, 0, 0, 0))], (zx_lay M1, n))) rfl ?_
  refine zx_E.cm (y := 143) (as := [.inr (some (25, 0, 0, 0)), .inl x0, .inl 2, .inl v2]) (rest := []) h rfl (fun _ hv => zx_run_up (by omega) (r_X11_become (d := d) hv)) (fun M2 h => ?_)
  show zx_E _ _ _ (44, [some (.inr (some (25, 0, 0, 0))), some (.inl x0), some (.inl v1), some (.inl v2), some (.inl v3)], [], (zx_lay M2, n)) _
  refine zx_E.go 6 (s' := (53, [some (.inr (some (25, 0, 0, 0))), some (.inl x0), some (.inl v1), some (.inl v2), some (.inl v3)], [.inl 0, .inr (some (26, 0, 0, 0)), .inl 8, .inl x0, .inr (some (25, 0, 0, 0))], (zx_lay M2, n))) rfl ?_
  refine zx_E.iald (k := 0) (h := (26, 0, 0, 0)) rfl rfl rfl (by decide) ?_
  show zx_E _ _ _ (54, [some (.inr (some (25, 0, 0, 0))), some (.inl x0), some (.inl v1), some (.inl v2), some (.inl v3)], [.inl (M2 (26, 0, 0, 0) 0), .inl 8, .inl x0, .inr (some (25, 0, 0, 0))], (zx_lay M2, n)) _
  refine zx_E.go 2 (s' := (57, [some (.inr (some (25, 0, 0, 0))), some (.inl x0), some (.inl v1), some (.inl v2), some (.inl v3)], [.inl ((M2 (26, 0, 0, 0) 0) + v3), .inl 8, .inl x0, .inr (some (25, 0, 0, 0))], (zx_lay M2, n))) rfl ?_
  refine zx_E.cm (y := 126) (as := [.inr (some (25, 0, 0, 0)), .inl x0, .inl 8, .inl ((M2 (26, 0, 0, 0) 0) + v3)]) (rest := []) h rfl (fun _ hv => zx_run_up (by omega) (r_X11_set (d := d) hv)) (fun M3 h => ?_)
  show zx_E _ _ _ (60, [some (.inr (some (25, 0, 0, 0))), some (.inl x0), some (.inl v1), some (.inl v2), some (.inl v3)], [], (zx_lay M3, n)) _
  refine zx_E.go 4 (s' := (67, [some (.inr (some (25, 0, 0, 0))), some (.inl x0), some (.inl v1), some (.inl v2), some (.inl v3)], [.inl v2, .inl 43, .inr (some (26, 0, 0, 0))], (zx_lay M3, n))) rfl ?_
  refine zx_E.go 2 (s' := (69, [some (.inr (some (25, 0, 0, 0))), some (.inl x0), some (.inl v1), some (.inl v2), some (.inl v3)], [.inl (43 + v2), .inr (some (26, 0, 0, 0)), .inl (43 + v2), .inr (some (26, 0, 0, 0))], (zx_lay M3, n))) rfl ?_
  refine zx_E.ix h (fun k1 hx_k1 hl_k1 h => ?_)
  refine zx_E.iald (k := k1) (h := (26, 0, 0, 0)) rfl rfl hx_k1 hl_k1 ?_
  show zx_E _ _ _ (70, [some (.inr (some (25, 0, 0, 0))), some (.inl x0), some (.inl v1), some (.inl v2), some (.inl v3)], [.inl (M3 (26, 0, 0, 0) k1), .inl (43 + v2), .inr (some (26, 0, 0, 0))], (zx_lay M3, n)) _
  refine zx_E.go 2 (s' := (72, [some (.inr (some (25, 0, 0, 0))), some (.inl x0), some (.inl v1), some (.inl v2), some (.inl v3)], [.inl ((M3 (26, 0, 0, 0) k1) + 1), .inl (43 + v2), .inr (some (26, 0, 0, 0))], (zx_lay M3, n))) rfl ?_
  refine zx_E.ix h (fun k2 hx_k2 hl_k2 h => ?_)
  refine zx_E.ia h rfl rfl hx_k2 hl_k2 (fun M4 h => ?_)
  show zx_E _ _ _ (73, [some (.inr (some (25, 0, 0, 0))), some (.inl x0), some (.inl v1), some (.inl v2), some (.inl v3)], [], (zx_lay M4, n)) _
  exact zx_E.r0 h rfl
def lg_X11_minute_221 (kk : Int32 → zx_Y → Option zx_Y) : Nat → Int32 → zx_Y → Option zx_Y
  | 0, _, _ => none
  | q + 1, w1, M => (if (M (25, 0, 0, 0) 2) ≤ w1 then (kk w1 M) else (zi w1 10 fun k1 => (zb (g_X11_mayRun M (M (27, 0, 0, 0) k1)) fun v1 => (if v1 = 0 then (zb (g_X11_isWayFree M (M (27, 0, 0, 0) k1)) fun v2 => (if v2 = 0 then (lg_X11_minute_221 kk q (w1 + 1) M) else (zb (g_X11_minutesFor M (M (27, 0, 0, 0) k1)) fun v3 => (zb (g_X11_at M (M (27, 0, 0, 0) k1) 6) fun v4 => (if v4 < v3 then (lg_X11_minute_221 kk q (w1 + 1) M) else (zm (g_X11_relieve M (M (27, 0, 0, 0) k1)) fun M1 => (lg_X11_minute_221 kk q (w1 + 1) M1))))))) else (zm (g_X11_enter M (M (27, 0, 0, 0) k1)) fun M2 => (lg_X11_minute_221 kk q (w1 + 1) M2))))))
set_option maxRecDepth 100000 in
set_option maxHeartbeats 4000000 in
theorem rl_X11_minute_221 {X : zx_X} {d n : Nat} {kk : Int32 → zx_Y → Option zx_Y} {rM : zx_Y} (hk : ∀ (w1 : Int32) (M : zx_Y) (e2 : Option zx_V), kk w1 M = some rM → zx_E X (d + 7) zc_X11_minute (286, [some (.inr (some (25, 0, 0, 0))), some (.inl w1), e2], [], (zx_lay M, n)) (none, (zx_lay rM, n))) : ∀ (q : Nat) (g2 : Option zx_V) (w1 : Int32) (M : zx_Y), lg_X11_minute_221 kk q w1 M = some rM → zx_E X (d + 7) zc_X11_minute (221, [some (.inr (some (25, 0, 0, 0))), some (.inl w1), g2], [], (zx_lay M, n)) (none, (zx_lay rM, n))
  | 0, g2, w1, M, h => by
    rw [lg_X11_minute_221.eq_1] at h
    cases h
  | q + 1, g2, w1, M, h => by
    rw [lg_X11_minute_221.eq_2] at h
    refine zx_E.go 3 (s' := (226, [some (.inr (some (25, 0, 0, 0))), some (.inl w1), g2], [.inl (M (25, 0, 0, 0) 2), .inl w1], (zx_lay M, n))) rfl ?_
    refine zx_E.brh (c := (M (25, 0, 0, 0) 2) ≤ w1) (s1 := (286, [some (.inr (some (25, 0, 0, 0))), some (.inl w1), g2], [], (zx_lay M, n))) (s2 := (229, [some (.inr (some (25, 0, 0, 0))), some (.inl w1), g2], [], (zx_lay M, n))) h (zx_ic_ge rfl) (fun _ h => ?_) (fun _ h => ?_)
    · exact hk _ _ _ h
    · refine zx_E.go 3 (s' := (234, [some (.inr (some (25, 0, 0, 0))), some (.inl w1), g2], [.inl w1, .inr (some (27, 0, 0, 0))], (zx_lay M, n))) rfl ?_
      refine zx_E.ix h (fun k1 hx_k1 hl_k1 h => ?_)
      refine zx_E.iald (k := k1) (h := (27, 0, 0, 0)) rfl rfl hx_k1 hl_k1 ?_
      show zx_E _ _ _ (235, [some (.inr (some (25, 0, 0, 0))), some (.inl w1), g2], [.inl (M (27, 0, 0, 0) k1)], (zx_lay M, n)) _
      refine zx_E.go 3 (s' := (238, [some (.inr (some (25, 0, 0, 0))), some (.inl w1), some (.inl (M (27, 0, 0, 0) k1))], [.inl (M (27, 0, 0, 0) k1), .inr (some (25, 0, 0, 0))], (zx_lay M, n))) rfl ?_
      refine zx_E.cb (y := 139) (as := [.inr (some (25, 0, 0, 0)), .inl (M (27, 0, 0, 0) k1)]) (rest := []) h rfl (fun _ hv => zx_run_up (by omega) (r_X11_mayRun (d := d) hv)) (fun v1 h => ?_)
      show zx_E _ _ _ (241, [some (.inr (some (25, 0, 0, 0))), some (.inl w1), some (.inl (M (27, 0, 0, 0) k1))], [.inl v1], (zx_lay M, n)) _
      refine zx_E.brh (c := v1 = 0) (s1 := (252, [some (.inr (some (25, 0, 0, 0))), some (.inl w1), some (.inl (M (27, 0, 0, 0) k1))], [], (zx_lay M, n))) (s2 := (244, [some (.inr (some (25, 0, 0, 0))), some (.inl w1), some (.inl (M (27, 0, 0, 0) k1))], [], (zx_lay M, n))) h (zx_if_eq rfl) (fun _ h => ?_) (fun _ h => ?_)
      · refine zx_E.go 2 (s' := (254, [some (.inr (some (25, 0, 0, 0))), some (.inl w1), some (.inl (M (27, 0, 0, 0) k1))], [.inl (M (27, 0, 0, 0) k1), .inr (some (25, 0, 0, 0))], (zx_lay M, n))) rfl ?_
        refine zx_E.cb (y := 137) (as := [.inr (some (25, 0, 0, 0)), .inl (M (27, 0, 0, 0) k1)]) (rest := []) h rfl (fun _ hv => zx_run_up (by omega) (r_X11_isWayFree (d := d) hv)) (fun v2 h => ?_)
        show zx_E _ _ _ (257, [some (.inr (some (25, 0, 0, 0))), some (.inl w1), some (.inl (M (27, 0, 0, 0) k1))], [.inl v2], (zx_lay M, n)) _
        refine zx_E.brh (c := v2 = 0) (s1 := (280, [some (.inr (some (25, 0, 0, 0))), some (.inl w1), some (.inl (M (27, 0, 0, 0) k1))], [], (zx_lay M, n))) (s2 := (260, [some (.inr (some (25, 0, 0, 0))), some (.inl w1), some (.inl (M (27, 0, 0, 0) k1))], [], (zx_lay M, n))) h (zx_if_eq rfl) (fun _ h => ?_) (fun _ h => ?_)
        · refine zx_E.go 2 (s' := (221, [some (.inr (some (25, 0, 0, 0))), some (.inl (w1 + 1)), some (.inl (M (27, 0, 0, 0) k1))], [], (zx_lay M, n))) rfl ?_
          exact rl_X11_minute_221 hk q _ (w1 + 1) M h
        · refine zx_E.go 2 (s' := (262, [some (.inr (some (25, 0, 0, 0))), some (.inl w1), some (.inl (M (27, 0, 0, 0) k1))], [.inl (M (27, 0, 0, 0) k1), .inr (some (25, 0, 0, 0))], (zx_lay M, n))) rfl ?_
          refine zx_E.cb (y := 136) (as := [.inr (some (25, 0, 0, 0)), .inl (M (27, 0, 0, 0) k1)]) (rest := []) h rfl (fun _ hv => zx_run_up (by omega) (r_X11_minutesFor (d := d) hv)) (fun v3 h => ?_)
          show zx_E _ _ _ (265, [some (.inr (some (25, 0, 0, 0))), some (.inl w1), some (.inl (M (27, 0, 0, 0) k1))], [.inl v3], (zx_lay M, n)) _
          refine zx_E.go 3 (s' := (269, [some (.inr (some (25, 0, 0, 0))), some (.inl w1), some (.inl (M (27, 0, 0, 0) k1))], [.inl 6, .inl (M (27, 0, 0, 0) k1), .inr (some (25, 0, 0, 0)), .inl v3], (zx_lay M, n))) rfl ?_
          refine zx_E.cb (y := 125) (as := [.inr (some (25, 0, 0, 0)), .inl (M (27, 0, 0, 0) k1), .inl 6]) (rest := [.inl v3]) h rfl (fun _ hv => zx_run_up (by omega) (r_X11_at (d := d) hv)) (fun v4 h => ?_)
          show zx_E _ _ _ (272, [some (.inr (some (25, 0, 0, 0))), some (.inl w1), some (.inl (M (27, 0, 0, 0) k1))], [.inl v4, .inl v3], (zx_lay M, n)) _
          refine zx_E.brh (c := v4 < v3) (s1 := (280, [some (.inr (some (25, 0, 0, 0))), some (.inl w1), some (.inl (M (27, 0, 0, 0) k1))], [], (zx_lay M, n))) (s2 := (275, [some (.inr (some (25, 0, 0, 0))), some (.inl w1), some (.inl (M (27, 0, 0, 0) k1))], [], (zx_lay M, n))) h (zx_ic_gt rfl) (fun _ h => ?_) (fun _ h => ?_)
          · refine zx_E.go 2 (s' := (221, [some (.inr (some (25, 0, 0, 0))), some (.inl (w1 + 1)), some (.inl (M (27, 0, 0, 0) k1))], [], (zx_lay M, n))) rfl ?_
            exact rl_X11_minute_221 hk q _ (w1 + 1) M h
          · refine zx_E.go 2 (s' := (277, [some (.inr (some (25, 0, 0, 0))), some (.inl w1), some (.inl (M (27, 0, 0, 0) k1))], [.inl (M (27, 0, 0, 0) k1), .inr (some (25, 0, 0, 0))], (zx_lay M, n))) rfl ?_
            refine zx_E.cm (y := 148) (as := [.inr (some (25, 0, 0, 0)), .inl (M (27, 0, 0, 0) k1)]) (rest := []) h rfl (fun _ hv => zx_run_up (by omega) (r_X11_relieve (d := d) hv)) (fun M1 h => ?_)
            show zx_E _ _ _ (280, [some (.inr (some (25, 0, 0, 0))), some (.inl w1), some (.inl (M (27, 0, 0, 0) k1))], [], (zx_lay M1, n)) _
            refine zx_E.go 2 (s' := (221, [some (.inr (some (25, 0, 0, 0))), some (.inl (w1 + 1)), some (.inl (M (27, 0, 0, 0) k1))], [], (zx_lay M1, n))) rfl ?_
            exact rl_X11_minute_221 hk q _ (w1 + 1) M1 h
      · refine zx_E.go 2 (s' := (246, [some (.inr (some (25, 0, 0, 0))), some (.inl w1), some (.inl (M (27, 0, 0, 0) k1))], [.inl (M (27, 0, 0, 0) k1), .inr (some (25, 0, 0, 0))], (zx_lay M, n))) rfl ?_
        refine zx_E.cm (y := 147) (as := [.inr (some (25, 0, 0, 0)), .inl (M (27, 0, 0, 0) k1)]) (rest := []) h rfl (fun _ hv => zx_run_up (by omega) (r_X11_enter (d := d) hv)) (fun M2 h => ?_)
        show zx_E _ _ _ (249, [some (.inr (some (25, 0, 0, 0))), some (.inl w1), some (.inl (M (27, 0, 0, 0) k1))], [], (zx_lay M2, n)) _
        refine zx_E.go 3 (s' := (221, [some (.inr (some (25, 0, 0, 0))), some (.inl (w1 + 1)), some (.inl (M (27, 0, 0, 0) k1))], [], (zx_lay M2, n))) rfl ?_
        exact rl_X11_minute_221 hk q _ (w1 + 1) M2 h
def g_X11_minute (M : zx_Y) : Option zx_Y := (zm (g_X11_account M) fun M1 => (zl (zx_up M1 (26, 0, 0, 0) 0 ((M1 (26, 0, 0, 0) 0) + 1)) fun M2 => (lg_X11_minute_16 (fun v1 M3 => (lg_X11_minute_66 (fun v2 M4 => (lg_X11_minute_146 (fun v3 M5 => (zm (g_X11_sortTrains M5) fun M6 => (lg_X11_minute_221 (fun v4 M7 => (some M7)) 1000 0 M6))) 1000 0 M4)) 1000 0 M3)) 1000 0 M2)))
set_option maxRecDepth 100000 in
set_option maxHeartbeats 4000000 in
theorem r_X11_minute {X : zx_X} {d n : Nat} {M : zx_Y} {rM : zx_Y} (h : g_X11_minute M = some rM) : zx_run X (d + 8) 149 [.inr (some (25, 0, 0, 0))] (zx_lay M, n) (none, (zx_lay rM, n)) := by
  refine zx_run_of zc_X11_minute [some (.inr (some (25, 0, 0, 0))), none, none] rfl rfl ?_
  unfold g_X11_minute at h
  refine zx_E.go 1 (s' := (1, [some (.inr (some (25, 0, 0, 0))), none, none], [.inr (some (25, 0, 0, 0))], (zx_lay M, n))) rfl ?_
  refine zx_E.cm (y := 145) (as := [.inr (some (25, 0, 0, 0))]) (rest := []) h rfl (fun _ hv => zx_run_up (by omega) (r_X11_account (d := d) hv)) (fun M1 h => ?_)
  show zx_E _ _ _ (4, [some (.inr (some (25, 0, 0, 0))), none, none], [], (zx_lay M1, n)) _
  refine zx_E.go 4 (s' := (10, [some (.inr (some (25, 0, 0, 0))), none, none], [.inl 0, .inr (some (26, 0, 0, 0)), .inl 0, .inr (some (26, 0, 0, 0))], (zx_lay M1, n))) rfl ?_
  refine zx_E.iald (k := 0) (h := (26, 0, 0, 0)) rfl rfl rfl (by decide) ?_
  show zx_E _ _ _ (11, [some (.inr (some (25, 0, 0, 0))), none, none], [.inl (M1 (26, 0, 0, 0) 0), .inl 0, .inr (some (26, 0, 0, 0))], (zx_lay M1, n)) _
  refine zx_E.go 2 (s' := (13, [some (.inr (some (25, 0, 0, 0))), none, none], [.inl ((M1 (26, 0, 0, 0) 0) + 1), .inl 0, .inr (some (26, 0, 0, 0))], (zx_lay M1, n))) rfl ?_
  refine zx_E.ia h rfl rfl rfl (by decide) (fun M2 h => ?_)
  show zx_E _ _ _ (14, [some (.inr (some (25, 0, 0, 0))), none, none], [], (zx_lay M2, n)) _
  refine zx_E.go 2 (s' := (16, [some (.inr (some (25, 0, 0, 0))), some (.inl 0), none], [], (zx_lay M2, n))) rfl ?_
  refine rl_X11_minute_16 (fun v1 M3 h => ?_) 1000  0 M2 h
  refine zx_E.go 2 (s' := (66, [some (.inr (some (25, 0, 0, 0))), some (.inl 0), none], [], (zx_lay M3, n))) rfl ?_
  refine rl_X11_minute_66 (fun v2 M4 h => ?_) 1000  0 M3 h
  refine zx_E.go 2 (s' := (146, [some (.inr (some (25, 0, 0, 0))), some (.inl 0), none], [], (zx_lay M4, n))) rfl ?_
  refine rl_X11_minute_146 (fun v3 M5 h => ?_) 1000  0 M4 h
  refine zx_E.go 1 (s' := (216, [some (.inr (some (25, 0, 0, 0))), some (.inl v3), none], [.inr (some (25, 0, 0, 0))], (zx_lay M5, n))) rfl ?_
  refine zx_E.cm (y := 141) (as := [.inr (some (25, 0, 0, 0))]) (rest := []) h rfl (fun _ hv => zx_run_up (by omega) (r_X11_sortTrains (d := d) hv)) (fun M6 h => ?_)
  show zx_E _ _ _ (219, [some (.inr (some (25, 0, 0, 0))), some (.inl v3), none], [], (zx_lay M6, n)) _
  refine zx_E.go 2 (s' := (221, [some (.inr (some (25, 0, 0, 0))), some (.inl 0), none], [], (zx_lay M6, n))) rfl ?_
  refine rl_X11_minute_221 (fun v4 M7 e1 h => ?_) 1000 _ 0 M6 h
  exact zx_E.r0 h rfl
def lg_X11_pass_45 (x0 : Int32) (kk : Int32 → zx_Y → Option (Int32 × zx_Y)) : Nat → Int32 → zx_Y → Option (Int32 × zx_Y)
  | 0, _, _ => none
  | q + 1, w2, M => (if x0 ≤ w2 then (kk w2 M) else (zm (g_X11_minute M) fun M1 => (lg_X11_pass_45 x0 kk q (w2 + 1) M1)))
set_option maxRecDepth 100000 in
set_option maxHeartbeats 4000000 in
theorem rl_X11_pass_45 {X : zx_X} {d n : Nat} {x0 : Int32} {kk : Int32 → zx_Y → Option (Int32 × zx_Y)} {rv : Int32} {rM : zx_Y} (hk : ∀ (w2 : Int32) (M : zx_Y), kk w2 M = some (rv, rM) → zx_E X (d + 8) zc_X11_pass (60, [some (.inr (some (25, 0, 0, 0))), some (.inl x0), some (.inl w2)], [], (zx_lay M, n)) (some (.inl rv), (zx_lay rM, n))) : ∀ (q : Nat) (w2 : Int32) (M : zx_Y), lg_X11_pass_45 x0 kk q w2 M = some (rv, rM) → zx_E X (d + 8) zc_X11_pass (45, [some (.inr (some (25, 0, 0, 0))), some (.inl x0), some (.inl w2)], [], (zx_lay M, n)) (some (.inl rv), (zx_lay rM, n))
  | 0, w2, M, h => by
    rw [lg_X11_pass_45.eq_1] at h
    cases h
  | q + 1, w2, M, h => by
    rw [lg_X11_pass_45.eq_2] at h
    refine zx_E.go 2 (s' := (47, [some (.inr (some (25, 0, 0, 0))), some (.inl x0), some (.inl w2)], [.inl x0, .inl w2], (zx_lay M, n))) rfl ?_
    refine zx_E.brh (c := x0 ≤ w2) (s1 := (60, [some (.inr (some (25, 0, 0, 0))), some (.inl x0), some (.inl w2)], [], (zx_lay M, n))) (s2 := (50, [some (.inr (some (25, 0, 0, 0))), some (.inl x0), some (.inl w2)], [], (zx_lay M, n))) h (zx_ic_ge rfl) (fun _ h => ?_) (fun _ h => ?_)
    · exact hk _ _ h
    · refine zx_E.go 1 (s' := (51, [some (.inr (some (25, 0, 0, 0))), some (.inl x0), some (.inl w2)], [.inr (some (25, 0, 0, 0))], (zx_lay M, n))) rfl ?_
      refine zx_E.cm (y := 149) (as := [.inr (some (25, 0, 0, 0))]) (rest := []) h rfl (fun _ hv => zx_run_up (by omega) (r_X11_minute (d := d) hv)) (fun M1 h => ?_)
      show zx_E _ _ _ (54, [some (.inr (some (25, 0, 0, 0))), some (.inl x0), some (.inl w2)], [], (zx_lay M1, n)) _
      refine zx_E.go 2 (s' := (45, [some (.inr (some (25, 0, 0, 0))), some (.inl x0), some (.inl (w2 + 1))], [], (zx_lay M1, n))) rfl ?_
      exact rl_X11_pass_45 hk q (w2 + 1) M1 h
def g_X11_pass (M : zx_Y) (x0 : Int32) : Option (Int32 × zx_Y) := (if (M (26, 0, 0, 0) 1) = 0 then (some ((-3), M)) else (zb (g_X11_isIn M x0 1 500) fun v1 => (if v1 = 0 then (some ((-2), M)) else (if ((M (26, 0, 0, 0) 0) + x0) ≤ 9999 then (lg_X11_pass_45 x0 (fun v2 M1 => (some ((M1 (26, 0, 0, 0) 0), M1))) 1000 0 M) else (some ((-4), M))))))
set_option maxRecDepth 100000 in
set_option maxHeartbeats 4000000 in
theorem r_X11_pass {X : zx_X} {d n : Nat} {M : zx_Y} {x0 : Int32} {rv : Int32} {rM : zx_Y} (h : g_X11_pass M x0 = some (rv, rM)) : zx_run X (d + 9) 150 [.inr (some (25, 0, 0, 0)), .inl x0] (zx_lay M, n) (some (.inl rv), (zx_lay rM, n)) := by
  refine zx_run_of zc_X11_pass [some (.inr (some (25, 0, 0, 0))), some (.inl x0), none] rfl rfl ?_
  unfold g_X11_pass at h
  refine zx_E.go 3 (s' := (5, [some (.inr (some (25, 0, 0, 0))), some (.inl x0), none], [.inl 1, .inr (some (26, 0, 0, 0))], (zx_lay M, n))) rfl ?_
  refine zx_E.iald (k := 1) (h := (26, 0, 0, 0)) rfl rfl rfl (by decide) ?_
  show zx_E _ _ _ (6, [some (.inr (some (25, 0, 0, 0))), some (.inl x0), none], [.inl (M (26, 0, 0, 0) 1)], (zx_lay M, n)) _
  refine zx_E.brh (c := (M (26, 0, 0, 0) 1) = 0) (s1 := (9, [some (.inr (some (25, 0, 0, 0))), some (.inl x0), none], [], (zx_lay M, n))) (s2 := (12, [some (.inr (some (25, 0, 0, 0))), some (.inl x0), none], [], (zx_lay M, n))) h (zx_if_ne rfl) (fun _ h => ?_) (fun _ h => ?_)
  · refine zx_E.go 1 (s' := (11, [some (.inr (some (25, 0, 0, 0))), some (.inl x0), none], [.inl (-3)], (zx_lay M, n))) rfl ?_
    exact zx_E.ri h rfl (fun h => absurd h (by decide))
  · refine zx_E.go 3 (s' := (17, [some (.inr (some (25, 0, 0, 0))), some (.inl x0), none], [.inl 500, .inl 1, .inl x0], (zx_lay M, n))) rfl ?_
    refine zx_E.cb (y := 121) (as := [.inl x0, .inl 1, .inl 500]) (rest := []) h rfl (fun _ hv => zx_run_up (by omega) (r_X11_isIn (d := d) hv)) (fun v1 h => ?_)
    show zx_E _ _ _ (20, [some (.inr (some (25, 0, 0, 0))), some (.inl x0), none], [.inl v1], (zx_lay M, n)) _
    refine zx_E.brh (c := v1 = 0) (s1 := (23, [some (.inr (some (25, 0, 0, 0))), some (.inl x0), none], [], (zx_lay M, n))) (s2 := (26, [some (.inr (some (25, 0, 0, 0))), some (.inl x0), none], [], (zx_lay M, n))) h (zx_if_ne rfl) (fun _ h => ?_) (fun _ h => ?_)
    · refine zx_E.go 1 (s' := (25, [some (.inr (some (25, 0, 0, 0))), some (.inl x0), none], [.inl (-2)], (zx_lay M, n))) rfl ?_
      exact zx_E.ri h rfl (fun h => absurd h (by decide))
    · refine zx_E.go 3 (s' := (31, [some (.inr (some (25, 0, 0, 0))), some (.inl x0), none], [.inl 0, .inr (some (26, 0, 0, 0))], (zx_lay M, n))) rfl ?_
      refine zx_E.iald (k := 0) (h := (26, 0, 0, 0)) rfl rfl rfl (by decide) ?_
      show zx_E _ _ _ (32, [some (.inr (some (25, 0, 0, 0))), some (.inl x0), none], [.inl (M (26, 0, 0, 0) 0)], (zx_lay M, n)) _
      refine zx_E.go 3 (s' := (37, [some (.inr (some (25, 0, 0, 0))), some (.inl x0), none], [.inl 9999, .inl ((M (26, 0, 0, 0) 0) + x0)], (zx_lay M, n))) rfl ?_
      refine zx_E.brh (c := ((M (26, 0, 0, 0) 0) + x0) ≤ 9999) (s1 := (43, [some (.inr (some (25, 0, 0, 0))), some (.inl x0), none], [], (zx_lay M, n))) (s2 := (40, [some (.inr (some (25, 0, 0, 0))), some (.inl x0), none], [], (zx_lay M, n))) h (zx_ic_le rfl) (fun _ h => ?_) (fun _ h => ?_)
      · refine zx_E.go 2 (s' := (45, [some (.inr (some (25, 0, 0, 0))), some (.inl x0), some (.inl 0)], [], (zx_lay M, n))) rfl ?_
        refine rl_X11_pass_45 (fun v2 M1 h => ?_) 1000  0 M h
        refine zx_E.go 3 (s' := (65, [some (.inr (some (25, 0, 0, 0))), some (.inl x0), some (.inl v2)], [.inl 0, .inr (some (26, 0, 0, 0))], (zx_lay M1, n))) rfl ?_
        refine zx_E.iald (k := 0) (h := (26, 0, 0, 0)) rfl rfl rfl (by decide) ?_
        show zx_E _ _ _ (66, [some (.inr (some (25, 0, 0, 0))), some (.inl x0), some (.inl v2)], [.inl (M1 (26, 0, 0, 0) 0)], (zx_lay M1, n)) _
        exact zx_E.ri h rfl (fun h => absurd h (by decide))
      · refine zx_E.go 1 (s' := (42, [some (.inr (some (25, 0, 0, 0))), some (.inl x0), none], [.inl (-4)], (zx_lay M, n))) rfl ?_
        exact zx_E.ri h rfl (fun h => absurd h (by decide))
def g_X9_property (M : zx_Y) (l : Nat) (i : Nat) (x0 : Int32) : Option Int32 := (if x0 = 0 then (some (M (7, l, i, 0) 1)) else (if x0 = 1 then (some (M (7, l, i, 0) 9)) else (if x0 = 2 then (some (M (7, l, i, 0) 4)) else (if x0 = 3 then (some (M (7, l, i, 0) 5)) else (if x0 = 4 then (some (M (7, l, i, 0) 6)) else (if x0 = 5 then (some (M (7, l, i, 0) 7)) else (if x0 = 6 then (some (M (7, l, i, 0) 11)) else (if x0 = 7 then (some (M (7, l, i, 0) 12)) else (if x0 = 8 then (some (M (7, l, i, 0) 14)) else (if x0 = 9 then (some (M (7, l, i, 0) 8)) else (some (-1))))))))))))
set_option maxRecDepth 100000 in
set_option maxHeartbeats 4000000 in
theorem r_X9_property {X : zx_X} {d n : Nat} {M : zx_Y} {l : Nat} {i : Nat} {x0 : Int32} {rv : Int32} (h : g_X9_property M l i x0 = some rv) : zx_run X (d + 1) 83 [.inr (some (7, l, i, 0)), .inl x0] (zx_lay M, n) (some (.inl rv), (zx_lay M, n)) := by
  refine zx_run_of zc_X9_property [some (.inr (some (7, l, i, 0))), some (.inl x0)] rfl rfl ?_
  unfold g_X9_property at h
  refine zx_E.go 1 (s' := (1, [some (.inr (some (7, l, i, 0))), some (.inl x0)], [.inl x0], (zx_lay M, n))) rfl ?_
  refine zx_E.one (s' := (zx_pick x0 0 [56, 61, 66, 71, 76, 81, 86, 91, 96, 101] 106, [some (.inr (some (7, l, i, 0))), some (.inl x0)], [], (zx_lay M, n))) rfl ?_
  refine zx_E.pickh (k' := 1) h (by decide) (fun _ h => ?_) (fun _ h => ?_)
  · refine zx_E.go 2 (s' := (60, [some (.inr (some (7, l, i, 0))), some (.inl x0)], [.inl (M (7, l, i, 0) 1)], (zx_lay M, n))) rfl ?_
    exact zx_E.rp h rfl (fun h => absurd h (by decide))
  · refine zx_E.pickh (k' := 2) h (by decide) (fun _ h => ?_) (fun _ h => ?_)
    · refine zx_E.go 2 (s' := (65, [some (.inr (some (7, l, i, 0))), some (.inl x0)], [.inl (M (7, l, i, 0) 9)], (zx_lay M, n))) rfl ?_
      exact zx_E.rp h rfl (fun h => absurd h (by decide))
    · refine zx_E.pickh (k' := 3) h (by decide) (fun _ h => ?_) (fun _ h => ?_)
      · refine zx_E.go 2 (s' := (70, [some (.inr (some (7, l, i, 0))), some (.inl x0)], [.inl (M (7, l, i, 0) 4)], (zx_lay M, n))) rfl ?_
        exact zx_E.rp h rfl (fun h => absurd h (by decide))
      · refine zx_E.pickh (k' := 4) h (by decide) (fun _ h => ?_) (fun _ h => ?_)
        · refine zx_E.go 2 (s' := (75, [some (.inr (some (7, l, i, 0))), some (.inl x0)], [.inl (M (7, l, i, 0) 5)], (zx_lay M, n))) rfl ?_
          exact zx_E.rp h rfl (fun h => absurd h (by decide))
        · refine zx_E.pickh (k' := 5) h (by decide) (fun _ h => ?_) (fun _ h => ?_)
          · refine zx_E.go 2 (s' := (80, [some (.inr (some (7, l, i, 0))), some (.inl x0)], [.inl (M (7, l, i, 0) 6)], (zx_lay M, n))) rfl ?_
            exact zx_E.rp h rfl (fun h => absurd h (by decide))
          · refine zx_E.pickh (k' := 6) h (by decide) (fun _ h => ?_) (fun _ h => ?_)
            · refine zx_E.go 2 (s' := (85, [some (.inr (some (7, l, i, 0))), some (.inl x0)], [.inl (M (7, l, i, 0) 7)], (zx_lay M, n))) rfl ?_
              exact zx_E.rp h rfl (fun h => absurd h (by decide))
            · refine zx_E.pickh (k' := 7) h (by decide) (fun _ h => ?_) (fun _ h => ?_)
              · refine zx_E.go 2 (s' := (90, [some (.inr (some (7, l, i, 0))), some (.inl x0)], [.inl (M (7, l, i, 0) 11)], (zx_lay M, n))) rfl ?_
                exact zx_E.rp h rfl (fun h => absurd h (by decide))
              · refine zx_E.pickh (k' := 8) h (by decide) (fun _ h => ?_) (fun _ h => ?_)
                · refine zx_E.go 2 (s' := (95, [some (.inr (some (7, l, i, 0))), some (.inl x0)], [.inl (M (7, l, i, 0) 12)], (zx_lay M, n))) rfl ?_
                  exact zx_E.rp h rfl (fun h => absurd h (by decide))
                · refine zx_E.pickh (k' := 9) h (by decide) (fun _ h => ?_) (fun _ h => ?_)
                  · refine zx_E.go 2 (s' := (100, [some (.inr (some (7, l, i, 0))), some (.inl x0)], [.inl (M (7, l, i, 0) 14)], (zx_lay M, n))) rfl ?_
                    exact zx_E.rp h rfl (fun h => absurd h (by decide))
                  · refine zx_E.pickh (k' := 10) h (by decide) (fun _ h => ?_) (fun _ h => ?_)
                    · refine zx_E.go 2 (s' := (105, [some (.inr (some (7, l, i, 0))), some (.inl x0)], [.inl (M (7, l, i, 0) 8)], (zx_lay M, n))) rfl ?_
                      exact zx_E.rp h rfl (fun h => absurd h (by decide))
                    · show zx_E _ _ _ (106, [some (.inr (some (7, l, i, 0))), some (.inl x0)], [], (zx_lay M, n)) _
                      refine zx_E.go 1 (s' := (107, [some (.inr (some (7, l, i, 0))), some (.inl x0)], [.inl (-1)], (zx_lay M, n))) rfl ?_
                      exact zx_E.rp h rfl (fun h => absurd h (by decide))
def g_X10_train (M : zx_Y) (x0 : Int32) (x1 : Int32) : Option Int32 := (zt M 0 x0 (fun k1 => (zb (g_X9_property M 0 k1 x1) fun v1 => (some v1))) (some (-1)))
set_option maxRecDepth 100000 in
set_option maxHeartbeats 4000000 in
theorem r_X10_train {X : zx_X} {d n : Nat} {M : zx_Y} {x0 : Int32} {x1 : Int32} {rv : Int32} (h : g_X10_train M x0 x1 = some rv) : zx_run X (d + 2) 101 [.inr (some (0, 0, 0, 0)), .inl x0, .inl x1] (zx_lay M, n) (some (.inl rv), (zx_lay M, n)) := by
  refine zx_run_of zc_X10_train [some (.inr (some (0, 0, 0, 0))), some (.inl x0), some (.inl x1), none] rfl rfl ?_
  unfold g_X10_train at h
  refine zx_E.go 3 (s' := (5, [some (.inr (some (0, 0, 0, 0))), some (.inl x0), some (.inl x1), none], [.inl x0, .inr (some (1, 0, 0, 0))], (zx_lay M, n))) rfl ?_
  refine zx_E.tw (y := 18) (as := [.inr (some (1, 0, 0, 0)), .inl x0]) (rest := []) h rfl (fun hq => zx_run_up (by omega) (r_X2_trainWith_1 (d := d) hq)) (fun hq => zx_run_up (by omega) (r_X2_trainWith_0 (d := d) hq)) (fun k1 _ h => ?_) (fun h => ?_)
  · show zx_E _ _ _ (8, [some (.inr (some (0, 0, 0, 0))), some (.inl x0), some (.inl x1), none], [.inr (some (7, 0, k1, 0))], (zx_lay M, n)) _
    refine zx_E.go 5 (s' := (17, [some (.inr (some (0, 0, 0, 0))), some (.inl x0), some (.inl x1), some (.inr (some (7, 0, k1, 0)))], [.inl x1, .inr (some (7, 0, k1, 0))], (zx_lay M, n))) rfl ?_
    refine zx_E.cb (y := 83) (as := [.inr (some (7, 0, k1, 0)), .inl x1]) (rest := []) h rfl (fun _ hv => zx_run_up (by omega) (r_X9_property (d := d) hv)) (fun v1 h => ?_)
    show zx_E _ _ _ (20, [some (.inr (some (0, 0, 0, 0))), some (.inl x0), some (.inl x1), some (.inr (some (7, 0, k1, 0)))], [.inl v1], (zx_lay M, n)) _
    exact zx_E.rp h rfl (fun h => absurd h (by decide))
  · show zx_E _ _ _ (8, [some (.inr (some (0, 0, 0, 0))), some (.inl x0), some (.inl x1), none], [.inr none], (zx_lay M, n)) _
    refine zx_E.go 4 (s' := (14, [some (.inr (some (0, 0, 0, 0))), some (.inl x0), some (.inl x1), some (.inr none)], [.inl (-1)], (zx_lay M, n))) rfl ?_
    exact zx_E.rp h rfl (fun h => absurd h (by decide))
def g_X11_train (M : zx_Y) (x0 : Int32) (x1 : Int32) : Option Int32 := (zb (g_X11_isTrain M x0) fun v1 => (if v1 = 0 then (some (-1)) else (zb (g_X11_isIn M x1 0 9) fun v2 => (if v2 = 0 then (some (-1)) else (if x1 = 0 then (zb (g_X11_at M x0 0) fun v3 => (some v3)) else (if x1 = 1 then (zb (g_X11_at M x0 11) fun v4 => (some v4)) else (if x1 = 2 then (zb (g_X11_at M x0 3) fun v5 => (some v5)) else (if x1 = 3 then (zb (g_X11_at M x0 4) fun v6 => (some v6)) else (if x1 = 4 then (zb (g_X11_at M x0 5) fun v7 => (some v7)) else (if x1 = 5 then (zb (g_X11_at M x0 6) fun v8 => (some v8)) else (if x1 = 6 then (zb (g_X11_at M x0 7) fun v9 => (some v9)) else (if x1 = 7 then (zb (g_X11_at M x0 8) fun v10 => (some v10)) else (if x1 = 8 then (zb (g_X11_at M x0 9) fun v11 => (some v11)) else (zb (g_X11_at M x0 10) fun v12 => (some v12)))))))))))))))
set_option maxRecDepth 100000 in
set_option maxHeartbeats 4000000 in
theorem r_X11_train {X : zx_X} {d n : Nat} {M : zx_Y} {x0 : Int32} {x1 : Int32} {rv : Int32} (h : g_X11_train M x0 x1 = some rv) : zx_run X (d + 3) 176 [.inr (some (25, 0, 0, 0)), .inl x0, .inl x1] (zx_lay M, n) (some (.inl rv), (zx_lay M, n)) := by
  refine zx_run_of zc_X11_train [some (.inr (some (25, 0, 0, 0))), some (.inl x0), some (.inl x1)] rfl rfl ?_
  unfold g_X11_train at h
  refine zx_E.go 2 (s' := (2, [some (.inr (some (25, 0, 0, 0))), some (.inl x0), some (.inl x1)], [.inl x0, .inr (some (25, 0, 0, 0))], (zx_lay M, n))) rfl ?_
  refine zx_E.cb (y := 124) (as := [.inr (some (25, 0, 0, 0)), .inl x0]) (rest := []) h rfl (fun _ hv => zx_run_up (by omega) (r_X11_isTrain (d := d) hv)) (fun v1 h => ?_)
  show zx_E _ _ _ (5, [some (.inr (some (25, 0, 0, 0))), some (.inl x0), some (.inl x1)], [.inl v1], (zx_lay M, n)) _
  refine zx_E.brh (c := v1 = 0) (s1 := (18, [some (.inr (some (25, 0, 0, 0))), some (.inl x0), some (.inl x1)], [], (zx_lay M, n))) (s2 := (8, [some (.inr (some (25, 0, 0, 0))), some (.inl x0), some (.inl x1)], [], (zx_lay M, n))) h (zx_if_eq rfl) (fun _ h => ?_) (fun _ h => ?_)
  · refine zx_E.go 1 (s' := (19, [some (.inr (some (25, 0, 0, 0))), some (.inl x0), some (.inl x1)], [.inl (-1)], (zx_lay M, n))) rfl ?_
    exact zx_E.rp h rfl (fun h => absurd h (by decide))
  · refine zx_E.go 3 (s' := (12, [some (.inr (some (25, 0, 0, 0))), some (.inl x0), some (.inl x1)], [.inl 9, .inl 0, .inl x1], (zx_lay M, n))) rfl ?_
    refine zx_E.cb (y := 121) (as := [.inl x1, .inl 0, .inl 9]) (rest := []) h rfl (fun _ hv => zx_run_up (by omega) (r_X11_isIn (d := d) hv)) (fun v2 h => ?_)
    show zx_E _ _ _ (15, [some (.inr (some (25, 0, 0, 0))), some (.inl x0), some (.inl x1)], [.inl v2], (zx_lay M, n)) _
    refine zx_E.brh (c := v2 = 0) (s1 := (18, [some (.inr (some (25, 0, 0, 0))), some (.inl x0), some (.inl x1)], [], (zx_lay M, n))) (s2 := (20, [some (.inr (some (25, 0, 0, 0))), some (.inl x0), some (.inl x1)], [], (zx_lay M, n))) h (zx_if_ne rfl) (fun _ h => ?_) (fun _ h => ?_)
    · refine zx_E.go 1 (s' := (19, [some (.inr (some (25, 0, 0, 0))), some (.inl x0), some (.inl x1)], [.inl (-1)], (zx_lay M, n))) rfl ?_
      exact zx_E.rp h rfl (fun h => absurd h (by decide))
    · refine zx_E.go 1 (s' := (21, [some (.inr (some (25, 0, 0, 0))), some (.inl x0), some (.inl x1)], [.inl x1], (zx_lay M, n))) rfl ?_
      refine zx_E.one (s' := (zx_pick x1 0 [72, 79, 87, 94, 101, 108, 116, 124, 132] 140, [some (.inr (some (25, 0, 0, 0))), some (.inl x0), some (.inl x1)], [], (zx_lay M, n))) rfl ?_
      refine zx_E.pickh (k' := 1) h (by decide) (fun _ h => ?_) (fun _ h => ?_)
      · refine zx_E.go 3 (s' := (75, [some (.inr (some (25, 0, 0, 0))), some (.inl x0), some (.inl x1)], [.inl 0, .inl x0, .inr (some (25, 0, 0, 0))], (zx_lay M, n))) rfl ?_
        refine zx_E.cb (y := 125) (as := [.inr (some (25, 0, 0, 0)), .inl x0, .inl 0]) (rest := []) h rfl (fun _ hv => zx_run_up (by omega) (r_X11_at (d := d) hv)) (fun v3 h => ?_)
        show zx_E _ _ _ (78, [some (.inr (some (25, 0, 0, 0))), some (.inl x0), some (.inl x1)], [.inl v3], (zx_lay M, n)) _
        exact zx_E.rp h rfl (fun h => absurd h (by decide))
      · refine zx_E.pickh (k' := 2) h (by decide) (fun _ h => ?_) (fun _ h => ?_)
        · refine zx_E.go 3 (s' := (83, [some (.inr (some (25, 0, 0, 0))), some (.inl x0), some (.inl x1)], [.inl 11, .inl x0, .inr (some (25, 0, 0, 0))], (zx_lay M, n))) rfl ?_
          refine zx_E.cb (y := 125) (as := [.inr (some (25, 0, 0, 0)), .inl x0, .inl 11]) (rest := []) h rfl (fun _ hv => zx_run_up (by omega) (r_X11_at (d := d) hv)) (fun v4 h => ?_)
          show zx_E _ _ _ (86, [some (.inr (some (25, 0, 0, 0))), some (.inl x0), some (.inl x1)], [.inl v4], (zx_lay M, n)) _
          exact zx_E.rp h rfl (fun h => absurd h (by decide))
        · refine zx_E.pickh (k' := 3) h (by decide) (fun _ h => ?_) (fun _ h => ?_)
          · refine zx_E.go 3 (s' := (90, [some (.inr (some (25, 0, 0, 0))), some (.inl x0), some (.inl x1)], [.inl 3, .inl x0, .inr (some (25, 0, 0, 0))], (zx_lay M, n))) rfl ?_
            refine zx_E.cb (y := 125) (as := [.inr (some (25, 0, 0, 0)), .inl x0, .inl 3]) (rest := []) h rfl (fun _ hv => zx_run_up (by omega) (r_X11_at (d := d) hv)) (fun v5 h => ?_)
            show zx_E _ _ _ (93, [some (.inr (some (25, 0, 0, 0))), some (.inl x0), some (.inl x1)], [.inl v5], (zx_lay M, n)) _
            exact zx_E.rp h rfl (fun h => absurd h (by decide))
          · refine zx_E.pickh (k' := 4) h (by decide) (fun _ h => ?_) (fun _ h => ?_)
            · refine zx_E.go 3 (s' := (97, [some (.inr (some (25, 0, 0, 0))), some (.inl x0), some (.inl x1)], [.inl 4, .inl x0, .inr (some (25, 0, 0, 0))], (zx_lay M, n))) rfl ?_
              refine zx_E.cb (y := 125) (as := [.inr (some (25, 0, 0, 0)), .inl x0, .inl 4]) (rest := []) h rfl (fun _ hv => zx_run_up (by omega) (r_X11_at (d := d) hv)) (fun v6 h => ?_)
              show zx_E _ _ _ (100, [some (.inr (some (25, 0, 0, 0))), some (.inl x0), some (.inl x1)], [.inl v6], (zx_lay M, n)) _
              exact zx_E.rp h rfl (fun h => absurd h (by decide))
            · refine zx_E.pickh (k' := 5) h (by decide) (fun _ h => ?_) (fun _ h => ?_)
              · refine zx_E.go 3 (s' := (104, [some (.inr (some (25, 0, 0, 0))), some (.inl x0), some (.inl x1)], [.inl 5, .inl x0, .inr (some (25, 0, 0, 0))], (zx_lay M, n))) rfl ?_
                refine zx_E.cb (y := 125) (as := [.inr (some (25, 0, 0, 0)), .inl x0, .inl 5]) (rest := []) h rfl (fun _ hv => zx_run_up (by omega) (r_X11_at (d := d) hv)) (fun v7 h => ?_)
                show zx_E _ _ _ (107, [some (.inr (some (25, 0, 0, 0))), some (.inl x0), some (.inl x1)], [.inl v7], (zx_lay M, n)) _
                exact zx_E.rp h rfl (fun h => absurd h (by decide))
              · refine zx_E.pickh (k' := 6) h (by decide) (fun _ h => ?_) (fun _ h => ?_)
                · refine zx_E.go 3 (s' := (112, [some (.inr (some (25, 0, 0, 0))), some (.inl x0), some (.inl x1)], [.inl 6, .inl x0, .inr (some (25, 0, 0, 0))], (zx_lay M, n))) rfl ?_
                  refine zx_E.cb (y := 125) (as := [.inr (some (25, 0, 0, 0)), .inl x0, .inl 6]) (rest := []) h rfl (fun _ hv => zx_run_up (by omega) (r_X11_at (d := d) hv)) (fun v8 h => ?_)
                  show zx_E _ _ _ (115, [some (.inr (some (25, 0, 0, 0))), some (.inl x0), some (.inl x1)], [.inl v8], (zx_lay M, n)) _
                  exact zx_E.rp h rfl (fun h => absurd h (by decide))
                · refine zx_E.pickh (k' := 7) h (by decide) (fun _ h => ?_) (fun _ h => ?_)
                  · refine zx_E.go 3 (s' := (120, [some (.inr (some (25, 0, 0, 0))), some (.inl x0), some (.inl x1)], [.inl 7, .inl x0, .inr (some (25, 0, 0, 0))], (zx_lay M, n))) rfl ?_
                    refine zx_E.cb (y := 125) (as := [.inr (some (25, 0, 0, 0)), .inl x0, .inl 7]) (rest := []) h rfl (fun _ hv => zx_run_up (by omega) (r_X11_at (d := d) hv)) (fun v9 h => ?_)
                    show zx_E _ _ _ (123, [some (.inr (some (25, 0, 0, 0))), some (.inl x0), some (.inl x1)], [.inl v9], (zx_lay M, n)) _
                    exact zx_E.rp h rfl (fun h => absurd h (by decide))
                  · refine zx_E.pickh (k' := 8) h (by decide) (fun _ h => ?_) (fun _ h => ?_)
                    · refine zx_E.go 3 (s' := (128, [some (.inr (some (25, 0, 0, 0))), some (.inl x0), some (.inl x1)], [.inl 8, .inl x0, .inr (some (25, 0, 0, 0))], (zx_lay M, n))) rfl ?_
                      refine zx_E.cb (y := 125) (as := [.inr (some (25, 0, 0, 0)), .inl x0, .inl 8]) (rest := []) h rfl (fun _ hv => zx_run_up (by omega) (r_X11_at (d := d) hv)) (fun v10 h => ?_)
                      show zx_E _ _ _ (131, [some (.inr (some (25, 0, 0, 0))), some (.inl x0), some (.inl x1)], [.inl v10], (zx_lay M, n)) _
                      exact zx_E.rp h rfl (fun h => absurd h (by decide))
                    · refine zx_E.pickh (k' := 9) h (by decide) (fun _ h => ?_) (fun _ h => ?_)
                      · refine zx_E.go 3 (s' := (136, [some (.inr (some (25, 0, 0, 0))), some (.inl x0), some (.inl x1)], [.inl 9, .inl x0, .inr (some (25, 0, 0, 0))], (zx_lay M, n))) rfl ?_
                        refine zx_E.cb (y := 125) (as := [.inr (some (25, 0, 0, 0)), .inl x0, .inl 9]) (rest := []) h rfl (fun _ hv => zx_run_up (by omega) (r_X11_at (d := d) hv)) (fun v11 h => ?_)
                        show zx_E _ _ _ (139, [some (.inr (some (25, 0, 0, 0))), some (.inl x0), some (.inl x1)], [.inl v11], (zx_lay M, n)) _
                        exact zx_E.rp h rfl (fun h => absurd h (by decide))
                      · show zx_E _ _ _ (140, [some (.inr (some (25, 0, 0, 0))), some (.inl x0), some (.inl x1)], [], (zx_lay M, n)) _
                        refine zx_E.go 3 (s' := (144, [some (.inr (some (25, 0, 0, 0))), some (.inl x0), some (.inl x1)], [.inl 10, .inl x0, .inr (some (25, 0, 0, 0))], (zx_lay M, n))) rfl ?_
                        refine zx_E.cb (y := 125) (as := [.inr (some (25, 0, 0, 0)), .inl x0, .inl 10]) (rest := []) h rfl (fun _ hv => zx_run_up (by omega) (r_X11_at (d := d) hv)) (fun v12 h => ?_)
                        show zx_E _ _ _ (147, [some (.inr (some (25, 0, 0, 0))), some (.inl x0), some (.inl x1)], [.inl v12], (zx_lay M, n)) _
                        exact zx_E.rp h rfl (fun h => absurd h (by decide))
def g_X9_isInStation (M : zx_Y) (l : Nat) (i : Nat) : Option Int32 := (if (M (7, l, i, 0) 1) = 1 then (some 1) else (if (M (7, l, i, 0) 1) = 3 then (some 1) else (some 0)))
set_option maxRecDepth 100000 in
set_option maxHeartbeats 4000000 in
theorem r_X9_isInStation {X : zx_X} {d n : Nat} {M : zx_Y} {l : Nat} {i : Nat} {rv : Int32} (h : g_X9_isInStation M l i = some rv) : zx_run X (d + 1) 84 [.inr (some (7, l, i, 0))] (zx_lay M, n) (some (.inl rv), (zx_lay M, n)) := by
  refine zx_run_of zc_X9_isInStation [some (.inr (some (7, l, i, 0)))] rfl rfl ?_
  unfold g_X9_isInStation at h
  refine zx_E.go 3 (s' := (5, [some (.inr (some (7, l, i, 0)))], [.inl 1, .inl (M (7, l, i, 0) 1)], (zx_lay M, n))) rfl ?_
  refine zx_E.brh (c := (M (7, l, i, 0) 1) = 1) (s1 := (16, [some (.inr (some (7, l, i, 0)))], [], (zx_lay M, n))) (s2 := (8, [some (.inr (some (7, l, i, 0)))], [], (zx_lay M, n))) h (zx_ic_eq rfl) (fun _ h => ?_) (fun _ h => ?_)
  · refine zx_E.go 2 (s' := (21, [some (.inr (some (7, l, i, 0)))], [.inl 1], (zx_lay M, n))) rfl ?_
    exact zx_E.rp h rfl (fun _ => Or.inr rfl)
  · refine zx_E.go 3 (s' := (13, [some (.inr (some (7, l, i, 0)))], [.inl 3, .inl (M (7, l, i, 0) 1)], (zx_lay M, n))) rfl ?_
    refine zx_E.brh (c := (M (7, l, i, 0) 1) = 3) (s1 := (16, [some (.inr (some (7, l, i, 0)))], [], (zx_lay M, n))) (s2 := (20, [some (.inr (some (7, l, i, 0)))], [], (zx_lay M, n))) h (zx_ic_ne rfl) (fun _ h => ?_) (fun _ h => ?_)
    · refine zx_E.go 2 (s' := (21, [some (.inr (some (7, l, i, 0)))], [.inl 1], (zx_lay M, n))) rfl ?_
      exact zx_E.rp h rfl (fun _ => Or.inr rfl)
    · refine zx_E.go 1 (s' := (21, [some (.inr (some (7, l, i, 0)))], [.inl 0], (zx_lay M, n))) rfl ?_
      exact zx_E.rp h rfl (fun _ => Or.inl rfl)
def lg_X2_trainsIn_4 (M : zx_Y) (l : Nat) (x0 : Int32) (kk : Int32 → Int32 → Option Int32) : Nat → Int32 → Int32 → Option Int32
  | 0, _, _ => none
  | q + 1, w2, w3 => (if (M (1, l, 0, 0) 4) ≤ w3 then (kk w2 w3) else (zi w3 10 fun k1 => (zb (g_X9_isInStation M l k1) fun v1 => (if v1 = 0 then (lg_X2_trainsIn_4 M l x0 kk q w2 (w3 + 1)) else (zi w3 10 fun k2 => (if (M (7, l, k2, 0) 9) = x0 then (lg_X2_trainsIn_4 M l x0 kk q (w2 ||| (1 <<< (w3 &&& 31))) (w3 + 1)) else (lg_X2_trainsIn_4 M l x0 kk q w2 (w3 + 1))))))))
set_option maxRecDepth 100000 in
set_option maxHeartbeats 4000000 in
theorem rl_X2_trainsIn_4 {X : zx_X} {d n : Nat} {M : zx_Y} {l : Nat} {x0 : Int32} {kk : Int32 → Int32 → Option Int32} {rv : Int32} (hk : ∀ (w2 : Int32) (w3 : Int32), kk w2 w3 = some rv → zx_E X (d + 1) zc_X2_trainsIn (49, [some (.inr (some (1, l, 0, 0))), some (.inl x0), some (.inl w2), some (.inl w3)], [], (zx_lay M, n)) (some (.inl rv), (zx_lay M, n))) : ∀ (q : Nat) (w2 : Int32) (w3 : Int32), lg_X2_trainsIn_4 M l x0 kk q w2 w3 = some rv → zx_E X (d + 1) zc_X2_trainsIn (4, [some (.inr (some (1, l, 0, 0))), some (.inl x0), some (.inl w2), some (.inl w3)], [], (zx_lay M, n)) (some (.inl rv), (zx_lay M, n))
  | 0, w2, w3, h => by
    rw [lg_X2_trainsIn_4.eq_1] at h
    cases h
  | q + 1, w2, w3, h => by
    rw [lg_X2_trainsIn_4.eq_2] at h
    refine zx_E.go 3 (s' := (9, [some (.inr (some (1, l, 0, 0))), some (.inl x0), some (.inl w2), some (.inl w3)], [.inl (M (1, l, 0, 0) 4), .inl w3], (zx_lay M, n))) rfl ?_
    refine zx_E.brh (c := (M (1, l, 0, 0) 4) ≤ w3) (s1 := (49, [some (.inr (some (1, l, 0, 0))), some (.inl x0), some (.inl w2), some (.inl w3)], [], (zx_lay M, n))) (s2 := (12, [some (.inr (some (1, l, 0, 0))), some (.inl x0), some (.inl w2), some (.inl w3)], [], (zx_lay M, n))) h (zx_ic_ge rfl) (fun _ h => ?_) (fun _ h => ?_)
    · exact hk _ _ h
    · refine zx_E.go 3 (s' := (17, [some (.inr (some (1, l, 0, 0))), some (.inl x0), some (.inl w2), some (.inl w3)], [.inl w3, .inr (some (6, l, 0, 0))], (zx_lay M, n))) rfl ?_
      refine zx_E.ix h (fun k1 hx_k1 hl_k1 h => ?_)
      refine zx_E.aald (k := k1) (h := (6, l, 0, 0)) (h' := (7, l, k1, 0)) rfl rfl hx_k1 hl_k1 rfl ?_
      show zx_E _ _ _ (18, [some (.inr (some (1, l, 0, 0))), some (.inl x0), some (.inl w2), some (.inl w3)], [.inr (some (7, l, k1, 0))], (zx_lay M, n)) _
      refine zx_E.cb (y := 84) (as := [.inr (some (7, l, k1, 0))]) (rest := []) h rfl (fun _ hv => zx_run_up (by omega) (r_X9_isInStation (d := d) hv)) (fun v1 h => ?_)
      show zx_E _ _ _ (21, [some (.inr (some (1, l, 0, 0))), some (.inl x0), some (.inl w2), some (.inl w3)], [.inl v1], (zx_lay M, n)) _
      refine zx_E.brh (c := v1 = 0) (s1 := (43, [some (.inr (some (1, l, 0, 0))), some (.inl x0), some (.inl w2), some (.inl w3)], [], (zx_lay M, n))) (s2 := (24, [some (.inr (some (1, l, 0, 0))), some (.inl x0), some (.inl w2), some (.inl w3)], [], (zx_lay M, n))) h (zx_if_eq rfl) (fun _ h => ?_) (fun _ h => ?_)
      · refine zx_E.go 2 (s' := (4, [some (.inr (some (1, l, 0, 0))), some (.inl x0), some (.inl w2), some (.inl (w3 + 1))], [], (zx_lay M, n))) rfl ?_
        exact rl_X2_trainsIn_4 hk q w2 (w3 + 1) h
      · refine zx_E.go 3 (s' := (29, [some (.inr (some (1, l, 0, 0))), some (.inl x0), some (.inl w2), some (.inl w3)], [.inl w3, .inr (some (6, l, 0, 0))], (zx_lay M, n))) rfl ?_
        refine zx_E.ix h (fun k2 hx_k2 hl_k2 h => ?_)
        refine zx_E.aald (k := k2) (h := (6, l, 0, 0)) (h' := (7, l, k2, 0)) rfl rfl hx_k2 hl_k2 rfl ?_
        show zx_E _ _ _ (30, [some (.inr (some (1, l, 0, 0))), some (.inl x0), some (.inl w2), some (.inl w3)], [.inr (some (7, l, k2, 0))], (zx_lay M, n)) _
        refine zx_E.go 2 (s' := (34, [some (.inr (some (1, l, 0, 0))), some (.inl x0), some (.inl w2), some (.inl w3)], [.inl x0, .inl (M (7, l, k2, 0) 9)], (zx_lay M, n))) rfl ?_
        refine zx_E.brh (c := (M (7, l, k2, 0) 9) = x0) (s1 := (37, [some (.inr (some (1, l, 0, 0))), some (.inl x0), some (.inl w2), some (.inl w3)], [], (zx_lay M, n))) (s2 := (43, [some (.inr (some (1, l, 0, 0))), some (.inl x0), some (.inl w2), some (.inl w3)], [], (zx_lay M, n))) h (zx_ic_ne rfl) (fun _ h => ?_) (fun _ h => ?_)
        · refine zx_E.go 8 (s' := (4, [some (.inr (some (1, l, 0, 0))), some (.inl x0), some (.inl (w2 ||| (1 <<< (w3 &&& 31)))), some (.inl (w3 + 1))], [], (zx_lay M, n))) rfl ?_
          exact rl_X2_trainsIn_4 hk q (w2 ||| (1 <<< (w3 &&& 31))) (w3 + 1) h
        · refine zx_E.go 2 (s' := (4, [some (.inr (some (1, l, 0, 0))), some (.inl x0), some (.inl w2), some (.inl (w3 + 1))], [], (zx_lay M, n))) rfl ?_
          exact rl_X2_trainsIn_4 hk q w2 (w3 + 1) h
def g_X2_trainsIn (M : zx_Y) (l : Nat) (x0 : Int32) : Option Int32 := (lg_X2_trainsIn_4 M l x0 (fun v1 v2 => (some v1)) 1000 0 0)
set_option maxRecDepth 100000 in
set_option maxHeartbeats 4000000 in
theorem r_X2_trainsIn {X : zx_X} {d n : Nat} {M : zx_Y} {l : Nat} {x0 : Int32} {rv : Int32} (h : g_X2_trainsIn M l x0 = some rv) : zx_run X (d + 2) 39 [.inr (some (1, l, 0, 0)), .inl x0] (zx_lay M, n) (some (.inl rv), (zx_lay M, n)) := by
  refine zx_run_of zc_X2_trainsIn [some (.inr (some (1, l, 0, 0))), some (.inl x0), none, none] rfl rfl ?_
  unfold g_X2_trainsIn at h
  refine zx_E.go 4 (s' := (4, [some (.inr (some (1, l, 0, 0))), some (.inl x0), some (.inl 0), some (.inl 0)], [], (zx_lay M, n))) rfl ?_
  refine rl_X2_trainsIn_4 (fun v1 v2 h => ?_) 1000  0 0  h
  refine zx_E.go 1 (s' := (50, [some (.inr (some (1, l, 0, 0))), some (.inl x0), some (.inl v1), some (.inl v2)], [.inl v1], (zx_lay M, n))) rfl ?_
  exact zx_E.rp h rfl (fun h => absurd h (by decide))
def g_X10_station (M : zx_Y) (x0 : Int32) (x1 : Int32) : Option Int32 := (zb (g_X2_exists M 0) fun v1 => (if v1 = 0 then (some (-3)) else (zb (g_X2_hasStation M 0 x0) fun v2 => (if v2 = 0 then (some (-1)) else (if x1 = 0 then (zi x0 8 fun k1 => (some (M (3, 0, k1, 0) 0))) else (if x1 = 1 then (zb (g_X2_takenTracks M 0 x0) fun v3 => (some v3)) else (if x1 = 2 then (zi x0 8 fun k2 => (if (M (3, 0, k2, 0) 1) = 0 then (some 0) else (some 1))) else (if x1 = 3 then (zb (g_X2_trainsIn M 0 x0) fun v4 => (some v4)) else (if x1 = 4 then (zi x0 8 fun k3 => (some (M (3, 0, k3, 0) 2))) else (some (-1)))))))))))
set_option maxRecDepth 100000 in
set_option maxHeartbeats 4000000 in
theorem r_X10_station {X : zx_X} {d n : Nat} {M : zx_Y} {x0 : Int32} {x1 : Int32} {rv : Int32} (h : g_X10_station M x0 x1 = some rv) : zx_run X (d + 3) 102 [.inr (some (0, 0, 0, 0)), .inl x0, .inl x1] (zx_lay M, n) (some (.inl rv), (zx_lay M, n)) := by
  refine zx_run_of zc_X10_station [some (.inr (some (0, 0, 0, 0))), some (.inl x0), some (.inl x1)] rfl rfl ?_
  unfold g_X10_station at h
  refine zx_E.go 2 (s' := (4, [some (.inr (some (0, 0, 0, 0))), some (.inl x0), some (.inl x1)], [.inr (some (1, 0, 0, 0))], (zx_lay M, n))) rfl ?_
  refine zx_E.cb (y := 15) (as := [.inr (some (1, 0, 0, 0))]) (rest := []) h rfl (fun _ hv => zx_run_up (by omega) (r_X2_exists (d := d) hv)) (fun v1 h => ?_)
  show zx_E _ _ _ (7, [some (.inr (some (0, 0, 0, 0))), some (.inl x0), some (.inl x1)], [.inl v1], (zx_lay M, n)) _
  refine zx_E.brh (c := v1 = 0) (s1 := (10, [some (.inr (some (0, 0, 0, 0))), some (.inl x0), some (.inl x1)], [], (zx_lay M, n))) (s2 := (13, [some (.inr (some (0, 0, 0, 0))), some (.inl x0), some (.inl x1)], [], (zx_lay M, n))) h (zx_if_ne rfl) (fun _ h => ?_) (fun _ h => ?_)
  · refine zx_E.go 1 (s' := (12, [some (.inr (some (0, 0, 0, 0))), some (.inl x0), some (.inl x1)], [.inl (-3)], (zx_lay M, n))) rfl ?_
    exact zx_E.rp h rfl (fun h => absurd h (by decide))
  · refine zx_E.go 3 (s' := (18, [some (.inr (some (0, 0, 0, 0))), some (.inl x0), some (.inl x1)], [.inl x0, .inr (some (1, 0, 0, 0))], (zx_lay M, n))) rfl ?_
    refine zx_E.cb (y := 16) (as := [.inr (some (1, 0, 0, 0)), .inl x0]) (rest := []) h rfl (fun _ hv => zx_run_up (by omega) (r_X2_hasStation (d := d) hv)) (fun v2 h => ?_)
    show zx_E _ _ _ (21, [some (.inr (some (0, 0, 0, 0))), some (.inl x0), some (.inl x1)], [.inl v2], (zx_lay M, n)) _
    refine zx_E.brh (c := v2 = 0) (s1 := (24, [some (.inr (some (0, 0, 0, 0))), some (.inl x0), some (.inl x1)], [], (zx_lay M, n))) (s2 := (26, [some (.inr (some (0, 0, 0, 0))), some (.inl x0), some (.inl x1)], [], (zx_lay M, n))) h (zx_if_ne rfl) (fun _ h => ?_) (fun _ h => ?_)
    · refine zx_E.go 1 (s' := (25, [some (.inr (some (0, 0, 0, 0))), some (.inl x0), some (.inl x1)], [.inl (-1)], (zx_lay M, n))) rfl ?_
      exact zx_E.rp h rfl (fun h => absurd h (by decide))
    · refine zx_E.go 1 (s' := (27, [some (.inr (some (0, 0, 0, 0))), some (.inl x0), some (.inl x1)], [.inl x1], (zx_lay M, n))) rfl ?_
      refine zx_E.one (s' := (zx_pick x1 0 [60, 73, 82, 103, 112] 125, [some (.inr (some (0, 0, 0, 0))), some (.inl x0), some (.inl x1)], [], (zx_lay M, n))) rfl ?_
      refine zx_E.pickh (k' := 1) h (by decide) (fun _ h => ?_) (fun _ h => ?_)
      · refine zx_E.go 4 (s' := (68, [some (.inr (some (0, 0, 0, 0))), some (.inl x0), some (.inl x1)], [.inl x0, .inr (some (2, 0, 0, 0))], (zx_lay M, n))) rfl ?_
        refine zx_E.ix h (fun k1 hx_k1 hl_k1 h => ?_)
        refine zx_E.aald (k := k1) (h := (2, 0, 0, 0)) (h' := (3, 0, k1, 0)) rfl rfl hx_k1 hl_k1 rfl ?_
        show zx_E _ _ _ (69, [some (.inr (some (0, 0, 0, 0))), some (.inl x0), some (.inl x1)], [.inr (some (3, 0, k1, 0))], (zx_lay M, n)) _
        refine zx_E.go 1 (s' := (72, [some (.inr (some (0, 0, 0, 0))), some (.inl x0), some (.inl x1)], [.inl (M (3, 0, k1, 0) 0)], (zx_lay M, n))) rfl ?_
        exact zx_E.rp h rfl (fun h => absurd h (by decide))
      · refine zx_E.pickh (k' := 2) h (by decide) (fun _ h => ?_) (fun _ h => ?_)
        · refine zx_E.go 3 (s' := (78, [some (.inr (some (0, 0, 0, 0))), some (.inl x0), some (.inl x1)], [.inl x0, .inr (some (1, 0, 0, 0))], (zx_lay M, n))) rfl ?_
          refine zx_E.cb (y := 37) (as := [.inr (some (1, 0, 0, 0)), .inl x0]) (rest := []) h rfl (fun _ hv => zx_run_up (by omega) (r_X2_takenTracks (d := d) hv)) (fun v3 h => ?_)
          show zx_E _ _ _ (81, [some (.inr (some (0, 0, 0, 0))), some (.inl x0), some (.inl x1)], [.inl v3], (zx_lay M, n)) _
          exact zx_E.rp h rfl (fun h => absurd h (by decide))
        · refine zx_E.pickh (k' := 3) h (by decide) (fun _ h => ?_) (fun _ h => ?_)
          · refine zx_E.go 4 (s' := (90, [some (.inr (some (0, 0, 0, 0))), some (.inl x0), some (.inl x1)], [.inl x0, .inr (some (2, 0, 0, 0))], (zx_lay M, n))) rfl ?_
            refine zx_E.ix h (fun k2 hx_k2 hl_k2 h => ?_)
            refine zx_E.aald (k := k2) (h := (2, 0, 0, 0)) (h' := (3, 0, k2, 0)) rfl rfl hx_k2 hl_k2 rfl ?_
            show zx_E _ _ _ (91, [some (.inr (some (0, 0, 0, 0))), some (.inl x0), some (.inl x1)], [.inr (some (3, 0, k2, 0))], (zx_lay M, n)) _
            refine zx_E.go 1 (s' := (94, [some (.inr (some (0, 0, 0, 0))), some (.inl x0), some (.inl x1)], [.inl (M (3, 0, k2, 0) 1)], (zx_lay M, n))) rfl ?_
            refine zx_E.brh (c := (M (3, 0, k2, 0) 1) = 0) (s1 := (101, [some (.inr (some (0, 0, 0, 0))), some (.inl x0), some (.inl x1)], [], (zx_lay M, n))) (s2 := (97, [some (.inr (some (0, 0, 0, 0))), some (.inl x0), some (.inl x1)], [], (zx_lay M, n))) h (zx_if_eq rfl) (fun _ h => ?_) (fun _ h => ?_)
            · refine zx_E.go 1 (s' := (102, [some (.inr (some (0, 0, 0, 0))), some (.inl x0), some (.inl x1)], [.inl 0], (zx_lay M, n))) rfl ?_
              exact zx_E.rp h rfl (fun h => absurd h (by decide))
            · refine zx_E.go 2 (s' := (102, [some (.inr (some (0, 0, 0, 0))), some (.inl x0), some (.inl x1)], [.inl 1], (zx_lay M, n))) rfl ?_
              exact zx_E.rp h rfl (fun h => absurd h (by decide))
          · refine zx_E.pickh (k' := 4) h (by decide) (fun _ h => ?_) (fun _ h => ?_)
            · refine zx_E.go 3 (s' := (108, [some (.inr (some (0, 0, 0, 0))), some (.inl x0), some (.inl x1)], [.inl x0, .inr (some (1, 0, 0, 0))], (zx_lay M, n))) rfl ?_
              refine zx_E.cb (y := 39) (as := [.inr (some (1, 0, 0, 0)), .inl x0]) (rest := []) h rfl (fun _ hv => zx_run_up (by omega) (r_X2_trainsIn (d := d) hv)) (fun v4 h => ?_)
              show zx_E _ _ _ (111, [some (.inr (some (0, 0, 0, 0))), some (.inl x0), some (.inl x1)], [.inl v4], (zx_lay M, n)) _
              exact zx_E.rp h rfl (fun h => absurd h (by decide))
            · refine zx_E.pickh (k' := 5) h (by decide) (fun _ h => ?_) (fun _ h => ?_)
              · refine zx_E.go 4 (s' := (120, [some (.inr (some (0, 0, 0, 0))), some (.inl x0), some (.inl x1)], [.inl x0, .inr (some (2, 0, 0, 0))], (zx_lay M, n))) rfl ?_
                refine zx_E.ix h (fun k3 hx_k3 hl_k3 h => ?_)
                refine zx_E.aald (k := k3) (h := (2, 0, 0, 0)) (h' := (3, 0, k3, 0)) rfl rfl hx_k3 hl_k3 rfl ?_
                show zx_E _ _ _ (121, [some (.inr (some (0, 0, 0, 0))), some (.inl x0), some (.inl x1)], [.inr (some (3, 0, k3, 0))], (zx_lay M, n)) _
                refine zx_E.go 1 (s' := (124, [some (.inr (some (0, 0, 0, 0))), some (.inl x0), some (.inl x1)], [.inl (M (3, 0, k3, 0) 2)], (zx_lay M, n))) rfl ?_
                exact zx_E.rp h rfl (fun h => absurd h (by decide))
              · show zx_E _ _ _ (125, [some (.inr (some (0, 0, 0, 0))), some (.inl x0), some (.inl x1)], [], (zx_lay M, n)) _
                refine zx_E.go 1 (s' := (126, [some (.inr (some (0, 0, 0, 0))), some (.inl x0), some (.inl x1)], [.inl (-1)], (zx_lay M, n))) rfl ?_
                exact zx_E.rp h rfl (fun h => absurd h (by decide))
def lg_X11_station_36 (M : zx_Y) (x0 : Int32) (x1 : Int32) (kk : Int32 → Int32 → Option Int32) : Nat → Int32 → Int32 → Option Int32
  | 0, _, _ => none
  | q + 1, w3, w4 => (if (M (26, 0, 0, 0) 27) ≤ w4 then (kk w3 w4) else (zb (g_X11_isInStation M w4 x0) fun v1 => (if v1 = 0 then (lg_X11_station_36 M x0 x1 kk q (w3 ||| 0) (w4 + 1)) else (lg_X11_station_36 M x0 x1 kk q (w3 ||| (1 <<< (w4 &&& 31))) (w4 + 1)))))
set_option maxRecDepth 100000 in
set_option maxHeartbeats 4000000 in
theorem rl_X11_station_36 {X : zx_X} {d n : Nat} {M : zx_Y} {x0 : Int32} {x1 : Int32} {kk : Int32 → Int32 → Option Int32} {rv : Int32} (hk : ∀ (w3 : Int32) (w4 : Int32), kk w3 w4 = some rv → zx_E X (d + 4) zc_X11_station (75, [some (.inr (some (25, 0, 0, 0))), some (.inl x0), some (.inl x1), some (.inl w3), some (.inl w4)], [], (zx_lay M, n)) (some (.inl rv), (zx_lay M, n))) : ∀ (q : Nat) (w3 : Int32) (w4 : Int32), lg_X11_station_36 M x0 x1 kk q w3 w4 = some rv → zx_E X (d + 4) zc_X11_station (36, [some (.inr (some (25, 0, 0, 0))), some (.inl x0), some (.inl x1), some (.inl w3), some (.inl w4)], [], (zx_lay M, n)) (some (.inl rv), (zx_lay M, n))
  | 0, w3, w4, h => by
    rw [lg_X11_station_36.eq_1] at h
    cases h
  | q + 1, w3, w4, h => by
    rw [lg_X11_station_36.eq_2] at h
    refine zx_E.go 4 (s' := (44, [some (.inr (some (25, 0, 0, 0))), some (.inl x0), some (.inl x1), some (.inl w3), some (.inl w4)], [.inl 27, .inr (some (26, 0, 0, 0)), .inl w4], (zx_lay M, n))) rfl ?_
    refine zx_E.iald (k := 27) (h := (26, 0, 0, 0)) rfl rfl rfl (by decide) ?_
    show zx_E _ _ _ (45, [some (.inr (some (25, 0, 0, 0))), some (.inl x0), some (.inl x1), some (.inl w3), some (.inl w4)], [.inl (M (26, 0, 0, 0) 27), .inl w4], (zx_lay M, n)) _
    refine zx_E.brh (c := (M (26, 0, 0, 0) 27) ≤ w4) (s1 := (75, [some (.inr (some (25, 0, 0, 0))), some (.inl x0), some (.inl x1), some (.inl w3), some (.inl w4)], [], (zx_lay M, n))) (s2 := (48, [some (.inr (some (25, 0, 0, 0))), some (.inl x0), some (.inl x1), some (.inl w3), some (.inl w4)], [], (zx_lay M, n))) h (zx_ic_ge rfl) (fun _ h => ?_) (fun _ h => ?_)
    · exact hk _ _ h
    · refine zx_E.go 4 (s' := (53, [some (.inr (some (25, 0, 0, 0))), some (.inl x0), some (.inl x1), some (.inl w3), some (.inl w4)], [.inl x0, .inl w4, .inr (some (25, 0, 0, 0)), .inl w3], (zx_lay M, n))) rfl ?_
      refine zx_E.cb (y := 130) (as := [.inr (some (25, 0, 0, 0)), .inl w4, .inl x0]) (rest := [.inl w3]) h rfl (fun _ hv => zx_run_up (by omega) (r_X11_isInStation (d := d) hv)) (fun v1 h => ?_)
      show zx_E _ _ _ (56, [some (.inr (some (25, 0, 0, 0))), some (.inl x0), some (.inl x1), some (.inl w3), some (.inl w4)], [.inl v1, .inl w3], (zx_lay M, n)) _
      refine zx_E.brh (c := v1 = 0) (s1 := (66, [some (.inr (some (25, 0, 0, 0))), some (.inl x0), some (.inl x1), some (.inl w3), some (.inl w4)], [.inl w3], (zx_lay M, n))) (s2 := (59, [some (.inr (some (25, 0, 0, 0))), some (.inl x0), some (.inl x1), some (.inl w3), some (.inl w4)], [.inl w3], (zx_lay M, n))) h (zx_if_eq rfl) (fun _ h => ?_) (fun _ h => ?_)
      · refine zx_E.go 5 (s' := (36, [some (.inr (some (25, 0, 0, 0))), some (.inl x0), some (.inl x1), some (.inl (w3 ||| 0)), some (.inl (w4 + 1))], [], (zx_lay M, n))) rfl ?_
        exact rl_X11_station_36 hk q (w3 ||| 0) (w4 + 1) h
      · refine zx_E.go 8 (s' := (36, [some (.inr (some (25, 0, 0, 0))), some (.inl x0), some (.inl x1), some (.inl (w3 ||| (1 <<< (w4 &&& 31)))), some (.inl (w4 + 1))], [], (zx_lay M, n))) rfl ?_
        exact rl_X11_station_36 hk q (w3 ||| (1 <<< (w4 &&& 31))) (w4 + 1) h
def g_X11_station (M : zx_Y) (x0 : Int32) (x1 : Int32) : Option Int32 := (if (M (26, 0, 0, 0) 1) = 0 then (some (-3)) else (zb (g_X11_isStation M x0) fun v1 => (if v1 = 0 then (some (-1)) else (zb (g_X11_isIn M x1 0 4) fun v2 => (if v2 = 0 then (some (-1)) else (lg_X11_station_36 M x0 x1 (fun v3 v4 => (if x1 = 0 then (zi (9 + x0) 640 fun k1 => (some (M (26, 0, 0, 0) k1))) else (if x1 = 1 then (zb (g_X11_taken M x0) fun v5 => (some v5)) else (if x1 = 2 then (zi (17 + x0) 640 fun k2 => (some (M (26, 0, 0, 0) k2))) else (if x1 = 3 then (some v3) else (zi (28 + x0) 640 fun k3 => (some (M (26, 0, 0, 0) k3)))))))) 1000 0 0))))))
set_option maxRecDepth 100000 in
set_option maxHeartbeats 4000000 in
theorem r_X11_station {X : zx_X} {d n : Nat} {M : zx_Y} {x0 : Int32} {x1 : Int32} {rv : Int32} (h : g_X11_station M x0 x1 = some rv) : zx_run X (d + 5) 177 [.inr (some (25, 0, 0, 0)), .inl x0, .inl x1] (zx_lay M, n) (some (.inl rv), (zx_lay M, n)) := by
  refine zx_run_of zc_X11_station [some (.inr (some (25, 0, 0, 0))), some (.inl x0), some (.inl x1), none, none] rfl rfl ?_
  unfold g_X11_station at h
  refine zx_E.go 3 (s' := (5, [some (.inr (some (25, 0, 0, 0))), some (.inl x0), some (.inl x1), none, none], [.inl 1, .inr (some (26, 0, 0, 0))], (zx_lay M, n))) rfl ?_
  refine zx_E.iald (k := 1) (h := (26, 0, 0, 0)) rfl rfl rfl (by decide) ?_
  show zx_E _ _ _ (6, [some (.inr (some (25, 0, 0, 0))), some (.inl x0), some (.inl x1), none, none], [.inl (M (26, 0, 0, 0) 1)], (zx_lay M, n)) _
  refine zx_E.brh (c := (M (26, 0, 0, 0) 1) = 0) (s1 := (9, [some (.inr (some (25, 0, 0, 0))), some (.inl x0), some (.inl x1), none, none], [], (zx_lay M, n))) (s2 := (12, [some (.inr (some (25, 0, 0, 0))), some (.inl x0), some (.inl x1), none, none], [], (zx_lay M, n))) h (zx_if_ne rfl) (fun _ h => ?_) (fun _ h => ?_)
  · refine zx_E.go 1 (s' := (11, [some (.inr (some (25, 0, 0, 0))), some (.inl x0), some (.inl x1), none, none], [.inl (-3)], (zx_lay M, n))) rfl ?_
    exact zx_E.rp h rfl (fun h => absurd h (by decide))
  · refine zx_E.go 2 (s' := (14, [some (.inr (some (25, 0, 0, 0))), some (.inl x0), some (.inl x1), none, none], [.inl x0, .inr (some (25, 0, 0, 0))], (zx_lay M, n))) rfl ?_
    refine zx_E.cb (y := 122) (as := [.inr (some (25, 0, 0, 0)), .inl x0]) (rest := []) h rfl (fun _ hv => zx_run_up (by omega) (r_X11_isStation (d := d) hv)) (fun v1 h => ?_)
    show zx_E _ _ _ (17, [some (.inr (some (25, 0, 0, 0))), some (.inl x0), some (.inl x1), none, none], [.inl v1], (zx_lay M, n)) _
    refine zx_E.brh (c := v1 = 0) (s1 := (29, [some (.inr (some (25, 0, 0, 0))), some (.inl x0), some (.inl x1), none, none], [], (zx_lay M, n))) (s2 := (20, [some (.inr (some (25, 0, 0, 0))), some (.inl x0), some (.inl x1), none, none], [], (zx_lay M, n))) h (zx_if_eq rfl) (fun _ h => ?_) (fun _ h => ?_)
    · refine zx_E.go 1 (s' := (30, [some (.inr (some (25, 0, 0, 0))), some (.inl x0), some (.inl x1), none, none], [.inl (-1)], (zx_lay M, n))) rfl ?_
      exact zx_E.rp h rfl (fun h => absurd h (by decide))
    · refine zx_E.go 3 (s' := (23, [some (.inr (some (25, 0, 0, 0))), some (.inl x0), some (.inl x1), none, none], [.inl 4, .inl 0, .inl x1], (zx_lay M, n))) rfl ?_
      refine zx_E.cb (y := 121) (as := [.inl x1, .inl 0, .inl 4]) (rest := []) h rfl (fun _ hv => zx_run_up (by omega) (r_X11_isIn (d := d) hv)) (fun v2 h => ?_)
      show zx_E _ _ _ (26, [some (.inr (some (25, 0, 0, 0))), some (.inl x0), some (.inl x1), none, none], [.inl v2], (zx_lay M, n)) _
      refine zx_E.brh (c := v2 = 0) (s1 := (29, [some (.inr (some (25, 0, 0, 0))), some (.inl x0), some (.inl x1), none, none], [], (zx_lay M, n))) (s2 := (31, [some (.inr (some (25, 0, 0, 0))), some (.inl x0), some (.inl x1), none, none], [], (zx_lay M, n))) h (zx_if_ne rfl) (fun _ h => ?_) (fun _ h => ?_)
      · refine zx_E.go 1 (s' := (30, [some (.inr (some (25, 0, 0, 0))), some (.inl x0), some (.inl x1), none, none], [.inl (-1)], (zx_lay M, n))) rfl ?_
        exact zx_E.rp h rfl (fun h => absurd h (by decide))
      · refine zx_E.go 4 (s' := (36, [some (.inr (some (25, 0, 0, 0))), some (.inl x0), some (.inl x1), some (.inl 0), some (.inl 0)], [], (zx_lay M, n))) rfl ?_
        refine rl_X11_station_36 (fun v3 v4 h => ?_) 1000  0 0  h
        refine zx_E.go 1 (s' := (76, [some (.inr (some (25, 0, 0, 0))), some (.inl x0), some (.inl x1), some (.inl v3), some (.inl v4)], [.inl x1], (zx_lay M, n))) rfl ?_
        refine zx_E.brh (c := x1 = 0) (s1 := (79, [some (.inr (some (25, 0, 0, 0))), some (.inl x0), some (.inl x1), some (.inl v3), some (.inl v4)], [], (zx_lay M, n))) (s2 := (91, [some (.inr (some (25, 0, 0, 0))), some (.inl x0), some (.inl x1), some (.inl v3), some (.inl v4)], [], (zx_lay M, n))) h (zx_if_ne rfl) (fun _ h => ?_) (fun _ h => ?_)
        · refine zx_E.go 4 (s' := (86, [some (.inr (some (25, 0, 0, 0))), some (.inl x0), some (.inl x1), some (.inl v3), some (.inl v4)], [.inl x0, .inl 9, .inr (some (26, 0, 0, 0))], (zx_lay M, n))) rfl ?_
          refine zx_E.go 1 (s' := (87, [some (.inr (some (25, 0, 0, 0))), some (.inl x0), some (.inl x1), some (.inl v3), some (.inl v4)], [.inl (9 + x0), .inr (some (26, 0, 0, 0))], (zx_lay M, n))) rfl ?_
          refine zx_E.ix h (fun k1 hx_k1 hl_k1 h => ?_)
          refine zx_E.iald (k := k1) (h := (26, 0, 0, 0)) rfl rfl hx_k1 hl_k1 ?_
          show zx_E _ _ _ (88, [some (.inr (some (25, 0, 0, 0))), some (.inl x0), some (.inl x1), some (.inl v3), some (.inl v4)], [.inl (M (26, 0, 0, 0) k1)], (zx_lay M, n)) _
          refine zx_E.go 1 (s' := (139, [some (.inr (some (25, 0, 0, 0))), some (.inl x0), some (.inl x1), some (.inl v3), some (.inl v4)], [.inl (M (26, 0, 0, 0) k1)], (zx_lay M, n))) rfl ?_
          exact zx_E.rp h rfl (fun h => absurd h (by decide))
        · refine zx_E.go 2 (s' := (93, [some (.inr (some (25, 0, 0, 0))), some (.inl x0), some (.inl x1), some (.inl v3), some (.inl v4)], [.inl 1, .inl x1], (zx_lay M, n))) rfl ?_
          refine zx_E.brh (c := x1 = 1) (s1 := (96, [some (.inr (some (25, 0, 0, 0))), some (.inl x0), some (.inl x1), some (.inl v3), some (.inl v4)], [], (zx_lay M, n))) (s2 := (104, [some (.inr (some (25, 0, 0, 0))), some (.inl x0), some (.inl x1), some (.inl v3), some (.inl v4)], [], (zx_lay M, n))) h (zx_ic_ne rfl) (fun _ h => ?_) (fun _ h => ?_)
          · refine zx_E.go 2 (s' := (98, [some (.inr (some (25, 0, 0, 0))), some (.inl x0), some (.inl x1), some (.inl v3), some (.inl v4)], [.inl x0, .inr (some (25, 0, 0, 0))], (zx_lay M, n))) rfl ?_
            refine zx_E.cb (y := 132) (as := [.inr (some (25, 0, 0, 0)), .inl x0]) (rest := []) h rfl (fun _ hv => zx_run_up (by omega) (r_X11_taken (d := d) hv)) (fun v5 h => ?_)
            show zx_E _ _ _ (101, [some (.inr (some (25, 0, 0, 0))), some (.inl x0), some (.inl x1), some (.inl v3), some (.inl v4)], [.inl v5], (zx_lay M, n)) _
            refine zx_E.go 1 (s' := (139, [some (.inr (some (25, 0, 0, 0))), some (.inl x0), some (.inl x1), some (.inl v3), some (.inl v4)], [.inl v5], (zx_lay M, n))) rfl ?_
            exact zx_E.rp h rfl (fun h => absurd h (by decide))
          · refine zx_E.go 2 (s' := (106, [some (.inr (some (25, 0, 0, 0))), some (.inl x0), some (.inl x1), some (.inl v3), some (.inl v4)], [.inl 2, .inl x1], (zx_lay M, n))) rfl ?_
            refine zx_E.brh (c := x1 = 2) (s1 := (109, [some (.inr (some (25, 0, 0, 0))), some (.inl x0), some (.inl x1), some (.inl v3), some (.inl v4)], [], (zx_lay M, n))) (s2 := (121, [some (.inr (some (25, 0, 0, 0))), some (.inl x0), some (.inl x1), some (.inl v3), some (.inl v4)], [], (zx_lay M, n))) h (zx_ic_ne rfl) (fun _ h => ?_) (fun _ h => ?_)
            · refine zx_E.go 4 (s' := (116, [some (.inr (some (25, 0, 0, 0))), some (.inl x0), some (.inl x1), some (.inl v3), some (.inl v4)], [.inl x0, .inl 17, .inr (some (26, 0, 0, 0))], (zx_lay M, n))) rfl ?_
              refine zx_E.go 1 (s' := (117, [some (.inr (some (25, 0, 0, 0))), some (.inl x0), some (.inl x1), some (.inl v3), some (.inl v4)], [.inl (17 + x0), .inr (some (26, 0, 0, 0))], (zx_lay M, n))) rfl ?_
              refine zx_E.ix h (fun k2 hx_k2 hl_k2 h => ?_)
              refine zx_E.iald (k := k2) (h := (26, 0, 0, 0)) rfl rfl hx_k2 hl_k2 ?_
              show zx_E _ _ _ (118, [some (.inr (some (25, 0, 0, 0))), some (.inl x0), some (.inl x1), some (.inl v3), some (.inl v4)], [.inl (M (26, 0, 0, 0) k2)], (zx_lay M, n)) _
              refine zx_E.go 1 (s' := (139, [some (.inr (some (25, 0, 0, 0))), some (.inl x0), some (.inl x1), some (.inl v3), some (.inl v4)], [.inl (M (26, 0, 0, 0) k2)], (zx_lay M, n))) rfl ?_
              exact zx_E.rp h rfl (fun h => absurd h (by decide))
            · refine zx_E.go 2 (s' := (123, [some (.inr (some (25, 0, 0, 0))), some (.inl x0), some (.inl x1), some (.inl v3), some (.inl v4)], [.inl 3, .inl x1], (zx_lay M, n))) rfl ?_
              refine zx_E.brh (c := x1 = 3) (s1 := (126, [some (.inr (some (25, 0, 0, 0))), some (.inl x0), some (.inl x1), some (.inl v3), some (.inl v4)], [], (zx_lay M, n))) (s2 := (130, [some (.inr (some (25, 0, 0, 0))), some (.inl x0), some (.inl x1), some (.inl v3), some (.inl v4)], [], (zx_lay M, n))) h (zx_ic_ne rfl) (fun _ h => ?_) (fun _ h => ?_)
              · refine zx_E.go 2 (s' := (139, [some (.inr (some (25, 0, 0, 0))), some (.inl x0), some (.inl x1), some (.inl v3), some (.inl v4)], [.inl v3], (zx_lay M, n))) rfl ?_
                exact zx_E.rp h rfl (fun h => absurd h (by decide))
              · refine zx_E.go 4 (s' := (137, [some (.inr (some (25, 0, 0, 0))), some (.inl x0), some (.inl x1), some (.inl v3), some (.inl v4)], [.inl x0, .inl 28, .inr (some (26, 0, 0, 0))], (zx_lay M, n))) rfl ?_
                refine zx_E.go 1 (s' := (138, [some (.inr (some (25, 0, 0, 0))), some (.inl x0), some (.inl x1), some (.inl v3), some (.inl v4)], [.inl (28 + x0), .inr (some (26, 0, 0, 0))], (zx_lay M, n))) rfl ?_
                refine zx_E.ix h (fun k3 hx_k3 hl_k3 h => ?_)
                refine zx_E.iald (k := k3) (h := (26, 0, 0, 0)) rfl rfl hx_k3 hl_k3 ?_
                show zx_E _ _ _ (139, [some (.inr (some (25, 0, 0, 0))), some (.inl x0), some (.inl x1), some (.inl v3), some (.inl v4)], [.inl (M (26, 0, 0, 0) k3)], (zx_lay M, n)) _
                exact zx_E.rp h rfl (fun h => absurd h (by decide))
def g_X10_block (M : zx_Y) (x0 : Int32) (x1 : Int32) : Option Int32 := (zb (g_X2_exists M 0) fun v1 => (if v1 = 0 then (some (-3)) else (zb (g_X2_hasBlock M 0 x0) fun v2 => (if v2 = 0 then (some (-1)) else (if x1 = 0 then (zi x0 7 fun k1 => (some (M (5, 0, k1, 0) 0))) else (if x1 = 1 then (zb (g_X2_occupant M 0 x0) fun v3 => (some v3)) else (if x1 = 2 then (zb (g_X2_slowMinutes M 0 x0) fun v4 => (some v4)) else (if x1 = 3 then (zi x0 7 fun k2 => (some (M (5, 0, k2, 0) 1))) else (if x1 = 4 then (zi x0 7 fun k3 => (some (M (5, 0, k3, 0) 2))) else (some (-1)))))))))))
set_option maxRecDepth 100000 in
set_option maxHeartbeats 4000000 in
theorem r_X10_block {X : zx_X} {d n : Nat} {M : zx_Y} {x0 : Int32} {x1 : Int32} {rv : Int32} (h : g_X10_block M x0 x1 = some rv) : zx_run X (d + 2) 103 [.inr (some (0, 0, 0, 0)), .inl x0, .inl x1] (zx_lay M, n) (some (.inl rv), (zx_lay M, n)) := by
  refine zx_run_of zc_X10_block [some (.inr (some (0, 0, 0, 0))), some (.inl x0), some (.inl x1)] rfl rfl ?_
  unfold g_X10_block at h
  refine zx_E.go 2 (s' := (4, [some (.inr (some (0, 0, 0, 0))), some (.inl x0), some (.inl x1)], [.inr (some (1, 0, 0, 0))], (zx_lay M, n))) rfl ?_
  refine zx_E.cb (y := 15) (as := [.inr (some (1, 0, 0, 0))]) (rest := []) h rfl (fun _ hv => zx_run_up (by omega) (r_X2_exists (d := d) hv)) (fun v1 h => ?_)
  show zx_E _ _ _ (7, [some (.inr (some (0, 0, 0, 0))), some (.inl x0), some (.inl x1)], [.inl v1], (zx_lay M, n)) _
  refine zx_E.brh (c := v1 = 0) (s1 := (10, [some (.inr (some (0, 0, 0, 0))), some (.inl x0), some (.inl x1)], [], (zx_lay M, n))) (s2 := (13, [some (.inr (some (0, 0, 0, 0))), some (.inl x0), some (.inl x1)], [], (zx_lay M, n))) h (zx_if_ne rfl) (fun _ h => ?_) (fun _ h => ?_)
  · refine zx_E.go 1 (s' := (12, [some (.inr (some (0, 0, 0, 0))), some (.inl x0), some (.inl x1)], [.inl (-3)], (zx_lay M, n))) rfl ?_
    exact zx_E.rp h rfl (fun h => absurd h (by decide))
  · refine zx_E.go 3 (s' := (18, [some (.inr (some (0, 0, 0, 0))), some (.inl x0), some (.inl x1)], [.inl x0, .inr (some (1, 0, 0, 0))], (zx_lay M, n))) rfl ?_
    refine zx_E.cb (y := 17) (as := [.inr (some (1, 0, 0, 0)), .inl x0]) (rest := []) h rfl (fun _ hv => zx_run_up (by omega) (r_X2_hasBlock (d := d) hv)) (fun v2 h => ?_)
    show zx_E _ _ _ (21, [some (.inr (some (0, 0, 0, 0))), some (.inl x0), some (.inl x1)], [.inl v2], (zx_lay M, n)) _
    refine zx_E.brh (c := v2 = 0) (s1 := (24, [some (.inr (some (0, 0, 0, 0))), some (.inl x0), some (.inl x1)], [], (zx_lay M, n))) (s2 := (26, [some (.inr (some (0, 0, 0, 0))), some (.inl x0), some (.inl x1)], [], (zx_lay M, n))) h (zx_if_ne rfl) (fun _ h => ?_) (fun _ h => ?_)
    · refine zx_E.go 1 (s' := (25, [some (.inr (some (0, 0, 0, 0))), some (.inl x0), some (.inl x1)], [.inl (-1)], (zx_lay M, n))) rfl ?_
      exact zx_E.rp h rfl (fun h => absurd h (by decide))
    · refine zx_E.go 1 (s' := (27, [some (.inr (some (0, 0, 0, 0))), some (.inl x0), some (.inl x1)], [.inl x1], (zx_lay M, n))) rfl ?_
      refine zx_E.one (s' := (zx_pick x1 0 [60, 73, 82, 91, 104] 117, [some (.inr (some (0, 0, 0, 0))), some (.inl x0), some (.inl x1)], [], (zx_lay M, n))) rfl ?_
      refine zx_E.pickh (k' := 1) h (by decide) (fun _ h => ?_) (fun _ h => ?_)
      · refine zx_E.go 4 (s' := (68, [some (.inr (some (0, 0, 0, 0))), some (.inl x0), some (.inl x1)], [.inl x0, .inr (some (4, 0, 0, 0))], (zx_lay M, n))) rfl ?_
        refine zx_E.ix h (fun k1 hx_k1 hl_k1 h => ?_)
        refine zx_E.aald (k := k1) (h := (4, 0, 0, 0)) (h' := (5, 0, k1, 0)) rfl rfl hx_k1 hl_k1 rfl ?_
        show zx_E _ _ _ (69, [some (.inr (some (0, 0, 0, 0))), some (.inl x0), some (.inl x1)], [.inr (some (5, 0, k1, 0))], (zx_lay M, n)) _
        refine zx_E.go 1 (s' := (72, [some (.inr (some (0, 0, 0, 0))), some (.inl x0), some (.inl x1)], [.inl (M (5, 0, k1, 0) 0)], (zx_lay M, n))) rfl ?_
        exact zx_E.rp h rfl (fun h => absurd h (by decide))
      · refine zx_E.pickh (k' := 2) h (by decide) (fun _ h => ?_) (fun _ h => ?_)
        · refine zx_E.go 3 (s' := (78, [some (.inr (some (0, 0, 0, 0))), some (.inl x0), some (.inl x1)], [.inl x0, .inr (some (1, 0, 0, 0))], (zx_lay M, n))) rfl ?_
          refine zx_E.cb (y := 36) (as := [.inr (some (1, 0, 0, 0)), .inl x0]) (rest := []) h rfl (fun _ hv => zx_run_up (by omega) (r_X2_occupant (d := d) hv)) (fun v3 h => ?_)
          show zx_E _ _ _ (81, [some (.inr (some (0, 0, 0, 0))), some (.inl x0), some (.inl x1)], [.inl v3], (zx_lay M, n)) _
          exact zx_E.rp h rfl (fun h => absurd h (by decide))
        · refine zx_E.pickh (k' := 3) h (by decide) (fun _ h => ?_) (fun _ h => ?_)
          · refine zx_E.go 3 (s' := (87, [some (.inr (some (0, 0, 0, 0))), some (.inl x0), some (.inl x1)], [.inl x0, .inr (some (1, 0, 0, 0))], (zx_lay M, n))) rfl ?_
            refine zx_E.cb (y := 35) (as := [.inr (some (1, 0, 0, 0)), .inl x0]) (rest := []) h rfl (fun _ hv => zx_run_up (by omega) (r_X2_slowMinutes (d := d) hv)) (fun v4 h => ?_)
            show zx_E _ _ _ (90, [some (.inr (some (0, 0, 0, 0))), some (.inl x0), some (.inl x1)], [.inl v4], (zx_lay M, n)) _
            exact zx_E.rp h rfl (fun h => absurd h (by decide))
          · refine zx_E.pickh (k' := 4) h (by decide) (fun _ h => ?_) (fun _ h => ?_)
            · refine zx_E.go 4 (s' := (99, [some (.inr (some (0, 0, 0, 0))), some (.inl x0), some (.inl x1)], [.inl x0, .inr (some (4, 0, 0, 0))], (zx_lay M, n))) rfl ?_
              refine zx_E.ix h (fun k2 hx_k2 hl_k2 h => ?_)
              refine zx_E.aald (k := k2) (h := (4, 0, 0, 0)) (h' := (5, 0, k2, 0)) rfl rfl hx_k2 hl_k2 rfl ?_
              show zx_E _ _ _ (100, [some (.inr (some (0, 0, 0, 0))), some (.inl x0), some (.inl x1)], [.inr (some (5, 0, k2, 0))], (zx_lay M, n)) _
              refine zx_E.go 1 (s' := (103, [some (.inr (some (0, 0, 0, 0))), some (.inl x0), some (.inl x1)], [.inl (M (5, 0, k2, 0) 1)], (zx_lay M, n))) rfl ?_
              exact zx_E.rp h rfl (fun h => absurd h (by decide))
            · refine zx_E.pickh (k' := 5) h (by decide) (fun _ h => ?_) (fun _ h => ?_)
              · refine zx_E.go 4 (s' := (112, [some (.inr (some (0, 0, 0, 0))), some (.inl x0), some (.inl x1)], [.inl x0, .inr (some (4, 0, 0, 0))], (zx_lay M, n))) rfl ?_
                refine zx_E.ix h (fun k3 hx_k3 hl_k3 h => ?_)
                refine zx_E.aald (k := k3) (h := (4, 0, 0, 0)) (h' := (5, 0, k3, 0)) rfl rfl hx_k3 hl_k3 rfl ?_
                show zx_E _ _ _ (113, [some (.inr (some (0, 0, 0, 0))), some (.inl x0), some (.inl x1)], [.inr (some (5, 0, k3, 0))], (zx_lay M, n)) _
                refine zx_E.go 1 (s' := (116, [some (.inr (some (0, 0, 0, 0))), some (.inl x0), some (.inl x1)], [.inl (M (5, 0, k3, 0) 2)], (zx_lay M, n))) rfl ?_
                exact zx_E.rp h rfl (fun h => absurd h (by decide))
              · show zx_E _ _ _ (117, [some (.inr (some (0, 0, 0, 0))), some (.inl x0), some (.inl x1)], [], (zx_lay M, n)) _
                refine zx_E.go 1 (s' := (118, [some (.inr (some (0, 0, 0, 0))), some (.inl x0), some (.inl x1)], [.inl (-1)], (zx_lay M, n))) rfl ?_
                exact zx_E.rp h rfl (fun h => absurd h (by decide))
def g_X11_block (M : zx_Y) (x0 : Int32) (x1 : Int32) : Option Int32 := (if (M (26, 0, 0, 0) 1) = 0 then (some (-3)) else (zb (g_X11_isBlock M x0) fun v1 => (if v1 = 0 then (some (-1)) else (zb (g_X11_isIn M x1 0 4) fun v2 => (if v2 = 0 then (some (-1)) else (if x1 = 0 then (zi (2 + x0) 640 fun k1 => (some (M (26, 0, 0, 0) k1))) else (if x1 = 1 then (zb (g_X11_trainIn M x0) fun v3 => (some v3)) else (if x1 = 2 then (zb (g_X11_slowness M x0) fun v4 => (some v4)) else (if x1 = 3 then (zi (36 + x0) 640 fun k2 => (some (M (26, 0, 0, 0) k2))) else (zi (43 + x0) 640 fun k3 => (some (M (26, 0, 0, 0) k3))))))))))))
set_option maxRecDepth 100000 in
set_option maxHeartbeats 4000000 in
theorem r_X11_block {X : zx_X} {d n : Nat} {M : zx_Y} {x0 : Int32} {x1 : Int32} {rv : Int32} (h : g_X11_block M x0 x1 = some rv) : zx_run X (d + 3) 178 [.inr (some (25, 0, 0, 0)), .inl x0, .inl x1] (zx_lay M, n) (some (.inl rv), (zx_lay M, n)) := by
  refine zx_run_of zc_X11_block [some (.inr (some (25, 0, 0, 0))), some (.inl x0), some (.inl x1)] rfl rfl ?_
  unfold g_X11_block at h
  refine zx_E.go 3 (s' := (5, [some (.inr (some (25, 0, 0, 0))), some (.inl x0), some (.inl x1)], [.inl 1, .inr (some (26, 0, 0, 0))], (zx_lay M, n))) rfl ?_
  refine zx_E.iald (k := 1) (h := (26, 0, 0, 0)) rfl rfl rfl (by decide) ?_
  show zx_E _ _ _ (6, [some (.inr (some (25, 0, 0, 0))), some (.inl x0), some (.inl x1)], [.inl (M (26, 0, 0, 0) 1)], (zx_lay M, n)) _
  refine zx_E.brh (c := (M (26, 0, 0, 0) 1) = 0) (s1 := (9, [some (.inr (some (25, 0, 0, 0))), some (.inl x0), some (.inl x1)], [], (zx_lay M, n))) (s2 := (12, [some (.inr (some (25, 0, 0, 0))), some (.inl x0), some (.inl x1)], [], (zx_lay M, n))) h (zx_if_ne rfl) (fun _ h => ?_) (fun _ h => ?_)
  · refine zx_E.go 1 (s' := (11, [some (.inr (some (25, 0, 0, 0))), some (.inl x0), some (.inl x1)], [.inl (-3)], (zx_lay M, n))) rfl ?_
    exact zx_E.rp h rfl (fun h => absurd h (by decide))
  · refine zx_E.go 2 (s' := (14, [some (.inr (some (25, 0, 0, 0))), some (.inl x0), some (.inl x1)], [.inl x0, .inr (some (25, 0, 0, 0))], (zx_lay M, n))) rfl ?_
    refine zx_E.cb (y := 123) (as := [.inr (some (25, 0, 0, 0)), .inl x0]) (rest := []) h rfl (fun _ hv => zx_run_up (by omega) (r_X11_isBlock (d := d) hv)) (fun v1 h => ?_)
    show zx_E _ _ _ (17, [some (.inr (some (25, 0, 0, 0))), some (.inl x0), some (.inl x1)], [.inl v1], (zx_lay M, n)) _
    refine zx_E.brh (c := v1 = 0) (s1 := (29, [some (.inr (some (25, 0, 0, 0))), some (.inl x0), some (.inl x1)], [], (zx_lay M, n))) (s2 := (20, [some (.inr (some (25, 0, 0, 0))), some (.inl x0), some (.inl x1)], [], (zx_lay M, n))) h (zx_if_eq rfl) (fun _ h => ?_) (fun _ h => ?_)
    · refine zx_E.go 1 (s' := (30, [some (.inr (some (25, 0, 0, 0))), some (.inl x0), some (.inl x1)], [.inl (-1)], (zx_lay M, n))) rfl ?_
      exact zx_E.rp h rfl (fun h => absurd h (by decide))
    · refine zx_E.go 3 (s' := (23, [some (.inr (some (25, 0, 0, 0))), some (.inl x0), some (.inl x1)], [.inl 4, .inl 0, .inl x1], (zx_lay M, n))) rfl ?_
      refine zx_E.cb (y := 121) (as := [.inl x1, .inl 0, .inl 4]) (rest := []) h rfl (fun _ hv => zx_run_up (by omega) (r_X11_isIn (d := d) hv)) (fun v2 h => ?_)
      show zx_E _ _ _ (26, [some (.inr (some (25, 0, 0, 0))), some (.inl x0), some (.inl x1)], [.inl v2], (zx_lay M, n)) _
      refine zx_E.brh (c := v2 = 0) (s1 := (29, [some (.inr (some (25, 0, 0, 0))), some (.inl x0), some (.inl x1)], [], (zx_lay M, n))) (s2 := (31, [some (.inr (some (25, 0, 0, 0))), some (.inl x0), some (.inl x1)], [], (zx_lay M, n))) h (zx_if_ne rfl) (fun _ h => ?_) (fun _ h => ?_)
      · refine zx_E.go 1 (s' := (30, [some (.inr (some (25, 0, 0, 0))), some (.inl x0), some (.inl x1)], [.inl (-1)], (zx_lay M, n))) rfl ?_
        exact zx_E.rp h rfl (fun h => absurd h (by decide))
      · refine zx_E.go 1 (s' := (32, [some (.inr (some (25, 0, 0, 0))), some (.inl x0), some (.inl x1)], [.inl x1], (zx_lay M, n))) rfl ?_
        refine zx_E.brh (c := x1 = 0) (s1 := (35, [some (.inr (some (25, 0, 0, 0))), some (.inl x0), some (.inl x1)], [], (zx_lay M, n))) (s2 := (46, [some (.inr (some (25, 0, 0, 0))), some (.inl x0), some (.inl x1)], [], (zx_lay M, n))) h (zx_if_ne rfl) (fun _ h => ?_) (fun _ h => ?_)
        · refine zx_E.go 4 (s' := (41, [some (.inr (some (25, 0, 0, 0))), some (.inl x0), some (.inl x1)], [.inl x0, .inl 2, .inr (some (26, 0, 0, 0))], (zx_lay M, n))) rfl ?_
          refine zx_E.go 1 (s' := (42, [some (.inr (some (25, 0, 0, 0))), some (.inl x0), some (.inl x1)], [.inl (2 + x0), .inr (some (26, 0, 0, 0))], (zx_lay M, n))) rfl ?_
          refine zx_E.ix h (fun k1 hx_k1 hl_k1 h => ?_)
          refine zx_E.iald (k := k1) (h := (26, 0, 0, 0)) rfl rfl hx_k1 hl_k1 ?_
          show zx_E _ _ _ (43, [some (.inr (some (25, 0, 0, 0))), some (.inl x0), some (.inl x1)], [.inl (M (26, 0, 0, 0) k1)], (zx_lay M, n)) _
          refine zx_E.go 1 (s' := (98, [some (.inr (some (25, 0, 0, 0))), some (.inl x0), some (.inl x1)], [.inl (M (26, 0, 0, 0) k1)], (zx_lay M, n))) rfl ?_
          exact zx_E.rp h rfl (fun h => absurd h (by decide))
        · refine zx_E.go 2 (s' := (48, [some (.inr (some (25, 0, 0, 0))), some (.inl x0), some (.inl x1)], [.inl 1, .inl x1], (zx_lay M, n))) rfl ?_
          refine zx_E.brh (c := x1 = 1) (s1 := (51, [some (.inr (some (25, 0, 0, 0))), some (.inl x0), some (.inl x1)], [], (zx_lay M, n))) (s2 := (59, [some (.inr (some (25, 0, 0, 0))), some (.inl x0), some (.inl x1)], [], (zx_lay M, n))) h (zx_ic_ne rfl) (fun _ h => ?_) (fun _ h => ?_)
          · refine zx_E.go 2 (s' := (53, [some (.inr (some (25, 0, 0, 0))), some (.inl x0), some (.inl x1)], [.inl x0, .inr (some (25, 0, 0, 0))], (zx_lay M, n))) rfl ?_
            refine zx_E.cb (y := 134) (as := [.inr (some (25, 0, 0, 0)), .inl x0]) (rest := []) h rfl (fun _ hv => zx_run_up (by omega) (r_X11_trainIn (d := d) hv)) (fun v3 h => ?_)
            show zx_E _ _ _ (56, [some (.inr (some (25, 0, 0, 0))), some (.inl x0), some (.inl x1)], [.inl v3], (zx_lay M, n)) _
            refine zx_E.go 1 (s' := (98, [some (.inr (some (25, 0, 0, 0))), some (.inl x0), some (.inl x1)], [.inl v3], (zx_lay M, n))) rfl ?_
            exact zx_E.rp h rfl (fun h => absurd h (by decide))
          · refine zx_E.go 2 (s' := (61, [some (.inr (some (25, 0, 0, 0))), some (.inl x0), some (.inl x1)], [.inl 2, .inl x1], (zx_lay M, n))) rfl ?_
            refine zx_E.brh (c := x1 = 2) (s1 := (64, [some (.inr (some (25, 0, 0, 0))), some (.inl x0), some (.inl x1)], [], (zx_lay M, n))) (s2 := (72, [some (.inr (some (25, 0, 0, 0))), some (.inl x0), some (.inl x1)], [], (zx_lay M, n))) h (zx_ic_ne rfl) (fun _ h => ?_) (fun _ h => ?_)
            · refine zx_E.go 2 (s' := (66, [some (.inr (some (25, 0, 0, 0))), some (.inl x0), some (.inl x1)], [.inl x0, .inr (some (25, 0, 0, 0))], (zx_lay M, n))) rfl ?_
              refine zx_E.cb (y := 135) (as := [.inr (some (25, 0, 0, 0)), .inl x0]) (rest := []) h rfl (fun _ hv => zx_run_up (by omega) (r_X11_slowness (d := d) hv)) (fun v4 h => ?_)
              show zx_E _ _ _ (69, [some (.inr (some (25, 0, 0, 0))), some (.inl x0), some (.inl x1)], [.inl v4], (zx_lay M, n)) _
              refine zx_E.go 1 (s' := (98, [some (.inr (some (25, 0, 0, 0))), some (.inl x0), some (.inl x1)], [.inl v4], (zx_lay M, n))) rfl ?_
              exact zx_E.rp h rfl (fun h => absurd h (by decide))
            · refine zx_E.go 2 (s' := (74, [some (.inr (some (25, 0, 0, 0))), some (.inl x0), some (.inl x1)], [.inl 3, .inl x1], (zx_lay M, n))) rfl ?_
              refine zx_E.brh (c := x1 = 3) (s1 := (77, [some (.inr (some (25, 0, 0, 0))), some (.inl x0), some (.inl x1)], [], (zx_lay M, n))) (s2 := (89, [some (.inr (some (25, 0, 0, 0))), some (.inl x0), some (.inl x1)], [], (zx_lay M, n))) h (zx_ic_ne rfl) (fun _ h => ?_) (fun _ h => ?_)
              · refine zx_E.go 4 (s' := (84, [some (.inr (some (25, 0, 0, 0))), some (.inl x0), some (.inl x1)], [.inl x0, .inl 36, .inr (some (26, 0, 0, 0))], (zx_lay M, n))) rfl ?_
                refine zx_E.go 1 (s' := (85, [some (.inr (some (25, 0, 0, 0))), some (.inl x0), some (.inl x1)], [.inl (36 + x0), .inr (some (26, 0, 0, 0))], (zx_lay M, n))) rfl ?_
                refine zx_E.ix h (fun k2 hx_k2 hl_k2 h => ?_)
                refine zx_E.iald (k := k2) (h := (26, 0, 0, 0)) rfl rfl hx_k2 hl_k2 ?_
                show zx_E _ _ _ (86, [some (.inr (some (25, 0, 0, 0))), some (.inl x0), some (.inl x1)], [.inl (M (26, 0, 0, 0) k2)], (zx_lay M, n)) _
                refine zx_E.go 1 (s' := (98, [some (.inr (some (25, 0, 0, 0))), some (.inl x0), some (.inl x1)], [.inl (M (26, 0, 0, 0) k2)], (zx_lay M, n))) rfl ?_
                exact zx_E.rp h rfl (fun h => absurd h (by decide))
              · refine zx_E.go 4 (s' := (96, [some (.inr (some (25, 0, 0, 0))), some (.inl x0), some (.inl x1)], [.inl x0, .inl 43, .inr (some (26, 0, 0, 0))], (zx_lay M, n))) rfl ?_
                refine zx_E.go 1 (s' := (97, [some (.inr (some (25, 0, 0, 0))), some (.inl x0), some (.inl x1)], [.inl (43 + x0), .inr (some (26, 0, 0, 0))], (zx_lay M, n))) rfl ?_
                refine zx_E.ix h (fun k3 hx_k3 hl_k3 h => ?_)
                refine zx_E.iald (k := k3) (h := (26, 0, 0, 0)) rfl rfl hx_k3 hl_k3 ?_
                show zx_E _ _ _ (98, [some (.inr (some (25, 0, 0, 0))), some (.inl x0), some (.inl x1)], [.inl (M (26, 0, 0, 0) k3)], (zx_lay M, n)) _
                exact zx_E.rp h rfl (fun h => absurd h (by decide))
def lg_X2_rivalOf_6 (M : zx_Y) (l : Nat) (i : Nat) (kk : Int32 → Option (Int32 × zx_Y)) : Nat → Int32 → Option (Int32 × zx_Y)
  | 0, _ => none
  | q + 1, w2 => (if (M (1, l, 0, 0) 11) ≤ w2 then (kk w2) else (zi w2 10 fun k1 => (zi (M (10, l, 0, 0) k1) 10 fun k2 => (if (M (7, l, k2, 0) 0) = (M (7, l, i, 0) 0) then (some ((-5), M)) else (zb (g_X9_nextBlock M l k2) fun v1 => (zb (g_X9_nextBlock M l i) fun v2 => (if v1 = v2 then (zb (g_X2_obstacleOf M l k2) fun v3 => (if v3 = 8 then (some ((M (7, l, k2, 0) 0), M)) else (lg_X2_rivalOf_6 M l i kk q (w2 + 1)))) else (lg_X2_rivalOf_6 M l i kk q (w2 + 1)))))))))
set_option maxRecDepth 100000 in
set_option maxHeartbeats 4000000 in
theorem rl_X2_rivalOf_6 {X : zx_X} {d n : Nat} {M : zx_Y} {l : Nat} {i : Nat} {kk : Int32 → Option (Int32 × zx_Y)} {rv : Int32} {rM : zx_Y} (hk : ∀ (w2 : Int32) (e3 : Option zx_V), kk w2 = some (rv, rM) → zx_E X (d + 4) zc_X2_rivalOf (72, [some (.inr (some (1, l, 0, 0))), some (.inr (some (7, l, i, 0))), some (.inl w2), e3], [], (zx_lay M, n)) (some (.inl rv), (zx_lay rM, n))) : ∀ (q : Nat) (g3 : Option zx_V) (w2 : Int32), lg_X2_rivalOf_6 M l i kk q w2 = some (rv, rM) → zx_E X (d + 4) zc_X2_rivalOf (6, [some (.inr (some (1, l, 0, 0))), some (.inr (some (7, l, i, 0))), some (.inl w2), g3], [], (zx_lay M, n)) (some (.inl rv), (zx_lay rM, n))
  | 0, g3, w2, h => by
    rw [lg_X2_rivalOf_6.eq_1] at h
    cases h
  | q + 1, g3, w2, h => by
    rw [lg_X2_rivalOf_6.eq_2] at h
    refine zx_E.go 3 (s' := (11, [some (.inr (some (1, l, 0, 0))), some (.inr (some (7, l, i, 0))), some (.inl w2), g3], [.inl (M (1, l, 0, 0) 11), .inl w2], (zx_lay M, n))) rfl ?_
    refine zx_E.brh (c := (M (1, l, 0, 0) 11) ≤ w2) (s1 := (72, [some (.inr (some (1, l, 0, 0))), some (.inr (some (7, l, i, 0))), some (.inl w2), g3], [], (zx_lay M, n))) (s2 := (14, [some (.inr (some (1, l, 0, 0))), some (.inr (some (7, l, i, 0))), some (.inl w2), g3], [], (zx_lay M, n))) h (zx_ic_ge rfl) (fun _ h => ?_) (fun _ h => ?_)
    · exact hk _ _ h
    · refine zx_E.go 5 (s' := (23, [some (.inr (some (1, l, 0, 0))), some (.inr (some (7, l, i, 0))), some (.inl w2), g3], [.inl w2, .inr (some (10, l, 0, 0)), .inr (some (6, l, 0, 0))], (zx_lay M, n))) rfl ?_
      refine zx_E.ix h (fun k1 hx_k1 hl_k1 h => ?_)
      refine zx_E.iald (k := k1) (h := (10, l, 0, 0)) rfl rfl hx_k1 hl_k1 ?_
      show zx_E _ _ _ (24, [some (.inr (some (1, l, 0, 0))), some (.inr (some (7, l, i, 0))), some (.inl w2), g3], [.inl (M (10, l, 0, 0) k1), .inr (some (6, l, 0, 0))], (zx_lay M, n)) _
      refine zx_E.ix h (fun k2 hx_k2 hl_k2 h => ?_)
      refine zx_E.aald (k := k2) (h := (6, l, 0, 0)) (h' := (7, l, k2, 0)) rfl rfl hx_k2 hl_k2 rfl ?_
      show zx_E _ _ _ (25, [some (.inr (some (1, l, 0, 0))), some (.inr (some (7, l, i, 0))), some (.inl w2), g3], [.inr (some (7, l, k2, 0))], (zx_lay M, n)) _
      refine zx_E.go 5 (s' := (34, [some (.inr (some (1, l, 0, 0))), some (.inr (some (7, l, i, 0))), some (.inl w2), some (.inr (some (7, l, k2, 0)))], [.inl (M (7, l, i, 0) 0), .inl (M (7, l, k2, 0) 0)], (zx_lay M, n))) rfl ?_
      refine zx_E.brh (c := (M (7, l, k2, 0) 0) = (M (7, l, i, 0) 0)) (s1 := (37, [some (.inr (some (1, l, 0, 0))), some (.inr (some (7, l, i, 0))), some (.inl w2), some (.inr (some (7, l, k2, 0)))], [], (zx_lay M, n))) (s2 := (40, [some (.inr (some (1, l, 0, 0))), some (.inr (some (7, l, i, 0))), some (.inl w2), some (.inr (some (7, l, k2, 0)))], [], (zx_lay M, n))) h (zx_ic_ne rfl) (fun _ h => ?_) (fun _ h => ?_)
      · refine zx_E.go 1 (s' := (39, [some (.inr (some (1, l, 0, 0))), some (.inr (some (7, l, i, 0))), some (.inl w2), some (.inr (some (7, l, k2, 0)))], [.inl (-5)], (zx_lay M, n))) rfl ?_
        exact zx_E.ri h rfl (fun h => absurd h (by decide))
      · refine zx_E.go 1 (s' := (41, [some (.inr (some (1, l, 0, 0))), some (.inr (some (7, l, i, 0))), some (.inl w2), some (.inr (some (7, l, k2, 0)))], [.inr (some (7, l, k2, 0))], (zx_lay M, n))) rfl ?_
        refine zx_E.cb (y := 86) (as := [.inr (some (7, l, k2, 0))]) (rest := []) h rfl (fun _ hv => zx_run_up (by omega) (r_X9_nextBlock (d := d) hv)) (fun v1 h => ?_)
        show zx_E _ _ _ (44, [some (.inr (some (1, l, 0, 0))), some (.inr (some (7, l, i, 0))), some (.inl w2), some (.inr (some (7, l, k2, 0)))], [.inl v1], (zx_lay M, n)) _
        refine zx_E.go 1 (s' := (45, [some (.inr (some (1, l, 0, 0))), some (.inr (some (7, l, i, 0))), some (.inl w2), some (.inr (some (7, l, k2, 0)))], [.inr (some (7, l, i, 0)), .inl v1], (zx_lay M, n))) rfl ?_
        refine zx_E.cb (y := 86) (as := [.inr (some (7, l, i, 0))]) (rest := [.inl v1]) h rfl (fun _ hv => zx_run_up (by omega) (r_X9_nextBlock (d := d) hv)) (fun v2 h => ?_)
        show zx_E _ _ _ (48, [some (.inr (some (1, l, 0, 0))), some (.inr (some (7, l, i, 0))), some (.inl w2), some (.inr (some (7, l, k2, 0)))], [.inl v2, .inl v1], (zx_lay M, n)) _
        refine zx_E.brh (c := v1 = v2) (s1 := (51, [some (.inr (some (1, l, 0, 0))), some (.inr (some (7, l, i, 0))), some (.inl w2), some (.inr (some (7, l, k2, 0)))], [], (zx_lay M, n))) (s2 := (66, [some (.inr (some (1, l, 0, 0))), some (.inr (some (7, l, i, 0))), some (.inl w2), some (.inr (some (7, l, k2, 0)))], [], (zx_lay M, n))) h (zx_ic_ne rfl) (fun _ h => ?_) (fun _ h => ?_)
        · refine zx_E.go 2 (s' := (53, [some (.inr (some (1, l, 0, 0))), some (.inr (some (7, l, i, 0))), some (.inl w2), some (.inr (some (7, l, k2, 0)))], [.inr (some (7, l, k2, 0)), .inr (some (1, l, 0, 0))], (zx_lay M, n))) rfl ?_
          refine zx_E.cb (y := 31) (as := [.inr (some (1, l, 0, 0)), .inr (some (7, l, k2, 0))]) (rest := []) h rfl (fun _ hv => zx_run_up (by omega) (r_X2_obstacleOf (d := d) hv)) (fun v3 h => ?_)
          show zx_E _ _ _ (56, [some (.inr (some (1, l, 0, 0))), some (.inr (some (7, l, i, 0))), some (.inl w2), some (.inr (some (7, l, k2, 0)))], [.inl v3], (zx_lay M, n)) _
          refine zx_E.go 1 (s' := (58, [some (.inr (some (1, l, 0, 0))), some (.inr (some (7, l, i, 0))), some (.inl w2), some (.inr (some (7, l, k2, 0)))], [.inl 8, .inl v3], (zx_lay M, n))) rfl ?_
          refine zx_E.brh (c := v3 = 8) (s1 := (61, [some (.inr (some (1, l, 0, 0))), some (.inr (some (7, l, i, 0))), some (.inl w2), some (.inr (some (7, l, k2, 0)))], [], (zx_lay M, n))) (s2 := (66, [some (.inr (some (1, l, 0, 0))), some (.inr (some (7, l, i, 0))), some (.inl w2), some (.inr (some (7, l, k2, 0)))], [], (zx_lay M, n))) h (zx_ic_ne rfl) (fun _ h => ?_) (fun _ h => ?_)
          · refine zx_E.go 2 (s' := (65, [some (.inr (some (1, l, 0, 0))), some (.inr (some (7, l, i, 0))), some (.inl w2), some (.inr (some (7, l, k2, 0)))], [.inl (M (7, l, k2, 0) 0)], (zx_lay M, n))) rfl ?_
            exact zx_E.ri h rfl (fun h => absurd h (by decide))
          · refine zx_E.go 2 (s' := (6, [some (.inr (some (1, l, 0, 0))), some (.inr (some (7, l, i, 0))), some (.inl (w2 + 1)), some (.inr (some (7, l, k2, 0)))], [], (zx_lay M, n))) rfl ?_
            exact rl_X2_rivalOf_6 hk q _ (w2 + 1) h
        · refine zx_E.go 2 (s' := (6, [some (.inr (some (1, l, 0, 0))), some (.inr (some (7, l, i, 0))), some (.inl (w2 + 1)), some (.inr (some (7, l, k2, 0)))], [], (zx_lay M, n))) rfl ?_
          exact rl_X2_rivalOf_6 hk q _ (w2 + 1) h
def g_X2_rivalOf (M : zx_Y) (l : Nat) (i : Nat) : Option (Int32 × zx_Y) := (zm (g_X2_rank M l) fun M1 => (lg_X2_rivalOf_6 M1 l i (fun v1 => (some ((-5), M1))) 1000 0))
set_option maxRecDepth 100000 in
set_option maxHeartbeats 4000000 in
theorem r_X2_rivalOf {X : zx_X} {d n : Nat} {M : zx_Y} {l : Nat} {i : Nat} {rv : Int32} {rM : zx_Y} (h : g_X2_rivalOf M l i = some (rv, rM)) : zx_run X (d + 5) 46 [.inr (some (1, l, 0, 0)), .inr (some (7, l, i, 0))] (zx_lay M, n) (some (.inl rv), (zx_lay rM, n)) := by
  refine zx_run_of zc_X2_rivalOf [some (.inr (some (1, l, 0, 0))), some (.inr (some (7, l, i, 0))), none, none] rfl rfl ?_
  unfold g_X2_rivalOf at h
  refine zx_E.go 1 (s' := (1, [some (.inr (some (1, l, 0, 0))), some (.inr (some (7, l, i, 0))), none, none], [.inr (some (1, l, 0, 0))], (zx_lay M, n))) rfl ?_
  refine zx_E.cm (y := 29) (as := [.inr (some (1, l, 0, 0))]) (rest := []) h rfl (fun _ hv => zx_run_up (by omega) (r_X2_rank (d := d) hv)) (fun M1 h => ?_)
  show zx_E _ _ _ (4, [some (.inr (some (1, l, 0, 0))), some (.inr (some (7, l, i, 0))), none, none], [], (zx_lay M1, n)) _
  refine zx_E.go 2 (s' := (6, [some (.inr (some (1, l, 0, 0))), some (.inr (some (7, l, i, 0))), some (.inl 0), none], [], (zx_lay M1, n))) rfl ?_
  refine rl_X2_rivalOf_6 (fun v1 e1 h => ?_) 1000 _ 0  h
  refine zx_E.go 1 (s' := (74, [some (.inr (some (1, l, 0, 0))), some (.inr (some (7, l, i, 0))), some (.inl v1), e1], [.inl (-5)], (zx_lay M1, n))) rfl ?_
  exact zx_E.ri h rfl (fun h => absurd h (by decide))
def g_X2_reasonFor (M : zx_Y) (l : Nat) (i : Nat) : Option (Int32 × zx_Y) := (if (M (7, l, i, 0) 1) = 0 then (if (M (1, l, 0, 0) 0) < (M (7, l, i, 0) 5) then (some (1, M)) else (zb (g_X2_hasFreeTrack M l (M (7, l, i, 0) 2)) fun v1 => (if v1 = 0 then (some (2, M)) else (some (1, M))))) else (if (M (7, l, i, 0) 1) = 1 then (zb (g_X2_obstacleOf M l i) fun v2 => (if v2 = 8 then (zv (g_X2_rivalOf M l i) fun v3 M1 => (if v3 = (-5) then (some (v2, M1)) else (some (7, M1)))) else (some (v2, M)))) else (if (M (7, l, i, 0) 1) = 2 then (some (0, M)) else (if (M (7, l, i, 0) 1) = 3 then (some (3, M)) else (some (0, M))))))
set_option maxRecDepth 100000 in
set_option maxHeartbeats 4000000 in
theorem r_X2_reasonFor {X : zx_X} {d n : Nat} {M : zx_Y} {l : Nat} {i : Nat} {rv : Int32} {rM : zx_Y} (h : g_X2_reasonFor M l i = some (rv, rM)) : zx_run X (d + 6) 44 [.inr (some (1, l, 0, 0)), .inr (some (7, l, i, 0))] (zx_lay M, n) (some (.inl rv), (zx_lay rM, n)) := by
  refine zx_run_of zc_X2_reasonFor [some (.inr (some (1, l, 0, 0))), some (.inr (some (7, l, i, 0))), none] rfl rfl ?_
  unfold g_X2_reasonFor at h
  refine zx_E.go 2 (s' := (4, [some (.inr (some (1, l, 0, 0))), some (.inr (some (7, l, i, 0))), none], [.inl (M (7, l, i, 0) 1)], (zx_lay M, n))) rfl ?_
  refine zx_E.one (s' := (zx_pick (M (7, l, i, 0) 1) 0 [36, 66, 95, 64] 95, [some (.inr (some (1, l, 0, 0))), some (.inr (some (7, l, i, 0))), none], [], (zx_lay M, n))) rfl ?_
  refine zx_E.pickh (k' := 1) h (by decide) (fun _ h => ?_) (fun _ h => ?_)
  · refine zx_E.go 4 (s' := (44, [some (.inr (some (1, l, 0, 0))), some (.inr (some (7, l, i, 0))), none], [.inl (M (1, l, 0, 0) 0), .inl (M (7, l, i, 0) 5)], (zx_lay M, n))) rfl ?_
    refine zx_E.brh (c := (M (1, l, 0, 0) 0) < (M (7, l, i, 0) 5)) (s1 := (62, [some (.inr (some (1, l, 0, 0))), some (.inr (some (7, l, i, 0))), none], [], (zx_lay M, n))) (s2 := (47, [some (.inr (some (1, l, 0, 0))), some (.inr (some (7, l, i, 0))), none], [], (zx_lay M, n))) h (zx_ic_gt rfl) (fun _ h => ?_) (fun _ h => ?_)
    · refine zx_E.go 1 (s' := (63, [some (.inr (some (1, l, 0, 0))), some (.inr (some (7, l, i, 0))), none], [.inl 1], (zx_lay M, n))) rfl ?_
      exact zx_E.ri h rfl (fun h => absurd h (by decide))
    · refine zx_E.go 3 (s' := (52, [some (.inr (some (1, l, 0, 0))), some (.inr (some (7, l, i, 0))), none], [.inl (M (7, l, i, 0) 2), .inr (some (1, l, 0, 0))], (zx_lay M, n))) rfl ?_
      refine zx_E.cb (y := 38) (as := [.inr (some (1, l, 0, 0)), .inl (M (7, l, i, 0) 2)]) (rest := []) h rfl (fun _ hv => zx_run_up (by omega) (r_X2_hasFreeTrack (d := d) hv)) (fun v1 h => ?_)
      show zx_E _ _ _ (55, [some (.inr (some (1, l, 0, 0))), some (.inr (some (7, l, i, 0))), none], [.inl v1], (zx_lay M, n)) _
      refine zx_E.brh (c := v1 = 0) (s1 := (58, [some (.inr (some (1, l, 0, 0))), some (.inr (some (7, l, i, 0))), none], [], (zx_lay M, n))) (s2 := (62, [some (.inr (some (1, l, 0, 0))), some (.inr (some (7, l, i, 0))), none], [], (zx_lay M, n))) h (zx_if_ne rfl) (fun _ h => ?_) (fun _ h => ?_)
      · refine zx_E.go 2 (s' := (63, [some (.inr (some (1, l, 0, 0))), some (.inr (some (7, l, i, 0))), none], [.inl 2], (zx_lay M, n))) rfl ?_
        exact zx_E.ri h rfl (fun h => absurd h (by decide))
      · refine zx_E.go 1 (s' := (63, [some (.inr (some (1, l, 0, 0))), some (.inr (some (7, l, i, 0))), none], [.inl 1], (zx_lay M, n))) rfl ?_
        exact zx_E.ri h rfl (fun h => absurd h (by decide))
  · refine zx_E.pickh (k' := 2) h (by decide) (fun _ h => ?_) (fun _ h => ?_)
    · refine zx_E.go 2 (s' := (68, [some (.inr (some (1, l, 0, 0))), some (.inr (some (7, l, i, 0))), none], [.inr (some (7, l, i, 0)), .inr (some (1, l, 0, 0))], (zx_lay M, n))) rfl ?_
      refine zx_E.cb (y := 31) (as := [.inr (some (1, l, 0, 0)), .inr (some (7, l, i, 0))]) (rest := []) h rfl (fun _ hv => zx_run_up (by omega) (r_X2_obstacleOf (d := d) hv)) (fun v2 h => ?_)
      show zx_E _ _ _ (71, [some (.inr (some (1, l, 0, 0))), some (.inr (some (7, l, i, 0))), none], [.inl v2], (zx_lay M, n)) _
      refine zx_E.go 3 (s' := (75, [some (.inr (some (1, l, 0, 0))), some (.inr (some (7, l, i, 0))), some (.inl v2)], [.inl 8, .inl v2], (zx_lay M, n))) rfl ?_
      refine zx_E.brh (c := v2 = 8) (s1 := (78, [some (.inr (some (1, l, 0, 0))), some (.inr (some (7, l, i, 0))), some (.inl v2)], [], (zx_lay M, n))) (s2 := (93, [some (.inr (some (1, l, 0, 0))), some (.inr (some (7, l, i, 0))), some (.inl v2)], [], (zx_lay M, n))) h (zx_ic_ne rfl) (fun _ h => ?_) (fun _ h => ?_)
      · refine zx_E.go 2 (s' := (80, [some (.inr (some (1, l, 0, 0))), some (.inr (some (7, l, i, 0))), some (.inl v2)], [.inr (some (7, l, i, 0)), .inr (some (1, l, 0, 0))], (zx_lay M, n))) rfl ?_
        refine zx_E.cv (y := 46) (as := [.inr (some (1, l, 0, 0)), .inr (some (7, l, i, 0))]) (rest := []) h rfl (fun _ _ hv => zx_run_up (by omega) (r_X2_rivalOf (d := d) hv)) (fun v3 M1 h => ?_)
        show zx_E _ _ _ (83, [some (.inr (some (1, l, 0, 0))), some (.inr (some (7, l, i, 0))), some (.inl v2)], [.inl v3], (zx_lay M1, n)) _
        refine zx_E.go 1 (s' := (85, [some (.inr (some (1, l, 0, 0))), some (.inr (some (7, l, i, 0))), some (.inl v2)], [.inl (-5), .inl v3], (zx_lay M1, n))) rfl ?_
        refine zx_E.brh (c := v3 = (-5)) (s1 := (93, [some (.inr (some (1, l, 0, 0))), some (.inr (some (7, l, i, 0))), some (.inl v2)], [], (zx_lay M1, n))) (s2 := (88, [some (.inr (some (1, l, 0, 0))), some (.inr (some (7, l, i, 0))), some (.inl v2)], [], (zx_lay M1, n))) h (zx_ic_eq rfl) (fun _ h => ?_) (fun _ h => ?_)
        · refine zx_E.go 1 (s' := (94, [some (.inr (some (1, l, 0, 0))), some (.inr (some (7, l, i, 0))), some (.inl v2)], [.inl v2], (zx_lay M1, n))) rfl ?_
          exact zx_E.ri h rfl (fun h => absurd h (by decide))
        · refine zx_E.go 2 (s' := (94, [some (.inr (some (1, l, 0, 0))), some (.inr (some (7, l, i, 0))), some (.inl v2)], [.inl 7], (zx_lay M1, n))) rfl ?_
          exact zx_E.ri h rfl (fun h => absurd h (by decide))
      · refine zx_E.go 1 (s' := (94, [some (.inr (some (1, l, 0, 0))), some (.inr (some (7, l, i, 0))), some (.inl v2)], [.inl v2], (zx_lay M, n))) rfl ?_
        exact zx_E.ri h rfl (fun h => absurd h (by decide))
    · refine zx_E.pickh (k' := 3) h (by decide) (fun _ h => ?_) (fun _ h => ?_)
      · refine zx_E.go 1 (s' := (96, [some (.inr (some (1, l, 0, 0))), some (.inr (some (7, l, i, 0))), none], [.inl 0], (zx_lay M, n))) rfl ?_
        exact zx_E.ri h rfl (fun h => absurd h (by decide))
      · refine zx_E.pickh (k' := 4) h (by decide) (fun _ h => ?_) (fun _ h => ?_)
        · refine zx_E.go 1 (s' := (65, [some (.inr (some (1, l, 0, 0))), some (.inr (some (7, l, i, 0))), none], [.inl 3], (zx_lay M, n))) rfl ?_
          exact zx_E.ri h rfl (fun h => absurd h (by decide))
        · show zx_E _ _ _ (95, [some (.inr (some (1, l, 0, 0))), some (.inr (some (7, l, i, 0))), none], [], (zx_lay M, n)) _
          refine zx_E.go 1 (s' := (96, [some (.inr (some (1, l, 0, 0))), some (.inr (some (7, l, i, 0))), none], [.inl 0], (zx_lay M, n))) rfl ?_
          exact zx_E.ri h rfl (fun h => absurd h (by decide))
def g_X2_numberFor (M : zx_Y) (l : Nat) (i : Nat) (x0 : Int32) : Option (Int32 × zx_Y) := (if x0 = 1 then (some ((zmax 0 ((M (7, l, i, 0) 5) - (M (1, l, 0, 0) 0))), M)) else (if x0 = 2 then (some ((M (7, l, i, 0) 2), M)) else (if x0 = 3 then (some ((zmax 0 ((M (7, l, i, 0) 12) - (M (1, l, 0, 0) 0))), M)) else (if x0 = 4 then (zb (g_X9_nextBlock M l i) fun v1 => (zb (g_X2_occupant M l v1) fun v2 => (some (v2, M)))) else (if x0 = 5 then (zb (g_X9_nextStation M l i) fun v3 => (some (v3, M))) else (if x0 = 6 then (zb (g_X2_overHours M l i) fun v4 => (some (v4, M))) else (if x0 = 7 then (zv (g_X2_rivalOf M l i) fun v5 M1 => (some (v5, M1))) else (some ((-5), M)))))))))
set_option maxRecDepth 100000 in
set_option maxHeartbeats 4000000 in
theorem r_X2_numberFor {X : zx_X} {d n : Nat} {M : zx_Y} {l : Nat} {i : Nat} {x0 : Int32} {rv : Int32} {rM : zx_Y} (h : g_X2_numberFor M l i x0 = some (rv, rM)) : zx_run X (d + 6) 45 [.inr (some (1, l, 0, 0)), .inr (some (7, l, i, 0)), .inl x0] (zx_lay M, n) (some (.inl rv), (zx_lay rM, n)) := by
  refine zx_run_of zc_X2_numberFor [some (.inr (some (1, l, 0, 0))), some (.inr (some (7, l, i, 0))), some (.inl x0)] rfl rfl ?_
  unfold g_X2_numberFor at h
  refine zx_E.go 1 (s' := (1, [some (.inr (some (1, l, 0, 0))), some (.inr (some (7, l, i, 0))), some (.inl x0)], [.inl x0], (zx_lay M, n))) rfl ?_
  refine zx_E.one (s' := (zx_pick x0 1 [44, 58, 63, 77, 86, 91, 97] 103, [some (.inr (some (1, l, 0, 0))), some (.inr (some (7, l, i, 0))), some (.inl x0)], [], (zx_lay M, n))) rfl ?_
  refine zx_E.pickh (k' := 2) h (by decide) (fun _ h => ?_) (fun _ h => ?_)
  · refine zx_E.go 5 (s' := (53, [some (.inr (some (1, l, 0, 0))), some (.inr (some (7, l, i, 0))), some (.inl x0)], [.inl (M (1, l, 0, 0) 0), .inl (M (7, l, i, 0) 5), .inl 0], (zx_lay M, n))) rfl ?_
    refine zx_E.go 2 (s' := (57, [some (.inr (some (1, l, 0, 0))), some (.inr (some (7, l, i, 0))), some (.inl x0)], [.inl (zmax 0 ((M (7, l, i, 0) 5) - (M (1, l, 0, 0) 0)))], (zx_lay M, n))) rfl ?_
    exact zx_E.ri h rfl (fun h => absurd h (by decide))
  · refine zx_E.pickh (k' := 3) h (by decide) (fun _ h => ?_) (fun _ h => ?_)
    · refine zx_E.go 2 (s' := (62, [some (.inr (some (1, l, 0, 0))), some (.inr (some (7, l, i, 0))), some (.inl x0)], [.inl (M (7, l, i, 0) 2)], (zx_lay M, n))) rfl ?_
      exact zx_E.ri h rfl (fun h => absurd h (by decide))
    · refine zx_E.pickh (k' := 4) h (by decide) (fun _ h => ?_) (fun _ h => ?_)
      · refine zx_E.go 5 (s' := (72, [some (.inr (some (1, l, 0, 0))), some (.inr (some (7, l, i, 0))), some (.inl x0)], [.inl (M (1, l, 0, 0) 0), .inl (M (7, l, i, 0) 12), .inl 0], (zx_lay M, n))) rfl ?_
        refine zx_E.go 2 (s' := (76, [some (.inr (some (1, l, 0, 0))), some (.inr (some (7, l, i, 0))), some (.inl x0)], [.inl (zmax 0 ((M (7, l, i, 0) 12) - (M (1, l, 0, 0) 0)))], (zx_lay M, n))) rfl ?_
        exact zx_E.ri h rfl (fun h => absurd h (by decide))
      · refine zx_E.pickh (k' := 5) h (by decide) (fun _ h => ?_) (fun _ h => ?_)
        · refine zx_E.go 2 (s' := (79, [some (.inr (some (1, l, 0, 0))), some (.inr (some (7, l, i, 0))), some (.inl x0)], [.inr (some (7, l, i, 0)), .inr (some (1, l, 0, 0))], (zx_lay M, n))) rfl ?_
          refine zx_E.cb (y := 86) (as := [.inr (some (7, l, i, 0))]) (rest := [.inr (some (1, l, 0, 0))]) h rfl (fun _ hv => zx_run_up (by omega) (r_X9_nextBlock (d := d) hv)) (fun v1 h => ?_)
          show zx_E _ _ _ (82, [some (.inr (some (1, l, 0, 0))), some (.inr (some (7, l, i, 0))), some (.inl x0)], [.inl v1, .inr (some (1, l, 0, 0))], (zx_lay M, n)) _
          refine zx_E.cb (y := 36) (as := [.inr (some (1, l, 0, 0)), .inl v1]) (rest := []) h rfl (fun _ hv => zx_run_up (by omega) (r_X2_occupant (d := d) hv)) (fun v2 h => ?_)
          show zx_E _ _ _ (85, [some (.inr (some (1, l, 0, 0))), some (.inr (some (7, l, i, 0))), some (.inl x0)], [.inl v2], (zx_lay M, n)) _
          exact zx_E.ri h rfl (fun h => absurd h (by decide))
        · refine zx_E.pickh (k' := 6) h (by decide) (fun _ h => ?_) (fun _ h => ?_)
          · refine zx_E.go 1 (s' := (87, [some (.inr (some (1, l, 0, 0))), some (.inr (some (7, l, i, 0))), some (.inl x0)], [.inr (some (7, l, i, 0))], (zx_lay M, n))) rfl ?_
            refine zx_E.cb (y := 87) (as := [.inr (some (7, l, i, 0))]) (rest := []) h rfl (fun _ hv => zx_run_up (by omega) (r_X9_nextStation (d := d) hv)) (fun v3 h => ?_)
            show zx_E _ _ _ (90, [some (.inr (some (1, l, 0, 0))), some (.inr (some (7, l, i, 0))), some (.inl x0)], [.inl v3], (zx_lay M, n)) _
            exact zx_E.ri h rfl (fun h => absurd h (by decide))
          · refine zx_E.pickh (k' := 7) h (by decide) (fun _ h => ?_) (fun _ h => ?_)
            · refine zx_E.go 2 (s' := (93, [some (.inr (some (1, l, 0, 0))), some (.inr (some (7, l, i, 0))), some (.inl x0)], [.inr (some (7, l, i, 0)), .inr (some (1, l, 0, 0))], (zx_lay M, n))) rfl ?_
              refine zx_E.cb (y := 33) (as := [.inr (some (1, l, 0, 0)), .inr (some (7, l, i, 0))]) (rest := []) h rfl (fun _ hv => zx_run_up (by omega) (r_X2_overHours (d := d) hv)) (fun v4 h => ?_)
              show zx_E _ _ _ (96, [some (.inr (some (1, l, 0, 0))), some (.inr (some (7, l, i, 0))), some (.inl x0)], [.inl v4], (zx_lay M, n)) _
              exact zx_E.ri h rfl (fun h => absurd h (by decide))
            · refine zx_E.pickh (k' := 8) h (by decide) (fun _ h => ?_) (fun _ h => ?_)
              · refine zx_E.go 2 (s' := (99, [some (.inr (some (1, l, 0, 0))), some (.inr (some (7, l, i, 0))), some (.inl x0)], [.inr (some (7, l, i, 0)), .inr (some (1, l, 0, 0))], (zx_lay M, n))) rfl ?_
                refine zx_E.cv (y := 46) (as := [.inr (some (1, l, 0, 0)), .inr (some (7, l, i, 0))]) (rest := []) h rfl (fun _ _ hv => zx_run_up (by omega) (r_X2_rivalOf (d := d) hv)) (fun v5 M1 h => ?_)
                show zx_E _ _ _ (102, [some (.inr (some (1, l, 0, 0))), some (.inr (some (7, l, i, 0))), some (.inl x0)], [.inl v5], (zx_lay M1, n)) _
                exact zx_E.ri h rfl (fun h => absurd h (by decide))
              · show zx_E _ _ _ (103, [some (.inr (some (1, l, 0, 0))), some (.inr (some (7, l, i, 0))), some (.inl x0)], [], (zx_lay M, n)) _
                refine zx_E.go 1 (s' := (105, [some (.inr (some (1, l, 0, 0))), some (.inr (some (7, l, i, 0))), some (.inl x0)], [.inl (-5)], (zx_lay M, n))) rfl ?_
                exact zx_E.ri h rfl (fun h => absurd h (by decide))
def g_X10_why (M : zx_Y) (x0 : Int32) (x1 : Int32) : Option (Int32 × zx_Y) := (zt M 0 x0 (fun k1 => (if x1 < 0 then (some ((-1), M)) else (if x1 ≤ 1 then (zv (g_X2_reasonFor M 0 k1) fun v1 M1 => (if x1 = 0 then (some (v1, M1)) else (zv (g_X2_numberFor M1 0 k1 v1) fun v2 M2 => (some (v2, M2))))) else (some ((-1), M))))) (some ((-1), M)))
set_option maxRecDepth 100000 in
set_option maxHeartbeats 4000000 in
theorem r_X10_why {X : zx_X} {d n : Nat} {M : zx_Y} {x0 : Int32} {x1 : Int32} {rv : Int32} {rM : zx_Y} (h : g_X10_why M x0 x1 = some (rv, rM)) : zx_run X (d + 7) 104 [.inr (some (0, 0, 0, 0)), .inl x0, .inl x1] (zx_lay M, n) (some (.inl rv), (zx_lay rM, n)) := by
  refine zx_run_of zc_X10_why [some (.inr (some (0, 0, 0, 0))), some (.inl x0), some (.inl x1), none, none] rfl rfl ?_
  unfold g_X10_why at h
  refine zx_E.go 3 (s' := (5, [some (.inr (some (0, 0, 0, 0))), some (.inl x0), some (.inl x1), none, none], [.inl x0, .inr (some (1, 0, 0, 0))], (zx_lay M, n))) rfl ?_
  refine zx_E.tw (y := 18) (as := [.inr (some (1, 0, 0, 0)), .inl x0]) (rest := []) h rfl (fun hq => zx_run_up (by omega) (r_X2_trainWith_1 (d := d) hq)) (fun hq => zx_run_up (by omega) (r_X2_trainWith_0 (d := d) hq)) (fun k1 _ h => ?_) (fun h => ?_)
  · show zx_E _ _ _ (8, [some (.inr (some (0, 0, 0, 0))), some (.inl x0), some (.inl x1), none, none], [.inr (some (7, 0, k1, 0))], (zx_lay M, n)) _
    refine zx_E.go 4 (s' := (14, [some (.inr (some (0, 0, 0, 0))), some (.inl x0), some (.inl x1), some (.inr (some (7, 0, k1, 0))), none], [.inl x1], (zx_lay M, n))) rfl ?_
    refine zx_E.brh (c := x1 < 0) (s1 := (22, [some (.inr (some (0, 0, 0, 0))), some (.inl x0), some (.inl x1), some (.inr (some (7, 0, k1, 0))), none], [], (zx_lay M, n))) (s2 := (17, [some (.inr (some (0, 0, 0, 0))), some (.inl x0), some (.inl x1), some (.inr (some (7, 0, k1, 0))), none], [], (zx_lay M, n))) h (zx_if_lt rfl) (fun _ h => ?_) (fun _ h => ?_)
    · refine zx_E.go 1 (s' := (23, [some (.inr (some (0, 0, 0, 0))), some (.inl x0), some (.inl x1), some (.inr (some (7, 0, k1, 0))), none], [.inl (-1)], (zx_lay M, n))) rfl ?_
      exact zx_E.ri h rfl (fun h => absurd h (by decide))
    · refine zx_E.go 2 (s' := (19, [some (.inr (some (0, 0, 0, 0))), some (.inl x0), some (.inl x1), some (.inr (some (7, 0, k1, 0))), none], [.inl 1, .inl x1], (zx_lay M, n))) rfl ?_
      refine zx_E.brh (c := x1 ≤ 1) (s1 := (24, [some (.inr (some (0, 0, 0, 0))), some (.inl x0), some (.inl x1), some (.inr (some (7, 0, k1, 0))), none], [], (zx_lay M, n))) (s2 := (22, [some (.inr (some (0, 0, 0, 0))), some (.inl x0), some (.inl x1), some (.inr (some (7, 0, k1, 0))), none], [], (zx_lay M, n))) h (zx_ic_le rfl) (fun _ h => ?_) (fun _ h => ?_)
      · refine zx_E.go 3 (s' := (29, [some (.inr (some (0, 0, 0, 0))), some (.inl x0), some (.inl x1), some (.inr (some (7, 0, k1, 0))), none], [.inr (some (7, 0, k1, 0)), .inr (some (1, 0, 0, 0))], (zx_lay M, n))) rfl ?_
        refine zx_E.cv (y := 44) (as := [.inr (some (1, 0, 0, 0)), .inr (some (7, 0, k1, 0))]) (rest := []) h rfl (fun _ _ hv => zx_run_up (by omega) (r_X2_reasonFor (d := d) hv)) (fun v1 M1 h => ?_)
        show zx_E _ _ _ (32, [some (.inr (some (0, 0, 0, 0))), some (.inl x0), some (.inl x1), some (.inr (some (7, 0, k1, 0))), none], [.inl v1], (zx_lay M1, n)) _
        refine zx_E.go 2 (s' := (35, [some (.inr (some (0, 0, 0, 0))), some (.inl x0), some (.inl x1), some (.inr (some (7, 0, k1, 0))), some (.inl v1)], [.inl x1], (zx_lay M1, n))) rfl ?_
        refine zx_E.brh (c := x1 = 0) (s1 := (38, [some (.inr (some (0, 0, 0, 0))), some (.inl x0), some (.inl x1), some (.inr (some (7, 0, k1, 0))), some (.inl v1)], [], (zx_lay M1, n))) (s2 := (43, [some (.inr (some (0, 0, 0, 0))), some (.inl x0), some (.inl x1), some (.inr (some (7, 0, k1, 0))), some (.inl v1)], [], (zx_lay M1, n))) h (zx_if_ne rfl) (fun _ h => ?_) (fun _ h => ?_)
        · refine zx_E.go 2 (s' := (53, [some (.inr (some (0, 0, 0, 0))), some (.inl x0), some (.inl x1), some (.inr (some (7, 0, k1, 0))), some (.inl v1)], [.inl v1], (zx_lay M1, n))) rfl ?_
          exact zx_E.ri h rfl (fun h => absurd h (by decide))
        · refine zx_E.go 4 (s' := (50, [some (.inr (some (0, 0, 0, 0))), some (.inl x0), some (.inl x1), some (.inr (some (7, 0, k1, 0))), some (.inl v1)], [.inl v1, .inr (some (7, 0, k1, 0)), .inr (some (1, 0, 0, 0))], (zx_lay M1, n))) rfl ?_
          refine zx_E.cv (y := 45) (as := [.inr (some (1, 0, 0, 0)), .inr (some (7, 0, k1, 0)), .inl v1]) (rest := []) h rfl (fun _ _ hv => zx_run_up (by omega) (r_X2_numberFor (d := d) hv)) (fun v2 M2 h => ?_)
          show zx_E _ _ _ (53, [some (.inr (some (0, 0, 0, 0))), some (.inl x0), some (.inl x1), some (.inr (some (7, 0, k1, 0))), some (.inl v1)], [.inl v2], (zx_lay M2, n)) _
          exact zx_E.ri h rfl (fun h => absurd h (by decide))
      · refine zx_E.go 1 (s' := (23, [some (.inr (some (0, 0, 0, 0))), some (.inl x0), some (.inl x1), some (.inr (some (7, 0, k1, 0))), none], [.inl (-1)], (zx_lay M, n))) rfl ?_
        exact zx_E.ri h rfl (fun h => absurd h (by decide))
  · show zx_E _ _ _ (8, [some (.inr (some (0, 0, 0, 0))), some (.inl x0), some (.inl x1), none, none], [.inr none], (zx_lay M, n)) _
    refine zx_E.go 4 (s' := (23, [some (.inr (some (0, 0, 0, 0))), some (.inl x0), some (.inl x1), some (.inr none), none], [.inl (-1)], (zx_lay M, n))) rfl ?_
    exact zx_E.ri h rfl (fun h => absurd h (by decide))
def g_X11_whyOutside (M : zx_Y) (x0 : Int32) (x1 : Int32) : Option Int32 := (zb (g_X11_at M x0 4) fun v1 => (if v1 ≤ (M (26, 0, 0, 0) 0) then (zb (g_X11_at M x0 1) fun v2 => (zb (g_X11_hasTrack M v2) fun v3 => (if x1 = 0 then (if v3 = 0 then (some 2) else (some 1)) else (if v3 = 0 then (zb (g_X11_at M x0 1) fun v4 => (some v4)) else (some 0))))) else (if x1 = 0 then (some 1) else (zb (g_X11_at M x0 4) fun v5 => (some (v5 - (M (26, 0, 0, 0) 0)))))))
set_option maxRecDepth 100000 in
set_option maxHeartbeats 4000000 in
theorem r_X11_whyOutside {X : zx_X} {d n : Nat} {M : zx_Y} {x0 : Int32} {x1 : Int32} {rv : Int32} (h : g_X11_whyOutside M x0 x1 = some rv) : zx_run X (d + 6) 179 [.inr (some (25, 0, 0, 0)), .inl x0, .inl x1] (zx_lay M, n) (some (.inl rv), (zx_lay M, n)) := by
  refine zx_run_of zc_X11_whyOutside [some (.inr (some (25, 0, 0, 0))), some (.inl x0), some (.inl x1), none] rfl rfl ?_
  unfold g_X11_whyOutside at h
  refine zx_E.go 3 (s' := (3, [some (.inr (some (25, 0, 0, 0))), some (.inl x0), some (.inl x1), none], [.inl 4, .inl x0, .inr (some (25, 0, 0, 0))], (zx_lay M, n))) rfl ?_
  refine zx_E.cb (y := 125) (as := [.inr (some (25, 0, 0, 0)), .inl x0, .inl 4]) (rest := []) h rfl (fun _ hv => zx_run_up (by omega) (r_X11_at (d := d) hv)) (fun v1 h => ?_)
  show zx_E _ _ _ (6, [some (.inr (some (25, 0, 0, 0))), some (.inl x0), some (.inl x1), none], [.inl v1], (zx_lay M, n)) _
  refine zx_E.go 3 (s' := (11, [some (.inr (some (25, 0, 0, 0))), some (.inl x0), some (.inl x1), none], [.inl 0, .inr (some (26, 0, 0, 0)), .inl v1], (zx_lay M, n))) rfl ?_
  refine zx_E.iald (k := 0) (h := (26, 0, 0, 0)) rfl rfl rfl (by decide) ?_
  show zx_E _ _ _ (12, [some (.inr (some (25, 0, 0, 0))), some (.inl x0), some (.inl x1), none], [.inl (M (26, 0, 0, 0) 0), .inl v1], (zx_lay M, n)) _
  refine zx_E.brh (c := v1 ≤ (M (26, 0, 0, 0) 0)) (s1 := (37, [some (.inr (some (25, 0, 0, 0))), some (.inl x0), some (.inl x1), none], [], (zx_lay M, n))) (s2 := (15, [some (.inr (some (25, 0, 0, 0))), some (.inl x0), some (.inl x1), none], [], (zx_lay M, n))) h (zx_ic_le rfl) (fun _ h => ?_) (fun _ h => ?_)
  · refine zx_E.go 4 (s' := (41, [some (.inr (some (25, 0, 0, 0))), some (.inl x0), some (.inl x1), none], [.inl 1, .inl x0, .inr (some (25, 0, 0, 0)), .inr (some (25, 0, 0, 0))], (zx_lay M, n))) rfl ?_
    refine zx_E.cb (y := 125) (as := [.inr (some (25, 0, 0, 0)), .inl x0, .inl 1]) (rest := [.inr (some (25, 0, 0, 0))]) h rfl (fun _ hv => zx_run_up (by omega) (r_X11_at (d := d) hv)) (fun v2 h => ?_)
    show zx_E _ _ _ (44, [some (.inr (some (25, 0, 0, 0))), some (.inl x0), some (.inl x1), none], [.inl v2, .inr (some (25, 0, 0, 0))], (zx_lay M, n)) _
    refine zx_E.cb (y := 133) (as := [.inr (some (25, 0, 0, 0)), .inl v2]) (rest := []) h rfl (fun _ hv => zx_run_up (by omega) (r_X11_hasTrack (d := d) hv)) (fun v3 h => ?_)
    show zx_E _ _ _ (47, [some (.inr (some (25, 0, 0, 0))), some (.inl x0), some (.inl x1), none], [.inl v3], (zx_lay M, n)) _
    refine zx_E.go 2 (s' := (49, [some (.inr (some (25, 0, 0, 0))), some (.inl x0), some (.inl x1), some (.inl v3)], [.inl x1], (zx_lay M, n))) rfl ?_
    refine zx_E.brh (c := x1 = 0) (s1 := (52, [some (.inr (some (25, 0, 0, 0))), some (.inl x0), some (.inl x1), some (.inl v3)], [], (zx_lay M, n))) (s2 := (64, [some (.inr (some (25, 0, 0, 0))), some (.inl x0), some (.inl x1), some (.inl v3)], [], (zx_lay M, n))) h (zx_if_ne rfl) (fun _ h => ?_) (fun _ h => ?_)
    · refine zx_E.go 1 (s' := (53, [some (.inr (some (25, 0, 0, 0))), some (.inl x0), some (.inl x1), some (.inl v3)], [.inl v3], (zx_lay M, n))) rfl ?_
      refine zx_E.brh (c := v3 = 0) (s1 := (60, [some (.inr (some (25, 0, 0, 0))), some (.inl x0), some (.inl x1), some (.inl v3)], [], (zx_lay M, n))) (s2 := (56, [some (.inr (some (25, 0, 0, 0))), some (.inl x0), some (.inl x1), some (.inl v3)], [], (zx_lay M, n))) h (zx_if_eq rfl) (fun _ h => ?_) (fun _ h => ?_)
      · refine zx_E.go 2 (s' := (78, [some (.inr (some (25, 0, 0, 0))), some (.inl x0), some (.inl x1), some (.inl v3)], [.inl 2], (zx_lay M, n))) rfl ?_
        exact zx_E.rp h rfl (fun h => absurd h (by decide))
      · refine zx_E.go 2 (s' := (78, [some (.inr (some (25, 0, 0, 0))), some (.inl x0), some (.inl x1), some (.inl v3)], [.inl 1], (zx_lay M, n))) rfl ?_
        exact zx_E.rp h rfl (fun h => absurd h (by decide))
    · refine zx_E.go 1 (s' := (65, [some (.inr (some (25, 0, 0, 0))), some (.inl x0), some (.inl x1), some (.inl v3)], [.inl v3], (zx_lay M, n))) rfl ?_
      refine zx_E.brh (c := v3 = 0) (s1 := (72, [some (.inr (some (25, 0, 0, 0))), some (.inl x0), some (.inl x1), some (.inl v3)], [], (zx_lay M, n))) (s2 := (68, [some (.inr (some (25, 0, 0, 0))), some (.inl x0), some (.inl x1), some (.inl v3)], [], (zx_lay M, n))) h (zx_if_eq rfl) (fun _ h => ?_) (fun _ h => ?_)
      · refine zx_E.go 3 (s' := (75, [some (.inr (some (25, 0, 0, 0))), some (.inl x0), some (.inl x1), some (.inl v3)], [.inl 1, .inl x0, .inr (some (25, 0, 0, 0))], (zx_lay M, n))) rfl ?_
        refine zx_E.cb (y := 125) (as := [.inr (some (25, 0, 0, 0)), .inl x0, .inl 1]) (rest := []) h rfl (fun _ hv => zx_run_up (by omega) (r_X11_at (d := d) hv)) (fun v4 h => ?_)
        show zx_E _ _ _ (78, [some (.inr (some (25, 0, 0, 0))), some (.inl x0), some (.inl x1), some (.inl v3)], [.inl v4], (zx_lay M, n)) _
        exact zx_E.rp h rfl (fun h => absurd h (by decide))
      · refine zx_E.go 2 (s' := (78, [some (.inr (some (25, 0, 0, 0))), some (.inl x0), some (.inl x1), some (.inl v3)], [.inl 0], (zx_lay M, n))) rfl ?_
        exact zx_E.rp h rfl (fun h => absurd h (by decide))
  · refine zx_E.go 1 (s' := (16, [some (.inr (some (25, 0, 0, 0))), some (.inl x0), some (.inl x1), none], [.inl x1], (zx_lay M, n))) rfl ?_
    refine zx_E.brh (c := x1 = 0) (s1 := (19, [some (.inr (some (25, 0, 0, 0))), some (.inl x0), some (.inl x1), none], [], (zx_lay M, n))) (s2 := (23, [some (.inr (some (25, 0, 0, 0))), some (.inl x0), some (.inl x1), none], [], (zx_lay M, n))) h (zx_if_ne rfl) (fun _ h => ?_) (fun _ h => ?_)
    · refine zx_E.go 2 (s' := (36, [some (.inr (some (25, 0, 0, 0))), some (.inl x0), some (.inl x1), none], [.inl 1], (zx_lay M, n))) rfl ?_
      exact zx_E.rp h rfl (fun h => absurd h (by decide))
    · refine zx_E.go 3 (s' := (26, [some (.inr (some (25, 0, 0, 0))), some (.inl x0), some (.inl x1), none], [.inl 4, .inl x0, .inr (some (25, 0, 0, 0))], (zx_lay M, n))) rfl ?_
      refine zx_E.cb (y := 125) (as := [.inr (some (25, 0, 0, 0)), .inl x0, .inl 4]) (rest := []) h rfl (fun _ hv => zx_run_up (by omega) (r_X11_at (d := d) hv)) (fun v5 h => ?_)
      show zx_E _ _ _ (29, [some (.inr (some (25, 0, 0, 0))), some (.inl x0), some (.inl x1), none], [.inl v5], (zx_lay M, n)) _
      refine zx_E.go 3 (s' := (34, [some (.inr (some (25, 0, 0, 0))), some (.inl x0), some (.inl x1), none], [.inl 0, .inr (some (26, 0, 0, 0)), .inl v5], (zx_lay M, n))) rfl ?_
      refine zx_E.iald (k := 0) (h := (26, 0, 0, 0)) rfl rfl rfl (by decide) ?_
      show zx_E _ _ _ (35, [some (.inr (some (25, 0, 0, 0))), some (.inl x0), some (.inl x1), none], [.inl (M (26, 0, 0, 0) 0), .inl v5], (zx_lay M, n)) _
      refine zx_E.go 1 (s' := (36, [some (.inr (some (25, 0, 0, 0))), some (.inl x0), some (.inl x1), none], [.inl (v5 - (M (26, 0, 0, 0) 0))], (zx_lay M, n))) rfl ?_
      exact zx_E.rp h rfl (fun h => absurd h (by decide))
def lg_X11_firstAhead_19 (M : zx_Y) (x0 : Int32) (p2 : Int32) (kk : Int32 → Option (Int32 × zx_Y)) : Nat → Int32 → Option (Int32 × zx_Y)
  | 0, _ => none
  | q + 1, w3 => (if (M (25, 0, 0, 0) 2) ≤ w3 then (kk w3) else (zi w3 10 fun k1 => (if (M (27, 0, 0, 0) k1) = x0 then (kk w3) else (zi w3 10 fun k2 => (zb (g_X11_mayRun M (M (27, 0, 0, 0) k2)) fun v1 => (if v1 = 0 then (lg_X11_firstAhead_19 M x0 p2 kk q (w3 + 1)) else (zi w3 10 fun k3 => (zi w3 10 fun k4 => (zb (g_X11_at M (M (27, 0, 0, 0) k4) 11) fun v2 => (zb (g_X11_blockFrom M (M (27, 0, 0, 0) k3) v2) fun v3 => (if v3 = p2 then (zi w3 10 fun k5 => (some ((M (27, 0, 0, 0) k5), M))) else (lg_X11_firstAhead_19 M x0 p2 kk q (w3 + 1)))))))))))))
set_option maxRecDepth 100000 in
set_option maxHeartbeats 4000000 in
theorem rl_X11_firstAhead_19 {X : zx_X} {d n : Nat} {M : zx_Y} {x0 : Int32} {p2 : Int32} {kk : Int32 → Option (Int32 × zx_Y)} {rv : Int32} {rM : zx_Y} (hk : ∀ (w3 : Int32), kk w3 = some (rv, rM) → zx_E X (d + 7) zc_X11_firstAhead (89, [some (.inr (some (25, 0, 0, 0))), some (.inl x0), some (.inl p2), some (.inl w3)], [], (zx_lay M, n)) (some (.inl rv), (zx_lay rM, n))) : ∀ (q : Nat) (w3 : Int32), lg_X11_firstAhead_19 M x0 p2 kk q w3 = some (rv, rM) → zx_E X (d + 7) zc_X11_firstAhead (19, [some (.inr (some (25, 0, 0, 0))), some (.inl x0), some (.inl p2), some (.inl w3)], [], (zx_lay M, n)) (some (.inl rv), (zx_lay rM, n))
  | 0, w3, h => by
    rw [lg_X11_firstAhead_19.eq_1] at h
    cases h
  | q + 1, w3, h => by
    rw [lg_X11_firstAhead_19.eq_2] at h
    refine zx_E.go 3 (s' := (24, [some (.inr (some (25, 0, 0, 0))), some (.inl x0), some (.inl p2), some (.inl w3)], [.inl (M (25, 0, 0, 0) 2), .inl w3], (zx_lay M, n))) rfl ?_
    refine zx_E.brh (c := (M (25, 0, 0, 0) 2) ≤ w3) (s1 := (89, [some (.inr (some (25, 0, 0, 0))), some (.inl x0), some (.inl p2), some (.inl w3)], [], (zx_lay M, n))) (s2 := (27, [some (.inr (some (25, 0, 0, 0))), some (.inl x0), some (.inl p2), some (.inl w3)], [], (zx_lay M, n))) h (zx_ic_ge rfl) (fun _ h => ?_) (fun _ h => ?_)
    · exact hk _ h
    · refine zx_E.go 3 (s' := (32, [some (.inr (some (25, 0, 0, 0))), some (.inl x0), some (.inl p2), some (.inl w3)], [.inl w3, .inr (some (27, 0, 0, 0))], (zx_lay M, n))) rfl ?_
      refine zx_E.ix h (fun k1 hx_k1 hl_k1 h => ?_)
      refine zx_E.iald (k := k1) (h := (27, 0, 0, 0)) rfl rfl hx_k1 hl_k1 ?_
      show zx_E _ _ _ (33, [some (.inr (some (25, 0, 0, 0))), some (.inl x0), some (.inl p2), some (.inl w3)], [.inl (M (27, 0, 0, 0) k1)], (zx_lay M, n)) _
      refine zx_E.go 1 (s' := (34, [some (.inr (some (25, 0, 0, 0))), some (.inl x0), some (.inl p2), some (.inl w3)], [.inl x0, .inl (M (27, 0, 0, 0) k1)], (zx_lay M, n))) rfl ?_
      refine zx_E.brh (c := (M (27, 0, 0, 0) k1) = x0) (s1 := (89, [some (.inr (some (25, 0, 0, 0))), some (.inl x0), some (.inl p2), some (.inl w3)], [], (zx_lay M, n))) (s2 := (37, [some (.inr (some (25, 0, 0, 0))), some (.inl x0), some (.inl p2), some (.inl w3)], [], (zx_lay M, n))) h (zx_ic_eq rfl) (fun _ h => ?_) (fun _ h => ?_)
      · exact hk _ h
      · refine zx_E.go 4 (s' := (43, [some (.inr (some (25, 0, 0, 0))), some (.inl x0), some (.inl p2), some (.inl w3)], [.inl w3, .inr (some (27, 0, 0, 0)), .inr (some (25, 0, 0, 0))], (zx_lay M, n))) rfl ?_
        refine zx_E.ix h (fun k2 hx_k2 hl_k2 h => ?_)
        refine zx_E.iald (k := k2) (h := (27, 0, 0, 0)) rfl rfl hx_k2 hl_k2 ?_
        show zx_E _ _ _ (44, [some (.inr (some (25, 0, 0, 0))), some (.inl x0), some (.inl p2), some (.inl w3)], [.inl (M (27, 0, 0, 0) k2), .inr (some (25, 0, 0, 0))], (zx_lay M, n)) _
        refine zx_E.cb (y := 139) (as := [.inr (some (25, 0, 0, 0)), .inl (M (27, 0, 0, 0) k2)]) (rest := []) h rfl (fun _ hv => zx_run_up (by omega) (r_X11_mayRun (d := d) hv)) (fun v1 h => ?_)
        show zx_E _ _ _ (47, [some (.inr (some (25, 0, 0, 0))), some (.inl x0), some (.inl p2), some (.inl w3)], [.inl v1], (zx_lay M, n)) _
        refine zx_E.brh (c := v1 = 0) (s1 := (83, [some (.inr (some (25, 0, 0, 0))), some (.inl x0), some (.inl p2), some (.inl w3)], [], (zx_lay M, n))) (s2 := (50, [some (.inr (some (25, 0, 0, 0))), some (.inl x0), some (.inl p2), some (.inl w3)], [], (zx_lay M, n))) h (zx_if_eq rfl) (fun _ h => ?_) (fun _ h => ?_)
        · refine zx_E.go 2 (s' := (19, [some (.inr (some (25, 0, 0, 0))), some (.inl x0), some (.inl p2), some (.inl (w3 + 1))], [], (zx_lay M, n))) rfl ?_
          exact rl_X11_firstAhead_19 hk q (w3 + 1) h
        · refine zx_E.go 4 (s' := (56, [some (.inr (some (25, 0, 0, 0))), some (.inl x0), some (.inl p2), some (.inl w3)], [.inl w3, .inr (some (27, 0, 0, 0)), .inr (some (25, 0, 0, 0))], (zx_lay M, n))) rfl ?_
          refine zx_E.ix h (fun k3 hx_k3 hl_k3 h => ?_)
          refine zx_E.iald (k := k3) (h := (27, 0, 0, 0)) rfl rfl hx_k3 hl_k3 ?_
          show zx_E _ _ _ (57, [some (.inr (some (25, 0, 0, 0))), some (.inl x0), some (.inl p2), some (.inl w3)], [.inl (M (27, 0, 0, 0) k3), .inr (some (25, 0, 0, 0))], (zx_lay M, n)) _
          refine zx_E.go 4 (s' := (63, [some (.inr (some (25, 0, 0, 0))), some (.inl x0), some (.inl p2), some (.inl w3)], [.inl w3, .inr (some (27, 0, 0, 0)), .inr (some (25, 0, 0, 0)), .inl (M (27, 0, 0, 0) k3), .inr (some (25, 0, 0, 0))], (zx_lay M, n))) rfl ?_
          refine zx_E.ix h (fun k4 hx_k4 hl_k4 h => ?_)
          refine zx_E.iald (k := k4) (h := (27, 0, 0, 0)) rfl rfl hx_k4 hl_k4 ?_
          show zx_E _ _ _ (64, [some (.inr (some (25, 0, 0, 0))), some (.inl x0), some (.inl p2), some (.inl w3)], [.inl (M (27, 0, 0, 0) k4), .inr (some (25, 0, 0, 0)), .inl (M (27, 0, 0, 0) k3), .inr (some (25, 0, 0, 0))], (zx_lay M, n)) _
          refine zx_E.go 1 (s' := (66, [some (.inr (some (25, 0, 0, 0))), some (.inl x0), some (.inl p2), some (.inl w3)], [.inl 11, .inl (M (27, 0, 0, 0) k4), .inr (some (25, 0, 0, 0)), .inl (M (27, 0, 0, 0) k3), .inr (some (25, 0, 0, 0))], (zx_lay M, n))) rfl ?_
          refine zx_E.cb (y := 125) (as := [.inr (some (25, 0, 0, 0)), .inl (M (27, 0, 0, 0) k4), .inl 11]) (rest := [.inl (M (27, 0, 0, 0) k3), .inr (some (25, 0, 0, 0))]) h rfl (fun _ hv => zx_run_up (by omega) (r_X11_at (d := d) hv)) (fun v2 h => ?_)
          show zx_E _ _ _ (69, [some (.inr (some (25, 0, 0, 0))), some (.inl x0), some (.inl p2), some (.inl w3)], [.inl v2, .inl (M (27, 0, 0, 0) k3), .inr (some (25, 0, 0, 0))], (zx_lay M, n)) _
          refine zx_E.cb (y := 128) (as := [.inr (some (25, 0, 0, 0)), .inl (M (27, 0, 0, 0) k3), .inl v2]) (rest := []) h rfl (fun _ hv => zx_run_up (by omega) (r_X11_blockFrom (d := d) hv)) (fun v3 h => ?_)
          show zx_E _ _ _ (72, [some (.inr (some (25, 0, 0, 0))), some (.inl x0), some (.inl p2), some (.inl w3)], [.inl v3], (zx_lay M, n)) _
          refine zx_E.go 1 (s' := (73, [some (.inr (some (25, 0, 0, 0))), some (.inl x0), some (.inl p2), some (.inl w3)], [.inl p2, .inl v3], (zx_lay M, n))) rfl ?_
          refine zx_E.brh (c := v3 = p2) (s1 := (76, [some (.inr (some (25, 0, 0, 0))), some (.inl x0), some (.inl p2), some (.inl w3)], [], (zx_lay M, n))) (s2 := (83, [some (.inr (some (25, 0, 0, 0))), some (.inl x0), some (.inl p2), some (.inl w3)], [], (zx_lay M, n))) h (zx_ic_ne rfl) (fun _ h => ?_) (fun _ h => ?_)
          · refine zx_E.go 3 (s' := (81, [some (.inr (some (25, 0, 0, 0))), some (.inl x0), some (.inl p2), some (.inl w3)], [.inl w3, .inr (some (27, 0, 0, 0))], (zx_lay M, n))) rfl ?_
            refine zx_E.ix h (fun k5 hx_k5 hl_k5 h => ?_)
            refine zx_E.iald (k := k5) (h := (27, 0, 0, 0)) rfl rfl hx_k5 hl_k5 ?_
            show zx_E _ _ _ (82, [some (.inr (some (25, 0, 0, 0))), some (.inl x0), some (.inl p2), some (.inl w3)], [.inl (M (27, 0, 0, 0) k5)], (zx_lay M, n)) _
            exact zx_E.ri h rfl (fun h => absurd h (by decide))
          · refine zx_E.go 2 (s' := (19, [some (.inr (some (25, 0, 0, 0))), some (.inl x0), some (.inl p2), some (.inl (w3 + 1))], [], (zx_lay M, n))) rfl ?_
            exact rl_X11_firstAhead_19 hk q (w3 + 1) h
def g_X11_firstAhead (M : zx_Y) (x0 : Int32) : Option (Int32 × zx_Y) := (zm (g_X11_sortTrains M) fun M1 => (zb (g_X11_at M1 x0 11) fun v1 => (zb (g_X11_blockFrom M1 x0 v1) fun v2 => (lg_X11_firstAhead_19 M1 x0 v2 (fun v3 => (some ((-5), M1))) 1000 0))))
set_option maxRecDepth 100000 in
set_option maxHeartbeats 4000000 in
theorem r_X11_firstAhead {X : zx_X} {d n : Nat} {M : zx_Y} {x0 : Int32} {rv : Int32} {rM : zx_Y} (h : g_X11_firstAhead M x0 = some (rv, rM)) : zx_run X (d + 8) 180 [.inr (some (25, 0, 0, 0)), .inl x0] (zx_lay M, n) (some (.inl rv), (zx_lay rM, n)) := by
  refine zx_run_of zc_X11_firstAhead [some (.inr (some (25, 0, 0, 0))), some (.inl x0), none, none] rfl rfl ?_
  unfold g_X11_firstAhead at h
  refine zx_E.go 1 (s' := (1, [some (.inr (some (25, 0, 0, 0))), some (.inl x0), none, none], [.inr (some (25, 0, 0, 0))], (zx_lay M, n))) rfl ?_
  refine zx_E.cm (y := 141) (as := [.inr (some (25, 0, 0, 0))]) (rest := []) h rfl (fun _ hv => zx_run_up (by omega) (r_X11_sortTrains (d := d) hv)) (fun M1 h => ?_)
  show zx_E _ _ _ (4, [some (.inr (some (25, 0, 0, 0))), some (.inl x0), none, none], [], (zx_lay M1, n)) _
  refine zx_E.go 5 (s' := (10, [some (.inr (some (25, 0, 0, 0))), some (.inl x0), none, none], [.inl 11, .inl x0, .inr (some (25, 0, 0, 0)), .inl x0, .inr (some (25, 0, 0, 0))], (zx_lay M1, n))) rfl ?_
  refine zx_E.cb (y := 125) (as := [.inr (some (25, 0, 0, 0)), .inl x0, .inl 11]) (rest := [.inl x0, .inr (some (25, 0, 0, 0))]) h rfl (fun _ hv => zx_run_up (by omega) (r_X11_at (d := d) hv)) (fun v1 h => ?_)
  show zx_E _ _ _ (13, [some (.inr (some (25, 0, 0, 0))), some (.inl x0), none, none], [.inl v1, .inl x0, .inr (some (25, 0, 0, 0))], (zx_lay M1, n)) _
  refine zx_E.cb (y := 128) (as := [.inr (some (25, 0, 0, 0)), .inl x0, .inl v1]) (rest := []) h rfl (fun _ hv => zx_run_up (by omega) (r_X11_blockFrom (d := d) hv)) (fun v2 h => ?_)
  show zx_E _ _ _ (16, [some (.inr (some (25, 0, 0, 0))), some (.inl x0), none, none], [.inl v2], (zx_lay M1, n)) _
  refine zx_E.go 3 (s' := (19, [some (.inr (some (25, 0, 0, 0))), some (.inl x0), some (.inl v2), some (.inl 0)], [], (zx_lay M1, n))) rfl ?_
  refine rl_X11_firstAhead_19 (fun v3 h => ?_) 1000  0  h
  refine zx_E.go 1 (s' := (91, [some (.inr (some (25, 0, 0, 0))), some (.inl x0), some (.inl v2), some (.inl v3)], [.inl (-5)], (zx_lay M1, n))) rfl ?_
  exact zx_E.ri h rfl (fun h => absurd h (by decide))
def g_X11_whyStanding (M : zx_Y) (x0 : Int32) (x1 : Int32) : Option (Int32 × zx_Y) := (zb (g_X11_at M x0 11) fun v1 => (zb (g_X11_blockFrom M x0 v1) fun v2 => (zb (g_X11_trainIn M v2) fun v3 => (if v3 = (-5) then (zb (g_X11_at M x0 11) fun v4 => (zb (g_X11_stationBehind M x0 v4) fun v5 => (zb (g_X11_at M x0 2) fun v6 => (if v5 = v6 then (zb (g_X11_overtime M x0) fun v7 => (if v7 ≤ 0 then (zv (g_X11_firstAhead M x0) fun v8 M1 => (if x1 = 0 then (if v8 = (-5) then (some (8, M1)) else (some (7, M1))) else (some (v8, M1)))) else (if x1 = 0 then (some (6, M)) else (zb (g_X11_overtime M x0) fun v9 => (some (v9, M)))))) else (zb (g_X11_hasTrack M v5) fun v10 => (if v10 = 0 then (if x1 = 0 then (some (5, M)) else (some (v5, M))) else (zb (g_X11_overtime M x0) fun v11 => (if v11 ≤ 0 then (zv (g_X11_firstAhead M x0) fun v12 M2 => (if x1 = 0 then (if v12 = (-5) then (some (8, M2)) else (some (7, M2))) else (some (v12, M2)))) else (if x1 = 0 then (some (6, M)) else (zb (g_X11_overtime M x0) fun v13 => (some (v13, M)))))))))))) else (if x1 = 0 then (some (4, M)) else (some (v3, M)))))))
set_option maxRecDepth 100000 in
set_option maxHeartbeats 4000000 in
theorem r_X11_whyStanding {X : zx_X} {d n : Nat} {M : zx_Y} {x0 : Int32} {x1 : Int32} {rv : Int32} {rM : zx_Y} (h : g_X11_whyStanding M x0 x1 = some (rv, rM)) : zx_run X (d + 9) 181 [.inr (some (25, 0, 0, 0)), .inl x0, .inl x1] (zx_lay M, n) (some (.inl rv), (zx_lay rM, n)) := by
  refine zx_run_of zc_X11_whyStanding [some (.inr (some (25, 0, 0, 0))), some (.inl x0), some (.inl x1), none, none, none] rfl rfl ?_
  unfold g_X11_whyStanding at h
  refine zx_E.go 6 (s' := (7, [some (.inr (some (25, 0, 0, 0))), some (.inl x0), some (.inl x1), none, none, none], [.inl 11, .inl x0, .inr (some (25, 0, 0, 0)), .inl x0, .inr (some (25, 0, 0, 0)), .inr (some (25, 0, 0, 0))], (zx_lay M, n))) rfl ?_
  refine zx_E.cb (y := 125) (as := [.inr (some (25, 0, 0, 0)), .inl x0, .inl 11]) (rest := [.inl x0, .inr (some (25, 0, 0, 0)), .inr (some (25, 0, 0, 0))]) h rfl (fun _ hv => zx_run_up (by omega) (r_X11_at (d := d) hv)) (fun v1 h => ?_)
  show zx_E _ _ _ (10, [some (.inr (some (25, 0, 0, 0))), some (.inl x0), some (.inl x1), none, none, none], [.inl v1, .inl x0, .inr (some (25, 0, 0, 0)), .inr (some (25, 0, 0, 0))], (zx_lay M, n)) _
  refine zx_E.cb (y := 128) (as := [.inr (some (25, 0, 0, 0)), .inl x0, .inl v1]) (rest := [.inr (some (25, 0, 0, 0))]) h rfl (fun _ hv => zx_run_up (by omega) (r_X11_blockFrom (d := d) hv)) (fun v2 h => ?_)
  show zx_E _ _ _ (13, [some (.inr (some (25, 0, 0, 0))), some (.inl x0), some (.inl x1), none, none, none], [.inl v2, .inr (some (25, 0, 0, 0))], (zx_lay M, n)) _
  refine zx_E.cb (y := 134) (as := [.inr (some (25, 0, 0, 0)), .inl v2]) (rest := []) h rfl (fun _ hv => zx_run_up (by omega) (r_X11_trainIn (d := d) hv)) (fun v3 h => ?_)
  show zx_E _ _ _ (16, [some (.inr (some (25, 0, 0, 0))), some (.inl x0), some (.inl x1), none, none, none], [.inl v3], (zx_lay M, n)) _
  refine zx_E.go 3 (s' := (20, [some (.inr (some (25, 0, 0, 0))), some (.inl x0), some (.inl x1), some (.inl v3), none, none], [.inl (-5), .inl v3], (zx_lay M, n))) rfl ?_
  refine zx_E.brh (c := v3 = (-5)) (s1 := (33, [some (.inr (some (25, 0, 0, 0))), some (.inl x0), some (.inl x1), some (.inl v3), none, none], [], (zx_lay M, n))) (s2 := (23, [some (.inr (some (25, 0, 0, 0))), some (.inl x0), some (.inl x1), some (.inl v3), none, none], [], (zx_lay M, n))) h (zx_ic_eq rfl) (fun _ h => ?_) (fun _ h => ?_)
  · refine zx_E.go 5 (s' := (39, [some (.inr (some (25, 0, 0, 0))), some (.inl x0), some (.inl x1), some (.inl v3), none, none], [.inl 11, .inl x0, .inr (some (25, 0, 0, 0)), .inl x0, .inr (some (25, 0, 0, 0))], (zx_lay M, n))) rfl ?_
    refine zx_E.cb (y := 125) (as := [.inr (some (25, 0, 0, 0)), .inl x0, .inl 11]) (rest := [.inl x0, .inr (some (25, 0, 0, 0))]) h rfl (fun _ hv => zx_run_up (by omega) (r_X11_at (d := d) hv)) (fun v4 h => ?_)
    show zx_E _ _ _ (42, [some (.inr (some (25, 0, 0, 0))), some (.inl x0), some (.inl x1), some (.inl v3), none, none], [.inl v4, .inl x0, .inr (some (25, 0, 0, 0))], (zx_lay M, n)) _
    refine zx_E.cb (y := 129) (as := [.inr (some (25, 0, 0, 0)), .inl x0, .inl v4]) (rest := []) h rfl (fun _ hv => zx_run_up (by omega) (r_X11_stationBehind (d := d) hv)) (fun v5 h => ?_)
    show zx_E _ _ _ (45, [some (.inr (some (25, 0, 0, 0))), some (.inl x0), some (.inl x1), some (.inl v3), none, none], [.inl v5], (zx_lay M, n)) _
    refine zx_E.go 5 (s' := (52, [some (.inr (some (25, 0, 0, 0))), some (.inl x0), some (.inl x1), some (.inl v3), some (.inl v5), none], [.inl 2, .inl x0, .inr (some (25, 0, 0, 0)), .inl v5], (zx_lay M, n))) rfl ?_
    refine zx_E.cb (y := 125) (as := [.inr (some (25, 0, 0, 0)), .inl x0, .inl 2]) (rest := [.inl v5]) h rfl (fun _ hv => zx_run_up (by omega) (r_X11_at (d := d) hv)) (fun v6 h => ?_)
    show zx_E _ _ _ (55, [some (.inr (some (25, 0, 0, 0))), some (.inl x0), some (.inl x1), some (.inl v3), some (.inl v5), none], [.inl v6, .inl v5], (zx_lay M, n)) _
    refine zx_E.brh (c := v5 = v6) (s1 := (78, [some (.inr (some (25, 0, 0, 0))), some (.inl x0), some (.inl x1), some (.inl v3), some (.inl v5), none], [], (zx_lay M, n))) (s2 := (58, [some (.inr (some (25, 0, 0, 0))), some (.inl x0), some (.inl x1), some (.inl v3), some (.inl v5), none], [], (zx_lay M, n))) h (zx_ic_eq rfl) (fun _ h => ?_) (fun _ h => ?_)
    · refine zx_E.go 2 (s' := (80, [some (.inr (some (25, 0, 0, 0))), some (.inl x0), some (.inl x1), some (.inl v3), some (.inl v5), none], [.inl x0, .inr (some (25, 0, 0, 0))], (zx_lay M, n))) rfl ?_
      refine zx_E.cb (y := 138) (as := [.inr (some (25, 0, 0, 0)), .inl x0]) (rest := []) h rfl (fun _ hv => zx_run_up (by omega) (r_X11_overtime (d := d) hv)) (fun v7 h => ?_)
      show zx_E _ _ _ (83, [some (.inr (some (25, 0, 0, 0))), some (.inl x0), some (.inl x1), some (.inl v3), some (.inl v5), none], [.inl v7], (zx_lay M, n)) _
      refine zx_E.brh (c := v7 ≤ 0) (s1 := (101, [some (.inr (some (25, 0, 0, 0))), some (.inl x0), some (.inl x1), some (.inl v3), some (.inl v5), none], [], (zx_lay M, n))) (s2 := (86, [some (.inr (some (25, 0, 0, 0))), some (.inl x0), some (.inl x1), some (.inl v3), some (.inl v5), none], [], (zx_lay M, n))) h (zx_if_le rfl) (fun _ h => ?_) (fun _ h => ?_)
      · refine zx_E.go 2 (s' := (103, [some (.inr (some (25, 0, 0, 0))), some (.inl x0), some (.inl x1), some (.inl v3), some (.inl v5), none], [.inl x0, .inr (some (25, 0, 0, 0))], (zx_lay M, n))) rfl ?_
        refine zx_E.cv (y := 180) (as := [.inr (some (25, 0, 0, 0)), .inl x0]) (rest := []) h rfl (fun _ _ hv => zx_run_up (by omega) (r_X11_firstAhead (d := d) hv)) (fun v8 M1 h => ?_)
        show zx_E _ _ _ (106, [some (.inr (some (25, 0, 0, 0))), some (.inl x0), some (.inl x1), some (.inl v3), some (.inl v5), none], [.inl v8], (zx_lay M1, n)) _
        refine zx_E.go 2 (s' := (109, [some (.inr (some (25, 0, 0, 0))), some (.inl x0), some (.inl x1), some (.inl v3), some (.inl v5), some (.inl v8)], [.inl x1], (zx_lay M1, n))) rfl ?_
        refine zx_E.brh (c := x1 = 0) (s1 := (112, [some (.inr (some (25, 0, 0, 0))), some (.inl x0), some (.inl x1), some (.inl v3), some (.inl v5), some (.inl v8)], [], (zx_lay M1, n))) (s2 := (129, [some (.inr (some (25, 0, 0, 0))), some (.inl x0), some (.inl x1), some (.inl v3), some (.inl v5), some (.inl v8)], [], (zx_lay M1, n))) h (zx_if_ne rfl) (fun _ h => ?_) (fun _ h => ?_)
        · refine zx_E.go 2 (s' := (116, [some (.inr (some (25, 0, 0, 0))), some (.inl x0), some (.inl x1), some (.inl v3), some (.inl v5), some (.inl v8)], [.inl (-5), .inl v8], (zx_lay M1, n))) rfl ?_
          refine zx_E.brh (c := v8 = (-5)) (s1 := (119, [some (.inr (some (25, 0, 0, 0))), some (.inl x0), some (.inl x1), some (.inl v3), some (.inl v5), some (.inl v8)], [], (zx_lay M1, n))) (s2 := (124, [some (.inr (some (25, 0, 0, 0))), some (.inl x0), some (.inl x1), some (.inl v3), some (.inl v5), some (.inl v8)], [], (zx_lay M1, n))) h (zx_ic_ne rfl) (fun _ h => ?_) (fun _ h => ?_)
          · refine zx_E.go 2 (s' := (131, [some (.inr (some (25, 0, 0, 0))), some (.inl x0), some (.inl x1), some (.inl v3), some (.inl v5), some (.inl v8)], [.inl 8], (zx_lay M1, n))) rfl ?_
            exact zx_E.ri h rfl (fun h => absurd h (by decide))
          · refine zx_E.go 2 (s' := (131, [some (.inr (some (25, 0, 0, 0))), some (.inl x0), some (.inl x1), some (.inl v3), some (.inl v5), some (.inl v8)], [.inl 7], (zx_lay M1, n))) rfl ?_
            exact zx_E.ri h rfl (fun h => absurd h (by decide))
        · refine zx_E.go 1 (s' := (131, [some (.inr (some (25, 0, 0, 0))), some (.inl x0), some (.inl x1), some (.inl v3), some (.inl v5), some (.inl v8)], [.inl v8], (zx_lay M1, n))) rfl ?_
          exact zx_E.ri h rfl (fun h => absurd h (by decide))
      · refine zx_E.go 1 (s' := (87, [some (.inr (some (25, 0, 0, 0))), some (.inl x0), some (.inl x1), some (.inl v3), some (.inl v5), none], [.inl x1], (zx_lay M, n))) rfl ?_
        refine zx_E.brh (c := x1 = 0) (s1 := (90, [some (.inr (some (25, 0, 0, 0))), some (.inl x0), some (.inl x1), some (.inl v3), some (.inl v5), none], [], (zx_lay M, n))) (s2 := (95, [some (.inr (some (25, 0, 0, 0))), some (.inl x0), some (.inl x1), some (.inl v3), some (.inl v5), none], [], (zx_lay M, n))) h (zx_if_ne rfl) (fun _ h => ?_) (fun _ h => ?_)
        · refine zx_E.go 2 (s' := (100, [some (.inr (some (25, 0, 0, 0))), some (.inl x0), some (.inl x1), some (.inl v3), some (.inl v5), none], [.inl 6], (zx_lay M, n))) rfl ?_
          exact zx_E.ri h rfl (fun h => absurd h (by decide))
        · refine zx_E.go 2 (s' := (97, [some (.inr (some (25, 0, 0, 0))), some (.inl x0), some (.inl x1), some (.inl v3), some (.inl v5), none], [.inl x0, .inr (some (25, 0, 0, 0))], (zx_lay M, n))) rfl ?_
          refine zx_E.cb (y := 138) (as := [.inr (some (25, 0, 0, 0)), .inl x0]) (rest := []) h rfl (fun _ hv => zx_run_up (by omega) (r_X11_overtime (d := d) hv)) (fun v9 h => ?_)
          show zx_E _ _ _ (100, [some (.inr (some (25, 0, 0, 0))), some (.inl x0), some (.inl x1), some (.inl v3), some (.inl v5), none], [.inl v9], (zx_lay M, n)) _
          exact zx_E.ri h rfl (fun h => absurd h (by decide))
    · refine zx_E.go 2 (s' := (61, [some (.inr (some (25, 0, 0, 0))), some (.inl x0), some (.inl x1), some (.inl v3), some (.inl v5), none], [.inl v5, .inr (some (25, 0, 0, 0))], (zx_lay M, n))) rfl ?_
      refine zx_E.cb (y := 133) (as := [.inr (some (25, 0, 0, 0)), .inl v5]) (rest := []) h rfl (fun _ hv => zx_run_up (by omega) (r_X11_hasTrack (d := d) hv)) (fun v10 h => ?_)
      show zx_E _ _ _ (64, [some (.inr (some (25, 0, 0, 0))), some (.inl x0), some (.inl x1), some (.inl v3), some (.inl v5), none], [.inl v10], (zx_lay M, n)) _
      refine zx_E.brh (c := v10 = 0) (s1 := (67, [some (.inr (some (25, 0, 0, 0))), some (.inl x0), some (.inl x1), some (.inl v3), some (.inl v5), none], [], (zx_lay M, n))) (s2 := (78, [some (.inr (some (25, 0, 0, 0))), some (.inl x0), some (.inl x1), some (.inl v3), some (.inl v5), none], [], (zx_lay M, n))) h (zx_if_ne rfl) (fun _ h => ?_) (fun _ h => ?_)
      · refine zx_E.go 1 (s' := (68, [some (.inr (some (25, 0, 0, 0))), some (.inl x0), some (.inl x1), some (.inl v3), some (.inl v5), none], [.inl x1], (zx_lay M, n))) rfl ?_
        refine zx_E.brh (c := x1 = 0) (s1 := (71, [some (.inr (some (25, 0, 0, 0))), some (.inl x0), some (.inl x1), some (.inl v3), some (.inl v5), none], [], (zx_lay M, n))) (s2 := (75, [some (.inr (some (25, 0, 0, 0))), some (.inl x0), some (.inl x1), some (.inl v3), some (.inl v5), none], [], (zx_lay M, n))) h (zx_if_ne rfl) (fun _ h => ?_) (fun _ h => ?_)
        · refine zx_E.go 2 (s' := (77, [some (.inr (some (25, 0, 0, 0))), some (.inl x0), some (.inl x1), some (.inl v3), some (.inl v5), none], [.inl 5], (zx_lay M, n))) rfl ?_
          exact zx_E.ri h rfl (fun h => absurd h (by decide))
        · refine zx_E.go 1 (s' := (77, [some (.inr (some (25, 0, 0, 0))), some (.inl x0), some (.inl x1), some (.inl v3), some (.inl v5), none], [.inl v5], (zx_lay M, n))) rfl ?_
          exact zx_E.ri h rfl (fun h => absurd h (by decide))
      · refine zx_E.go 2 (s' := (80, [some (.inr (some (25, 0, 0, 0))), some (.inl x0), some (.inl x1), some (.inl v3), some (.inl v5), none], [.inl x0, .inr (some (25, 0, 0, 0))], (zx_lay M, n))) rfl ?_
        refine zx_E.cb (y := 138) (as := [.inr (some (25, 0, 0, 0)), .inl x0]) (rest := []) h rfl (fun _ hv => zx_run_up (by omega) (r_X11_overtime (d := d) hv)) (fun v11 h => ?_)
        show zx_E _ _ _ (83, [some (.inr (some (25, 0, 0, 0))), some (.inl x0), some (.inl x1), some (.inl v3), some (.inl v5), none], [.inl v11], (zx_lay M, n)) _
        refine zx_E.brh (c := v11 ≤ 0) (s1 := (101, [some (.inr (some (25, 0, 0, 0))), some (.inl x0), some (.inl x1), some (.inl v3), some (.inl v5), none], [], (zx_lay M, n))) (s2 := (86, [some (.inr (some (25, 0, 0, 0))), some (.inl x0), some (.inl x1), some (.inl v3), some (.inl v5), none], [], (zx_lay M, n))) h (zx_if_le rfl) (fun _ h => ?_) (fun _ h => ?_)
        · refine zx_E.go 2 (s' := (103, [some (.inr (some (25, 0, 0, 0))), some (.inl x0), some (.inl x1), some (.inl v3), some (.inl v5), none], [.inl x0, .inr (some (25, 0, 0, 0))], (zx_lay M, n))) rfl ?_
          refine zx_E.cv (y := 180) (as := [.inr (some (25, 0, 0, 0)), .inl x0]) (rest := []) h rfl (fun _ _ hv => zx_run_up (by omega) (r_X11_firstAhead (d := d) hv)) (fun v12 M2 h => ?_)
          show zx_E _ _ _ (106, [some (.inr (some (25, 0, 0, 0))), some (.inl x0), some (.inl x1), some (.inl v3), some (.inl v5), none], [.inl v12], (zx_lay M2, n)) _
          refine zx_E.go 2 (s' := (109, [some (.inr (some (25, 0, 0, 0))), some (.inl x0), some (.inl x1), some (.inl v3), some (.inl v5), some (.inl v12)], [.inl x1], (zx_lay M2, n))) rfl ?_
          refine zx_E.brh (c := x1 = 0) (s1 := (112, [some (.inr (some (25, 0, 0, 0))), some (.inl x0), some (.inl x1), some (.inl v3), some (.inl v5), some (.inl v12)], [], (zx_lay M2, n))) (s2 := (129, [some (.inr (some (25, 0, 0, 0))), some (.inl x0), some (.inl x1), some (.inl v3), some (.inl v5), some (.inl v12)], [], (zx_lay M2, n))) h (zx_if_ne rfl) (fun _ h => ?_) (fun _ h => ?_)
          · refine zx_E.go 2 (s' := (116, [some (.inr (some (25, 0, 0, 0))), some (.inl x0), some (.inl x1), some (.inl v3), some (.inl v5), some (.inl v12)], [.inl (-5), .inl v12], (zx_lay M2, n))) rfl ?_
            refine zx_E.brh (c := v12 = (-5)) (s1 := (119, [some (.inr (some (25, 0, 0, 0))), some (.inl x0), some (.inl x1), some (.inl v3), some (.inl v5), some (.inl v12)], [], (zx_lay M2, n))) (s2 := (124, [some (.inr (some (25, 0, 0, 0))), some (.inl x0), some (.inl x1), some (.inl v3), some (.inl v5), some (.inl v12)], [], (zx_lay M2, n))) h (zx_ic_ne rfl) (fun _ h => ?_) (fun _ h => ?_)
            · refine zx_E.go 2 (s' := (131, [some (.inr (some (25, 0, 0, 0))), some (.inl x0), some (.inl x1), some (.inl v3), some (.inl v5), some (.inl v12)], [.inl 8], (zx_lay M2, n))) rfl ?_
              exact zx_E.ri h rfl (fun h => absurd h (by decide))
            · refine zx_E.go 2 (s' := (131, [some (.inr (some (25, 0, 0, 0))), some (.inl x0), some (.inl x1), some (.inl v3), some (.inl v5), some (.inl v12)], [.inl 7], (zx_lay M2, n))) rfl ?_
              exact zx_E.ri h rfl (fun h => absurd h (by decide))
          · refine zx_E.go 1 (s' := (131, [some (.inr (some (25, 0, 0, 0))), some (.inl x0), some (.inl x1), some (.inl v3), some (.inl v5), some (.inl v12)], [.inl v12], (zx_lay M2, n))) rfl ?_
            exact zx_E.ri h rfl (fun h => absurd h (by decide))
        · refine zx_E.go 1 (s' := (87, [some (.inr (some (25, 0, 0, 0))), some (.inl x0), some (.inl x1), some (.inl v3), some (.inl v5), none], [.inl x1], (zx_lay M, n))) rfl ?_
          refine zx_E.brh (c := x1 = 0) (s1 := (90, [some (.inr (some (25, 0, 0, 0))), some (.inl x0), some (.inl x1), some (.inl v3), some (.inl v5), none], [], (zx_lay M, n))) (s2 := (95, [some (.inr (some (25, 0, 0, 0))), some (.inl x0), some (.inl x1), some (.inl v3), some (.inl v5), none], [], (zx_lay M, n))) h (zx_if_ne rfl) (fun _ h => ?_) (fun _ h => ?_)
          · refine zx_E.go 2 (s' := (100, [some (.inr (some (25, 0, 0, 0))), some (.inl x0), some (.inl x1), some (.inl v3), some (.inl v5), none], [.inl 6], (zx_lay M, n))) rfl ?_
            exact zx_E.ri h rfl (fun h => absurd h (by decide))
          · refine zx_E.go 2 (s' := (97, [some (.inr (some (25, 0, 0, 0))), some (.inl x0), some (.inl x1), some (.inl v3), some (.inl v5), none], [.inl x0, .inr (some (25, 0, 0, 0))], (zx_lay M, n))) rfl ?_
            refine zx_E.cb (y := 138) (as := [.inr (some (25, 0, 0, 0)), .inl x0]) (rest := []) h rfl (fun _ hv => zx_run_up (by omega) (r_X11_overtime (d := d) hv)) (fun v13 h => ?_)
            show zx_E _ _ _ (100, [some (.inr (some (25, 0, 0, 0))), some (.inl x0), some (.inl x1), some (.inl v3), some (.inl v5), none], [.inl v13], (zx_lay M, n)) _
            exact zx_E.ri h rfl (fun h => absurd h (by decide))
  · refine zx_E.go 1 (s' := (24, [some (.inr (some (25, 0, 0, 0))), some (.inl x0), some (.inl x1), some (.inl v3), none, none], [.inl x1], (zx_lay M, n))) rfl ?_
    refine zx_E.brh (c := x1 = 0) (s1 := (27, [some (.inr (some (25, 0, 0, 0))), some (.inl x0), some (.inl x1), some (.inl v3), none, none], [], (zx_lay M, n))) (s2 := (31, [some (.inr (some (25, 0, 0, 0))), some (.inl x0), some (.inl x1), some (.inl v3), none, none], [], (zx_lay M, n))) h (zx_if_ne rfl) (fun _ h => ?_) (fun _ h => ?_)
    · refine zx_E.go 2 (s' := (32, [some (.inr (some (25, 0, 0, 0))), some (.inl x0), some (.inl x1), some (.inl v3), none, none], [.inl 4], (zx_lay M, n))) rfl ?_
      exact zx_E.ri h rfl (fun h => absurd h (by decide))
    · refine zx_E.go 1 (s' := (32, [some (.inr (some (25, 0, 0, 0))), some (.inl x0), some (.inl x1), some (.inl v3), none, none], [.inl v3], (zx_lay M, n))) rfl ?_
      exact zx_E.ri h rfl (fun h => absurd h (by decide))
def g_X11_why (M : zx_Y) (x0 : Int32) (x1 : Int32) : Option (Int32 × zx_Y) := (zb (g_X11_isTrain M x0) fun v1 => (if v1 = 0 then (some ((-1), M)) else (zb (g_X11_isIn M x1 0 1) fun v2 => (if v2 = 0 then (some ((-1), M)) else (zb (g_X11_at M x0 0) fun v3 => (if v3 = 0 then (zb (g_X11_whyOutside M x0 x1) fun v4 => (some (v4, M))) else (if v3 = 1 then (zv (g_X11_whyStanding M x0 x1) fun v5 M1 => (some (v5, M1))) else (if v3 = 2 then (if x1 = 0 then (some (0, M)) else (some ((-5), M))) else (if v3 = 3 then (if x1 = 0 then (some (3, M)) else (zb (g_X11_at M x0 8) fun v6 => (some ((zmax 0 (v6 - (M (26, 0, 0, 0) 0))), M)))) else (if x1 = 0 then (some (0, M)) else (some ((-5), M))))))))))))
set_option maxRecDepth 100000 in
set_option maxHeartbeats 4000000 in
theorem r_X11_why {X : zx_X} {d n : Nat} {M : zx_Y} {x0 : Int32} {x1 : Int32} {rv : Int32} {rM : zx_Y} (h : g_X11_why M x0 x1 = some (rv, rM)) : zx_run X (d + 10) 182 [.inr (some (25, 0, 0, 0)), .inl x0, .inl x1] (zx_lay M, n) (some (.inl rv), (zx_lay rM, n)) := by
  refine zx_run_of zc_X11_why [some (.inr (some (25, 0, 0, 0))), some (.inl x0), some (.inl x1)] rfl rfl ?_
  unfold g_X11_why at h
  refine zx_E.go 2 (s' := (2, [some (.inr (some (25, 0, 0, 0))), some (.inl x0), some (.inl x1)], [.inl x0, .inr (some (25, 0, 0, 0))], (zx_lay M, n))) rfl ?_
  refine zx_E.cb (y := 124) (as := [.inr (some (25, 0, 0, 0)), .inl x0]) (rest := []) h rfl (fun _ hv => zx_run_up (by omega) (r_X11_isTrain (d := d) hv)) (fun v1 h => ?_)
  show zx_E _ _ _ (5, [some (.inr (some (25, 0, 0, 0))), some (.inl x0), some (.inl x1)], [.inl v1], (zx_lay M, n)) _
  refine zx_E.brh (c := v1 = 0) (s1 := (17, [some (.inr (some (25, 0, 0, 0))), some (.inl x0), some (.inl x1)], [], (zx_lay M, n))) (s2 := (8, [some (.inr (some (25, 0, 0, 0))), some (.inl x0), some (.inl x1)], [], (zx_lay M, n))) h (zx_if_eq rfl) (fun _ h => ?_) (fun _ h => ?_)
  · refine zx_E.go 1 (s' := (18, [some (.inr (some (25, 0, 0, 0))), some (.inl x0), some (.inl x1)], [.inl (-1)], (zx_lay M, n))) rfl ?_
    exact zx_E.ri h rfl (fun h => absurd h (by decide))
  · refine zx_E.go 3 (s' := (11, [some (.inr (some (25, 0, 0, 0))), some (.inl x0), some (.inl x1)], [.inl 1, .inl 0, .inl x1], (zx_lay M, n))) rfl ?_
    refine zx_E.cb (y := 121) (as := [.inl x1, .inl 0, .inl 1]) (rest := []) h rfl (fun _ hv => zx_run_up (by omega) (r_X11_isIn (d := d) hv)) (fun v2 h => ?_)
    show zx_E _ _ _ (14, [some (.inr (some (25, 0, 0, 0))), some (.inl x0), some (.inl x1)], [.inl v2], (zx_lay M, n)) _
    refine zx_E.brh (c := v2 = 0) (s1 := (17, [some (.inr (some (25, 0, 0, 0))), some (.inl x0), some (.inl x1)], [], (zx_lay M, n))) (s2 := (19, [some (.inr (some (25, 0, 0, 0))), some (.inl x0), some (.inl x1)], [], (zx_lay M, n))) h (zx_if_ne rfl) (fun _ h => ?_) (fun _ h => ?_)
    · refine zx_E.go 1 (s' := (18, [some (.inr (some (25, 0, 0, 0))), some (.inl x0), some (.inl x1)], [.inl (-1)], (zx_lay M, n))) rfl ?_
      exact zx_E.ri h rfl (fun h => absurd h (by decide))
    · refine zx_E.go 3 (s' := (22, [some (.inr (some (25, 0, 0, 0))), some (.inl x0), some (.inl x1)], [.inl 0, .inl x0, .inr (some (25, 0, 0, 0))], (zx_lay M, n))) rfl ?_
      refine zx_E.cb (y := 125) (as := [.inr (some (25, 0, 0, 0)), .inl x0, .inl 0]) (rest := []) h rfl (fun _ hv => zx_run_up (by omega) (r_X11_at (d := d) hv)) (fun v3 h => ?_)
      show zx_E _ _ _ (25, [some (.inr (some (25, 0, 0, 0))), some (.inl x0), some (.inl x1)], [.inl v3], (zx_lay M, n)) _
      refine zx_E.one (s' := (zx_pick v3 0 [56, 63, 97, 70] 97, [some (.inr (some (25, 0, 0, 0))), some (.inl x0), some (.inl x1)], [], (zx_lay M, n))) rfl ?_
      refine zx_E.pickh (k' := 1) h (by decide) (fun _ h => ?_) (fun _ h => ?_)
      · refine zx_E.go 3 (s' := (59, [some (.inr (some (25, 0, 0, 0))), some (.inl x0), some (.inl x1)], [.inl x1, .inl x0, .inr (some (25, 0, 0, 0))], (zx_lay M, n))) rfl ?_
        refine zx_E.cb (y := 179) (as := [.inr (some (25, 0, 0, 0)), .inl x0, .inl x1]) (rest := []) h rfl (fun _ hv => zx_run_up (by omega) (r_X11_whyOutside (d := d) hv)) (fun v4 h => ?_)
        show zx_E _ _ _ (62, [some (.inr (some (25, 0, 0, 0))), some (.inl x0), some (.inl x1)], [.inl v4], (zx_lay M, n)) _
        exact zx_E.ri h rfl (fun h => absurd h (by decide))
      · refine zx_E.pickh (k' := 2) h (by decide) (fun _ h => ?_) (fun _ h => ?_)
        · refine zx_E.go 3 (s' := (66, [some (.inr (some (25, 0, 0, 0))), some (.inl x0), some (.inl x1)], [.inl x1, .inl x0, .inr (some (25, 0, 0, 0))], (zx_lay M, n))) rfl ?_
          refine zx_E.cv (y := 181) (as := [.inr (some (25, 0, 0, 0)), .inl x0, .inl x1]) (rest := []) h rfl (fun _ _ hv => zx_run_up (by omega) (r_X11_whyStanding (d := d) hv)) (fun v5 M1 h => ?_)
          show zx_E _ _ _ (69, [some (.inr (some (25, 0, 0, 0))), some (.inl x0), some (.inl x1)], [.inl v5], (zx_lay M1, n)) _
          exact zx_E.ri h rfl (fun h => absurd h (by decide))
        · refine zx_E.pickh (k' := 3) h (by decide) (fun _ h => ?_) (fun _ h => ?_)
          · refine zx_E.go 1 (s' := (98, [some (.inr (some (25, 0, 0, 0))), some (.inl x0), some (.inl x1)], [.inl x1], (zx_lay M, n))) rfl ?_
            refine zx_E.brh (c := x1 = 0) (s1 := (101, [some (.inr (some (25, 0, 0, 0))), some (.inl x0), some (.inl x1)], [], (zx_lay M, n))) (s2 := (105, [some (.inr (some (25, 0, 0, 0))), some (.inl x0), some (.inl x1)], [], (zx_lay M, n))) h (zx_if_ne rfl) (fun _ h => ?_) (fun _ h => ?_)
            · refine zx_E.go 2 (s' := (107, [some (.inr (some (25, 0, 0, 0))), some (.inl x0), some (.inl x1)], [.inl 0], (zx_lay M, n))) rfl ?_
              exact zx_E.ri h rfl (fun h => absurd h (by decide))
            · refine zx_E.go 1 (s' := (107, [some (.inr (some (25, 0, 0, 0))), some (.inl x0), some (.inl x1)], [.inl (-5)], (zx_lay M, n))) rfl ?_
              exact zx_E.ri h rfl (fun h => absurd h (by decide))
          · refine zx_E.pickh (k' := 4) h (by decide) (fun _ h => ?_) (fun _ h => ?_)
            · refine zx_E.go 1 (s' := (71, [some (.inr (some (25, 0, 0, 0))), some (.inl x0), some (.inl x1)], [.inl x1], (zx_lay M, n))) rfl ?_
              refine zx_E.brh (c := x1 = 0) (s1 := (74, [some (.inr (some (25, 0, 0, 0))), some (.inl x0), some (.inl x1)], [], (zx_lay M, n))) (s2 := (78, [some (.inr (some (25, 0, 0, 0))), some (.inl x0), some (.inl x1)], [], (zx_lay M, n))) h (zx_if_ne rfl) (fun _ h => ?_) (fun _ h => ?_)
              · refine zx_E.go 2 (s' := (96, [some (.inr (some (25, 0, 0, 0))), some (.inl x0), some (.inl x1)], [.inl 3], (zx_lay M, n))) rfl ?_
                exact zx_E.ri h rfl (fun h => absurd h (by decide))
              · refine zx_E.go 4 (s' := (83, [some (.inr (some (25, 0, 0, 0))), some (.inl x0), some (.inl x1)], [.inl 8, .inl x0, .inr (some (25, 0, 0, 0)), .inl 0], (zx_lay M, n))) rfl ?_
                refine zx_E.cb (y := 125) (as := [.inr (some (25, 0, 0, 0)), .inl x0, .inl 8]) (rest := [.inl 0]) h rfl (fun _ hv => zx_run_up (by omega) (r_X11_at (d := d) hv)) (fun v6 h => ?_)
                show zx_E _ _ _ (86, [some (.inr (some (25, 0, 0, 0))), some (.inl x0), some (.inl x1)], [.inl v6, .inl 0], (zx_lay M, n)) _
                refine zx_E.go 3 (s' := (91, [some (.inr (some (25, 0, 0, 0))), some (.inl x0), some (.inl x1)], [.inl 0, .inr (some (26, 0, 0, 0)), .inl v6, .inl 0], (zx_lay M, n))) rfl ?_
                refine zx_E.iald (k := 0) (h := (26, 0, 0, 0)) rfl rfl rfl (by decide) ?_
                show zx_E _ _ _ (92, [some (.inr (some (25, 0, 0, 0))), some (.inl x0), some (.inl x1)], [.inl (M (26, 0, 0, 0) 0), .inl v6, .inl 0], (zx_lay M, n)) _
                refine zx_E.go 2 (s' := (96, [some (.inr (some (25, 0, 0, 0))), some (.inl x0), some (.inl x1)], [.inl (zmax 0 (v6 - (M (26, 0, 0, 0) 0)))], (zx_lay M, n))) rfl ?_
                exact zx_E.ri h rfl (fun h => absurd h (by decide))
            · show zx_E _ _ _ (97, [some (.inr (some (25, 0, 0, 0))), some (.inl x0), some (.inl x1)], [], (zx_lay M, n)) _
              refine zx_E.go 1 (s' := (98, [some (.inr (some (25, 0, 0, 0))), some (.inl x0), some (.inl x1)], [.inl x1], (zx_lay M, n))) rfl ?_
              refine zx_E.brh (c := x1 = 0) (s1 := (101, [some (.inr (some (25, 0, 0, 0))), some (.inl x0), some (.inl x1)], [], (zx_lay M, n))) (s2 := (105, [some (.inr (some (25, 0, 0, 0))), some (.inl x0), some (.inl x1)], [], (zx_lay M, n))) h (zx_if_ne rfl) (fun _ h => ?_) (fun _ h => ?_)
              · refine zx_E.go 2 (s' := (107, [some (.inr (some (25, 0, 0, 0))), some (.inl x0), some (.inl x1)], [.inl 0], (zx_lay M, n))) rfl ?_
                exact zx_E.ri h rfl (fun h => absurd h (by decide))
              · refine zx_E.go 1 (s' := (107, [some (.inr (some (25, 0, 0, 0))), some (.inl x0), some (.inl x1)], [.inl (-5)], (zx_lay M, n))) rfl ?_
                exact zx_E.ri h rfl (fun h => absurd h (by decide))
def g_X10_order (M : zx_Y) (x0 : Int32) : Option (Int32 × zx_Y) := (zm (g_X2_rank M 0) fun M1 => (if x0 = (-1) then (some ((M1 (1, 0, 0, 0) 11), M1)) else (if x0 < 0 then (some ((-1), M1)) else (if x0 < (M1 (1, 0, 0, 0) 11) then (zi x0 10 fun k1 => (some ((M1 (10, 0, 0, 0) k1), M1))) else (some ((-1), M1))))))
set_option maxRecDepth 100000 in
set_option maxHeartbeats 4000000 in
theorem r_X10_order {X : zx_X} {d n : Nat} {M : zx_Y} {x0 : Int32} {rv : Int32} {rM : zx_Y} (h : g_X10_order M x0 = some (rv, rM)) : zx_run X (d + 3) 105 [.inr (some (0, 0, 0, 0)), .inl x0] (zx_lay M, n) (some (.inl rv), (zx_lay rM, n)) := by
  refine zx_run_of zc_X10_order [some (.inr (some (0, 0, 0, 0))), some (.inl x0)] rfl rfl ?_
  unfold g_X10_order at h
  refine zx_E.go 2 (s' := (4, [some (.inr (some (0, 0, 0, 0))), some (.inl x0)], [.inr (some (1, 0, 0, 0))], (zx_lay M, n))) rfl ?_
  refine zx_E.cm (y := 29) (as := [.inr (some (1, 0, 0, 0))]) (rest := []) h rfl (fun _ hv => zx_run_up (by omega) (r_X2_rank (d := d) hv)) (fun M1 h => ?_)
  show zx_E _ _ _ (7, [some (.inr (some (0, 0, 0, 0))), some (.inl x0)], [], (zx_lay M1, n)) _
  refine zx_E.go 2 (s' := (9, [some (.inr (some (0, 0, 0, 0))), some (.inl x0)], [.inl (-1), .inl x0], (zx_lay M1, n))) rfl ?_
  refine zx_E.brh (c := x0 = (-1)) (s1 := (12, [some (.inr (some (0, 0, 0, 0))), some (.inl x0)], [], (zx_lay M1, n))) (s2 := (20, [some (.inr (some (0, 0, 0, 0))), some (.inl x0)], [], (zx_lay M1, n))) h (zx_ic_ne rfl) (fun _ h => ?_) (fun _ h => ?_)
  · refine zx_E.go 3 (s' := (19, [some (.inr (some (0, 0, 0, 0))), some (.inl x0)], [.inl (M1 (1, 0, 0, 0) 11)], (zx_lay M1, n))) rfl ?_
    exact zx_E.ri h rfl (fun h => absurd h (by decide))
  · refine zx_E.go 1 (s' := (21, [some (.inr (some (0, 0, 0, 0))), some (.inl x0)], [.inl x0], (zx_lay M1, n))) rfl ?_
    refine zx_E.brh (c := x0 < 0) (s1 := (35, [some (.inr (some (0, 0, 0, 0))), some (.inl x0)], [], (zx_lay M1, n))) (s2 := (24, [some (.inr (some (0, 0, 0, 0))), some (.inl x0)], [], (zx_lay M1, n))) h (zx_if_lt rfl) (fun _ h => ?_) (fun _ h => ?_)
    · refine zx_E.go 1 (s' := (36, [some (.inr (some (0, 0, 0, 0))), some (.inl x0)], [.inl (-1)], (zx_lay M1, n))) rfl ?_
      exact zx_E.ri h rfl (fun h => absurd h (by decide))
    · refine zx_E.go 4 (s' := (32, [some (.inr (some (0, 0, 0, 0))), some (.inl x0)], [.inl (M1 (1, 0, 0, 0) 11), .inl x0], (zx_lay M1, n))) rfl ?_
      refine zx_E.brh (c := x0 < (M1 (1, 0, 0, 0) 11)) (s1 := (37, [some (.inr (some (0, 0, 0, 0))), some (.inl x0)], [], (zx_lay M1, n))) (s2 := (35, [some (.inr (some (0, 0, 0, 0))), some (.inl x0)], [], (zx_lay M1, n))) h (zx_ic_lt rfl) (fun _ h => ?_) (fun _ h => ?_)
      · refine zx_E.go 4 (s' := (45, [some (.inr (some (0, 0, 0, 0))), some (.inl x0)], [.inl x0, .inr (some (10, 0, 0, 0))], (zx_lay M1, n))) rfl ?_
        refine zx_E.ix h (fun k1 hx_k1 hl_k1 h => ?_)
        refine zx_E.iald (k := k1) (h := (10, 0, 0, 0)) rfl rfl hx_k1 hl_k1 ?_
        show zx_E _ _ _ (46, [some (.inr (some (0, 0, 0, 0))), some (.inl x0)], [.inl (M1 (10, 0, 0, 0) k1)], (zx_lay M1, n)) _
        exact zx_E.ri h rfl (fun h => absurd h (by decide))
      · refine zx_E.go 1 (s' := (36, [some (.inr (some (0, 0, 0, 0))), some (.inl x0)], [.inl (-1)], (zx_lay M1, n))) rfl ?_
        exact zx_E.ri h rfl (fun h => absurd h (by decide))
def g_X11_order (M : zx_Y) (x0 : Int32) : Option (Int32 × zx_Y) := (zm (g_X11_sortTrains M) fun M1 => (if x0 = (-1) then (some ((M1 (25, 0, 0, 0) 2), M1)) else (zb (g_X11_isIn M1 x0 0 ((M1 (25, 0, 0, 0) 2) - 1)) fun v1 => (if v1 = 0 then (some ((-1), M1)) else (zi x0 10 fun k1 => (some ((M1 (27, 0, 0, 0) k1), M1)))))))
set_option maxRecDepth 100000 in
set_option maxHeartbeats 4000000 in
theorem r_X11_order {X : zx_X} {d n : Nat} {M : zx_Y} {x0 : Int32} {rv : Int32} {rM : zx_Y} (h : g_X11_order M x0 = some (rv, rM)) : zx_run X (d + 4) 142 [.inr (some (25, 0, 0, 0)), .inl x0] (zx_lay M, n) (some (.inl rv), (zx_lay rM, n)) := by
  refine zx_run_of zc_X11_order [some (.inr (some (25, 0, 0, 0))), some (.inl x0)] rfl rfl ?_
  unfold g_X11_order at h
  refine zx_E.go 1 (s' := (1, [some (.inr (some (25, 0, 0, 0))), some (.inl x0)], [.inr (some (25, 0, 0, 0))], (zx_lay M, n))) rfl ?_
  refine zx_E.cm (y := 141) (as := [.inr (some (25, 0, 0, 0))]) (rest := []) h rfl (fun _ hv => zx_run_up (by omega) (r_X11_sortTrains (d := d) hv)) (fun M1 h => ?_)
  show zx_E _ _ _ (4, [some (.inr (some (25, 0, 0, 0))), some (.inl x0)], [], (zx_lay M1, n)) _
  refine zx_E.go 2 (s' := (6, [some (.inr (some (25, 0, 0, 0))), some (.inl x0)], [.inl (-1), .inl x0], (zx_lay M1, n))) rfl ?_
  refine zx_E.brh (c := x0 = (-1)) (s1 := (9, [some (.inr (some (25, 0, 0, 0))), some (.inl x0)], [], (zx_lay M1, n))) (s2 := (16, [some (.inr (some (25, 0, 0, 0))), some (.inl x0)], [], (zx_lay M1, n))) h (zx_ic_ne rfl) (fun _ h => ?_) (fun _ h => ?_)
  · refine zx_E.go 3 (s' := (40, [some (.inr (some (25, 0, 0, 0))), some (.inl x0)], [.inl (M1 (25, 0, 0, 0) 2)], (zx_lay M1, n))) rfl ?_
    exact zx_E.ri h rfl (fun h => absurd h (by decide))
  · refine zx_E.go 5 (s' := (23, [some (.inr (some (25, 0, 0, 0))), some (.inl x0)], [.inl 1, .inl (M1 (25, 0, 0, 0) 2), .inl 0, .inl x0], (zx_lay M1, n))) rfl ?_
    refine zx_E.go 1 (s' := (24, [some (.inr (some (25, 0, 0, 0))), some (.inl x0)], [.inl ((M1 (25, 0, 0, 0) 2) - 1), .inl 0, .inl x0], (zx_lay M1, n))) rfl ?_
    refine zx_E.cb (y := 121) (as := [.inl x0, .inl 0, .inl ((M1 (25, 0, 0, 0) 2) - 1)]) (rest := []) h rfl (fun _ hv => zx_run_up (by omega) (r_X11_isIn (d := d) hv)) (fun v1 h => ?_)
    show zx_E _ _ _ (27, [some (.inr (some (25, 0, 0, 0))), some (.inl x0)], [.inl v1], (zx_lay M1, n)) _
    refine zx_E.brh (c := v1 = 0) (s1 := (39, [some (.inr (some (25, 0, 0, 0))), some (.inl x0)], [], (zx_lay M1, n))) (s2 := (30, [some (.inr (some (25, 0, 0, 0))), some (.inl x0)], [], (zx_lay M1, n))) h (zx_if_eq rfl) (fun _ h => ?_) (fun _ h => ?_)
    · refine zx_E.go 1 (s' := (40, [some (.inr (some (25, 0, 0, 0))), some (.inl x0)], [.inl (-1)], (zx_lay M1, n))) rfl ?_
      exact zx_E.ri h rfl (fun h => absurd h (by decide))
    · refine zx_E.go 3 (s' := (35, [some (.inr (some (25, 0, 0, 0))), some (.inl x0)], [.inl x0, .inr (some (27, 0, 0, 0))], (zx_lay M1, n))) rfl ?_
      refine zx_E.ix h (fun k1 hx_k1 hl_k1 h => ?_)
      refine zx_E.iald (k := k1) (h := (27, 0, 0, 0)) rfl rfl hx_k1 hl_k1 ?_
      show zx_E _ _ _ (36, [some (.inr (some (25, 0, 0, 0))), some (.inl x0)], [.inl (M1 (27, 0, 0, 0) k1)], (zx_lay M1, n)) _
      refine zx_E.go 1 (s' := (40, [some (.inr (some (25, 0, 0, 0))), some (.inl x0)], [.inl (M1 (27, 0, 0, 0) k1)], (zx_lay M1, n))) rfl ?_
      exact zx_E.ri h rfl (fun h => absurd h (by decide))
def lg_X3_takeRow_18 (l : Nat) (i : Nat) (x1 : Int32) (r40 : Nat) (kk : Int32 → Int32 → zx_Y → Option (Int32 × zx_Y)) : Nat → Int32 → Int32 → zx_Y → Option (Int32 × zx_Y)
  | 0, _, _, _ => none
  | q + 1, w5, w6, M => (if (8 : Int32) ≤ w6 then (kk w5 w6 M) else (zi x1 2 fun k1 => (zi w6 8 fun k2 => (if (M (13, l, i, k1) k2) ≤ (M (22, 0, 0, 0) 1) then (zi w6 8 fun k3 => (zl (zx_up M (24, r40, 0, 0) k3 (-5)) fun M1 => (lg_X3_takeRow_18 l i x1 r40 kk q w5 (w6 + 1) M1))) else (zi x1 2 fun k4 => (zi w6 8 fun k5 => (zi w6 8 fun k6 => (zl (zx_up M (24, r40, 0, 0) k6 (M (13, l, i, k4) k5)) fun M2 => (lg_X3_takeRow_18 l i x1 r40 kk q (w5 + 1) (w6 + 1) M2)))))))))
set_option maxRecDepth 100000 in
set_option maxHeartbeats 4000000 in
theorem rl_X3_takeRow_18 {X : zx_X} {d n : Nat} {l : Nat} {i : Nat} {x1 : Int32} {r40 : Nat} {kk : Int32 → Int32 → zx_Y → Option (Int32 × zx_Y)} {rv : Int32} {rM : zx_Y} {g2 : Option zx_V} (hk : ∀ (w5 : Int32) (w6 : Int32) (M : zx_Y) (e7 : Option zx_V), kk w5 w6 M = some (rv, rM) → zx_E X (d + 0) zc_X3_takeRow (90, [some (.inr (some (22, 0, 0, 0))), some (.inr (some (7, l, i, 0))), g2, some (.inl x1), some (.inr (some (24, r40, 0, 0))), some (.inl w5), some (.inl w6), e7], [], (zx_lay M, n)) (some (.inl rv), (zx_lay rM, n))) : ∀ (q : Nat) (g7 : Option zx_V) (w5 : Int32) (w6 : Int32) (M : zx_Y), lg_X3_takeRow_18 l i x1 r40 kk q w5 w6 M = some (rv, rM) → zx_E X (d + 0) zc_X3_takeRow (18, [some (.inr (some (22, 0, 0, 0))), some (.inr (some (7, l, i, 0))), g2, some (.inl x1), some (.inr (some (24, r40, 0, 0))), some (.inl w5), some (.inl w6), g7], [], (zx_lay M, n)) (some (.inl rv), (zx_lay rM, n))
  | 0, g7, w5, w6, M, h => by
    rw [lg_X3_takeRow_18.eq_1] at h
    cases h
  | q + 1, g7, w5, w6, M, h => by
    rw [lg_X3_takeRow_18.eq_2] at h
    refine zx_E.go 2 (s' := (22, [some (.inr (some (22, 0, 0, 0))), some (.inr (some (7, l, i, 0))), g2, some (.inl x1), some (.inr (some (24, r40, 0, 0))), some (.inl w5), some (.inl w6), g7], [.inl 8, .inl w6], (zx_lay M, n))) rfl ?_
    refine zx_E.brh (c := (8 : Int32) ≤ w6) (s1 := (90, [some (.inr (some (22, 0, 0, 0))), some (.inr (some (7, l, i, 0))), g2, some (.inl x1), some (.inr (some (24, r40, 0, 0))), some (.inl w5), some (.inl w6), g7], [], (zx_lay M, n))) (s2 := (25, [some (.inr (some (22, 0, 0, 0))), some (.inr (some (7, l, i, 0))), g2, some (.inl x1), some (.inr (some (24, r40, 0, 0))), some (.inl w5), some (.inl w6), g7], [], (zx_lay M, n))) h (zx_ic_ge rfl) (fun _ h => ?_) (fun _ h => ?_)
    · exact hk _ _ _ _ h
    · refine zx_E.go 5 (s' := (34, [some (.inr (some (22, 0, 0, 0))), some (.inr (some (7, l, i, 0))), g2, some (.inl x1), some (.inr (some (24, r40, 0, 0))), some (.inl w5), some (.inl w6), g7], [.inl x1, .inr (some (12, l, i, 0))], (zx_lay M, n))) rfl ?_
      refine zx_E.ix h (fun k1 hx_k1 hl_k1 h => ?_)
      refine zx_E.aald (k := k1) (h := (12, l, i, 0)) (h' := (13, l, i, k1)) rfl rfl hx_k1 hl_k1 rfl ?_
      show zx_E _ _ _ (35, [some (.inr (some (22, 0, 0, 0))), some (.inr (some (7, l, i, 0))), g2, some (.inl x1), some (.inr (some (24, r40, 0, 0))), some (.inl w5), some (.inl w6), g7], [.inr (some (13, l, i, k1))], (zx_lay M, n)) _
      refine zx_E.go 1 (s' := (37, [some (.inr (some (22, 0, 0, 0))), some (.inr (some (7, l, i, 0))), g2, some (.inl x1), some (.inr (some (24, r40, 0, 0))), some (.inl w5), some (.inl w6), g7], [.inl w6, .inr (some (13, l, i, k1))], (zx_lay M, n))) rfl ?_
      refine zx_E.ix h (fun k2 hx_k2 hl_k2 h => ?_)
      refine zx_E.iald (k := k2) (h := (13, l, i, k1)) rfl rfl hx_k2 hl_k2 ?_
      show zx_E _ _ _ (38, [some (.inr (some (22, 0, 0, 0))), some (.inr (some (7, l, i, 0))), g2, some (.inl x1), some (.inr (some (24, r40, 0, 0))), some (.inl w5), some (.inl w6), g7], [.inl (M (13, l, i, k1) k2)], (zx_lay M, n)) _
      refine zx_E.go 2 (s' := (42, [some (.inr (some (22, 0, 0, 0))), some (.inr (some (7, l, i, 0))), g2, some (.inl x1), some (.inr (some (24, r40, 0, 0))), some (.inl w5), some (.inl w6), g7], [.inl (M (22, 0, 0, 0) 1), .inl (M (13, l, i, k1) k2)], (zx_lay M, n))) rfl ?_
      refine zx_E.brh (c := (M (13, l, i, k1) k2) ≤ (M (22, 0, 0, 0) 1)) (s1 := (49, [some (.inr (some (22, 0, 0, 0))), some (.inr (some (7, l, i, 0))), g2, some (.inl x1), some (.inr (some (24, r40, 0, 0))), some (.inl w5), some (.inl w6), g7], [], (zx_lay M, n))) (s2 := (45, [some (.inr (some (22, 0, 0, 0))), some (.inr (some (7, l, i, 0))), g2, some (.inl x1), some (.inr (some (24, r40, 0, 0))), some (.inl w5), some (.inl w6), g7], [], (zx_lay M, n))) h (zx_ic_le rfl) (fun _ h => ?_) (fun _ h => ?_)
      · refine zx_E.go 5 (s' := (58, [some (.inr (some (22, 0, 0, 0))), some (.inr (some (7, l, i, 0))), g2, some (.inl x1), some (.inr (some (24, r40, 0, 0))), some (.inl w5), some (.inl w6), some (.inl 0)], [.inl 0, .inl w6, .inr (some (24, r40, 0, 0))], (zx_lay M, n))) rfl ?_
        refine zx_E.bt (c := ((0 : Int32) = 0 : Prop)) (s1 := (73, [some (.inr (some (22, 0, 0, 0))), some (.inr (some (7, l, i, 0))), g2, some (.inl x1), some (.inr (some (24, r40, 0, 0))), some (.inl w5), some (.inl w6), some (.inl 0)], [.inl w6, .inr (some (24, r40, 0, 0))], (zx_lay M, n))) (s2 := (61, [some (.inr (some (22, 0, 0, 0))), some (.inr (some (7, l, i, 0))), g2, some (.inl x1), some (.inr (some (24, r40, 0, 0))), some (.inl w5), some (.inl w6), some (.inl 0)], [.inl w6, .inr (some (24, r40, 0, 0))], (zx_lay M, n))) (zx_if_eq rfl) (by decide) ?_
        refine zx_E.go 1 (s' := (75, [some (.inr (some (22, 0, 0, 0))), some (.inr (some (7, l, i, 0))), g2, some (.inl x1), some (.inr (some (24, r40, 0, 0))), some (.inl w5), some (.inl w6), some (.inl 0)], [.inl (-5), .inl w6, .inr (some (24, r40, 0, 0))], (zx_lay M, n))) rfl ?_
        refine zx_E.ix h (fun k3 hx_k3 hl_k3 h => ?_)
        refine zx_E.ia h rfl rfl hx_k3 hl_k3 (fun M1 h => ?_)
        show zx_E _ _ _ (76, [some (.inr (some (22, 0, 0, 0))), some (.inr (some (7, l, i, 0))), g2, some (.inl x1), some (.inr (some (24, r40, 0, 0))), some (.inl w5), some (.inl w6), some (.inl 0)], [], (zx_lay M1, n)) _
        refine zx_E.go 1 (s' := (78, [some (.inr (some (22, 0, 0, 0))), some (.inr (some (7, l, i, 0))), g2, some (.inl x1), some (.inr (some (24, r40, 0, 0))), some (.inl w5), some (.inl w6), some (.inl 0)], [.inl 0], (zx_lay M1, n))) rfl ?_
        refine zx_E.bt (c := ((0 : Int32) = 0 : Prop)) (s1 := (84, [some (.inr (some (22, 0, 0, 0))), some (.inr (some (7, l, i, 0))), g2, some (.inl x1), some (.inr (some (24, r40, 0, 0))), some (.inl w5), some (.inl w6), some (.inl 0)], [], (zx_lay M1, n))) (s2 := (81, [some (.inr (some (22, 0, 0, 0))), some (.inr (some (7, l, i, 0))), g2, some (.inl x1), some (.inr (some (24, r40, 0, 0))), some (.inl w5), some (.inl w6), some (.inl 0)], [], (zx_lay M1, n))) (zx_if_eq rfl) (by decide) ?_
        refine zx_E.go 2 (s' := (18, [some (.inr (some (22, 0, 0, 0))), some (.inr (some (7, l, i, 0))), g2, some (.inl x1), some (.inr (some (24, r40, 0, 0))), some (.inl w5), some (.inl (w6 + 1)), some (.inl 0)], [], (zx_lay M1, n))) rfl ?_
        exact rl_X3_takeRow_18 hk q _ w5 (w6 + 1) M1 h
      · refine zx_E.go 6 (s' := (58, [some (.inr (some (22, 0, 0, 0))), some (.inr (some (7, l, i, 0))), g2, some (.inl x1), some (.inr (some (24, r40, 0, 0))), some (.inl w5), some (.inl w6), some (.inl 1)], [.inl 1, .inl w6, .inr (some (24, r40, 0, 0))], (zx_lay M, n))) rfl ?_
        refine zx_E.bf (c := ((1 : Int32) = 0 : Prop)) (s1 := (73, [some (.inr (some (22, 0, 0, 0))), some (.inr (some (7, l, i, 0))), g2, some (.inl x1), some (.inr (some (24, r40, 0, 0))), some (.inl w5), some (.inl w6), some (.inl 1)], [.inl w6, .inr (some (24, r40, 0, 0))], (zx_lay M, n))) (s2 := (61, [some (.inr (some (22, 0, 0, 0))), some (.inr (some (7, l, i, 0))), g2, some (.inl x1), some (.inr (some (24, r40, 0, 0))), some (.inl w5), some (.inl w6), some (.inl 1)], [.inl w6, .inr (some (24, r40, 0, 0))], (zx_lay M, n))) (zx_if_eq rfl) (by decide) ?_
        refine zx_E.go 3 (s' := (66, [some (.inr (some (22, 0, 0, 0))), some (.inr (some (7, l, i, 0))), g2, some (.inl x1), some (.inr (some (24, r40, 0, 0))), some (.inl w5), some (.inl w6), some (.inl 1)], [.inl x1, .inr (some (12, l, i, 0)), .inl w6, .inr (some (24, r40, 0, 0))], (zx_lay M, n))) rfl ?_
        refine zx_E.ix h (fun k4 hx_k4 hl_k4 h => ?_)
        refine zx_E.aald (k := k4) (h := (12, l, i, 0)) (h' := (13, l, i, k4)) rfl rfl hx_k4 hl_k4 rfl ?_
        show zx_E _ _ _ (67, [some (.inr (some (22, 0, 0, 0))), some (.inr (some (7, l, i, 0))), g2, some (.inl x1), some (.inr (some (24, r40, 0, 0))), some (.inl w5), some (.inl w6), some (.inl 1)], [.inr (some (13, l, i, k4)), .inl w6, .inr (some (24, r40, 0, 0))], (zx_lay M, n)) _
        refine zx_E.go 1 (s' := (69, [some (.inr (some (22, 0, 0, 0))), some (.inr (some (7, l, i, 0))), g2, some (.inl x1), some (.inr (some (24, r40, 0, 0))), some (.inl w5), some (.inl w6), some (.inl 1)], [.inl w6, .inr (some (13, l, i, k4)), .inl w6, .inr (some (24, r40, 0, 0))], (zx_lay M, n))) rfl ?_
        refine zx_E.ix h (fun k5 hx_k5 hl_k5 h => ?_)
        refine zx_E.iald (k := k5) (h := (13, l, i, k4)) rfl rfl hx_k5 hl_k5 ?_
        show zx_E _ _ _ (70, [some (.inr (some (22, 0, 0, 0))), some (.inr (some (7, l, i, 0))), g2, some (.inl x1), some (.inr (some (24, r40, 0, 0))), some (.inl w5), some (.inl w6), some (.inl 1)], [.inl (M (13, l, i, k4) k5), .inl w6, .inr (some (24, r40, 0, 0))], (zx_lay M, n)) _
        refine zx_E.go 1 (s' := (75, [some (.inr (some (22, 0, 0, 0))), some (.inr (some (7, l, i, 0))), g2, some (.inl x1), some (.inr (some (24, r40, 0, 0))), some (.inl w5), some (.inl w6), some (.inl 1)], [.inl (M (13, l, i, k4) k5), .inl w6, .inr (some (24, r40, 0, 0))], (zx_lay M, n))) rfl ?_
        refine zx_E.ix h (fun k6 hx_k6 hl_k6 h => ?_)
        refine zx_E.ia h rfl rfl hx_k6 hl_k6 (fun M2 h => ?_)
        show zx_E _ _ _ (76, [some (.inr (some (22, 0, 0, 0))), some (.inr (some (7, l, i, 0))), g2, some (.inl x1), some (.inr (some (24, r40, 0, 0))), some (.inl w5), some (.inl w6), some (.inl 1)], [], (zx_lay M2, n)) _
        refine zx_E.go 1 (s' := (78, [some (.inr (some (22, 0, 0, 0))), some (.inr (some (7, l, i, 0))), g2, some (.inl x1), some (.inr (some (24, r40, 0, 0))), some (.inl w5), some (.inl w6), some (.inl 1)], [.inl 1], (zx_lay M2, n))) rfl ?_
        refine zx_E.bf (c := ((1 : Int32) = 0 : Prop)) (s1 := (84, [some (.inr (some (22, 0, 0, 0))), some (.inr (some (7, l, i, 0))), g2, some (.inl x1), some (.inr (some (24, r40, 0, 0))), some (.inl w5), some (.inl w6), some (.inl 1)], [], (zx_lay M2, n))) (s2 := (81, [some (.inr (some (22, 0, 0, 0))), some (.inr (some (7, l, i, 0))), g2, some (.inl x1), some (.inr (some (24, r40, 0, 0))), some (.inl w5), some (.inl w6), some (.inl 1)], [], (zx_lay M2, n))) (zx_if_eq rfl) (by decide) ?_
        refine zx_E.go 3 (s' := (18, [some (.inr (some (22, 0, 0, 0))), some (.inr (some (7, l, i, 0))), g2, some (.inl x1), some (.inr (some (24, r40, 0, 0))), some (.inl (w5 + 1)), some (.inl (w6 + 1)), some (.inl 1)], [], (zx_lay M2, n))) rfl ?_
        exact rl_X3_takeRow_18 hk q _ (w5 + 1) (w6 + 1) M2 h
def g_X3_takeRow (M : zx_Y) (l : Nat) (i : Nat) (x0 : Int32) (x1 : Int32) : Option (Int32 × zx_Y) := (zi ((2 * x0) + x1) 20 fun k1 => (lg_X3_takeRow_18 l i x1 k1 (fun v1 v2 M1 => (some (v1, M1))) 1000 0 0 M))
set_option maxRecDepth 100000 in
set_option maxHeartbeats 4000000 in
theorem r_X3_takeRow {X : zx_X} {d n : Nat} {M : zx_Y} {l : Nat} {i : Nat} {x0 : Int32} {x1 : Int32} {rv : Int32} {rM : zx_Y} (h : g_X3_takeRow M l i x0 x1 = some (rv, rM)) : zx_run X (d + 1) 53 [.inr (some (22, 0, 0, 0)), .inr (some (7, l, i, 0)), .inl x0, .inl x1] (zx_lay M, n) (some (.inl rv), (zx_lay rM, n)) := by
  refine zx_run_of zc_X3_takeRow [some (.inr (some (22, 0, 0, 0))), some (.inr (some (7, l, i, 0))), some (.inl x0), some (.inl x1), none, none, none, none] rfl rfl ?_
  unfold g_X3_takeRow at h
  refine zx_E.go 4 (s' := (6, [some (.inr (some (22, 0, 0, 0))), some (.inr (some (7, l, i, 0))), some (.inl x0), some (.inl x1), none, none, none, none], [.inl x0, .inl 2, .inr (some (23, 0, 0, 0))], (zx_lay M, n))) rfl ?_
  refine zx_E.go 3 (s' := (9, [some (.inr (some (22, 0, 0, 0))), some (.inr (some (7, l, i, 0))), some (.inl x0), some (.inl x1), none, none, none, none], [.inl ((2 * x0) + x1), .inr (some (23, 0, 0, 0))], (zx_lay M, n))) rfl ?_
  refine zx_E.ix h (fun k1 hx_k1 hl_k1 h => ?_)
  refine zx_E.aald (k := k1) (h := (23, 0, 0, 0)) (h' := (24, k1, 0, 0)) rfl rfl hx_k1 hl_k1 rfl ?_
  show zx_E _ _ _ (10, [some (.inr (some (22, 0, 0, 0))), some (.inr (some (7, l, i, 0))), some (.inl x0), some (.inl x1), none, none, none, none], [.inr (some (24, k1, 0, 0))], (zx_lay M, n)) _
  refine zx_E.go 5 (s' := (18, [some (.inr (some (22, 0, 0, 0))), some (.inr (some (7, l, i, 0))), some (.inl x0), some (.inl x1), some (.inr (some (24, k1, 0, 0))), some (.inl 0), some (.inl 0), none], [], (zx_lay M, n))) rfl ?_
  refine rl_X3_takeRow_18 (fun v1 v2 M1 e1 h => ?_) 1000 _ 0 0 M h
  refine zx_E.go 1 (s' := (92, [some (.inr (some (22, 0, 0, 0))), some (.inr (some (7, l, i, 0))), some (.inl x0), some (.inl x1), some (.inr (some (24, k1, 0, 0))), some (.inl v1), some (.inl v2), e1], [.inl v1], (zx_lay M1, n))) rfl ?_
  exact zx_E.ri h rfl (fun h => absurd h (by decide))
