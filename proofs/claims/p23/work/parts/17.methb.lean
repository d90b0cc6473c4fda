def g_X0_refuses (M : zx_Y) (l : Nat) (i : Nat) : Option (Int32 × zx_Y) := (if (M (17, i, 0, 0) 0) = 76 then (zv (g_X0_refusesLengths M i) fun v1 M1 => (zo v1 ((some (v1, M1))))) else (if (M (17, i, 0, 0) 0) = 77 then (if (M (17, i, 0, 0) 7) = 0 then (zv (g_X0_refuse M 4 0) fun v2 M2 => (if v2 = 0 then (some (0, M2)) else (some (1, M2)))) else (some (0, M))) else (if (M (17, i, 0, 0) 0) = 78 then (if (M (17, i, 0, 0) 7) = 0 then (zv (g_X0_refuse M 4 0) fun v3 M3 => (if v3 = 0 then (some (0, M3)) else (some (1, M3)))) else (some (0, M))) else (if (M (17, i, 0, 0) 0) = 79 then (zv (g_X0_refusesOrder M l i) fun v4 M4 => (zo v4 ((some (v4, M4))))) else (if (M (17, i, 0, 0) 0) = 80 then (if (M (17, i, 0, 0) 7) = 0 then (zv (g_X0_refuse M 4 0) fun v5 M5 => (if v5 = 0 then (some (0, M5)) else (some (1, M5)))) else (some (0, M))) else (if (M (17, i, 0, 0) 0) = 81 then (if (M (17, i, 0, 0) 7) = 0 then (zv (g_X0_refuse M 4 0) fun v6 M6 => (if v6 = 0 then (some (0, M6)) else (some (1, M6)))) else (some (0, M))) else (if (M (17, i, 0, 0) 0) = 82 then (if (M (17, i, 0, 0) 7) = 0 then (zv (g_X0_refuse M 4 0) fun v7 M7 => (if v7 = 0 then (some (0, M7)) else (some (1, M7)))) else (some (0, M))) else (if (M (17, i, 0, 0) 0) = 83 then (zv (g_X0_refusesStation M l i) fun v8 M8 => (zo v8 ((some (v8, M8))))) else (if (M (17, i, 0, 0) 0) = 84 then (zv (g_X0_refusesTrain M l i) fun v9 M9 => (zo v9 ((some (v9, M9))))) else (if (M (17, i, 0, 0) 7) = 0 then (zv (g_X0_refuse M 4 0) fun v10 M10 => (if v10 = 0 then (some (0, M10)) else (some (1, M10)))) else (some (0, M))))))))))))
set_option maxRecDepth 100000 in
set_option maxHeartbeats 4000000 in
theorem r_X0_refuses {X : zx_X} {d n : Nat} {M : zx_Y} {l : Nat} {i : Nat} {rv : Int32} {rM : zx_Y} (h : g_X0_refuses M l i = some (rv, rM)) : zx_run X (d + 4) 1 [.inr (some (21, 0, 0, 0)), .inr (some (1, l, 0, 0)), .inr (some (17, i, 0, 0))] (zx_lay M, n) (some (.inl rv), (zx_lay rM, n)) := by
  refine zx_run_of zc_X0_refuses [some (.inr (some (21, 0, 0, 0))), some (.inr (some (1, l, 0, 0))), some (.inr (some (17, i, 0, 0)))] rfl rfl ?_
  unfold g_X0_refuses at h
  refine zx_E.go 2 (s' := (4, [some (.inr (some (21, 0, 0, 0))), some (.inr (some (1, l, 0, 0))), some (.inr (some (17, i, 0, 0)))], [.inl (M (17, i, 0, 0) 0)], (zx_lay M, n))) rfl ?_
  refine zx_E.one (s' := (zx_pick (M (17, i, 0, 0) 0) 76 [56, 83, 83, 76, 83, 83, 83, 62, 69] 83, [some (.inr (some (21, 0, 0, 0))), some (.inr (some (1, l, 0, 0))), some (.inr (some (17, i, 0, 0)))], [], (zx_lay M, n))) rfl ?_
  refine zx_E.pickh (k' := 77) h (by decide) (fun _ h => ?_) (fun _ h => ?_)
  · refine zx_E.go 2 (s' := (58, [some (.inr (some (21, 0, 0, 0))), some (.inr (some (1, l, 0, 0))), some (.inr (some (17, i, 0, 0)))], [.inr (some (17, i, 0, 0)), .inr (some (21, 0, 0, 0))], (zx_lay M, n))) rfl ?_
    refine zx_E.cv (y := 3) (as := [.inr (some (21, 0, 0, 0)), .inr (some (17, i, 0, 0))]) (rest := []) h rfl (fun _ _ hv => zx_run_up (by omega) (r_X0_refusesLengths (d := d) hv)) (fun v1 M1 h => ?_)
    show zx_E _ _ _ (61, [some (.inr (some (21, 0, 0, 0))), some (.inr (some (1, l, 0, 0))), some (.inr (some (17, i, 0, 0)))], [.inl v1], (zx_lay M1, n)) _
    refine zx_E.ob h (fun hv h => ?_)
    exact zx_E.ri h rfl (fun _ => hv)
  · refine zx_E.pickh (k' := 78) h (by decide) (fun _ h => ?_) (fun _ h => ?_)
    · refine zx_E.go 2 (s' := (87, [some (.inr (some (21, 0, 0, 0))), some (.inr (some (1, l, 0, 0))), some (.inr (some (17, i, 0, 0)))], [.inl (M (17, i, 0, 0) 7)], (zx_lay M, n))) rfl ?_
      refine zx_E.brh (c := (M (17, i, 0, 0) 7) = 0) (s1 := (90, [some (.inr (some (21, 0, 0, 0))), some (.inr (some (1, l, 0, 0))), some (.inr (some (17, i, 0, 0)))], [], (zx_lay M, n))) (s2 := (103, [some (.inr (some (21, 0, 0, 0))), some (.inr (some (1, l, 0, 0))), some (.inr (some (17, i, 0, 0)))], [], (zx_lay M, n))) h (zx_if_ne rfl) (fun _ h => ?_) (fun _ h => ?_)
      · refine zx_E.go 3 (s' := (93, [some (.inr (some (21, 0, 0, 0))), some (.inr (some (1, l, 0, 0))), some (.inr (some (17, i, 0, 0)))], [.inl 0, .inl 4, .inr (some (21, 0, 0, 0))], (zx_lay M, n))) rfl ?_
        refine zx_E.cv (y := 2) (as := [.inr (some (21, 0, 0, 0)), .inl 4, .inl 0]) (rest := []) h rfl (fun _ _ hv => zx_run_up (by omega) (r_X0_refuse (d := d) hv)) (fun v2 M2 h => ?_)
        show zx_E _ _ _ (96, [some (.inr (some (21, 0, 0, 0))), some (.inr (some (1, l, 0, 0))), some (.inr (some (17, i, 0, 0)))], [.inl v2], (zx_lay M2, n)) _
        refine zx_E.brh (c := v2 = 0) (s1 := (103, [some (.inr (some (21, 0, 0, 0))), some (.inr (some (1, l, 0, 0))), some (.inr (some (17, i, 0, 0)))], [], (zx_lay M2, n))) (s2 := (99, [some (.inr (some (21, 0, 0, 0))), some (.inr (some (1, l, 0, 0))), some (.inr (some (17, i, 0, 0)))], [], (zx_lay M2, n))) h (zx_if_eq rfl) (fun _ h => ?_) (fun _ h => ?_)
        · refine zx_E.go 1 (s' := (104, [some (.inr (some (21, 0, 0, 0))), some (.inr (some (1, l, 0, 0))), some (.inr (some (17, i, 0, 0)))], [.inl 0], (zx_lay M2, n))) rfl ?_
          exact zx_E.ri h rfl (fun _ => Or.inl rfl)
        · refine zx_E.go 2 (s' := (104, [some (.inr (some (21, 0, 0, 0))), some (.inr (some (1, l, 0, 0))), some (.inr (some (17, i, 0, 0)))], [.inl 1], (zx_lay M2, n))) rfl ?_
          exact zx_E.ri h rfl (fun _ => Or.inr rfl)
      · refine zx_E.go 1 (s' := (104, [some (.inr (some (21, 0, 0, 0))), some (.inr (some (1, l, 0, 0))), some (.inr (some (17, i, 0, 0)))], [.inl 0], (zx_lay M, n))) rfl ?_
        exact zx_E.ri h rfl (fun _ => Or.inl rfl)
    · refine zx_E.pickh (k' := 79) h (by decide) (fun _ h => ?_) (fun _ h => ?_)
      · refine zx_E.go 2 (s' := (87, [some (.inr (some (21, 0, 0, 0))), some (.inr (some (1, l, 0, 0))), some (.inr (some (17, i, 0, 0)))], [.inl (M (17, i, 0, 0) 7)], (zx_lay M, n))) rfl ?_
        refine zx_E.brh (c := (M (17, i, 0, 0) 7) = 0) (s1 := (90, [some (.inr (some (21, 0, 0, 0))), some (.inr (some (1, l, 0, 0))), some (.inr (some (17, i, 0, 0)))], [], (zx_lay M, n))) (s2 := (103, [some (.inr (some (21, 0, 0, 0))), some (.inr (some (1, l, 0, 0))), some (.inr (some (17, i, 0, 0)))], [], (zx_lay M, n))) h (zx_if_ne rfl) (fun _ h => ?_) (fun _ h => ?_)
        · refine zx_E.go 3 (s' := (93, [some (.inr (some (21, 0, 0, 0))), some (.inr (some (1, l, 0, 0))), some (.inr (some (17, i, 0, 0)))], [.inl 0, .inl 4, .inr (some (21, 0, 0, 0))], (zx_lay M, n))) rfl ?_
          refine zx_E.cv (y := 2) (as := [.inr (some (21, 0, 0, 0)), .inl 4, .inl 0]) (rest := []) h rfl (fun _ _ hv => zx_run_up (by omega) (r_X0_refuse (d := d) hv)) (fun v3 M3 h => ?_)
          show zx_E _ _ _ (96, [some (.inr (some (21, 0, 0, 0))), some (.inr (some (1, l, 0, 0))), some (.inr (some (17, i, 0, 0)))], [.inl v3], (zx_lay M3, n)) _
          refine zx_E.brh (c := v3 = 0) (s1 := (103, [some (.inr (some (21, 0, 0, 0))), some (.inr (some (1, l, 0, 0))), some (.inr (some (17, i, 0, 0)))], [], (zx_lay M3, n))) (s2 := (99, [some (.inr (some (21, 0, 0, 0))), some (.inr (some (1, l, 0, 0))), some (.inr (some (17, i, 0, 0)))], [], (zx_lay M3, n))) h (zx_if_eq rfl) (fun _ h => ?_) (fun _ h => ?_)
          · refine zx_E.go 1 (s' := (104, [some (.inr (some (21, 0, 0, 0))), some (.inr (some (1, l, 0, 0))), some (.inr (some (17, i, 0, 0)))], [.inl 0], (zx_lay M3, n))) rfl ?_
            exact zx_E.ri h rfl (fun _ => Or.inl rfl)
          · refine zx_E.go 2 (s' := (104, [some (.inr (some (21, 0, 0, 0))), some (.inr (some (1, l, 0, 0))), some (.inr (some (17, i, 0, 0)))], [.inl 1], (zx_lay M3, n))) rfl ?_
            exact zx_E.ri h rfl (fun _ => Or.inr rfl)
        · refine zx_E.go 1 (s' := (104, [some (.inr (some (21, 0, 0, 0))), some (.inr (some (1, l, 0, 0))), some (.inr (some (17, i, 0, 0)))], [.inl 0], (zx_lay M, n))) rfl ?_
          exact zx_E.ri h rfl (fun _ => Or.inl rfl)
      · refine zx_E.pickh (k' := 80) h (by decide) (fun _ h => ?_) (fun _ h => ?_)
        · refine zx_E.go 3 (s' := (79, [some (.inr (some (21, 0, 0, 0))), some (.inr (some (1, l, 0, 0))), some (.inr (some (17, i, 0, 0)))], [.inr (some (17, i, 0, 0)), .inr (some (1, l, 0, 0)), .inr (some (21, 0, 0, 0))], (zx_lay M, n))) rfl ?_
          refine zx_E.cv (y := 6) (as := [.inr (some (21, 0, 0, 0)), .inr (some (1, l, 0, 0)), .inr (some (17, i, 0, 0))]) (rest := []) h rfl (fun _ _ hv => zx_run_up (by omega) (r_X0_refusesOrder (d := d) hv)) (fun v4 M4 h => ?_)
          show zx_E _ _ _ (82, [some (.inr (some (21, 0, 0, 0))), some (.inr (some (1, l, 0, 0))), some (.inr (some (17, i, 0, 0)))], [.inl v4], (zx_lay M4, n)) _
          refine zx_E.ob h (fun hv h => ?_)
          exact zx_E.ri h rfl (fun _ => hv)
        · refine zx_E.pickh (k' := 81) h (by decide) (fun _ h => ?_) (fun _ h => ?_)
          · refine zx_E.go 2 (s' := (87, [some (.inr (some (21, 0, 0, 0))), some (.inr (some (1, l, 0, 0))), some (.inr (some (17, i, 0, 0)))], [.inl (M (17, i, 0, 0) 7)], (zx_lay M, n))) rfl ?_
            refine zx_E.brh (c := (M (17, i, 0, 0) 7) = 0) (s1 := (90, [some (.inr (some (21, 0, 0, 0))), some (.inr (some (1, l, 0, 0))), some (.inr (some (17, i, 0, 0)))], [], (zx_lay M, n))) (s2 := (103, [some (.inr (some (21, 0, 0, 0))), some (.inr (some (1, l, 0, 0))), some (.inr (some (17, i, 0, 0)))], [], (zx_lay M, n))) h (zx_if_ne rfl) (fun _ h => ?_) (fun _ h => ?_)
            · refine zx_E.go 3 (s' := (93, [some (.inr (some (21, 0, 0, 0))), some (.inr (some (1, l, 0, 0))), some (.inr (some (17, i, 0, 0)))], [.inl 0, .inl 4, .inr (some (21, 0, 0, 0))], (zx_lay M, n))) rfl ?_
              refine zx_E.cv (y := 2) (as := [.inr (some (21, 0, 0, 0)), .inl 4, .inl 0]) (rest := []) h rfl (fun _ _ hv => zx_run_up (by omega) (r_X0_refuse (d := d) hv)) (fun v5 M5 h => ?_)
              show zx_E _ _ _ (96, [some (.inr (some (21, 0, 0, 0))), some (.inr (some (1, l, 0, 0))), some (.inr (some (17, i, 0, 0)))], [.inl v5], (zx_lay M5, n)) _
              refine zx_E.brh (c := v5 = 0) (s1 := (103, [some (.inr (some (21, 0, 0, 0))), some (.inr (some (1, l, 0, 0))), some (.inr (some (17, i, 0, 0)))], [], (zx_lay M5, n))) (s2 := (99, [some (.inr (some (21, 0, 0, 0))), some (.inr (some (1, l, 0, 0))), some (.inr (some (17, i, 0, 0)))], [], (zx_lay M5, n))) h (zx_if_eq rfl) (fun _ h => ?_) (fun _ h => ?_)
              · refine zx_E.go 1 (s' := (104, [some (.inr (some (21, 0, 0, 0))), some (.inr (some (1, l, 0, 0))), some (.inr (some (17, i, 0, 0)))], [.inl 0], (zx_lay M5, n))) rfl ?_
                exact zx_E.ri h rfl (fun _ => Or.inl rfl)
              · refine zx_E.go 2 (s' := (104, [some (.inr (some (21, 0, 0, 0))), some (.inr (some (1, l, 0, 0))), some (.inr (some (17, i, 0, 0)))], [.inl 1], (zx_lay M5, n))) rfl ?_
                exact zx_E.ri h rfl (fun _ => Or.inr rfl)
            · refine zx_E.go 1 (s' := (104, [some (.inr (some (21, 0, 0, 0))), some (.inr (some (1, l, 0, 0))), some (.inr (some (17, i, 0, 0)))], [.inl 0], (zx_lay M, n))) rfl ?_
              exact zx_E.ri h rfl (fun _ => Or.inl rfl)
          · refine zx_E.pickh (k' := 82) h (by decide) (fun _ h => ?_) (fun _ h => ?_)
            · refine zx_E.go 2 (s' := (87, [some (.inr (some (21, 0, 0, 0))), some (.inr (some (1, l, 0, 0))), some (.inr (some (17, i, 0, 0)))], [.inl (M (17, i, 0, 0) 7)], (zx_lay M, n))) rfl ?_
              refine zx_E.brh (c := (M (17, i, 0, 0) 7) = 0) (s1 := (90, [some (.inr (some (21, 0, 0, 0))), some (.inr (some (1, l, 0, 0))), some (.inr (some (17, i, 0, 0)))], [], (zx_lay M, n))) (s2 := (103, [some (.inr (some (21, 0, 0, 0))), some (.inr (some (1, l, 0, 0))), some (.inr (some (17, i, 0, 0)))], [], (zx_lay M, n))) h (zx_if_ne rfl) (fun _ h => ?_) (fun _ h => ?_)
              · refine zx_E.go 3 (s' := (93, [some (.inr (some (21, 0, 0, 0))), some (.inr (some (1, l, 0, 0))), some (.inr (some (17, i, 0, 0)))], [.inl 0, .inl 4, .inr (some (21, 0, 0, 0))], (zx_lay M, n))) rfl ?_
                refine zx_E.cv (y := 2) (as := [.inr (some (21, 0, 0, 0)), .inl 4, .inl 0]) (rest := []) h rfl (fun _ _ hv => zx_run_up (by omega) (r_X0_refuse (d := d) hv)) (fun v6 M6 h => ?_)
                show zx_E _ _ _ (96, [some (.inr (some (21, 0, 0, 0))), some (.inr (some (1, l, 0, 0))), some (.inr (some (17, i, 0, 0)))], [.inl v6], (zx_lay M6, n)) _
                refine zx_E.brh (c := v6 = 0) (s1 := (103, [some (.inr (some (21, 0, 0, 0))), some (.inr (some (1, l, 0, 0))), some (.inr (some (17, i, 0, 0)))], [], (zx_lay M6, n))) (s2 := (99, [some (.inr (some (21, 0, 0, 0))), some (.inr (some (1, l, 0, 0))), some (.inr (some (17, i, 0, 0)))], [], (zx_lay M6, n))) h (zx_if_eq rfl) (fun _ h => ?_) (fun _ h => ?_)
                · refine zx_E.go 1 (s' := (104, [some (.inr (some (21, 0, 0, 0))), some (.inr (some (1, l, 0, 0))), some (.inr (some (17, i, 0, 0)))], [.inl 0], (zx_lay M6, n))) rfl ?_
                  exact zx_E.ri h rfl (fun _ => Or.inl rfl)
                · refine zx_E.go 2 (s' := (104, [some (.inr (some (21, 0, 0, 0))), some (.inr (some (1, l, 0, 0))), some (.inr (some (17, i, 0, 0)))], [.inl 1], (zx_lay M6, n))) rfl ?_
                  exact zx_E.ri h rfl (fun _ => Or.inr rfl)
              · refine zx_E.go 1 (s' := (104, [some (.inr (some (21, 0, 0, 0))), some (.inr (some (1, l, 0, 0))), some (.inr (some (17, i, 0, 0)))], [.inl 0], (zx_lay M, n))) rfl ?_
                exact zx_E.ri h rfl (fun _ => Or.inl rfl)
            · refine zx_E.pickh (k' := 83) h (by decide) (fun _ h => ?_) (fun _ h => ?_)
              · refine zx_E.go 2 (s' := (87, [some (.inr (some (21, 0, 0, 0))), some (.inr (some (1, l, 0, 0))), some (.inr (some (17, i, 0, 0)))], [.inl (M (17, i, 0, 0) 7)], (zx_lay M, n))) rfl ?_
                refine zx_E.brh (c := (M (17, i, 0, 0) 7) = 0) (s1 := (90, [some (.inr (some (21, 0, 0, 0))), some (.inr (some (1, l, 0, 0))), some (.inr (some (17, i, 0, 0)))], [], (zx_lay M, n))) (s2 := (103, [some (.inr (some (21, 0, 0, 0))), some (.inr (some (1, l, 0, 0))), some (.inr (some (17, i, 0, 0)))], [], (zx_lay M, n))) h (zx_if_ne rfl) (fun _ h => ?_) (fun _ h => ?_)
                · refine zx_E.go 3 (s' := (93, [some (.inr (some (21, 0, 0, 0))), some (.inr (some (1, l, 0, 0))), some (.inr (some (17, i, 0, 0)))], [.inl 0, .inl 4, .inr (some (21, 0, 0, 0))], (zx_lay M, n))) rfl ?_
                  refine zx_E.cv (y := 2) (as := [.inr (some (21, 0, 0, 0)), .inl 4, .inl 0]) (rest := []) h rfl (fun _ _ hv => zx_run_up (by omega) (r_X0_refuse (d := d) hv)) (fun v7 M7 h => ?_)
                  show zx_E _ _ _ (96, [some (.inr (some (21, 0, 0, 0))), some (.inr (some (1, l, 0, 0))), some (.inr (some (17, i, 0, 0)))], [.inl v7], (zx_lay M7, n)) _
                  refine zx_E.brh (c := v7 = 0) (s1 := (103, [some (.inr (some (21, 0, 0, 0))), some (.inr (some (1, l, 0, 0))), some (.inr (some (17, i, 0, 0)))], [], (zx_lay M7, n))) (s2 := (99, [some (.inr (some (21, 0, 0, 0))), some (.inr (some (1, l, 0, 0))), some (.inr (some (17, i, 0, 0)))], [], (zx_lay M7, n))) h (zx_if_eq rfl) (fun _ h => ?_) (fun _ h => ?_)
                  · refine zx_E.go 1 (s' := (104, [some (.inr (some (21, 0, 0, 0))), some (.inr (some (1, l, 0, 0))), some (.inr (some (17, i, 0, 0)))], [.inl 0], (zx_lay M7, n))) rfl ?_
                    exact zx_E.ri h rfl (fun _ => Or.inl rfl)
                  · refine zx_E.go 2 (s' := (104, [some (.inr (some (21, 0, 0, 0))), some (.inr (some (1, l, 0, 0))), some (.inr (some (17, i, 0, 0)))], [.inl 1], (zx_lay M7, n))) rfl ?_
                    exact zx_E.ri h rfl (fun _ => Or.inr rfl)
                · refine zx_E.go 1 (s' := (104, [some (.inr (some (21, 0, 0, 0))), some (.inr (some (1, l, 0, 0))), some (.inr (some (17, i, 0, 0)))], [.inl 0], (zx_lay M, n))) rfl ?_
                  exact zx_E.ri h rfl (fun _ => Or.inl rfl)
              · refine zx_E.pickh (k' := 84) h (by decide) (fun _ h => ?_) (fun _ h => ?_)
                · refine zx_E.go 3 (s' := (65, [some (.inr (some (21, 0, 0, 0))), some (.inr (some (1, l, 0, 0))), some (.inr (some (17, i, 0, 0)))], [.inr (some (17, i, 0, 0)), .inr (some (1, l, 0, 0)), .inr (some (21, 0, 0, 0))], (zx_lay M, n))) rfl ?_
                  refine zx_E.cv (y := 4) (as := [.inr (some (21, 0, 0, 0)), .inr (some (1, l, 0, 0)), .inr (some (17, i, 0, 0))]) (rest := []) h rfl (fun _ _ hv => zx_run_up (by omega) (r_X0_refusesStation (d := d) hv)) (fun v8 M8 h => ?_)
                  show zx_E _ _ _ (68, [some (.inr (some (21, 0, 0, 0))), some (.inr (some (1, l, 0, 0))), some (.inr (some (17, i, 0, 0)))], [.inl v8], (zx_lay M8, n)) _
                  refine zx_E.ob h (fun hv h => ?_)
                  exact zx_E.ri h rfl (fun _ => hv)
                · refine zx_E.pickh (k' := 85) h (by decide) (fun _ h => ?_) (fun _ h => ?_)
                  · refine zx_E.go 3 (s' := (72, [some (.inr (some (21, 0, 0, 0))), some (.inr (some (1, l, 0, 0))), some (.inr (some (17, i, 0, 0)))], [.inr (some (17, i, 0, 0)), .inr (some (1, l, 0, 0)), .inr (some (21, 0, 0, 0))], (zx_lay M, n))) rfl ?_
                    refine zx_E.cv (y := 5) (as := [.inr (some (21, 0, 0, 0)), .inr (some (1, l, 0, 0)), .inr (some (17, i, 0, 0))]) (rest := []) h rfl (fun _ _ hv => zx_run_up (by omega) (r_X0_refusesTrain (d := d) hv)) (fun v9 M9 h => ?_)
                    show zx_E _ _ _ (75, [some (.inr (some (21, 0, 0, 0))), some (.inr (some (1, l, 0, 0))), some (.inr (some (17, i, 0, 0)))], [.inl v9], (zx_lay M9, n)) _
                    refine zx_E.ob h (fun hv h => ?_)
                    exact zx_E.ri h rfl (fun _ => hv)
                  · show zx_E _ _ _ (83, [some (.inr (some (21, 0, 0, 0))), some (.inr (some (1, l, 0, 0))), some (.inr (some (17, i, 0, 0)))], [], (zx_lay M, n)) _
                    refine zx_E.go 2 (s' := (87, [some (.inr (some (21, 0, 0, 0))), some (.inr (some (1, l, 0, 0))), some (.inr (some (17, i, 0, 0)))], [.inl (M (17, i, 0, 0) 7)], (zx_lay M, n))) rfl ?_
                    refine zx_E.brh (c := (M (17, i, 0, 0) 7) = 0) (s1 := (90, [some (.inr (some (21, 0, 0, 0))), some (.inr (some (1, l, 0, 0))), some (.inr (some (17, i, 0, 0)))], [], (zx_lay M, n))) (s2 := (103, [some (.inr (some (21, 0, 0, 0))), some (.inr (some (1, l, 0, 0))), some (.inr (some (17, i, 0, 0)))], [], (zx_lay M, n))) h (zx_if_ne rfl) (fun _ h => ?_) (fun _ h => ?_)
                    · refine zx_E.go 3 (s' := (93, [some (.inr (some (21, 0, 0, 0))), some (.inr (some (1, l, 0, 0))), some (.inr (some (17, i, 0, 0)))], [.inl 0, .inl 4, .inr (some (21, 0, 0, 0))], (zx_lay M, n))) rfl ?_
                      refine zx_E.cv (y := 2) (as := [.inr (some (21, 0, 0, 0)), .inl 4, .inl 0]) (rest := []) h rfl (fun _ _ hv => zx_run_up (by omega) (r_X0_refuse (d := d) hv)) (fun v10 M10 h => ?_)
                      show zx_E _ _ _ (96, [some (.inr (some (21, 0, 0, 0))), some (.inr (some (1, l, 0, 0))), some (.inr (some (17, i, 0, 0)))], [.inl v10], (zx_lay M10, n)) _
                      refine zx_E.brh (c := v10 = 0) (s1 := (103, [some (.inr (some (21, 0, 0, 0))), some (.inr (some (1, l, 0, 0))), some (.inr (some (17, i, 0, 0)))], [], (zx_lay M10, n))) (s2 := (99, [some (.inr (some (21, 0, 0, 0))), some (.inr (some (1, l, 0, 0))), some (.inr (some (17, i, 0, 0)))], [], (zx_lay M10, n))) h (zx_if_eq rfl) (fun _ h => ?_) (fun _ h => ?_)
                      · refine zx_E.go 1 (s' := (104, [some (.inr (some (21, 0, 0, 0))), some (.inr (some (1, l, 0, 0))), some (.inr (some (17, i, 0, 0)))], [.inl 0], (zx_lay M10, n))) rfl ?_
                        exact zx_E.ri h rfl (fun _ => Or.inl rfl)
                      · refine zx_E.go 2 (s' := (104, [some (.inr (some (21, 0, 0, 0))), some (.inr (some (1, l, 0, 0))), some (.inr (some (17, i, 0, 0)))], [.inl 1], (zx_lay M10, n))) rfl ?_
                        exact zx_E.ri h rfl (fun _ => Or.inr rfl)
                    · refine zx_E.go 1 (s' := (104, [some (.inr (some (21, 0, 0, 0))), some (.inr (some (1, l, 0, 0))), some (.inr (some (17, i, 0, 0)))], [.inl 0], (zx_lay M, n))) rfl ?_
                      exact zx_E.ri h rfl (fun _ => Or.inl rfl)
def lg_X0_makeLine_22 (l : Nat) (i : Nat) (kk : Int32 → zx_Y → Option zx_Y) : Nat → Int32 → zx_Y → Option zx_Y
  | 0, _, _ => none
  | q + 1, w3, M => (if (8 : Int32) ≤ w3 then (kk w3 M) else (zi w3 8 fun k1 => (zl (zx_up M (3, l, k1, 0) 0 2) fun M1 => (zi w3 8 fun k2 => (zl (zx_up M1 (3, l, k2, 0) 1 0) fun M2 => (zi w3 8 fun k3 => (zl (zx_up M2 (3, l, k3, 0) 2 0) fun M3 => (lg_X0_makeLine_22 l i kk q (w3 + 1) M3))))))))
set_option maxRecDepth 100000 in
set_option maxHeartbeats 4000000 in
theorem rl_X0_makeLine_22 {X : zx_X} {d n : Nat} {l : Nat} {i : Nat} {kk : Int32 → zx_Y → Option zx_Y} {rM : zx_Y} {g0 : Option zx_V} (hk : ∀ (w3 : Int32) (M : zx_Y), kk w3 M = some rM → zx_E X (d + 0) zc_X0_makeLine (64, [g0, some (.inr (some (1, l, 0, 0))), some (.inr (some (17, i, 0, 0))), some (.inl w3)], [], (zx_lay M, n)) (none, (zx_lay rM, n))) : ∀ (q : Nat) (w3 : Int32) (M : zx_Y), lg_X0_makeLine_22 l i kk q w3 M = some rM → zx_E X (d + 0) zc_X0_makeLine (22, [g0, some (.inr (some (1, l, 0, 0))), some (.inr (some (17, i, 0, 0))), some (.inl w3)], [], (zx_lay M, n)) (none, (zx_lay rM, n))
  | 0, w3, M, h => by
    rw [lg_X0_makeLine_22.eq_1] at h
    cases h
  | q + 1, w3, M, h => by
    rw [lg_X0_makeLine_22.eq_2] at h
    refine zx_E.go 2 (s' := (25, [g0, some (.inr (some (1, l, 0, 0))), some (.inr (some (17, i, 0, 0))), some (.inl w3)], [.inl 8, .inl w3], (zx_lay M, n))) rfl ?_
    refine zx_E.brh (c := (8 : Int32) ≤ w3) (s1 := (64, [g0, some (.inr (some (1, l, 0, 0))), some (.inr (some (17, i, 0, 0))), some (.inl w3)], [], (zx_lay M, n))) (s2 := (28, [g0, some (.inr (some (1, l, 0, 0))), some (.inr (some (17, i, 0, 0))), some (.inl w3)], [], (zx_lay M, n))) h (zx_ic_ge rfl) (fun _ h => ?_) (fun _ h => ?_)
    · exact hk _ _ h
    · refine zx_E.go 3 (s' := (33, [g0, some (.inr (some (1, l, 0, 0))), some (.inr (some (17, i, 0, 0))), some (.inl w3)], [.inl w3, .inr (some (2, l, 0, 0))], (zx_lay M, n))) rfl ?_
      refine zx_E.ix h (fun k1 hx_k1 hl_k1 h => ?_)
      refine zx_E.aald (k := k1) (h := (2, l, 0, 0)) (h' := (3, l, k1, 0)) rfl rfl hx_k1 hl_k1 rfl ?_
      show zx_E _ _ _ (34, [g0, some (.inr (some (1, l, 0, 0))), some (.inr (some (17, i, 0, 0))), some (.inl w3)], [.inr (some (3, l, k1, 0))], (zx_lay M, n)) _
      refine zx_E.go 1 (s' := (35, [g0, some (.inr (some (1, l, 0, 0))), some (.inr (some (17, i, 0, 0))), some (.inl w3)], [.inl 2, .inr (some (3, l, k1, 0))], (zx_lay M, n))) rfl ?_
      refine zx_E.pu h rfl rfl (fun h => absurd h (by decide)) (fun M1 h => ?_)
      show zx_E _ _ _ (38, [g0, some (.inr (some (1, l, 0, 0))), some (.inr (some (17, i, 0, 0))), some (.inl w3)], [], (zx_lay M1, n)) _
      refine zx_E.go 3 (s' := (43, [g0, some (.inr (some (1, l, 0, 0))), some (.inr (some (17, i, 0, 0))), some (.inl w3)], [.inl w3, .inr (some (2, l, 0, 0))], (zx_lay M1, n))) rfl ?_
      refine zx_E.ix h (fun k2 hx_k2 hl_k2 h => ?_)
      refine zx_E.aald (k := k2) (h := (2, l, 0, 0)) (h' := (3, l, k2, 0)) rfl rfl hx_k2 hl_k2 rfl ?_
      show zx_E _ _ _ (44, [g0, some (.inr (some (1, l, 0, 0))), some (.inr (some (17, i, 0, 0))), some (.inl w3)], [.inr (some (3, l, k2, 0))], (zx_lay M1, n)) _
      refine zx_E.go 1 (s' := (45, [g0, some (.inr (some (1, l, 0, 0))), some (.inr (some (17, i, 0, 0))), some (.inl w3)], [.inl 0, .inr (some (3, l, k2, 0))], (zx_lay M1, n))) rfl ?_
      refine zx_E.pu h rfl rfl (fun _ => Or.inl rfl) (fun M2 h => ?_)
      show zx_E _ _ _ (48, [g0, some (.inr (some (1, l, 0, 0))), some (.inr (some (17, i, 0, 0))), some (.inl w3)], [], (zx_lay M2, n)) _
      refine zx_E.go 3 (s' := (53, [g0, some (.inr (some (1, l, 0, 0))), some (.inr (some (17, i, 0, 0))), some (.inl w3)], [.inl w3, .inr (some (2, l, 0, 0))], (zx_lay M2, n))) rfl ?_
      refine zx_E.ix h (fun k3 hx_k3 hl_k3 h => ?_)
      refine zx_E.aald (k := k3) (h := (2, l, 0, 0)) (h' := (3, l, k3, 0)) rfl rfl hx_k3 hl_k3 rfl ?_
      show zx_E _ _ _ (54, [g0, some (.inr (some (1, l, 0, 0))), some (.inr (some (17, i, 0, 0))), some (.inl w3)], [.inr (some (3, l, k3, 0))], (zx_lay M2, n)) _
      refine zx_E.go 1 (s' := (55, [g0, some (.inr (some (1, l, 0, 0))), some (.inr (some (17, i, 0, 0))), some (.inl w3)], [.inl 0, .inr (some (3, l, k3, 0))], (zx_lay M2, n))) rfl ?_
      refine zx_E.pu h rfl rfl (fun h => absurd h (by decide)) (fun M3 h => ?_)
      show zx_E _ _ _ (58, [g0, some (.inr (some (1, l, 0, 0))), some (.inr (some (17, i, 0, 0))), some (.inl w3)], [], (zx_lay M3, n)) _
      refine zx_E.go 2 (s' := (22, [g0, some (.inr (some (1, l, 0, 0))), some (.inr (some (17, i, 0, 0))), some (.inl (w3 + 1))], [], (zx_lay M3, n))) rfl ?_
      exact rl_X0_makeLine_22 hk q (w3 + 1) M3 h
def lg_X0_makeLine_66 (l : Nat) (i : Nat) (kk : Int32 → zx_Y → Option zx_Y) : Nat → Int32 → zx_Y → Option zx_Y
  | 0, _, _ => none
  | q + 1, w3, M => (if (7 : Int32) ≤ w3 then (kk w3 M) else (zi w3 7 fun k1 => (zi w3 7 fun k2 => (zl (zx_up M (5, l, k1, 0) 0 (M (18, i, 0, 0) k2)) fun M1 => (zi w3 7 fun k3 => (zl (zx_up M1 (5, l, k3, 0) 1 0) fun M2 => (zi w3 7 fun k4 => (zl (zx_up M2 (5, l, k4, 0) 2 0) fun M3 => (lg_X0_makeLine_66 l i kk q (w3 + 1) M3)))))))))
set_option maxRecDepth 100000 in
set_option maxHeartbeats 4000000 in
theorem rl_X0_makeLine_66 {X : zx_X} {d n : Nat} {l : Nat} {i : Nat} {kk : Int32 → zx_Y → Option zx_Y} {rM : zx_Y} {g0 : Option zx_V} (hk : ∀ (w3 : Int32) (M : zx_Y), kk w3 M = some rM → zx_E X (d + 0) zc_X0_makeLine (113, [g0, some (.inr (some (1, l, 0, 0))), some (.inr (some (17, i, 0, 0))), some (.inl w3)], [], (zx_lay M, n)) (none, (zx_lay rM, n))) : ∀ (q : Nat) (w3 : Int32) (M : zx_Y), lg_X0_makeLine_66 l i kk q w3 M = some rM → zx_E X (d + 0) zc_X0_makeLine (66, [g0, some (.inr (some (1, l, 0, 0))), some (.inr (some (17, i, 0, 0))), some (.inl w3)], [], (zx_lay M, n)) (none, (zx_lay rM, n))
  | 0, w3, M, h => by
    rw [lg_X0_makeLine_66.eq_1] at h
    cases h
  | q + 1, w3, M, h => by
    rw [lg_X0_makeLine_66.eq_2] at h
    refine zx_E.go 2 (s' := (69, [g0, some (.inr (some (1, l, 0, 0))), some (.inr (some (17, i, 0, 0))), some (.inl w3)], [.inl 7, .inl w3], (zx_lay M, n))) rfl ?_
    refine zx_E.brh (c := (7 : Int32) ≤ w3) (s1 := (113, [g0, some (.inr (some (1, l, 0, 0))), some (.inr (some (17, i, 0, 0))), some (.inl w3)], [], (zx_lay M, n))) (s2 := (72, [g0, some (.inr (some (1, l, 0, 0))), some (.inr (some (17, i, 0, 0))), some (.inl w3)], [], (zx_lay M, n))) h (zx_ic_ge rfl) (fun _ h => ?_) (fun _ h => ?_)
    · exact hk _ _ h
    · refine zx_E.go 3 (s' := (77, [g0, some (.inr (some (1, l, 0, 0))), some (.inr (some (17, i, 0, 0))), some (.inl w3)], [.inl w3, .inr (some (4, l, 0, 0))], (zx_lay M, n))) rfl ?_
      refine zx_E.ix h (fun k1 hx_k1 hl_k1 h => ?_)
      refine zx_E.aald (k := k1) (h := (4, l, 0, 0)) (h' := (5, l, k1, 0)) rfl rfl hx_k1 hl_k1 rfl ?_
      show zx_E _ _ _ (78, [g0, some (.inr (some (1, l, 0, 0))), some (.inr (some (17, i, 0, 0))), some (.inl w3)], [.inr (some (5, l, k1, 0))], (zx_lay M, n)) _
      refine zx_E.go 3 (s' := (83, [g0, some (.inr (some (1, l, 0, 0))), some (.inr (some (17, i, 0, 0))), some (.inl w3)], [.inl w3, .inr (some (18, i, 0, 0)), .inr (some (5, l, k1, 0))], (zx_lay M, n))) rfl ?_
      refine zx_E.ix h (fun k2 hx_k2 hl_k2 h => ?_)
      refine zx_E.iald (k := k2) (h := (18, i, 0, 0)) rfl rfl hx_k2 hl_k2 ?_
      show zx_E _ _ _ (84, [g0, some (.inr (some (1, l, 0, 0))), some (.inr (some (17, i, 0, 0))), some (.inl w3)], [.inl (M (18, i, 0, 0) k2), .inr (some (5, l, k1, 0))], (zx_lay M, n)) _
      refine zx_E.pu h rfl rfl (fun h => absurd h (by decide)) (fun M1 h => ?_)
      show zx_E _ _ _ (87, [g0, some (.inr (some (1, l, 0, 0))), some (.inr (some (17, i, 0, 0))), some (.inl w3)], [], (zx_lay M1, n)) _
      refine zx_E.go 3 (s' := (92, [g0, some (.inr (some (1, l, 0, 0))), some (.inr (some (17, i, 0, 0))), some (.inl w3)], [.inl w3, .inr (some (4, l, 0, 0))], (zx_lay M1, n))) rfl ?_
      refine zx_E.ix h (fun k3 hx_k3 hl_k3 h => ?_)
      refine zx_E.aald (k := k3) (h := (4, l, 0, 0)) (h' := (5, l, k3, 0)) rfl rfl hx_k3 hl_k3 rfl ?_
      show zx_E _ _ _ (93, [g0, some (.inr (some (1, l, 0, 0))), some (.inr (some (17, i, 0, 0))), some (.inl w3)], [.inr (some (5, l, k3, 0))], (zx_lay M1, n)) _
      refine zx_E.go 1 (s' := (94, [g0, some (.inr (some (1, l, 0, 0))), some (.inr (some (17, i, 0, 0))), some (.inl w3)], [.inl 0, .inr (some (5, l, k3, 0))], (zx_lay M1, n))) rfl ?_
      refine zx_E.pu h rfl rfl (fun h => absurd h (by decide)) (fun M2 h => ?_)
      show zx_E _ _ _ (97, [g0, some (.inr (some (1, l, 0, 0))), some (.inr (some (17, i, 0, 0))), some (.inl w3)], [], (zx_lay M2, n)) _
      refine zx_E.go 3 (s' := (102, [g0, some (.inr (some (1, l, 0, 0))), some (.inr (some (17, i, 0, 0))), some (.inl w3)], [.inl w3, .inr (some (4, l, 0, 0))], (zx_lay M2, n))) rfl ?_
      refine zx_E.ix h (fun k4 hx_k4 hl_k4 h => ?_)
      refine zx_E.aald (k := k4) (h := (4, l, 0, 0)) (h' := (5, l, k4, 0)) rfl rfl hx_k4 hl_k4 rfl ?_
      show zx_E _ _ _ (103, [g0, some (.inr (some (1, l, 0, 0))), some (.inr (some (17, i, 0, 0))), some (.inl w3)], [.inr (some (5, l, k4, 0))], (zx_lay M2, n)) _
      refine zx_E.go 1 (s' := (104, [g0, some (.inr (some (1, l, 0, 0))), some (.inr (some (17, i, 0, 0))), some (.inl w3)], [.inl 0, .inr (some (5, l, k4, 0))], (zx_lay M2, n))) rfl ?_
      refine zx_E.pu h rfl rfl (fun h => absurd h (by decide)) (fun M3 h => ?_)
      show zx_E _ _ _ (107, [g0, some (.inr (some (1, l, 0, 0))), some (.inr (some (17, i, 0, 0))), some (.inl w3)], [], (zx_lay M3, n)) _
      refine zx_E.go 2 (s' := (66, [g0, some (.inr (some (1, l, 0, 0))), some (.inr (some (17, i, 0, 0))), some (.inl (w3 + 1))], [], (zx_lay M3, n))) rfl ?_
      exact rl_X0_makeLine_66 hk q (w3 + 1) M3 h
def g_X0_makeLine (M : zx_Y) (l : Nat) (i : Nat) : Option zx_Y := (zl (zx_up M (1, l, 0, 0) 3 ((M (17, i, 0, 0) 11) + 1)) fun M1 => (zl (zx_up M1 (1, l, 0, 0) 4 0) fun M2 => (zl (zx_up M2 (1, l, 0, 0) 5 0) fun M3 => (lg_X0_makeLine_22 l i (fun v1 M4 => (lg_X0_makeLine_66 l i (fun v2 M5 => (some M5)) 1000 0 M4)) 1000 0 M3))))
set_option maxRecDepth 100000 in
set_option maxHeartbeats 4000000 in
theorem r_X0_makeLine {X : zx_X} {d n : Nat} {M : zx_Y} {l : Nat} {i : Nat} {rM : zx_Y} (h : g_X0_makeLine M l i = some rM) : zx_run X (d + 1) 8 [.inr (some (21, 0, 0, 0)), .inr (some (1, l, 0, 0)), .inr (some (17, i, 0, 0))] (zx_lay M, n) (none, (zx_lay rM, n)) := by
  refine zx_run_of zc_X0_makeLine [some (.inr (some (21, 0, 0, 0))), some (.inr (some (1, l, 0, 0))), some (.inr (some (17, i, 0, 0))), none] rfl rfl ?_
  unfold g_X0_makeLine at h
  refine zx_E.go 4 (s' := (6, [some (.inr (some (21, 0, 0, 0))), some (.inr (some (1, l, 0, 0))), some (.inr (some (17, i, 0, 0))), none], [.inl 1, .inl (M (17, i, 0, 0) 11), .inr (some (1, l, 0, 0))], (zx_lay M, n))) rfl ?_
  refine zx_E.go 1 (s' := (7, [some (.inr (some (21, 0, 0, 0))), some (.inr (some (1, l, 0, 0))), some (.inr (some (17, i, 0, 0))), none], [.inl ((M (17, i, 0, 0) 11) + 1), .inr (some (1, l, 0, 0))], (zx_lay M, n))) rfl ?_
  refine zx_E.pu h rfl rfl (fun h => absurd h (by decide)) (fun M1 h => ?_)
  show zx_E _ _ _ (10, [some (.inr (some (21, 0, 0, 0))), some (.inr (some (1, l, 0, 0))), some (.inr (some (17, i, 0, 0))), none], [], (zx_lay M1, n)) _
  refine zx_E.go 2 (s' := (12, [some (.inr (some (21, 0, 0, 0))), some (.inr (some (1, l, 0, 0))), some (.inr (some (17, i, 0, 0))), none], [.inl 0, .inr (some (1, l, 0, 0))], (zx_lay M1, n))) rfl ?_
  refine zx_E.pu h rfl rfl (fun h => absurd h (by decide)) (fun M2 h => ?_)
  show zx_E _ _ _ (15, [some (.inr (some (21, 0, 0, 0))), some (.inr (some (1, l, 0, 0))), some (.inr (some (17, i, 0, 0))), none], [], (zx_lay M2, n)) _
  refine zx_E.go 2 (s' := (17, [some (.inr (some (21, 0, 0, 0))), some (.inr (some (1, l, 0, 0))), some (.inr (some (17, i, 0, 0))), none], [.inl 0, .inr (some (1, l, 0, 0))], (zx_lay M2, n))) rfl ?_
  refine zx_E.pu h rfl rfl (fun h => absurd h (by decide)) (fun M3 h => ?_)
  show zx_E _ _ _ (20, [some (.inr (some (21, 0, 0, 0))), some (.inr (some (1, l, 0, 0))), some (.inr (some (17, i, 0, 0))), none], [], (zx_lay M3, n)) _
  refine zx_E.go 2 (s' := (22, [some (.inr (some (21, 0, 0, 0))), some (.inr (some (1, l, 0, 0))), some (.inr (some (17, i, 0, 0))), some (.inl 0)], [], (zx_lay M3, n))) rfl ?_
  refine rl_X0_makeLine_22 (fun v1 M4 h => ?_) 1000  0 M3 h
  refine zx_E.go 2 (s' := (66, [some (.inr (some (21, 0, 0, 0))), some (.inr (some (1, l, 0, 0))), some (.inr (some (17, i, 0, 0))), some (.inl 0)], [], (zx_lay M4, n))) rfl ?_
  refine rl_X0_makeLine_66 (fun v2 M5 h => ?_) 1000  0 M4 h
  exact zx_E.r0 h rfl
def g_X0_addOrder (M : zx_Y) (l : Nat) (i : Nat) : Option zx_Y := (if (M (1, l, 0, 0) 5) < 0 then (some M) else (if (M (1, l, 0, 0) 5) < 6 then (zi (M (1, l, 0, 0) 5) 6 fun k1 => (zl (zx_up M (9, l, k1, 0) 0 (M (17, i, 0, 0) 1)) fun M1 => (zl (zx_up M1 (9, l, k1, 0) 1 (M1 (17, i, 0, 0) 7)) fun M2 => (zl (zx_up M2 (9, l, k1, 0) 2 (M2 (17, i, 0, 0) 4)) fun M3 => (zl (zx_up M3 (9, l, k1, 0) 3 (M3 (17, i, 0, 0) 8)) fun M4 => (zl (zx_up M4 (1, l, 0, 0) 5 ((M4 (1, l, 0, 0) 5) + 1)) fun M5 => (some M5))))))) else (some M)))
set_option maxRecDepth 100000 in
set_option maxHeartbeats 4000000 in
theorem r_X0_addOrder {X : zx_X} {d n : Nat} {M : zx_Y} {l : Nat} {i : Nat} {rM : zx_Y} (h : g_X0_addOrder M l i = some rM) : zx_run X (d + 1) 11 [.inr (some (21, 0, 0, 0)), .inr (some (1, l, 0, 0)), .inr (some (17, i, 0, 0))] (zx_lay M, n) (none, (zx_lay rM, n)) := by
  refine zx_run_of zc_X0_addOrder [some (.inr (some (21, 0, 0, 0))), some (.inr (some (1, l, 0, 0))), some (.inr (some (17, i, 0, 0))), none] rfl rfl ?_
  unfold g_X0_addOrder at h
  refine zx_E.go 2 (s' := (4, [some (.inr (some (21, 0, 0, 0))), some (.inr (some (1, l, 0, 0))), some (.inr (some (17, i, 0, 0))), none], [.inl (M (1, l, 0, 0) 5)], (zx_lay M, n))) rfl ?_
  refine zx_E.brh (c := (M (1, l, 0, 0) 5) < 0) (s1 := (16, [some (.inr (some (21, 0, 0, 0))), some (.inr (some (1, l, 0, 0))), some (.inr (some (17, i, 0, 0))), none], [], (zx_lay M, n))) (s2 := (7, [some (.inr (some (21, 0, 0, 0))), some (.inr (some (1, l, 0, 0))), some (.inr (some (17, i, 0, 0))), none], [], (zx_lay M, n))) h (zx_if_lt rfl) (fun _ h => ?_) (fun _ h => ?_)
  · exact zx_E.r0 h rfl
  · refine zx_E.go 3 (s' := (13, [some (.inr (some (21, 0, 0, 0))), some (.inr (some (1, l, 0, 0))), some (.inr (some (17, i, 0, 0))), none], [.inl 6, .inl (M (1, l, 0, 0) 5)], (zx_lay M, n))) rfl ?_
    refine zx_E.brh (c := (M (1, l, 0, 0) 5) < 6) (s1 := (17, [some (.inr (some (21, 0, 0, 0))), some (.inr (some (1, l, 0, 0))), some (.inr (some (17, i, 0, 0))), none], [], (zx_lay M, n))) (s2 := (16, [some (.inr (some (21, 0, 0, 0))), some (.inr (some (1, l, 0, 0))), some (.inr (some (17, i, 0, 0))), none], [], (zx_lay M, n))) h (zx_ic_lt rfl) (fun _ h => ?_) (fun _ h => ?_)
    · refine zx_E.go 4 (s' := (25, [some (.inr (some (21, 0, 0, 0))), some (.inr (some (1, l, 0, 0))), some (.inr (some (17, i, 0, 0))), none], [.inl (M (1, l, 0, 0) 5), .inr (some (8, l, 0, 0))], (zx_lay M, n))) rfl ?_
      refine zx_E.ix h (fun k1 hx_k1 hl_k1 h => ?_)
      refine zx_E.aald (k := k1) (h := (8, l, 0, 0)) (h' := (9, l, k1, 0)) rfl rfl hx_k1 hl_k1 rfl ?_
      show zx_E _ _ _ (26, [some (.inr (some (21, 0, 0, 0))), some (.inr (some (1, l, 0, 0))), some (.inr (some (17, i, 0, 0))), none], [.inr (some (9, l, k1, 0))], (zx_lay M, n)) _
      refine zx_E.go 4 (s' := (32, [some (.inr (some (21, 0, 0, 0))), some (.inr (some (1, l, 0, 0))), some (.inr (some (17, i, 0, 0))), some (.inr (some (9, l, k1, 0)))], [.inl (M (17, i, 0, 0) 1), .inr (some (9, l, k1, 0))], (zx_lay M, n))) rfl ?_
      refine zx_E.pu h rfl rfl (fun h => absurd h (by decide)) (fun M1 h => ?_)
      show zx_E _ _ _ (35, [some (.inr (some (21, 0, 0, 0))), some (.inr (some (1, l, 0, 0))), some (.inr (some (17, i, 0, 0))), some (.inr (some (9, l, k1, 0)))], [], (zx_lay M1, n)) _
      refine zx_E.go 3 (s' := (40, [some (.inr (some (21, 0, 0, 0))), some (.inr (some (1, l, 0, 0))), some (.inr (some (17, i, 0, 0))), some (.inr (some (9, l, k1, 0)))], [.inl (M1 (17, i, 0, 0) 7), .inr (some (9, l, k1, 0))], (zx_lay M1, n))) rfl ?_
      refine zx_E.pu h rfl rfl (fun h => absurd h (by decide)) (fun M2 h => ?_)
      show zx_E _ _ _ (43, [some (.inr (some (21, 0, 0, 0))), some (.inr (some (1, l, 0, 0))), some (.inr (some (17, i, 0, 0))), some (.inr (some (9, l, k1, 0)))], [], (zx_lay M2, n)) _
      refine zx_E.go 3 (s' := (48, [some (.inr (some (21, 0, 0, 0))), some (.inr (some (1, l, 0, 0))), some (.inr (some (17, i, 0, 0))), some (.inr (some (9, l, k1, 0)))], [.inl (M2 (17, i, 0, 0) 4), .inr (some (9, l, k1, 0))], (zx_lay M2, n))) rfl ?_
      refine zx_E.pu h rfl rfl (fun h => absurd h (by decide)) (fun M3 h => ?_)
      show zx_E _ _ _ (51, [some (.inr (some (21, 0, 0, 0))), some (.inr (some (1, l, 0, 0))), some (.inr (some (17, i, 0, 0))), some (.inr (some (9, l, k1, 0)))], [], (zx_lay M3, n)) _
      refine zx_E.go 3 (s' := (56, [some (.inr (some (21, 0, 0, 0))), some (.inr (some (1, l, 0, 0))), some (.inr (some (17, i, 0, 0))), some (.inr (some (9, l, k1, 0)))], [.inl (M3 (17, i, 0, 0) 8), .inr (some (9, l, k1, 0))], (zx_lay M3, n))) rfl ?_
      refine zx_E.pu h rfl rfl (fun h => absurd h (by decide)) (fun M4 h => ?_)
      show zx_E _ _ _ (59, [some (.inr (some (21, 0, 0, 0))), some (.inr (some (1, l, 0, 0))), some (.inr (some (17, i, 0, 0))), some (.inr (some (9, l, k1, 0)))], [], (zx_lay M4, n)) _
      refine zx_E.go 4 (s' := (65, [some (.inr (some (21, 0, 0, 0))), some (.inr (some (1, l, 0, 0))), some (.inr (some (17, i, 0, 0))), some (.inr (some (9, l, k1, 0)))], [.inl 1, .inl (M4 (1, l, 0, 0) 5), .inr (some (1, l, 0, 0))], (zx_lay M4, n))) rfl ?_
      refine zx_E.go 1 (s' := (66, [some (.inr (some (21, 0, 0, 0))), some (.inr (some (1, l, 0, 0))), some (.inr (some (17, i, 0, 0))), some (.inr (some (9, l, k1, 0)))], [.inl ((M4 (1, l, 0, 0) 5) + 1), .inr (some (1, l, 0, 0))], (zx_lay M4, n))) rfl ?_
      refine zx_E.pu h rfl rfl (fun h => absurd h (by decide)) (fun M5 h => ?_)
      show zx_E _ _ _ (69, [some (.inr (some (21, 0, 0, 0))), some (.inr (some (1, l, 0, 0))), some (.inr (some (17, i, 0, 0))), some (.inr (some (9, l, k1, 0)))], [], (zx_lay M5, n)) _
      exact zx_E.r0 h rfl
    · exact zx_E.r0 h rfl
def g_X0_changeStation (M : zx_Y) (l : Nat) (i : Nat) : Option zx_Y := (zb (g_X2_hasStation M l (M (17, i, 0, 0) 1)) fun v1 => (if v1 = 0 then (some M) else (zi (M (17, i, 0, 0) 1) 8 fun k1 => (zl (zx_up M (3, l, k1, 0) 0 (M (17, i, 0, 0) 3)) fun M1 => (zi (M1 (17, i, 0, 0) 1) 8 fun k2 => (zo (M1 (17, i, 0, 0) 9) (zl (zx_up M1 (3, l, k2, 0) 1 (M1 (17, i, 0, 0) 9)) fun M2 => (some M2))))))))
set_option maxRecDepth 100000 in
set_option maxHeartbeats 4000000 in
theorem r_X0_changeStation {X : zx_X} {d n : Nat} {M : zx_Y} {l : Nat} {i : Nat} {rM : zx_Y} (h : g_X0_changeStation M l i = some rM) : zx_run X (d + 2) 9 [.inr (some (21, 0, 0, 0)), .inr (some (1, l, 0, 0)), .inr (some (17, i, 0, 0))] (zx_lay M, n) (none, (zx_lay rM, n)) := by
  refine zx_run_of zc_X0_changeStation [some (.inr (some (21, 0, 0, 0))), some (.inr (some (1, l, 0, 0))), some (.inr (some (17, i, 0, 0)))] rfl rfl ?_
  unfold g_X0_changeStation at h
  refine zx_E.go 3 (s' := (5, [some (.inr (some (21, 0, 0, 0))), some (.inr (some (1, l, 0, 0))), some (.inr (some (17, i, 0, 0)))], [.inl (M (17, i, 0, 0) 1), .inr (some (1, l, 0, 0))], (zx_lay M, n))) rfl ?_
  refine zx_E.cb (y := 16) (as := [.inr (some (1, l, 0, 0)), .inl (M (17, i, 0, 0) 1)]) (rest := []) h rfl (fun _ hv => zx_run_up (by omega) (r_X2_hasStation (d := d) hv)) (fun v1 h => ?_)
  show zx_E _ _ _ (8, [some (.inr (some (21, 0, 0, 0))), some (.inr (some (1, l, 0, 0))), some (.inr (some (17, i, 0, 0)))], [.inl v1], (zx_lay M, n)) _
  refine zx_E.brh (c := v1 = 0) (s1 := (11, [some (.inr (some (21, 0, 0, 0))), some (.inr (some (1, l, 0, 0))), some (.inr (some (17, i, 0, 0)))], [], (zx_lay M, n))) (s2 := (12, [some (.inr (some (21, 0, 0, 0))), some (.inr (some (1, l, 0, 0))), some (.inr (some (17, i, 0, 0)))], [], (zx_lay M, n))) h (zx_if_ne rfl) (fun _ h => ?_) (fun _ h => ?_)
  · exact zx_E.r0 h rfl
  · refine zx_E.go 4 (s' := (20, [some (.inr (some (21, 0, 0, 0))), some (.inr (some (1, l, 0, 0))), some (.inr (some (17, i, 0, 0)))], [.inl (M (17, i, 0, 0) 1), .inr (some (2, l, 0, 0))], (zx_lay M, n))) rfl ?_
    refine zx_E.ix h (fun k1 hx_k1 hl_k1 h => ?_)
    refine zx_E.aald (k := k1) (h := (2, l, 0, 0)) (h' := (3, l, k1, 0)) rfl rfl hx_k1 hl_k1 rfl ?_
    show zx_E _ _ _ (21, [some (.inr (some (21, 0, 0, 0))), some (.inr (some (1, l, 0, 0))), some (.inr (some (17, i, 0, 0)))], [.inr (some (3, l, k1, 0))], (zx_lay M, n)) _
    refine zx_E.go 2 (s' := (25, [some (.inr (some (21, 0, 0, 0))), some (.inr (some (1, l, 0, 0))), some (.inr (some (17, i, 0, 0)))], [.inl (M (17, i, 0, 0) 3), .inr (some (3, l, k1, 0))], (zx_lay M, n))) rfl ?_
    refine zx_E.pu h rfl rfl (fun h => absurd h (by decide)) (fun M1 h => ?_)
    show zx_E _ _ _ (28, [some (.inr (some (21, 0, 0, 0))), some (.inr (some (1, l, 0, 0))), some (.inr (some (17, i, 0, 0)))], [], (zx_lay M1, n)) _
    refine zx_E.go 4 (s' := (36, [some (.inr (some (21, 0, 0, 0))), some (.inr (some (1, l, 0, 0))), some (.inr (some (17, i, 0, 0)))], [.inl (M1 (17, i, 0, 0) 1), .inr (some (2, l, 0, 0))], (zx_lay M1, n))) rfl ?_
    refine zx_E.ix h (fun k2 hx_k2 hl_k2 h => ?_)
    refine zx_E.aald (k := k2) (h := (2, l, 0, 0)) (h' := (3, l, k2, 0)) rfl rfl hx_k2 hl_k2 rfl ?_
    show zx_E _ _ _ (37, [some (.inr (some (21, 0, 0, 0))), some (.inr (some (1, l, 0, 0))), some (.inr (some (17, i, 0, 0)))], [.inr (some (3, l, k2, 0))], (zx_lay M1, n)) _
    refine zx_E.go 2 (s' := (41, [some (.inr (some (21, 0, 0, 0))), some (.inr (some (1, l, 0, 0))), some (.inr (some (17, i, 0, 0)))], [.inl (M1 (17, i, 0, 0) 9), .inr (some (3, l, k2, 0))], (zx_lay M1, n))) rfl ?_
    refine zx_E.ob h (fun hv h => ?_)
    refine zx_E.pu h rfl rfl (fun _ => hv) (fun M2 h => ?_)
    show zx_E _ _ _ (44, [some (.inr (some (21, 0, 0, 0))), some (.inr (some (1, l, 0, 0))), some (.inr (some (17, i, 0, 0)))], [], (zx_lay M2, n)) _
    exact zx_E.r0 h rfl
def g_X9_changeTo (M : zx_Y) (l : Nat) (i : Nat) (x0 : Int32) (x1 : Int32) : Option zx_Y := (zl (zx_up M (7, l, i, 0) 1 x0) fun M1 => (zl (zx_up M1 (7, l, i, 0) 11 x1) fun M2 => (zl (zx_up M2 (7, l, i, 0) 9 (-5)) fun M3 => (zl (zx_up M3 (7, l, i, 0) 12 (-5)) fun M4 => (zl (zx_up M4 (7, l, i, 0) 14 (-5)) fun M5 => (some M5))))))
set_option maxRecDepth 100000 in
set_option maxHeartbeats 4000000 in
theorem r_X9_changeTo {X : zx_X} {d n : Nat} {M : zx_Y} {l : Nat} {i : Nat} {x0 : Int32} {x1 : Int32} {rM : zx_Y} (h : g_X9_changeTo M l i x0 x1 = some rM) : zx_run X (d + 1) 81 [.inr (some (7, l, i, 0)), .inl x0, .inl x1] (zx_lay M, n) (none, (zx_lay rM, n)) := by
  refine zx_run_of zc_X9_changeTo [some (.inr (some (7, l, i, 0))), some (.inl x0), some (.inl x1)] rfl rfl ?_
  unfold g_X9_changeTo at h
  refine zx_E.go 2 (s' := (2, [some (.inr (some (7, l, i, 0))), some (.inl x0), some (.inl x1)], [.inl x0, .inr (some (7, l, i, 0))], (zx_lay M, n))) rfl ?_
  refine zx_E.pu h rfl rfl (fun h => absurd h (by decide)) (fun M1 h => ?_)
  show zx_E _ _ _ (5, [some (.inr (some (7, l, i, 0))), some (.inl x0), some (.inl x1)], [], (zx_lay M1, n)) _
  refine zx_E.go 2 (s' := (7, [some (.inr (some (7, l, i, 0))), some (.inl x0), some (.inl x1)], [.inl x1, .inr (some (7, l, i, 0))], (zx_lay M1, n))) rfl ?_
  refine zx_E.pu h rfl rfl (fun h => absurd h (by decide)) (fun M2 h => ?_)
  show zx_E _ _ _ (10, [some (.inr (some (7, l, i, 0))), some (.inl x0), some (.inl x1)], [], (zx_lay M2, n)) _
  refine zx_E.go 2 (s' := (13, [some (.inr (some (7, l, i, 0))), some (.inl x0), some (.inl x1)], [.inl (-5), .inr (some (7, l, i, 0))], (zx_lay M2, n))) rfl ?_
  refine zx_E.pu h rfl rfl (fun h => absurd h (by decide)) (fun M3 h => ?_)
  show zx_E _ _ _ (16, [some (.inr (some (7, l, i, 0))), some (.inl x0), some (.inl x1)], [], (zx_lay M3, n)) _
  refine zx_E.go 2 (s' := (19, [some (.inr (some (7, l, i, 0))), some (.inl x0), some (.inl x1)], [.inl (-5), .inr (some (7, l, i, 0))], (zx_lay M3, n))) rfl ?_
  refine zx_E.pu h rfl rfl (fun h => absurd h (by decide)) (fun M4 h => ?_)
  show zx_E _ _ _ (22, [some (.inr (some (7, l, i, 0))), some (.inl x0), some (.inl x1)], [], (zx_lay M4, n)) _
  refine zx_E.go 2 (s' := (25, [some (.inr (some (7, l, i, 0))), some (.inl x0), some (.inl x1)], [.inl (-5), .inr (some (7, l, i, 0))], (zx_lay M4, n))) rfl ?_
  refine zx_E.pu h rfl rfl (fun h => absurd h (by decide)) (fun M5 h => ?_)
  show zx_E _ _ _ (28, [some (.inr (some (7, l, i, 0))), some (.inl x0), some (.inl x1)], [], (zx_lay M5, n)) _
  exact zx_E.r0 h rfl
def lg_X9_begin_76 (l : Nat) (i : Nat) (kk : Int32 → zx_Y → Option zx_Y) : Nat → Int32 → zx_Y → Option zx_Y
  | 0, _, _ => none
  | q + 1, w2, M => (if (4 : Int32) ≤ w2 then (kk w2 M) else (zi w2 4 fun k1 => (zl (zx_up M (11, l, i, 0) k1 0) fun M1 => (lg_X9_begin_76 l i kk q (w2 + 1) M1))))
set_option maxRecDepth 100000 in
set_option maxHeartbeats 4000000 in
theorem rl_X9_begin_76 {X : zx_X} {d n : Nat} {l : Nat} {i : Nat} {kk : Int32 → zx_Y → Option zx_Y} {rM : zx_Y} {g1 : Option zx_V} (hk : ∀ (w2 : Int32) (M : zx_Y), kk w2 M = some rM → zx_E X (d + 1) zc_X9_begin (98, [some (.inr (some (7, l, i, 0))), g1, some (.inl w2)], [], (zx_lay M, n)) (none, (zx_lay rM, n))) : ∀ (q : Nat) (w2 : Int32) (M : zx_Y), lg_X9_begin_76 l i kk q w2 M = some rM → zx_E X (d + 1) zc_X9_begin (76, [some (.inr (some (7, l, i, 0))), g1, some (.inl w2)], [], (zx_lay M, n)) (none, (zx_lay rM, n))
  | 0, w2, M, h => by
    rw [lg_X9_begin_76.eq_1] at h
    cases h
  | q + 1, w2, M, h => by
    rw [lg_X9_begin_76.eq_2] at h
    refine zx_E.go 4 (s' := (82, [some (.inr (some (7, l, i, 0))), g1, some (.inl w2)], [.inl 4, .inl w2], (zx_lay M, n))) rfl ?_
    refine zx_E.brh (c := (4 : Int32) ≤ w2) (s1 := (98, [some (.inr (some (7, l, i, 0))), g1, some (.inl w2)], [], (zx_lay M, n))) (s2 := (85, [some (.inr (some (7, l, i, 0))), g1, some (.inl w2)], [], (zx_lay M, n))) h (zx_ic_ge rfl) (fun _ h => ?_) (fun _ h => ?_)
    · exact hk _ _ h
    · refine zx_E.go 4 (s' := (91, [some (.inr (some (7, l, i, 0))), g1, some (.inl w2)], [.inl 0, .inl w2, .inr (some (11, l, i, 0))], (zx_lay M, n))) rfl ?_
      refine zx_E.ix h (fun k1 hx_k1 hl_k1 h => ?_)
      refine zx_E.ia h rfl rfl hx_k1 hl_k1 (fun M1 h => ?_)
      show zx_E _ _ _ (92, [some (.inr (some (7, l, i, 0))), g1, some (.inl w2)], [], (zx_lay M1, n)) _
      refine zx_E.go 2 (s' := (76, [some (.inr (some (7, l, i, 0))), g1, some (.inl (w2 + 1))], [], (zx_lay M1, n))) rfl ?_
      exact rl_X9_begin_76 hk q (w2 + 1) M1 h
def lg_X9_begin_100 (l : Nat) (i : Nat) (kk : Int32 → zx_Y → Option zx_Y) : Nat → Int32 → zx_Y → Option zx_Y
  | 0, _, _ => none
  | q + 1, w2, M => (if (8 : Int32) ≤ w2 then (kk w2 M) else (zi w2 8 fun k1 => (zl (zx_up M (13, l, i, 0) k1 (-5)) fun M1 => (zi w2 8 fun k2 => (zl (zx_up M1 (13, l, i, 1) k2 (-5)) fun M2 => (lg_X9_begin_100 l i kk q (w2 + 1) M2))))))
set_option maxRecDepth 100000 in
set_option maxHeartbeats 4000000 in
theorem rl_X9_begin_100 {X : zx_X} {d n : Nat} {l : Nat} {i : Nat} {kk : Int32 → zx_Y → Option zx_Y} {rM : zx_Y} {g1 : Option zx_V} (hk : ∀ (w2 : Int32) (M : zx_Y), kk w2 M = some rM → zx_E X (d + 1) zc_X9_begin (132, [some (.inr (some (7, l, i, 0))), g1, some (.inl w2)], [], (zx_lay M, n)) (none, (zx_lay rM, n))) : ∀ (q : Nat) (w2 : Int32) (M : zx_Y), lg_X9_begin_100 l i kk q w2 M = some rM → zx_E X (d + 1) zc_X9_begin (100, [some (.inr (some (7, l, i, 0))), g1, some (.inl w2)], [], (zx_lay M, n)) (none, (zx_lay rM, n))
  | 0, w2, M, h => by
    rw [lg_X9_begin_100.eq_1] at h
    cases h
  | q + 1, w2, M, h => by
    rw [lg_X9_begin_100.eq_2] at h
    refine zx_E.go 2 (s' := (103, [some (.inr (some (7, l, i, 0))), g1, some (.inl w2)], [.inl 8, .inl w2], (zx_lay M, n))) rfl ?_
    refine zx_E.brh (c := (8 : Int32) ≤ w2) (s1 := (132, [some (.inr (some (7, l, i, 0))), g1, some (.inl w2)], [], (zx_lay M, n))) (s2 := (106, [some (.inr (some (7, l, i, 0))), g1, some (.inl w2)], [], (zx_lay M, n))) h (zx_ic_ge rfl) (fun _ h => ?_) (fun _ h => ?_)
    · exact hk _ _ h
    · refine zx_E.go 3 (s' := (111, [some (.inr (some (7, l, i, 0))), g1, some (.inl w2)], [.inl 0, .inr (some (12, l, i, 0))], (zx_lay M, n))) rfl ?_
      refine zx_E.aald (k := 0) (h := (12, l, i, 0)) (h' := (13, l, i, 0)) rfl rfl rfl (by decide) rfl ?_
      show zx_E _ _ _ (112, [some (.inr (some (7, l, i, 0))), g1, some (.inl w2)], [.inr (some (13, l, i, 0))], (zx_lay M, n)) _
      refine zx_E.go 2 (s' := (115, [some (.inr (some (7, l, i, 0))), g1, some (.inl w2)], [.inl (-5), .inl w2, .inr (some (13, l, i, 0))], (zx_lay M, n))) rfl ?_
      refine zx_E.ix h (fun k1 hx_k1 hl_k1 h => ?_)
      refine zx_E.ia h rfl rfl hx_k1 hl_k1 (fun M1 h => ?_)
      show zx_E _ _ _ (116, [some (.inr (some (7, l, i, 0))), g1, some (.inl w2)], [], (zx_lay M1, n)) _
      refine zx_E.go 3 (s' := (121, [some (.inr (some (7, l, i, 0))), g1, some (.inl w2)], [.inl 1, .inr (some (12, l, i, 0))], (zx_lay M1, n))) rfl ?_
      refine zx_E.aald (k := 1) (h := (12, l, i, 0)) (h' := (13, l, i, 1)) rfl rfl rfl (by decide) rfl ?_
      show zx_E _ _ _ (122, [some (.inr (some (7, l, i, 0))), g1, some (.inl w2)], [.inr (some (13, l, i, 1))], (zx_lay M1, n)) _
      refine zx_E.go 2 (s' := (125, [some (.inr (some (7, l, i, 0))), g1, some (.inl w2)], [.inl (-5), .inl w2, .inr (some (13, l, i, 1))], (zx_lay M1, n))) rfl ?_
      refine zx_E.ix h (fun k2 hx_k2 hl_k2 h => ?_)
      refine zx_E.ia h rfl rfl hx_k2 hl_k2 (fun M2 h => ?_)
      show zx_E _ _ _ (126, [some (.inr (some (7, l, i, 0))), g1, some (.inl w2)], [], (zx_lay M2, n)) _
      refine zx_E.go 2 (s' := (100, [some (.inr (some (7, l, i, 0))), g1, some (.inl (w2 + 1))], [], (zx_lay M2, n))) rfl ?_
      exact rl_X9_begin_100 hk q (w2 + 1) M2 h
def g_X9_begin (M : zx_Y) (l : Nat) (i : Nat) (j : Nat) : Option zx_Y := (zl (zx_up M (7, l, i, 0) 2 (M (17, j, 0, 0) 1)) fun M1 => (zl (zx_up M1 (7, l, i, 0) 3 (M1 (17, j, 0, 0) 2)) fun M2 => (zl (zx_up M2 (7, l, i, 0) 4 (M2 (17, j, 0, 0) 3)) fun M3 => (zl (zx_up M3 (7, l, i, 0) 5 (M3 (17, j, 0, 0) 4)) fun M4 => (zl (zx_up M4 (7, l, i, 0) 6 (M4 (17, j, 0, 0) 5)) fun M5 => (zl (zx_up M5 (7, l, i, 0) 7 (M5 (17, j, 0, 0) 6)) fun M6 => (zl (zx_up M6 (7, l, i, 0) 8 0) fun M7 => (zl (zx_up M7 (7, l, i, 0) 13 (-5)) fun M8 => (zl (zx_up M8 (7, l, i, 0) 10 (-5)) fun M9 => (zm (g_X9_changeTo M9 l i 0 (M9 (7, l, i, 0) 5)) fun M10 => (lg_X9_begin_76 l i (fun v1 M11 => (lg_X9_begin_100 l i (fun v2 M12 => (some M12)) 1000 0 M11)) 1000 0 M10)))))))))))
set_option maxRecDepth 100000 in
set_option maxHeartbeats 4000000 in
theorem r_X9_begin {X : zx_X} {d n : Nat} {M : zx_Y} {l : Nat} {i : Nat} {j : Nat} {rM : zx_Y} (h : g_X9_begin M l i j = some rM) : zx_run X (d + 2) 80 [.inr (some (7, l, i, 0)), .inr (some (17, j, 0, 0))] (zx_lay M, n) (none, (zx_lay rM, n)) := by
  refine zx_run_of zc_X9_begin [some (.inr (some (7, l, i, 0))), some (.inr (some (17, j, 0, 0))), none] rfl rfl ?_
  unfold g_X9_begin at h
  refine zx_E.go 3 (s' := (5, [some (.inr (some (7, l, i, 0))), some (.inr (some (17, j, 0, 0))), none], [.inl (M (17, j, 0, 0) 1), .inr (some (7, l, i, 0))], (zx_lay M, n))) rfl ?_
  refine zx_E.pu h rfl rfl (fun h => absurd h (by decide)) (fun M1 h => ?_)
  show zx_E _ _ _ (8, [some (.inr (some (7, l, i, 0))), some (.inr (some (17, j, 0, 0))), none], [], (zx_lay M1, n)) _
  refine zx_E.go 3 (s' := (13, [some (.inr (some (7, l, i, 0))), some (.inr (some (17, j, 0, 0))), none], [.inl (M1 (17, j, 0, 0) 2), .inr (some (7, l, i, 0))], (zx_lay M1, n))) rfl ?_
  refine zx_E.pu h rfl rfl (fun h => absurd h (by decide)) (fun M2 h => ?_)
  show zx_E _ _ _ (16, [some (.inr (some (7, l, i, 0))), some (.inr (some (17, j, 0, 0))), none], [], (zx_lay M2, n)) _
  refine zx_E.go 3 (s' := (21, [some (.inr (some (7, l, i, 0))), some (.inr (some (17, j, 0, 0))), none], [.inl (M2 (17, j, 0, 0) 3), .inr (some (7, l, i, 0))], (zx_lay M2, n))) rfl ?_
  refine zx_E.pu h rfl rfl (fun h => absurd h (by decide)) (fun M3 h => ?_)
  show zx_E _ _ _ (24, [some (.inr (some (7, l, i, 0))), some (.inr (some (17, j, 0, 0))), none], [], (zx_lay M3, n)) _
  refine zx_E.go 3 (s' := (29, [some (.inr (some (7, l, i, 0))), some (.inr (some (17, j, 0, 0))), none], [.inl (M3 (17, j, 0, 0) 4), .inr (some (7, l, i, 0))], (zx_lay M3, n))) rfl ?_
  refine zx_E.pu h rfl rfl (fun h => absurd h (by decide)) (fun M4 h => ?_)
  show zx_E _ _ _ (32, [some (.inr (some (7, l, i, 0))), some (.inr (some (17, j, 0, 0))), none], [], (zx_lay M4, n)) _
  refine zx_E.go 3 (s' := (37, [some (.inr (some (7, l, i, 0))), some (.inr (some (17, j, 0, 0))), none], [.inl (M4 (17, j, 0, 0) 5), .inr (some (7, l, i, 0))], (zx_lay M4, n))) rfl ?_
  refine zx_E.pu h rfl rfl (fun h => absurd h (by decide)) (fun M5 h => ?_)
  show zx_E _ _ _ (40, [some (.inr (some (7, l, i, 0))), some (.inr (some (17, j, 0, 0))), none], [], (zx_lay M5, n)) _
  refine zx_E.go 3 (s' := (45, [some (.inr (some (7, l, i, 0))), some (.inr (some (17, j, 0, 0))), none], [.inl (M5 (17, j, 0, 0) 6), .inr (some (7, l, i, 0))], (zx_lay M5, n))) rfl ?_
  refine zx_E.pu h rfl rfl (fun h => absurd h (by decide)) (fun M6 h => ?_)
  show zx_E _ _ _ (48, [some (.inr (some (7, l, i, 0))), some (.inr (some (17, j, 0, 0))), none], [], (zx_lay M6, n)) _
  refine zx_E.go 2 (s' := (50, [some (.inr (some (7, l, i, 0))), some (.inr (some (17, j, 0, 0))), none], [.inl 0, .inr (some (7, l, i, 0))], (zx_lay M6, n))) rfl ?_
  refine zx_E.pu h rfl rfl (fun h => absurd h (by decide)) (fun M7 h => ?_)
  show zx_E _ _ _ (53, [some (.inr (some (7, l, i, 0))), some (.inr (some (17, j, 0, 0))), none], [], (zx_lay M7, n)) _
  refine zx_E.go 2 (s' := (56, [some (.inr (some (7, l, i, 0))), some (.inr (some (17, j, 0, 0))), none], [.inl (-5), .inr (some (7, l, i, 0))], (zx_lay M7, n))) rfl ?_
  refine zx_E.pu h rfl rfl (fun h => absurd h (by decide)) (fun M8 h => ?_)
  show zx_E _ _ _ (59, [some (.inr (some (7, l, i, 0))), some (.inr (some (17, j, 0, 0))), none], [], (zx_lay M8, n)) _
  refine zx_E.go 2 (s' := (62, [some (.inr (some (7, l, i, 0))), some (.inr (some (17, j, 0, 0))), none], [.inl (-5), .inr (some (7, l, i, 0))], (zx_lay M8, n))) rfl ?_
  refine zx_E.pu h rfl rfl (fun h => absurd h (by decide)) (fun M9 h => ?_)
  show zx_E _ _ _ (65, [some (.inr (some (7, l, i, 0))), some (.inr (some (17, j, 0, 0))), none], [], (zx_lay M9, n)) _
  refine zx_E.go 4 (s' := (71, [some (.inr (some (7, l, i, 0))), some (.inr (some (17, j, 0, 0))), none], [.inl (M9 (7, l, i, 0) 5), .inl 0, .inr (some (7, l, i, 0))], (zx_lay M9, n))) rfl ?_
  refine zx_E.cm (y := 81) (as := [.inr (some (7, l, i, 0)), .inl 0, .inl (M9 (7, l, i, 0) 5)]) (rest := []) h rfl (fun _ hv => zx_run_up (by omega) (r_X9_changeTo (d := d) hv)) (fun M10 h => ?_)
  show zx_E _ _ _ (74, [some (.inr (some (7, l, i, 0))), some (.inr (some (17, j, 0, 0))), none], [], (zx_lay M10, n)) _
  refine zx_E.go 2 (s' := (76, [some (.inr (some (7, l, i, 0))), some (.inr (some (17, j, 0, 0))), some (.inl 0)], [], (zx_lay M10, n))) rfl ?_
  refine rl_X9_begin_76 (fun v1 M11 h => ?_) 1000  0 M10 h
  refine zx_E.go 2 (s' := (100, [some (.inr (some (7, l, i, 0))), some (.inr (some (17, j, 0, 0))), some (.inl 0)], [], (zx_lay M11, n))) rfl ?_
  refine rl_X9_begin_100 (fun v2 M12 h => ?_) 1000  0 M11 h
  exact zx_E.r0 h rfl
def g_X0_addTrain (M : zx_Y) (l : Nat) (i : Nat) : Option zx_Y := (if (M (1, l, 0, 0) 4) < 0 then (some M) else (if (M (1, l, 0, 0) 4) < 10 then (zi (M (1, l, 0, 0) 4) 10 fun k1 => (zm (g_X9_begin M l k1 i) fun M1 => (zl (zx_up M1 (1, l, 0, 0) 4 ((M1 (1, l, 0, 0) 4) + 1)) fun M2 => (some M2)))) else (some M)))
set_option maxRecDepth 100000 in
set_option maxHeartbeats 4000000 in
theorem r_X0_addTrain {X : zx_X} {d n : Nat} {M : zx_Y} {l : Nat} {i : Nat} {rM : zx_Y} (h : g_X0_addTrain M l i = some rM) : zx_run X (d + 3) 10 [.inr (some (21, 0, 0, 0)), .inr (some (1, l, 0, 0)), .inr (some (17, i, 0, 0))] (zx_lay M, n) (none, (zx_lay rM, n)) := by
  refine zx_run_of zc_X0_addTrain [some (.inr (some (21, 0, 0, 0))), some (.inr (some (1, l, 0, 0))), some (.inr (some (17, i, 0, 0)))] rfl rfl ?_
  unfold g_X0_addTrain at h
  refine zx_E.go 2 (s' := (4, [some (.inr (some (21, 0, 0, 0))), some (.inr (some (1, l, 0, 0))), some (.inr (some (17, i, 0, 0)))], [.inl (M (1, l, 0, 0) 4)], (zx_lay M, n))) rfl ?_
  refine zx_E.brh (c := (M (1, l, 0, 0) 4) < 0) (s1 := (16, [some (.inr (some (21, 0, 0, 0))), some (.inr (some (1, l, 0, 0))), some (.inr (some (17, i, 0, 0)))], [], (zx_lay M, n))) (s2 := (7, [some (.inr (some (21, 0, 0, 0))), some (.inr (some (1, l, 0, 0))), some (.inr (some (17, i, 0, 0)))], [], (zx_lay M, n))) h (zx_if_lt rfl) (fun _ h => ?_) (fun _ h => ?_)
  · exact zx_E.r0 h rfl
  · refine zx_E.go 3 (s' := (13, [some (.inr (some (21, 0, 0, 0))), some (.inr (some (1, l, 0, 0))), some (.inr (some (17, i, 0, 0)))], [.inl 10, .inl (M (1, l, 0, 0) 4)], (zx_lay M, n))) rfl ?_
    refine zx_E.brh (c := (M (1, l, 0, 0) 4) < 10) (s1 := (17, [some (.inr (some (21, 0, 0, 0))), some (.inr (some (1, l, 0, 0))), some (.inr (some (17, i, 0, 0)))], [], (zx_lay M, n))) (s2 := (16, [some (.inr (some (21, 0, 0, 0))), some (.inr (some (1, l, 0, 0))), some (.inr (some (17, i, 0, 0)))], [], (zx_lay M, n))) h (zx_ic_lt rfl) (fun _ h => ?_) (fun _ h => ?_)
    · refine zx_E.go 4 (s' := (25, [some (.inr (some (21, 0, 0, 0))), some (.inr (some (1, l, 0, 0))), some (.inr (some (17, i, 0, 0)))], [.inl (M (1, l, 0, 0) 4), .inr (some (6, l, 0, 0))], (zx_lay M, n))) rfl ?_
      refine zx_E.ix h (fun k1 hx_k1 hl_k1 h => ?_)
      refine zx_E.aald (k := k1) (h := (6, l, 0, 0)) (h' := (7, l, k1, 0)) rfl rfl hx_k1 hl_k1 rfl ?_
      show zx_E _ _ _ (26, [some (.inr (some (21, 0, 0, 0))), some (.inr (some (1, l, 0, 0))), some (.inr (some (17, i, 0, 0)))], [.inr (some (7, l, k1, 0))], (zx_lay M, n)) _
      refine zx_E.go 1 (s' := (27, [some (.inr (some (21, 0, 0, 0))), some (.inr (some (1, l, 0, 0))), some (.inr (some (17, i, 0, 0)))], [.inr (some (17, i, 0, 0)), .inr (some (7, l, k1, 0))], (zx_lay M, n))) rfl ?_
      refine zx_E.cm (y := 80) (as := [.inr (some (7, l, k1, 0)), .inr (some (17, i, 0, 0))]) (rest := []) h rfl (fun _ hv => zx_run_up (by omega) (r_X9_begin (d := d) hv)) (fun M1 h => ?_)
      show zx_E _ _ _ (30, [some (.inr (some (21, 0, 0, 0))), some (.inr (some (1, l, 0, 0))), some (.inr (some (17, i, 0, 0)))], [], (zx_lay M1, n)) _
      refine zx_E.go 4 (s' := (36, [some (.inr (some (21, 0, 0, 0))), some (.inr (some (1, l, 0, 0))), some (.inr (some (17, i, 0, 0)))], [.inl 1, .inl (M1 (1, l, 0, 0) 4), .inr (some (1, l, 0, 0))], (zx_lay M1, n))) rfl ?_
      refine zx_E.go 1 (s' := (37, [some (.inr (some (21, 0, 0, 0))), some (.inr (some (1, l, 0, 0))), some (.inr (some (17, i, 0, 0)))], [.inl ((M1 (1, l, 0, 0) 4) + 1), .inr (some (1, l, 0, 0))], (zx_lay M1, n))) rfl ?_
      refine zx_E.pu h rfl rfl (fun h => absurd h (by decide)) (fun M2 h => ?_)
      show zx_E _ _ _ (40, [some (.inr (some (21, 0, 0, 0))), some (.inr (some (1, l, 0, 0))), some (.inr (some (17, i, 0, 0)))], [], (zx_lay M2, n)) _
      exact zx_E.r0 h rfl
    · exact zx_E.r0 h rfl
def g_X0_carryOut (M : zx_Y) (l : Nat) (i : Nat) : Option zx_Y := (if (M (17, i, 0, 0) 0) = 76 then (zm (g_X0_makeLine M l i) fun M1 => (some M1)) else (if (M (17, i, 0, 0) 0) = 77 then (zl (zx_up M (1, l, 0, 0) 1 (M (17, i, 0, 0) 7)) fun M2 => (some M2)) else (if (M (17, i, 0, 0) 0) = 78 then (zl (zx_up M (1, l, 0, 0) 1 (M (17, i, 0, 0) 7)) fun M3 => (some M3)) else (if (M (17, i, 0, 0) 0) = 79 then (zm (g_X0_addOrder M l i) fun M4 => (some M4)) else (if (M (17, i, 0, 0) 0) = 80 then (zl (zx_up M (1, l, 0, 0) 1 (M (17, i, 0, 0) 7)) fun M5 => (some M5)) else (if (M (17, i, 0, 0) 0) = 81 then (zl (zx_up M (1, l, 0, 0) 1 (M (17, i, 0, 0) 7)) fun M6 => (some M6)) else (if (M (17, i, 0, 0) 0) = 82 then (zl (zx_up M (1, l, 0, 0) 1 (M (17, i, 0, 0) 7)) fun M7 => (some M7)) else (if (M (17, i, 0, 0) 0) = 83 then (zm (g_X0_changeStation M l i) fun M8 => (some M8)) else (if (M (17, i, 0, 0) 0) = 84 then (zm (g_X0_addTrain M l i) fun M9 => (some M9)) else (zl (zx_up M (1, l, 0, 0) 1 (M (17, i, 0, 0) 7)) fun M10 => (some M10)))))))))))
set_option maxRecDepth 100000 in
set_option maxHeartbeats 4000000 in
theorem r_X0_carryOut {X : zx_X} {d n : Nat} {M : zx_Y} {l : Nat} {i : Nat} {rM : zx_Y} (h : g_X0_carryOut M l i = some rM) : zx_run X (d + 4) 7 [.inr (some (21, 0, 0, 0)), .inr (some (1, l, 0, 0)), .inr (some (17, i, 0, 0))] (zx_lay M, n) (none, (zx_lay rM, n)) := by
  refine zx_run_of zc_X0_carryOut [some (.inr (some (21, 0, 0, 0))), some (.inr (some (1, l, 0, 0))), some (.inr (some (17, i, 0, 0)))] rfl rfl ?_
  unfold g_X0_carryOut at h
  refine zx_E.go 2 (s' := (4, [some (.inr (some (21, 0, 0, 0))), some (.inr (some (1, l, 0, 0))), some (.inr (some (17, i, 0, 0)))], [.inl (M (17, i, 0, 0) 0)], (zx_lay M, n))) rfl ?_
  refine zx_E.one (s' := (zx_pick (M (17, i, 0, 0) 0) 76 [56, 92, 92, 83, 92, 92, 92, 65, 74] 92, [some (.inr (some (21, 0, 0, 0))), some (.inr (some (1, l, 0, 0))), some (.inr (some (17, i, 0, 0)))], [], (zx_lay M, n))) rfl ?_
  refine zx_E.pickh (k' := 77) h (by decide) (fun _ h => ?_) (fun _ h => ?_)
  · refine zx_E.go 3 (s' := (59, [some (.inr (some (21, 0, 0, 0))), some (.inr (some (1, l, 0, 0))), some (.inr (some (17, i, 0, 0)))], [.inr (some (17, i, 0, 0)), .inr (some (1, l, 0, 0)), .inr (some (21, 0, 0, 0))], (zx_lay M, n))) rfl ?_
    refine zx_E.cm (y := 8) (as := [.inr (some (21, 0, 0, 0)), .inr (some (1, l, 0, 0)), .inr (some (17, i, 0, 0))]) (rest := []) h rfl (fun _ hv => zx_run_up (by omega) (r_X0_makeLine (d := d) hv)) (fun M1 h => ?_)
    show zx_E _ _ _ (62, [some (.inr (some (21, 0, 0, 0))), some (.inr (some (1, l, 0, 0))), some (.inr (some (17, i, 0, 0)))], [], (zx_lay M1, n)) _
    refine zx_E.go 1 (s' := (100, [some (.inr (some (21, 0, 0, 0))), some (.inr (some (1, l, 0, 0))), some (.inr (some (17, i, 0, 0)))], [], (zx_lay M1, n))) rfl ?_
    exact zx_E.r0 h rfl
  · refine zx_E.pickh (k' := 78) h (by decide) (fun _ h => ?_) (fun _ h => ?_)
    · refine zx_E.go 3 (s' := (97, [some (.inr (some (21, 0, 0, 0))), some (.inr (some (1, l, 0, 0))), some (.inr (some (17, i, 0, 0)))], [.inl (M (17, i, 0, 0) 7), .inr (some (1, l, 0, 0))], (zx_lay M, n))) rfl ?_
      refine zx_E.pu h rfl rfl (fun h => absurd h (by decide)) (fun M2 h => ?_)
      show zx_E _ _ _ (100, [some (.inr (some (21, 0, 0, 0))), some (.inr (some (1, l, 0, 0))), some (.inr (some (17, i, 0, 0)))], [], (zx_lay M2, n)) _
      exact zx_E.r0 h rfl
    · refine zx_E.pickh (k' := 79) h (by decide) (fun _ h => ?_) (fun _ h => ?_)
      · refine zx_E.go 3 (s' := (97, [some (.inr (some (21, 0, 0, 0))), some (.inr (some (1, l, 0, 0))), some (.inr (some (17, i, 0, 0)))], [.inl (M (17, i, 0, 0) 7), .inr (some (1, l, 0, 0))], (zx_lay M, n))) rfl ?_
        refine zx_E.pu h rfl rfl (fun h => absurd h (by decide)) (fun M3 h => ?_)
        show zx_E _ _ _ (100, [some (.inr (some (21, 0, 0, 0))), some (.inr (some (1, l, 0, 0))), some (.inr (some (17, i, 0, 0)))], [], (zx_lay M3, n)) _
        exact zx_E.r0 h rfl
      · refine zx_E.pickh (k' := 80) h (by decide) (fun _ h => ?_) (fun _ h => ?_)
        · refine zx_E.go 3 (s' := (86, [some (.inr (some (21, 0, 0, 0))), some (.inr (some (1, l, 0, 0))), some (.inr (some (17, i, 0, 0)))], [.inr (some (17, i, 0, 0)), .inr (some (1, l, 0, 0)), .inr (some (21, 0, 0, 0))], (zx_lay M, n))) rfl ?_
          refine zx_E.cm (y := 11) (as := [.inr (some (21, 0, 0, 0)), .inr (some (1, l, 0, 0)), .inr (some (17, i, 0, 0))]) (rest := []) h rfl (fun _ hv => zx_run_up (by omega) (r_X0_addOrder (d := d) hv)) (fun M4 h => ?_)
          show zx_E _ _ _ (89, [some (.inr (some (21, 0, 0, 0))), some (.inr (some (1, l, 0, 0))), some (.inr (some (17, i, 0, 0)))], [], (zx_lay M4, n)) _
          refine zx_E.go 1 (s' := (100, [some (.inr (some (21, 0, 0, 0))), some (.inr (some (1, l, 0, 0))), some (.inr (some (17, i, 0, 0)))], [], (zx_lay M4, n))) rfl ?_
          exact zx_E.r0 h rfl
        · refine zx_E.pickh (k' := 81) h (by decide) (fun _ h => ?_) (fun _ h => ?_)
          · refine zx_E.go 3 (s' := (97, [some (.inr (some (21, 0, 0, 0))), some (.inr (some (1, l, 0, 0))), some (.inr (some (17, i, 0, 0)))], [.inl (M (17, i, 0, 0) 7), .inr (some (1, l, 0, 0))], (zx_lay M, n))) rfl ?_
            refine zx_E.pu h rfl rfl (fun h => absurd h (by decide)) (fun M5 h => ?_)
            show zx_E _ _ _ (100, [some (.inr (some (21, 0, 0, 0))), some (.inr (some (1, l, 0, 0))), some (.inr (some (17, i, 0, 0)))], [], (zx_lay M5, n)) _
            exact zx_E.r0 h rfl
          · refine zx_E.pickh (k' := 82) h (by decide) (fun _ h => ?_) (fun _ h => ?_)
            · refine zx_E.go 3 (s' := (97, [some (.inr (some (21, 0, 0, 0))), some (.inr (some (1, l, 0, 0))), some (.inr (some (17, i, 0, 0)))], [.inl (M (17, i, 0, 0) 7), .inr (some (1, l, 0, 0))], (zx_lay M, n))) rfl ?_
              refine zx_E.pu h rfl rfl (fun h => absurd h (by decide)) (fun M6 h => ?_)
              show zx_E _ _ _ (100, [some (.inr (some (21, 0, 0, 0))), some (.inr (some (1, l, 0, 0))), some (.inr (some (17, i, 0, 0)))], [], (zx_lay M6, n)) _
              exact zx_E.r0 h rfl
            · refine zx_E.pickh (k' := 83) h (by decide) (fun _ h => ?_) (fun _ h => ?_)
              · refine zx_E.go 3 (s' := (97, [some (.inr (some (21, 0, 0, 0))), some (.inr (some (1, l, 0, 0))), some (.inr (some (17, i, 0, 0)))], [.inl (M (17, i, 0, 0) 7), .inr (some (1, l, 0, 0))], (zx_lay M, n))) rfl ?_
                refine zx_E.pu h rfl rfl (fun h => absurd h (by decide)) (fun M7 h => ?_)
                show zx_E _ _ _ (100, [some (.inr (some (21, 0, 0, 0))), some (.inr (some (1, l, 0, 0))), some (.inr (some (17, i, 0, 0)))], [], (zx_lay M7, n)) _
                exact zx_E.r0 h rfl
              · refine zx_E.pickh (k' := 84) h (by decide) (fun _ h => ?_) (fun _ h => ?_)
                · refine zx_E.go 3 (s' := (68, [some (.inr (some (21, 0, 0, 0))), some (.inr (some (1, l, 0, 0))), some (.inr (some (17, i, 0, 0)))], [.inr (some (17, i, 0, 0)), .inr (some (1, l, 0, 0)), .inr (some (21, 0, 0, 0))], (zx_lay M, n))) rfl ?_
                  refine zx_E.cm (y := 9) (as := [.inr (some (21, 0, 0, 0)), .inr (some (1, l, 0, 0)), .inr (some (17, i, 0, 0))]) (rest := []) h rfl (fun _ hv => zx_run_up (by omega) (r_X0_changeStation (d := d) hv)) (fun M8 h => ?_)
                  show zx_E _ _ _ (71, [some (.inr (some (21, 0, 0, 0))), some (.inr (some (1, l, 0, 0))), some (.inr (some (17, i, 0, 0)))], [], (zx_lay M8, n)) _
                  refine zx_E.go 1 (s' := (100, [some (.inr (some (21, 0, 0, 0))), some (.inr (some (1, l, 0, 0))), some (.inr (some (17, i, 0, 0)))], [], (zx_lay M8, n))) rfl ?_
                  exact zx_E.r0 h rfl
                · refine zx_E.pickh (k' := 85) h (by decide) (fun _ h => ?_) (fun _ h => ?_)
                  · refine zx_E.go 3 (s' := (77, [some (.inr (some (21, 0, 0, 0))), some (.inr (some (1, l, 0, 0))), some (.inr (some (17, i, 0, 0)))], [.inr (some (17, i, 0, 0)), .inr (some (1, l, 0, 0)), .inr (some (21, 0, 0, 0))], (zx_lay M, n))) rfl ?_
                    refine zx_E.cm (y := 10) (as := [.inr (some (21, 0, 0, 0)), .inr (some (1, l, 0, 0)), .inr (some (17, i, 0, 0))]) (rest := []) h rfl (fun _ hv => zx_run_up (by omega) (r_X0_addTrain (d := d) hv)) (fun M9 h => ?_)
                    show zx_E _ _ _ (80, [some (.inr (some (21, 0, 0, 0))), some (.inr (some (1, l, 0, 0))), some (.inr (some (17, i, 0, 0)))], [], (zx_lay M9, n)) _
                    refine zx_E.go 1 (s' := (100, [some (.inr (some (21, 0, 0, 0))), some (.inr (some (1, l, 0, 0))), some (.inr (some (17, i, 0, 0)))], [], (zx_lay M9, n))) rfl ?_
                    exact zx_E.r0 h rfl
                  · show zx_E _ _ _ (92, [some (.inr (some (21, 0, 0, 0))), some (.inr (some (1, l, 0, 0))), some (.inr (some (17, i, 0, 0)))], [], (zx_lay M, n)) _
                    refine zx_E.go 3 (s' := (97, [some (.inr (some (21, 0, 0, 0))), some (.inr (some (1, l, 0, 0))), some (.inr (some (17, i, 0, 0)))], [.inl (M (17, i, 0, 0) 7), .inr (some (1, l, 0, 0))], (zx_lay M, n))) rfl ?_
                    refine zx_E.pu h rfl rfl (fun h => absurd h (by decide)) (fun M10 h => ?_)
                    show zx_E _ _ _ (100, [some (.inr (some (21, 0, 0, 0))), some (.inr (some (1, l, 0, 0))), some (.inr (some (17, i, 0, 0)))], [], (zx_lay M10, n)) _
                    exact zx_E.r0 h rfl
def lg_X10_carryOutCommands_15 (kk : Int32 → Int32 → zx_Y → Option (Int32 × zx_Y)) : Nat → Int32 → Int32 → zx_Y → Option (Int32 × zx_Y)
  | 0, _, _, _ => none
  | q + 1, w1, w2, M => (if (M (14, 0, 0, 0) 3) ≤ w2 then (kk w1 w2 M) else (zi w2 20 fun k1 => (zv (g_X0_refuses M 0 k1) fun v1 M1 => (if v1 = 0 then (zm (g_X0_carryOut M1 0 k1) fun M2 => (if (M2 (17, k1, 0, 0) 0) = 76 then (lg_X10_carryOutCommands_15 kk q 1 (w2 + 1) M2) else (lg_X10_carryOutCommands_15 kk q w1 (w2 + 1) M2))) else (zm (g_X2_copyFrom M1 0 2) fun M3 => (zm (g_X4_keep M3 w2 (M3 (21, 0, 0, 0) 0) (M3 (21, 0, 0, 0) 1)) fun M4 => (some (((-200) - w2), M4))))))))
set_option maxRecDepth 100000 in
set_option maxHeartbeats 4000000 in
theorem rl_X10_carryOutCommands_15 {X : zx_X} {d n : Nat} {kk : Int32 → Int32 → zx_Y → Option (Int32 × zx_Y)} {rv : Int32} {rM : zx_Y} (hk : ∀ (w1 : Int32) (w2 : Int32) (M : zx_Y) (e3 : Option zx_V), kk w1 w2 M = some (rv, rM) → zx_E X (d + 4) zc_X10_carryOutCommands (119, [some (.inr (some (0, 0, 0, 0))), some (.inl w1), some (.inl w2), e3], [], (zx_lay M, n)) (some (.inl rv), (zx_lay rM, n))) : ∀ (q : Nat) (g3 : Option zx_V) (w1 : Int32) (w2 : Int32) (M : zx_Y), lg_X10_carryOutCommands_15 kk q w1 w2 M = some (rv, rM) → zx_E X (d + 4) zc_X10_carryOutCommands (15, [some (.inr (some (0, 0, 0, 0))), some (.inl w1), some (.inl w2), g3], [], (zx_lay M, n)) (some (.inl rv), (zx_lay rM, n))
  | 0, g3, w1, w2, M, h => by
    rw [lg_X10_carryOutCommands_15.eq_1] at h
    cases h
  | q + 1, g3, w1, w2, M, h => by
    rw [lg_X10_carryOutCommands_15.eq_2] at h
    refine zx_E.go 4 (s' := (23, [some (.inr (some (0, 0, 0, 0))), some (.inl w1), some (.inl w2), g3], [.inl (M (14, 0, 0, 0) 3), .inl w2], (zx_lay M, n))) rfl ?_
    refine zx_E.brh (c := (M (14, 0, 0, 0) 3) ≤ w2) (s1 := (119, [some (.inr (some (0, 0, 0, 0))), some (.inl w1), some (.inl w2), g3], [], (zx_lay M, n))) (s2 := (26, [some (.inr (some (0, 0, 0, 0))), some (.inl w1), some (.inl w2), g3], [], (zx_lay M, n))) h (zx_ic_ge rfl) (fun _ h => ?_) (fun _ h => ?_)
    · exact hk _ _ _ _ h
    · refine zx_E.go 4 (s' := (34, [some (.inr (some (0, 0, 0, 0))), some (.inl w1), some (.inl w2), g3], [.inl w2, .inr (some (16, 0, 0, 0))], (zx_lay M, n))) rfl ?_
      refine zx_E.ix h (fun k1 hx_k1 hl_k1 h => ?_)
      refine zx_E.aald (k := k1) (h := (16, 0, 0, 0)) (h' := (17, k1, 0, 0)) rfl rfl hx_k1 hl_k1 rfl ?_
      show zx_E _ _ _ (35, [some (.inr (some (0, 0, 0, 0))), some (.inl w1), some (.inl w2), g3], [.inr (some (17, k1, 0, 0))], (zx_lay M, n)) _
      refine zx_E.go 6 (s' := (45, [some (.inr (some (0, 0, 0, 0))), some (.inl w1), some (.inl w2), some (.inr (some (17, k1, 0, 0)))], [.inr (some (17, k1, 0, 0)), .inr (some (1, 0, 0, 0)), .inr (some (21, 0, 0, 0))], (zx_lay M, n))) rfl ?_
      refine zx_E.cv (y := 1) (as := [.inr (some (21, 0, 0, 0)), .inr (some (1, 0, 0, 0)), .inr (some (17, k1, 0, 0))]) (rest := []) h rfl (fun _ _ hv => zx_run_up (by omega) (r_X0_refuses (d := d) hv)) (fun v1 M1 h => ?_)
      show zx_E _ _ _ (48, [some (.inr (some (0, 0, 0, 0))), some (.inl w1), some (.inl w2), some (.inr (some (17, k1, 0, 0)))], [.inl v1], (zx_lay M1, n)) _
      refine zx_E.brh (c := v1 = 0) (s1 := (90, [some (.inr (some (0, 0, 0, 0))), some (.inl w1), some (.inl w2), some (.inr (some (17, k1, 0, 0)))], [], (zx_lay M1, n))) (s2 := (51, [some (.inr (some (0, 0, 0, 0))), some (.inl w1), some (.inl w2), some (.inr (some (17, k1, 0, 0)))], [], (zx_lay M1, n))) h (zx_if_eq rfl) (fun _ h => ?_) (fun _ h => ?_)
      · refine zx_E.go 5 (s' := (99, [some (.inr (some (0, 0, 0, 0))), some (.inl w1), some (.inl w2), some (.inr (some (17, k1, 0, 0)))], [.inr (some (17, k1, 0, 0)), .inr (some (1, 0, 0, 0)), .inr (some (21, 0, 0, 0))], (zx_lay M1, n))) rfl ?_
        refine zx_E.cm (y := 7) (as := [.inr (some (21, 0, 0, 0)), .inr (some (1, 0, 0, 0)), .inr (some (17, k1, 0, 0))]) (rest := []) h rfl (fun _ hv => zx_run_up (by omega) (r_X0_carryOut (d := d) hv)) (fun M2 h => ?_)
        show zx_E _ _ _ (102, [some (.inr (some (0, 0, 0, 0))), some (.inl w1), some (.inl w2), some (.inr (some (17, k1, 0, 0)))], [], (zx_lay M2, n)) _
        refine zx_E.go 3 (s' := (108, [some (.inr (some (0, 0, 0, 0))), some (.inl w1), some (.inl w2), some (.inr (some (17, k1, 0, 0)))], [.inl 76, .inl (M2 (17, k1, 0, 0) 0)], (zx_lay M2, n))) rfl ?_
        refine zx_E.brh (c := (M2 (17, k1, 0, 0) 0) = 76) (s1 := (111, [some (.inr (some (0, 0, 0, 0))), some (.inl w1), some (.inl w2), some (.inr (some (17, k1, 0, 0)))], [], (zx_lay M2, n))) (s2 := (113, [some (.inr (some (0, 0, 0, 0))), some (.inl w1), some (.inl w2), some (.inr (some (17, k1, 0, 0)))], [], (zx_lay M2, n))) h (zx_ic_ne rfl) (fun _ h => ?_) (fun _ h => ?_)
        · refine zx_E.go 4 (s' := (15, [some (.inr (some (0, 0, 0, 0))), some (.inl 1), some (.inl (w2 + 1)), some (.inr (some (17, k1, 0, 0)))], [], (zx_lay M2, n))) rfl ?_
          exact rl_X10_carryOutCommands_15 hk q _ 1 (w2 + 1) M2 h
        · refine zx_E.go 2 (s' := (15, [some (.inr (some (0, 0, 0, 0))), some (.inl w1), some (.inl (w2 + 1)), some (.inr (some (17, k1, 0, 0)))], [], (zx_lay M2, n))) rfl ?_
          exact rl_X10_carryOutCommands_15 hk q _ w1 (w2 + 1) M2 h
      · refine zx_E.go 4 (s' := (59, [some (.inr (some (0, 0, 0, 0))), some (.inl w1), some (.inl w2), some (.inr (some (17, k1, 0, 0)))], [.inr (some (1, 2, 0, 0)), .inr (some (1, 0, 0, 0))], (zx_lay M1, n))) rfl ?_
        refine zx_E.cm (y := 14) (as := [.inr (some (1, 0, 0, 0)), .inr (some (1, 2, 0, 0))]) (rest := []) h rfl (fun _ hv => zx_run_up (by omega) (r_X2_copyFrom (d := d) hv)) (fun M3 h => ?_)
        show zx_E _ _ _ (62, [some (.inr (some (0, 0, 0, 0))), some (.inl w1), some (.inl w2), some (.inr (some (17, k1, 0, 0)))], [], (zx_lay M3, n)) _
        refine zx_E.go 9 (s' := (81, [some (.inr (some (0, 0, 0, 0))), some (.inl w1), some (.inl w2), some (.inr (some (17, k1, 0, 0)))], [.inl (M3 (21, 0, 0, 0) 1), .inl (M3 (21, 0, 0, 0) 0), .inl w2, .inr (some (19, 0, 0, 0))], (zx_lay M3, n))) rfl ?_
        refine zx_E.cm (y := 58) (as := [.inr (some (19, 0, 0, 0)), .inl w2, .inl (M3 (21, 0, 0, 0) 0), .inl (M3 (21, 0, 0, 0) 1)]) (rest := []) h rfl (fun _ hv => zx_run_up (by omega) (r_X4_keep (d := d) hv)) (fun M4 h => ?_)
        show zx_E _ _ _ (84, [some (.inr (some (0, 0, 0, 0))), some (.inl w1), some (.inl w2), some (.inr (some (17, k1, 0, 0)))], [], (zx_lay M4, n)) _
        refine zx_E.go 3 (s' := (89, [some (.inr (some (0, 0, 0, 0))), some (.inl w1), some (.inl w2), some (.inr (some (17, k1, 0, 0)))], [.inl ((-200) - w2)], (zx_lay M4, n))) rfl ?_
        exact zx_E.ri h rfl (fun h => absurd h (by decide))
def g_X10_carryOutCommands (M : zx_Y) : Option (Int32 × zx_Y) := (zm (g_X2_copyFrom M 2 0) fun M1 => (lg_X10_carryOutCommands_15 (fun v1 v2 M2 => (if v1 = 0 then (zl (zx_up M2 (19, 0, 0, 0) 0 0) fun M3 => (some ((M3 (14, 0, 0, 0) 3), M3))) else (zl (zx_up M2 (22, 0, 0, 0) 0 0) fun M4 => (zl (zx_up M4 (19, 0, 0, 0) 0 0) fun M5 => (some ((M5 (14, 0, 0, 0) 3), M5)))))) 1000 0 0 M1))
set_option maxRecDepth 100000 in
set_option maxHeartbeats 4000000 in
theorem r_X10_carryOutCommands {X : zx_X} {d n : Nat} {M : zx_Y} {rv : Int32} {rM : zx_Y} (h : g_X10_carryOutCommands M = some (rv, rM)) : zx_run X (d + 5) 119 [.inr (some (0, 0, 0, 0))] (zx_lay M, n) (some (.inl rv), (zx_lay rM, n)) := by
  refine zx_run_of zc_X10_carryOutCommands [some (.inr (some (0, 0, 0, 0))), none, none, none] rfl rfl ?_
  unfold g_X10_carryOutCommands at h
  refine zx_E.go 6 (s' := (10, [some (.inr (some (0, 0, 0, 0))), some (.inl 0), none, none], [.inr (some (1, 0, 0, 0)), .inr (some (1, 2, 0, 0))], (zx_lay M, n))) rfl ?_
  refine zx_E.cm (y := 14) (as := [.inr (some (1, 2, 0, 0)), .inr (some (1, 0, 0, 0))]) (rest := []) h rfl (fun _ hv => zx_run_up (by omega) (r_X2_copyFrom (d := d) hv)) (fun M1 h => ?_)
  show zx_E _ _ _ (13, [some (.inr (some (0, 0, 0, 0))), some (.inl 0), none, none], [], (zx_lay M1, n)) _
  refine zx_E.go 2 (s' := (15, [some (.inr (some (0, 0, 0, 0))), some (.inl 0), some (.inl 0), none], [], (zx_lay M1, n))) rfl ?_
  refine rl_X10_carryOutCommands_15 (fun v1 v2 M2 e1 h => ?_) 1000 _ 0 0 M1 h
  refine zx_E.go 1 (s' := (120, [some (.inr (some (0, 0, 0, 0))), some (.inl v1), some (.inl v2), e1], [.inl v1], (zx_lay M2, n))) rfl ?_
  refine zx_E.brh (c := v1 = 0) (s1 := (131, [some (.inr (some (0, 0, 0, 0))), some (.inl v1), some (.inl v2), e1], [], (zx_lay M2, n))) (s2 := (123, [some (.inr (some (0, 0, 0, 0))), some (.inl v1), some (.inl v2), e1], [], (zx_lay M2, n))) h (zx_if_eq rfl) (fun _ h => ?_) (fun _ h => ?_)
  · refine zx_E.go 3 (s' := (136, [some (.inr (some (0, 0, 0, 0))), some (.inl v1), some (.inl v2), e1], [.inl 0, .inr (some (19, 0, 0, 0))], (zx_lay M2, n))) rfl ?_
    refine zx_E.pu h rfl rfl (fun _ => Or.inl rfl) (fun M3 h => ?_)
    show zx_E _ _ _ (139, [some (.inr (some (0, 0, 0, 0))), some (.inl v1), some (.inl v2), e1], [], (zx_lay M3, n)) _
    refine zx_E.go 3 (s' := (146, [some (.inr (some (0, 0, 0, 0))), some (.inl v1), some (.inl v2), e1], [.inl (M3 (14, 0, 0, 0) 3)], (zx_lay M3, n))) rfl ?_
    exact zx_E.ri h rfl (fun h => absurd h (by decide))
  · refine zx_E.go 3 (s' := (128, [some (.inr (some (0, 0, 0, 0))), some (.inl v1), some (.inl v2), e1], [.inl 0, .inr (some (22, 0, 0, 0))], (zx_lay M2, n))) rfl ?_
    refine zx_E.pu h rfl rfl (fun _ => Or.inl rfl) (fun M4 h => ?_)
    show zx_E _ _ _ (131, [some (.inr (some (0, 0, 0, 0))), some (.inl v1), some (.inl v2), e1], [], (zx_lay M4, n)) _
    refine zx_E.go 3 (s' := (136, [some (.inr (some (0, 0, 0, 0))), some (.inl v1), some (.inl v2), e1], [.inl 0, .inr (some (19, 0, 0, 0))], (zx_lay M4, n))) rfl ?_
    refine zx_E.pu h rfl rfl (fun _ => Or.inl rfl) (fun M5 h => ?_)
    show zx_E _ _ _ (139, [some (.inr (some (0, 0, 0, 0))), some (.inl v1), some (.inl v2), e1], [], (zx_lay M5, n)) _
    refine zx_E.go 3 (s' := (146, [some (.inr (some (0, 0, 0, 0))), some (.inl v1), some (.inl v2), e1], [.inl (M5 (14, 0, 0, 0) 3)], (zx_lay M5, n))) rfl ?_
    exact zx_E.ri h rfl (fun h => absurd h (by decide))
def g_X10_execute (M : zx_Y) : Option (Int32 × zx_Y) := (zv (g_X8_readText M) fun v1 M1 => (if v1 = 0 then (zb (g_X8_peek M1) fun v2 => (zm (g_X4_keep M1 (M1 (14, 0, 0, 0) 4) 0 v2) fun M2 => (zl (zx_up M2 (14, 0, 0, 0) 1 0) fun M3 => (some (((-100) - (M2 (14, 0, 0, 0) 4)), M3))))) else (zv (g_X10_carryOutCommands M1) fun v3 M4 => (zl (zx_up M4 (14, 0, 0, 0) 1 0) fun M5 => (some (v3, M5))))))
set_option maxRecDepth 100000 in
set_option maxHeartbeats 4000000 in
theorem r_X10_execute {X : zx_X} {d n : Nat} {M : zx_Y} {rv : Int32} {rM : zx_Y} (h : g_X10_execute M = some (rv, rM)) : zx_run X (d + 7) 95 [.inr (some (0, 0, 0, 0))] (zx_lay M, n) (some (.inl rv), (zx_lay rM, n)) := by
  refine zx_run_of zc_X10_execute [some (.inr (some (0, 0, 0, 0))), none] rfl rfl ?_
  unfold g_X10_execute at h
  refine zx_E.go 2 (s' := (4, [some (.inr (some (0, 0, 0, 0))), none], [.inr (some (14, 0, 0, 0))], (zx_lay M, n))) rfl ?_
  refine zx_E.cv (y := 68) (as := [.inr (some (14, 0, 0, 0))]) (rest := []) h rfl (fun _ _ hv => zx_run_up (by omega) (r_X8_readText (d := d) hv)) (fun v1 M1 h => ?_)
  show zx_E _ _ _ (7, [some (.inr (some (0, 0, 0, 0))), none], [.inl v1], (zx_lay M1, n)) _
  refine zx_E.brh (c := v1 = 0) (s1 := (18, [some (.inr (some (0, 0, 0, 0))), none], [], (zx_lay M1, n))) (s2 := (10, [some (.inr (some (0, 0, 0, 0))), none], [], (zx_lay M1, n))) h (zx_if_eq rfl) (fun _ h => ?_) (fun _ h => ?_)
  · refine zx_E.go 8 (s' := (34, [some (.inr (some (0, 0, 0, 0))), none], [.inr (some (14, 0, 0, 0)), .inl 0, .inl (M1 (14, 0, 0, 0) 4), .inr (some (19, 0, 0, 0))], (zx_lay M1, n))) rfl ?_
    refine zx_E.cb (y := 75) (as := [.inr (some (14, 0, 0, 0))]) (rest := [.inl 0, .inl (M1 (14, 0, 0, 0) 4), .inr (some (19, 0, 0, 0))]) h rfl (fun _ hv => zx_run_up (by omega) (r_X8_peek (d := d) hv)) (fun v2 h => ?_)
    show zx_E _ _ _ (37, [some (.inr (some (0, 0, 0, 0))), none], [.inl v2, .inl 0, .inl (M1 (14, 0, 0, 0) 4), .inr (some (19, 0, 0, 0))], (zx_lay M1, n)) _
    refine zx_E.cm (y := 58) (as := [.inr (some (19, 0, 0, 0)), .inl (M1 (14, 0, 0, 0) 4), .inl 0, .inl v2]) (rest := []) h rfl (fun _ hv => zx_run_up (by omega) (r_X4_keep (d := d) hv)) (fun M2 h => ?_)
    show zx_E _ _ _ (40, [some (.inr (some (0, 0, 0, 0))), none], [], (zx_lay M2, n)) _
    refine zx_E.go 4 (s' := (49, [some (.inr (some (0, 0, 0, 0))), none], [.inl (M2 (14, 0, 0, 0) 4), .inl (-100)], (zx_lay M2, n))) rfl ?_
    refine zx_E.go 5 (s' := (56, [some (.inr (some (0, 0, 0, 0))), some (.inl ((-100) - (M2 (14, 0, 0, 0) 4)))], [.inl 0, .inr (some (14, 0, 0, 0))], (zx_lay M2, n))) rfl ?_
    refine zx_E.pu h rfl rfl (fun h => absurd h (by decide)) (fun M3 h => ?_)
    show zx_E _ _ _ (59, [some (.inr (some (0, 0, 0, 0))), some (.inl ((-100) - (M2 (14, 0, 0, 0) 4)))], [], (zx_lay M3, n)) _
    refine zx_E.go 1 (s' := (60, [some (.inr (some (0, 0, 0, 0))), some (.inl ((-100) - (M2 (14, 0, 0, 0) 4)))], [.inl ((-100) - (M2 (14, 0, 0, 0) 4))], (zx_lay M3, n))) rfl ?_
    exact zx_E.ri h rfl (fun h => absurd h (by decide))
  · refine zx_E.go 1 (s' := (11, [some (.inr (some (0, 0, 0, 0))), none], [.inr (some (0, 0, 0, 0))], (zx_lay M1, n))) rfl ?_
    refine zx_E.cv (y := 119) (as := [.inr (some (0, 0, 0, 0))]) (rest := []) h rfl (fun _ _ hv => zx_run_up (by omega) (r_X10_carryOutCommands (d := d) hv)) (fun v3 M4 h => ?_)
    show zx_E _ _ _ (14, [some (.inr (some (0, 0, 0, 0))), none], [.inl v3], (zx_lay M4, n)) _
    refine zx_E.go 5 (s' := (56, [some (.inr (some (0, 0, 0, 0))), some (.inl v3)], [.inl 0, .inr (some (14, 0, 0, 0))], (zx_lay M4, n))) rfl ?_
    refine zx_E.pu h rfl rfl (fun h => absurd h (by decide)) (fun M5 h => ?_)
    show zx_E _ _ _ (59, [some (.inr (some (0, 0, 0, 0))), some (.inl v3)], [], (zx_lay M5, n)) _
    refine zx_E.go 1 (s' := (60, [some (.inr (some (0, 0, 0, 0))), some (.inl v3)], [.inl v3], (zx_lay M5, n))) rfl ?_
    exact zx_E.ri h rfl (fun h => absurd h (by decide))
def g_X11_refuse (M : zx_Y) (x0 : Int32) (x1 : Int32) : Option zx_Y := (zl (zx_up M (25, 0, 0, 0) 13 x0) fun M1 => (zl (zx_up M1 (25, 0, 0, 0) 14 x1) fun M2 => (some M2)))
set_option maxRecDepth 100000 in
set_option maxHeartbeats 4000000 in
theorem r_X11_refuse {X : zx_X} {d n : Nat} {M : zx_Y} {x0 : Int32} {x1 : Int32} {rM : zx_Y} (h : g_X11_refuse M x0 x1 = some rM) : zx_run X (d + 1) 161 [.inr (some (25, 0, 0, 0)), .inl x0, .inl x1] (zx_lay M, n) (none, (zx_lay rM, n)) := by
  refine zx_run_of zc_X11_refuse [some (.inr (some (25, 0, 0, 0))), some (.inl x0), some (.inl x1)] rfl rfl ?_
  unfold g_X11_refuse at h
  refine zx_E.go 2 (s' := (2, [some (.inr (some (25, 0, 0, 0))), some (.inl x0), some (.inl x1)], [.inl x0, .inr (some (25, 0, 0, 0))], (zx_lay M, n))) rfl ?_
  refine zx_E.pu h rfl rfl (fun h => absurd h (by decide)) (fun M1 h => ?_)
  show zx_E _ _ _ (5, [some (.inr (some (25, 0, 0, 0))), some (.inl x0), some (.inl x1)], [], (zx_lay M1, n)) _
  refine zx_E.go 2 (s' := (7, [some (.inr (some (25, 0, 0, 0))), some (.inl x0), some (.inl x1)], [.inl x1, .inr (some (25, 0, 0, 0))], (zx_lay M1, n))) rfl ?_
  refine zx_E.pu h rfl rfl (fun h => absurd h (by decide)) (fun M2 h => ?_)
  show zx_E _ _ _ (10, [some (.inr (some (25, 0, 0, 0))), some (.inl x0), some (.inl x1)], [], (zx_lay M2, n)) _
  exact zx_E.r0 h rfl
def g_X11_sign (M : zx_Y) : Option Int32 := (if (M (25, 0, 0, 0) 5) ≤ (M (25, 0, 0, 0) 6) then (some (-1)) else (zi (M (25, 0, 0, 0) 6) 60 fun k1 => (some (M (28, 0, 0, 0) k1))))
set_option maxRecDepth 100000 in
set_option maxHeartbeats 4000000 in
theorem r_X11_sign {X : zx_X} {d n : Nat} {M : zx_Y} {rv : Int32} (h : g_X11_sign M = some rv) : zx_run X (d + 1) 152 [.inr (some (25, 0, 0, 0))] (zx_lay M, n) (some (.inl rv), (zx_lay M, n)) := by
  refine zx_run_of zc_X11_sign [some (.inr (some (25, 0, 0, 0)))] rfl rfl ?_
  unfold g_X11_sign at h
  refine zx_E.go 4 (s' := (8, [some (.inr (some (25, 0, 0, 0)))], [.inl (M (25, 0, 0, 0) 5), .inl (M (25, 0, 0, 0) 6)], (zx_lay M, n))) rfl ?_
  refine zx_E.brh (c := (M (25, 0, 0, 0) 5) ≤ (M (25, 0, 0, 0) 6)) (s1 := (23, [some (.inr (some (25, 0, 0, 0)))], [], (zx_lay M, n))) (s2 := (11, [some (.inr (some (25, 0, 0, 0)))], [], (zx_lay M, n))) h (zx_ic_ge rfl) (fun _ h => ?_) (fun _ h => ?_)
  · refine zx_E.go 1 (s' := (24, [some (.inr (some (25, 0, 0, 0)))], [.inl (-1)], (zx_lay M, n))) rfl ?_
    exact zx_E.rp h rfl (fun h => absurd h (by decide))
  · refine zx_E.go 4 (s' := (19, [some (.inr (some (25, 0, 0, 0)))], [.inl (M (25, 0, 0, 0) 6), .inr (some (28, 0, 0, 0))], (zx_lay M, n))) rfl ?_
    refine zx_E.ix h (fun k1 hx_k1 hl_k1 h => ?_)
    refine zx_E.iald (k := k1) (h := (28, 0, 0, 0)) rfl rfl hx_k1 hl_k1 ?_
    show zx_E _ _ _ (20, [some (.inr (some (25, 0, 0, 0)))], [.inl (M (28, 0, 0, 0) k1)], (zx_lay M, n)) _
    refine zx_E.go 1 (s' := (24, [some (.inr (some (25, 0, 0, 0)))], [.inl (M (28, 0, 0, 0) k1)], (zx_lay M, n))) rfl ?_
    exact zx_E.rp h rfl (fun h => absurd h (by decide))
def g_X11_goes (M : zx_Y) (x0 : Int32) : Option (Int32 × zx_Y) := (if (M (25, 0, 0, 0) 7) = (-1) then (zb (g_X11_sign M) fun v1 => (if v1 = x0 then (zl (zx_up M (25, 0, 0, 0) 6 ((M (25, 0, 0, 0) 6) + 1)) fun M1 => (some (1, M1))) else (zl (zx_up M (25, 0, 0, 0) 6 ((M (25, 0, 0, 0) 6) + 0)) fun M2 => (some (0, M2))))) else (zl (zx_up M (25, 0, 0, 0) 6 ((M (25, 0, 0, 0) 6) + 0)) fun M3 => (some (0, M3))))
set_option maxRecDepth 100000 in
set_option maxHeartbeats 4000000 in
theorem r_X11_goes {X : zx_X} {d n : Nat} {M : zx_Y} {x0 : Int32} {rv : Int32} {rM : zx_Y} (h : g_X11_goes M x0 = some (rv, rM)) : zx_run X (d + 2) 154 [.inr (some (25, 0, 0, 0)), .inl x0] (zx_lay M, n) (some (.inl rv), (zx_lay rM, n)) := by
  refine zx_run_of zc_X11_goes [some (.inr (some (25, 0, 0, 0))), some (.inl x0), none] rfl rfl ?_
  unfold g_X11_goes at h
  refine zx_E.go 3 (s' := (5, [some (.inr (some (25, 0, 0, 0))), some (.inl x0), none], [.inl (-1), .inl (M (25, 0, 0, 0) 7)], (zx_lay M, n))) rfl ?_
  refine zx_E.brh (c := (M (25, 0, 0, 0) 7) = (-1)) (s1 := (8, [some (.inr (some (25, 0, 0, 0))), some (.inl x0), none], [], (zx_lay M, n))) (s2 := (20, [some (.inr (some (25, 0, 0, 0))), some (.inl x0), none], [], (zx_lay M, n))) h (zx_ic_ne rfl) (fun _ h => ?_) (fun _ h => ?_)
  · refine zx_E.go 1 (s' := (9, [some (.inr (some (25, 0, 0, 0))), some (.inl x0), none], [.inr (some (25, 0, 0, 0))], (zx_lay M, n))) rfl ?_
    refine zx_E.cb (y := 152) (as := [.inr (some (25, 0, 0, 0))]) (rest := []) h rfl (fun _ hv => zx_run_up (by omega) (r_X11_sign (d := d) hv)) (fun v1 h => ?_)
    show zx_E _ _ _ (12, [some (.inr (some (25, 0, 0, 0))), some (.inl x0), none], [.inl v1], (zx_lay M, n)) _
    refine zx_E.go 1 (s' := (13, [some (.inr (some (25, 0, 0, 0))), some (.inl x0), none], [.inl x0, .inl v1], (zx_lay M, n))) rfl ?_
    refine zx_E.brh (c := v1 = x0) (s1 := (16, [some (.inr (some (25, 0, 0, 0))), some (.inl x0), none], [], (zx_lay M, n))) (s2 := (20, [some (.inr (some (25, 0, 0, 0))), some (.inl x0), none], [], (zx_lay M, n))) h (zx_ic_ne rfl) (fun _ h => ?_) (fun _ h => ?_)
    · refine zx_E.go 7 (s' := (28, [some (.inr (some (25, 0, 0, 0))), some (.inl x0), some (.inl 1)], [.inl 1, .inl (M (25, 0, 0, 0) 6), .inr (some (25, 0, 0, 0))], (zx_lay M, n))) rfl ?_
      refine zx_E.bf (c := ((1 : Int32) = 0 : Prop)) (s1 := (35, [some (.inr (some (25, 0, 0, 0))), some (.inl x0), some (.inl 1)], [.inl (M (25, 0, 0, 0) 6), .inr (some (25, 0, 0, 0))], (zx_lay M, n))) (s2 := (31, [some (.inr (some (25, 0, 0, 0))), some (.inl x0), some (.inl 1)], [.inl (M (25, 0, 0, 0) 6), .inr (some (25, 0, 0, 0))], (zx_lay M, n))) (zx_if_eq rfl) (by decide) ?_
      refine zx_E.go 3 (s' := (37, [some (.inr (some (25, 0, 0, 0))), some (.inl x0), some (.inl 1)], [.inl ((M (25, 0, 0, 0) 6) + 1), .inr (some (25, 0, 0, 0))], (zx_lay M, n))) rfl ?_
      refine zx_E.pu h rfl rfl (fun h => absurd h (by decide)) (fun M1 h => ?_)
      show zx_E _ _ _ (40, [some (.inr (some (25, 0, 0, 0))), some (.inl x0), some (.inl 1)], [], (zx_lay M1, n)) _
      refine zx_E.go 1 (s' := (41, [some (.inr (some (25, 0, 0, 0))), some (.inl x0), some (.inl 1)], [.inl 1], (zx_lay M1, n))) rfl ?_
      exact zx_E.ri h rfl (fun _ => Or.inr rfl)
    · refine zx_E.go 6 (s' := (28, [some (.inr (some (25, 0, 0, 0))), some (.inl x0), some (.inl 0)], [.inl 0, .inl (M (25, 0, 0, 0) 6), .inr (some (25, 0, 0, 0))], (zx_lay M, n))) rfl ?_
      refine zx_E.bt (c := ((0 : Int32) = 0 : Prop)) (s1 := (35, [some (.inr (some (25, 0, 0, 0))), some (.inl x0), some (.inl 0)], [.inl (M (25, 0, 0, 0) 6), .inr (some (25, 0, 0, 0))], (zx_lay M, n))) (s2 := (31, [some (.inr (some (25, 0, 0, 0))), some (.inl x0), some (.inl 0)], [.inl (M (25, 0, 0, 0) 6), .inr (some (25, 0, 0, 0))], (zx_lay M, n))) (zx_if_eq rfl) (by decide) ?_
      refine zx_E.go 2 (s' := (37, [some (.inr (some (25, 0, 0, 0))), some (.inl x0), some (.inl 0)], [.inl ((M (25, 0, 0, 0) 6) + 0), .inr (some (25, 0, 0, 0))], (zx_lay M, n))) rfl ?_
      refine zx_E.pu h rfl rfl (fun h => absurd h (by decide)) (fun M2 h => ?_)
      show zx_E _ _ _ (40, [some (.inr (some (25, 0, 0, 0))), some (.inl x0), some (.inl 0)], [], (zx_lay M2, n)) _
      refine zx_E.go 1 (s' := (41, [some (.inr (some (25, 0, 0, 0))), some (.inl x0), some (.inl 0)], [.inl 0], (zx_lay M2, n))) rfl ?_
      exact zx_E.ri h rfl (fun _ => Or.inl rfl)
  · refine zx_E.go 6 (s' := (28, [some (.inr (some (25, 0, 0, 0))), some (.inl x0), some (.inl 0)], [.inl 0, .inl (M (25, 0, 0, 0) 6), .inr (some (25, 0, 0, 0))], (zx_lay M, n))) rfl ?_
    refine zx_E.bt (c := ((0 : Int32) = 0 : Prop)) (s1 := (35, [some (.inr (some (25, 0, 0, 0))), some (.inl x0), some (.inl 0)], [.inl (M (25, 0, 0, 0) 6), .inr (some (25, 0, 0, 0))], (zx_lay M, n))) (s2 := (31, [some (.inr (some (25, 0, 0, 0))), some (.inl x0), some (.inl 0)], [.inl (M (25, 0, 0, 0) 6), .inr (some (25, 0, 0, 0))], (zx_lay M, n))) (zx_if_eq rfl) (by decide) ?_
    refine zx_E.go 2 (s' := (37, [some (.inr (some (25, 0, 0, 0))), some (.inl x0), some (.inl 0)], [.inl ((M (25, 0, 0, 0) 6) + 0), .inr (some (25, 0, 0, 0))], (zx_lay M, n))) rfl ?_
    refine zx_E.pu h rfl rfl (fun h => absurd h (by decide)) (fun M3 h => ?_)
    show zx_E _ _ _ (40, [some (.inr (some (25, 0, 0, 0))), some (.inl x0), some (.inl 0)], [], (zx_lay M3, n)) _
    refine zx_E.go 1 (s' := (41, [some (.inr (some (25, 0, 0, 0))), some (.inl x0), some (.inl 0)], [.inl 0], (zx_lay M3, n))) rfl ?_
    exact zx_E.ri h rfl (fun _ => Or.inl rfl)
def g_X11_faultHere (M : zx_Y) : Option zx_Y := (if (M (25, 0, 0, 0) 7) = (-1) then (zl (zx_up M (25, 0, 0, 0) 7 (M (25, 0, 0, 0) 6)) fun M1 => (some M1)) else (zl (zx_up M (25, 0, 0, 0) 7 (M (25, 0, 0, 0) 7)) fun M2 => (some M2)))
set_option maxRecDepth 100000 in
set_option maxHeartbeats 4000000 in
theorem r_X11_faultHere {X : zx_X} {d n : Nat} {M : zx_Y} {rM : zx_Y} (h : g_X11_faultHere M = some rM) : zx_run X (d + 1) 153 [.inr (some (25, 0, 0, 0))] (zx_lay M, n) (none, (zx_lay rM, n)) := by
  refine zx_run_of zc_X11_faultHere [some (.inr (some (25, 0, 0, 0)))] rfl rfl ?_
  unfold g_X11_faultHere at h
  refine zx_E.go 4 (s' := (6, [some (.inr (some (25, 0, 0, 0)))], [.inl (-1), .inl (M (25, 0, 0, 0) 7), .inr (some (25, 0, 0, 0))], (zx_lay M, n))) rfl ?_
  refine zx_E.brh (c := (M (25, 0, 0, 0) 7) = (-1)) (s1 := (9, [some (.inr (some (25, 0, 0, 0)))], [.inr (some (25, 0, 0, 0))], (zx_lay M, n))) (s2 := (16, [some (.inr (some (25, 0, 0, 0)))], [.inr (some (25, 0, 0, 0))], (zx_lay M, n))) h (zx_ic_ne rfl) (fun _ h => ?_) (fun _ h => ?_)
  · refine zx_E.go 3 (s' := (20, [some (.inr (some (25, 0, 0, 0)))], [.inl (M (25, 0, 0, 0) 6), .inr (some (25, 0, 0, 0))], (zx_lay M, n))) rfl ?_
    refine zx_E.pu h rfl rfl (fun h => absurd h (by decide)) (fun M1 h => ?_)
    show zx_E _ _ _ (23, [some (.inr (some (25, 0, 0, 0)))], [], (zx_lay M1, n)) _
    exact zx_E.r0 h rfl
  · refine zx_E.go 2 (s' := (20, [some (.inr (some (25, 0, 0, 0)))], [.inl (M (25, 0, 0, 0) 7), .inr (some (25, 0, 0, 0))], (zx_lay M, n))) rfl ?_
    refine zx_E.pu h rfl rfl (fun h => absurd h (by decide)) (fun M2 h => ?_)
    show zx_E _ _ _ (23, [some (.inr (some (25, 0, 0, 0)))], [], (zx_lay M2, n)) _
    exact zx_E.r0 h rfl
def lg_X11_readNumber_4 (kk : Int32 → Int32 → zx_Y → Option zx_Y) : Nat → Int32 → Int32 → zx_Y → Option zx_Y
  | 0, _, _, _ => none
  | q + 1, w1, w2, M => (if (M (25, 0, 0, 0) 7) = (-1) then (zb (g_X11_sign M) fun v1 => (zb (g_X11_isIn M v1 48 57) fun v2 => (if v2 = 0 then (kk w1 w2 M) else (if (4 : Int32) ≤ w2 then (kk w1 w2 M) else (if w2 = 0 then (zb (g_X11_sign M) fun v3 => (zl (zx_up M (25, 0, 0, 0) 6 ((M (25, 0, 0, 0) 6) + 1)) fun M1 => (lg_X11_readNumber_4 kk q (((10 * w1) + v3) - 48) (w2 + 1) M1))) else (if w1 ≤ 0 then (kk w1 w2 M) else (zb (g_X11_sign M) fun v4 => (zl (zx_up M (25, 0, 0, 0) 6 ((M (25, 0, 0, 0) 6) + 1)) fun M2 => (lg_X11_readNumber_4 kk q (((10 * w1) + v4) - 48) (w2 + 1) M2))))))))) else (kk w1 w2 M))
set_option maxRecDepth 100000 in
set_option maxHeartbeats 4000000 in
theorem rl_X11_readNumber_4 {X : zx_X} {d n : Nat} {kk : Int32 → Int32 → zx_Y → Option zx_Y} {rM : zx_Y} (hk : ∀ (w1 : Int32) (w2 : Int32) (M : zx_Y), kk w1 w2 M = some rM → zx_E X (d + 1) zc_X11_readNumber (68, [some (.inr (some (25, 0, 0, 0))), some (.inl w1), some (.inl w2)], [], (zx_lay M, n)) (none, (zx_lay rM, n))) : ∀ (q : Nat) (w1 : Int32) (w2 : Int32) (M : zx_Y), lg_X11_readNumber_4 kk q w1 w2 M = some rM → zx_E X (d + 1) zc_X11_readNumber (4, [some (.inr (some (25, 0, 0, 0))), some (.inl w1), some (.inl w2)], [], (zx_lay M, n)) (none, (zx_lay rM, n))
  | 0, w1, w2, M, h => by
    rw [lg_X11_readNumber_4.eq_1] at h
    cases h
  | q + 1, w1, w2, M, h => by
    rw [lg_X11_readNumber_4.eq_2] at h
    refine zx_E.go 3 (s' := (9, [some (.inr (some (25, 0, 0, 0))), some (.inl w1), some (.inl w2)], [.inl (-1), .inl (M (25, 0, 0, 0) 7)], (zx_lay M, n))) rfl ?_
    refine zx_E.brh (c := (M (25, 0, 0, 0) 7) = (-1)) (s1 := (12, [some (.inr (some (25, 0, 0, 0))), some (.inl w1), some (.inl w2)], [], (zx_lay M, n))) (s2 := (68, [some (.inr (some (25, 0, 0, 0))), some (.inl w1), some (.inl w2)], [], (zx_lay M, n))) h (zx_ic_ne rfl) (fun _ h => ?_) (fun _ h => ?_)
    · refine zx_E.go 1 (s' := (13, [some (.inr (some (25, 0, 0, 0))), some (.inl w1), some (.inl w2)], [.inr (some (25, 0, 0, 0))], (zx_lay M, n))) rfl ?_
      refine zx_E.cb (y := 152) (as := [.inr (some (25, 0, 0, 0))]) (rest := []) h rfl (fun _ hv => zx_run_up (by omega) (r_X11_sign (d := d) hv)) (fun v1 h => ?_)
      show zx_E _ _ _ (16, [some (.inr (some (25, 0, 0, 0))), some (.inl w1), some (.inl w2)], [.inl v1], (zx_lay M, n)) _
      refine zx_E.go 2 (s' := (20, [some (.inr (some (25, 0, 0, 0))), some (.inl w1), some (.inl w2)], [.inl 57, .inl 48, .inl v1], (zx_lay M, n))) rfl ?_
      refine zx_E.cb (y := 121) (as := [.inl v1, .inl 48, .inl 57]) (rest := []) h rfl (fun _ hv => zx_run_up (by omega) (r_X11_isIn (d := d) hv)) (fun v2 h => ?_)
      show zx_E _ _ _ (23, [some (.inr (some (25, 0, 0, 0))), some (.inl w1), some (.inl w2)], [.inl v2], (zx_lay M, n)) _
      refine zx_E.brh (c := v2 = 0) (s1 := (68, [some (.inr (some (25, 0, 0, 0))), some (.inl w1), some (.inl w2)], [], (zx_lay M, n))) (s2 := (26, [some (.inr (some (25, 0, 0, 0))), some (.inl w1), some (.inl w2)], [], (zx_lay M, n))) h (zx_if_eq rfl) (fun _ h => ?_) (fun _ h => ?_)
      · exact hk _ _ _ h
      · refine zx_E.go 2 (s' := (28, [some (.inr (some (25, 0, 0, 0))), some (.inl w1), some (.inl w2)], [.inl 4, .inl w2], (zx_lay M, n))) rfl ?_
        refine zx_E.brh (c := (4 : Int32) ≤ w2) (s1 := (68, [some (.inr (some (25, 0, 0, 0))), some (.inl w1), some (.inl w2)], [], (zx_lay M, n))) (s2 := (31, [some (.inr (some (25, 0, 0, 0))), some (.inl w1), some (.inl w2)], [], (zx_lay M, n))) h (zx_ic_ge rfl) (fun _ h => ?_) (fun _ h => ?_)
        · exact hk _ _ _ h
        · refine zx_E.go 1 (s' := (32, [some (.inr (some (25, 0, 0, 0))), some (.inl w1), some (.inl w2)], [.inl w2], (zx_lay M, n))) rfl ?_
          refine zx_E.brh (c := w2 = 0) (s1 := (39, [some (.inr (some (25, 0, 0, 0))), some (.inl w1), some (.inl w2)], [], (zx_lay M, n))) (s2 := (35, [some (.inr (some (25, 0, 0, 0))), some (.inl w1), some (.inl w2)], [], (zx_lay M, n))) h (zx_if_eq rfl) (fun _ h => ?_) (fun _ h => ?_)
          · refine zx_E.go 4 (s' := (44, [some (.inr (some (25, 0, 0, 0))), some (.inl w1), some (.inl w2)], [.inr (some (25, 0, 0, 0)), .inl (10 * w1)], (zx_lay M, n))) rfl ?_
            refine zx_E.cb (y := 152) (as := [.inr (some (25, 0, 0, 0))]) (rest := [.inl (10 * w1)]) h rfl (fun _ hv => zx_run_up (by omega) (r_X11_sign (d := d) hv)) (fun v3 h => ?_)
            show zx_E _ _ _ (47, [some (.inr (some (25, 0, 0, 0))), some (.inl w1), some (.inl w2)], [.inl v3, .inl (10 * w1)], (zx_lay M, n)) _
            refine zx_E.go 9 (s' := (61, [some (.inr (some (25, 0, 0, 0))), some (.inl (((10 * w1) + v3) - 48)), some (.inl (w2 + 1))], [.inl 1, .inl (M (25, 0, 0, 0) 6), .inr (some (25, 0, 0, 0))], (zx_lay M, n))) rfl ?_
            refine zx_E.go 1 (s' := (62, [some (.inr (some (25, 0, 0, 0))), some (.inl (((10 * w1) + v3) - 48)), some (.inl (w2 + 1))], [.inl ((M (25, 0, 0, 0) 6) + 1), .inr (some (25, 0, 0, 0))], (zx_lay M, n))) rfl ?_
            refine zx_E.pu h rfl rfl (fun h => absurd h (by decide)) (fun M1 h => ?_)
            show zx_E _ _ _ (65, [some (.inr (some (25, 0, 0, 0))), some (.inl (((10 * w1) + v3) - 48)), some (.inl (w2 + 1))], [], (zx_lay M1, n)) _
            refine zx_E.go 1 (s' := (4, [some (.inr (some (25, 0, 0, 0))), some (.inl (((10 * w1) + v3) - 48)), some (.inl (w2 + 1))], [], (zx_lay M1, n))) rfl ?_
            exact rl_X11_readNumber_4 hk q (((10 * w1) + v3) - 48) (w2 + 1) M1 h
          · refine zx_E.go 1 (s' := (36, [some (.inr (some (25, 0, 0, 0))), some (.inl w1), some (.inl w2)], [.inl w1], (zx_lay M, n))) rfl ?_
            refine zx_E.brh (c := w1 ≤ 0) (s1 := (68, [some (.inr (some (25, 0, 0, 0))), some (.inl w1), some (.inl w2)], [], (zx_lay M, n))) (s2 := (39, [some (.inr (some (25, 0, 0, 0))), some (.inl w1), some (.inl w2)], [], (zx_lay M, n))) h (zx_if_le rfl) (fun _ h => ?_) (fun _ h => ?_)
            · exact hk _ _ _ h
            · refine zx_E.go 4 (s' := (44, [some (.inr (some (25, 0, 0, 0))), some (.inl w1), some (.inl w2)], [.inr (some (25, 0, 0, 0)), .inl (10 * w1)], (zx_lay M, n))) rfl ?_
              refine zx_E.cb (y := 152) (as := [.inr (some (25, 0, 0, 0))]) (rest := [.inl (10 * w1)]) h rfl (fun _ hv => zx_run_up (by omega) (r_X11_sign (d := d) hv)) (fun v4 h => ?_)
              show zx_E _ _ _ (47, [some (.inr (some (25, 0, 0, 0))), some (.inl w1), some (.inl w2)], [.inl v4, .inl (10 * w1)], (zx_lay M, n)) _
              refine zx_E.go 9 (s' := (61, [some (.inr (some (25, 0, 0, 0))), some (.inl (((10 * w1) + v4) - 48)), some (.inl (w2 + 1))], [.inl 1, .inl (M (25, 0, 0, 0) 6), .inr (some (25, 0, 0, 0))], (zx_lay M, n))) rfl ?_
              refine zx_E.go 1 (s' := (62, [some (.inr (some (25, 0, 0, 0))), some (.inl (((10 * w1) + v4) - 48)), some (.inl (w2 + 1))], [.inl ((M (25, 0, 0, 0) 6) + 1), .inr (some (25, 0, 0, 0))], (zx_lay M, n))) rfl ?_
              refine zx_E.pu h rfl rfl (fun h => absurd h (by decide)) (fun M2 h => ?_)
              show zx_E _ _ _ (65, [some (.inr (some (25, 0, 0, 0))), some (.inl (((10 * w1) + v4) - 48)), some (.inl (w2 + 1))], [], (zx_lay M2, n)) _
              refine zx_E.go 1 (s' := (4, [some (.inr (some (25, 0, 0, 0))), some (.inl (((10 * w1) + v4) - 48)), some (.inl (w2 + 1))], [], (zx_lay M2, n))) rfl ?_
              exact rl_X11_readNumber_4 hk q (((10 * w1) + v4) - 48) (w2 + 1) M2 h
    · exact hk _ _ _ h
def g_X11_keepNumber (M : zx_Y) (x0 : Int32) : Option zx_Y := (zi (M (25, 0, 0, 0) 11) 8 fun k1 => (zl (zx_up M (30, 0, 0, 0) k1 x0) fun M1 => (zl (zx_up M1 (25, 0, 0, 0) 11 ((M1 (25, 0, 0, 0) 11) + 1)) fun M2 => (some M2))))
set_option maxRecDepth 100000 in
set_option maxHeartbeats 4000000 in
theorem r_X11_keepNumber {X : zx_X} {d n : Nat} {M : zx_Y} {x0 : Int32} {rM : zx_Y} (h : g_X11_keepNumber M x0 = some rM) : zx_run X (d + 1) 156 [.inr (some (25, 0, 0, 0)), .inl x0] (zx_lay M, n) (none, (zx_lay rM, n)) := by
  refine zx_run_of zc_X11_keepNumber [some (.inr (some (25, 0, 0, 0))), some (.inl x0)] rfl rfl ?_
  unfold g_X11_keepNumber at h
  refine zx_E.go 5 (s' := (9, [some (.inr (some (25, 0, 0, 0))), some (.inl x0)], [.inl x0, .inl (M (25, 0, 0, 0) 11), .inr (some (30, 0, 0, 0))], (zx_lay M, n))) rfl ?_
  refine zx_E.ix h (fun k1 hx_k1 hl_k1 h => ?_)
  refine zx_E.ia h rfl rfl hx_k1 hl_k1 (fun M1 h => ?_)
  show zx_E _ _ _ (10, [some (.inr (some (25, 0, 0, 0))), some (.inl x0)], [], (zx_lay M1, n)) _
  refine zx_E.go 4 (s' := (16, [some (.inr (some (25, 0, 0, 0))), some (.inl x0)], [.inl 1, .inl (M1 (25, 0, 0, 0) 11), .inr (some (25, 0, 0, 0))], (zx_lay M1, n))) rfl ?_
  refine zx_E.go 1 (s' := (17, [some (.inr (some (25, 0, 0, 0))), some (.inl x0)], [.inl ((M1 (25, 0, 0, 0) 11) + 1), .inr (some (25, 0, 0, 0))], (zx_lay M1, n))) rfl ?_
  refine zx_E.pu h rfl rfl (fun h => absurd h (by decide)) (fun M2 h => ?_)
  show zx_E _ _ _ (20, [some (.inr (some (25, 0, 0, 0))), some (.inl x0)], [], (zx_lay M2, n)) _
  exact zx_E.r0 h rfl
def g_X11_readNumber (M : zx_Y) : Option zx_Y := (lg_X11_readNumber_4 (fun v1 v2 M1 => (if v2 = 0 then (zm (g_X11_faultHere M1) fun M2 => (zm (g_X11_keepNumber M2 v1) fun M3 => (some M3))) else (zm (g_X11_keepNumber M1 v1) fun M4 => (some M4)))) 1000 0 0 M)
set_option maxRecDepth 100000 in
set_option maxHeartbeats 4000000 in
theorem r_X11_readNumber {X : zx_X} {d n : Nat} {M : zx_Y} {rM : zx_Y} (h : g_X11_readNumber M = some rM) : zx_run X (d + 2) 158 [.inr (some (25, 0, 0, 0))] (zx_lay M, n) (none, (zx_lay rM, n)) := by
  refine zx_run_of zc_X11_readNumber [some (.inr (some (25, 0, 0, 0))), none, none] rfl rfl ?_
  unfold g_X11_readNumber at h
  refine zx_E.go 4 (s' := (4, [some (.inr (some (25, 0, 0, 0))), some (.inl 0), some (.inl 0)], [], (zx_lay M, n))) rfl ?_
  refine rl_X11_readNumber_4 (fun v1 v2 M1 h => ?_) 1000  0 0 M h
  refine zx_E.go 1 (s' := (69, [some (.inr (some (25, 0, 0, 0))), some (.inl v1), some (.inl v2)], [.inl v2], (zx_lay M1, n))) rfl ?_
  refine zx_E.brh (c := v2 = 0) (s1 := (72, [some (.inr (some (25, 0, 0, 0))), some (.inl v1), some (.inl v2)], [], (zx_lay M1, n))) (s2 := (76, [some (.inr (some (25, 0, 0, 0))), some (.inl v1), some (.inl v2)], [], (zx_lay M1, n))) h (zx_if_ne rfl) (fun _ h => ?_) (fun _ h => ?_)
  · refine zx_E.go 1 (s' := (73, [some (.inr (some (25, 0, 0, 0))), some (.inl v1), some (.inl v2)], [.inr (some (25, 0, 0, 0))], (zx_lay M1, n))) rfl ?_
    refine zx_E.cm (y := 153) (as := [.inr (some (25, 0, 0, 0))]) (rest := []) h rfl (fun _ hv => zx_run_up (by omega) (r_X11_faultHere (d := d) hv)) (fun M2 h => ?_)
    show zx_E _ _ _ (76, [some (.inr (some (25, 0, 0, 0))), some (.inl v1), some (.inl v2)], [], (zx_lay M2, n)) _
    refine zx_E.go 2 (s' := (78, [some (.inr (some (25, 0, 0, 0))), some (.inl v1), some (.inl v2)], [.inl v1, .inr (some (25, 0, 0, 0))], (zx_lay M2, n))) rfl ?_
    refine zx_E.cm (y := 156) (as := [.inr (some (25, 0, 0, 0)), .inl v1]) (rest := []) h rfl (fun _ hv => zx_run_up (by omega) (r_X11_keepNumber (d := d) hv)) (fun M3 h => ?_)
    show zx_E _ _ _ (81, [some (.inr (some (25, 0, 0, 0))), some (.inl v1), some (.inl v2)], [], (zx_lay M3, n)) _
    exact zx_E.r0 h rfl
  · refine zx_E.go 2 (s' := (78, [some (.inr (some (25, 0, 0, 0))), some (.inl v1), some (.inl v2)], [.inl v1, .inr (some (25, 0, 0, 0))], (zx_lay M1, n))) rfl ?_
    refine zx_E.cm (y := 156) (as := [.inr (some (25, 0, 0, 0)), .inl v1]) (rest := []) h rfl (fun _ hv => zx_run_up (by omega) (r_X11_keepNumber (d := d) hv)) (fun M4 h => ?_)
    show zx_E _ _ _ (81, [some (.inr (some (25, 0, 0, 0))), some (.inl v1), some (.inl v2)], [], (zx_lay M4, n)) _
    exact zx_E.r0 h rfl
def g_X11_digit (M : zx_Y) (x0 : Int32) : Option zx_Y := (zb (g_X11_sign M) fun v1 => (if (M (25, 0, 0, 0) 7) = (-1) then (zb (g_X11_sign M) fun v2 => (zb (g_X11_isIn M v2 48 x0) fun v3 => (if v3 = 0 then (zm (g_X11_faultHere M) fun M1 => (zm (g_X11_keepNumber M1 (v1 - 48)) fun M2 => (some M2))) else (zl (zx_up M (25, 0, 0, 0) 6 ((M (25, 0, 0, 0) 6) + 1)) fun M3 => (zm (g_X11_keepNumber M3 (v1 - 48)) fun M4 => (some M4)))))) else (zm (g_X11_faultHere M) fun M5 => (zm (g_X11_keepNumber M5 (v1 - 48)) fun M6 => (some M6)))))
set_option maxRecDepth 100000 in
set_option maxHeartbeats 4000000 in
theorem r_X11_digit {X : zx_X} {d n : Nat} {M : zx_Y} {x0 : Int32} {rM : zx_Y} (h : g_X11_digit M x0 = some rM) : zx_run X (d + 2) 157 [.inr (some (25, 0, 0, 0)), .inl x0] (zx_lay M, n) (none, (zx_lay rM, n)) := by
  refine zx_run_of zc_X11_digit [some (.inr (some (25, 0, 0, 0))), some (.inl x0), none] rfl rfl ?_
  unfold g_X11_digit at h
  refine zx_E.go 1 (s' := (1, [some (.inr (some (25, 0, 0, 0))), some (.inl x0), none], [.inr (some (25, 0, 0, 0))], (zx_lay M, n))) rfl ?_
  refine zx_E.cb (y := 152) (as := [.inr (some (25, 0, 0, 0))]) (rest := []) h rfl (fun _ hv => zx_run_up (by omega) (r_X11_sign (d := d) hv)) (fun v1 h => ?_)
  show zx_E _ _ _ (4, [some (.inr (some (25, 0, 0, 0))), some (.inl x0), none], [.inl v1], (zx_lay M, n)) _
  refine zx_E.go 6 (s' := (13, [some (.inr (some (25, 0, 0, 0))), some (.inl x0), some (.inl (v1 - 48))], [.inl (-1), .inl (M (25, 0, 0, 0) 7)], (zx_lay M, n))) rfl ?_
  refine zx_E.brh (c := (M (25, 0, 0, 0) 7) = (-1)) (s1 := (16, [some (.inr (some (25, 0, 0, 0))), some (.inl x0), some (.inl (v1 - 48))], [], (zx_lay M, n))) (s2 := (42, [some (.inr (some (25, 0, 0, 0))), some (.inl x0), some (.inl (v1 - 48))], [], (zx_lay M, n))) h (zx_ic_ne rfl) (fun _ h => ?_) (fun _ h => ?_)
  · refine zx_E.go 1 (s' := (17, [some (.inr (some (25, 0, 0, 0))), some (.inl x0), some (.inl (v1 - 48))], [.inr (some (25, 0, 0, 0))], (zx_lay M, n))) rfl ?_
    refine zx_E.cb (y := 152) (as := [.inr (some (25, 0, 0, 0))]) (rest := []) h rfl (fun _ hv => zx_run_up (by omega) (r_X11_sign (d := d) hv)) (fun v2 h => ?_)
    show zx_E _ _ _ (20, [some (.inr (some (25, 0, 0, 0))), some (.inl x0), some (.inl (v1 - 48))], [.inl v2], (zx_lay M, n)) _
    refine zx_E.go 2 (s' := (23, [some (.inr (some (25, 0, 0, 0))), some (.inl x0), some (.inl (v1 - 48))], [.inl x0, .inl 48, .inl v2], (zx_lay M, n))) rfl ?_
    refine zx_E.cb (y := 121) (as := [.inl v2, .inl 48, .inl x0]) (rest := []) h rfl (fun _ hv => zx_run_up (by omega) (r_X11_isIn (d := d) hv)) (fun v3 h => ?_)
    show zx_E _ _ _ (26, [some (.inr (some (25, 0, 0, 0))), some (.inl x0), some (.inl (v1 - 48))], [.inl v3], (zx_lay M, n)) _
    refine zx_E.brh (c := v3 = 0) (s1 := (42, [some (.inr (some (25, 0, 0, 0))), some (.inl x0), some (.inl (v1 - 48))], [], (zx_lay M, n))) (s2 := (29, [some (.inr (some (25, 0, 0, 0))), some (.inl x0), some (.inl (v1 - 48))], [], (zx_lay M, n))) h (zx_if_eq rfl) (fun _ h => ?_) (fun _ h => ?_)
    · refine zx_E.go 1 (s' := (43, [some (.inr (some (25, 0, 0, 0))), some (.inl x0), some (.inl (v1 - 48))], [.inr (some (25, 0, 0, 0))], (zx_lay M, n))) rfl ?_
      refine zx_E.cm (y := 153) (as := [.inr (some (25, 0, 0, 0))]) (rest := []) h rfl (fun _ hv => zx_run_up (by omega) (r_X11_faultHere (d := d) hv)) (fun M1 h => ?_)
      show zx_E _ _ _ (46, [some (.inr (some (25, 0, 0, 0))), some (.inl x0), some (.inl (v1 - 48))], [], (zx_lay M1, n)) _
      refine zx_E.go 2 (s' := (48, [some (.inr (some (25, 0, 0, 0))), some (.inl x0), some (.inl (v1 - 48))], [.inl (v1 - 48), .inr (some (25, 0, 0, 0))], (zx_lay M1, n))) rfl ?_
      refine zx_E.cm (y := 156) (as := [.inr (some (25, 0, 0, 0)), .inl (v1 - 48)]) (rest := []) h rfl (fun _ hv => zx_run_up (by omega) (r_X11_keepNumber (d := d) hv)) (fun M2 h => ?_)
      show zx_E _ _ _ (51, [some (.inr (some (25, 0, 0, 0))), some (.inl x0), some (.inl (v1 - 48))], [], (zx_lay M2, n)) _
      exact zx_E.r0 h rfl
    · refine zx_E.go 4 (s' := (35, [some (.inr (some (25, 0, 0, 0))), some (.inl x0), some (.inl (v1 - 48))], [.inl 1, .inl (M (25, 0, 0, 0) 6), .inr (some (25, 0, 0, 0))], (zx_lay M, n))) rfl ?_
      refine zx_E.go 1 (s' := (36, [some (.inr (some (25, 0, 0, 0))), some (.inl x0), some (.inl (v1 - 48))], [.inl ((M (25, 0, 0, 0) 6) + 1), .inr (some (25, 0, 0, 0))], (zx_lay M, n))) rfl ?_
      refine zx_E.pu h rfl rfl (fun h => absurd h (by decide)) (fun M3 h => ?_)
      show zx_E _ _ _ (39, [some (.inr (some (25, 0, 0, 0))), some (.inl x0), some (.inl (v1 - 48))], [], (zx_lay M3, n)) _
      refine zx_E.go 3 (s' := (48, [some (.inr (some (25, 0, 0, 0))), some (.inl x0), some (.inl (v1 - 48))], [.inl (v1 - 48), .inr (some (25, 0, 0, 0))], (zx_lay M3, n))) rfl ?_
      refine zx_E.cm (y := 156) (as := [.inr (some (25, 0, 0, 0)), .inl (v1 - 48)]) (rest := []) h rfl (fun _ hv => zx_run_up (by omega) (r_X11_keepNumber (d := d) hv)) (fun M4 h => ?_)
      show zx_E _ _ _ (51, [some (.inr (some (25, 0, 0, 0))), some (.inl x0), some (.inl (v1 - 48))], [], (zx_lay M4, n)) _
      exact zx_E.r0 h rfl
  · refine zx_E.go 1 (s' := (43, [some (.inr (some (25, 0, 0, 0))), some (.inl x0), some (.inl (v1 - 48))], [.inr (some (25, 0, 0, 0))], (zx_lay M, n))) rfl ?_
    refine zx_E.cm (y := 153) (as := [.inr (some (25, 0, 0, 0))]) (rest := []) h rfl (fun _ hv => zx_run_up (by omega) (r_X11_faultHere (d := d) hv)) (fun M5 h => ?_)
    show zx_E _ _ _ (46, [some (.inr (some (25, 0, 0, 0))), some (.inl x0), some (.inl (v1 - 48))], [], (zx_lay M5, n)) _
    refine zx_E.go 2 (s' := (48, [some (.inr (some (25, 0, 0, 0))), some (.inl x0), some (.inl (v1 - 48))], [.inl (v1 - 48), .inr (some (25, 0, 0, 0))], (zx_lay M5, n))) rfl ?_
    refine zx_E.cm (y := 156) (as := [.inr (some (25, 0, 0, 0)), .inl (v1 - 48)]) (rest := []) h rfl (fun _ hv => zx_run_up (by omega) (r_X11_keepNumber (d := d) hv)) (fun M6 h => ?_)
    show zx_E _ _ _ (51, [some (.inr (some (25, 0, 0, 0))), some (.inl x0), some (.inl (v1 - 48))], [], (zx_lay M6, n)) _
    exact zx_E.r0 h rfl
def g_X11_must (M : zx_Y) (x0 : Int32) : Option zx_Y := (zv (g_X11_goes M x0) fun v1 M1 => (if v1 = 0 then (zm (g_X11_faultHere M1) fun M2 => (some M2)) else (some M1)))
set_option maxRecDepth 100000 in
set_option maxHeartbeats 4000000 in
theorem r_X11_must {X : zx_X} {d n : Nat} {M : zx_Y} {x0 : Int32} {rM : zx_Y} (h : g_X11_must M x0 = some rM) : zx_run X (d + 3) 155 [.inr (some (25, 0, 0, 0)), .inl x0] (zx_lay M, n) (none, (zx_lay rM, n)) := by
  refine zx_run_of zc_X11_must [some (.inr (some (25, 0, 0, 0))), some (.inl x0)] rfl rfl ?_
  unfold g_X11_must at h
  refine zx_E.go 2 (s' := (2, [some (.inr (some (25, 0, 0, 0))), some (.inl x0)], [.inl x0, .inr (some (25, 0, 0, 0))], (zx_lay M, n))) rfl ?_
  refine zx_E.cv (y := 154) (as := [.inr (some (25, 0, 0, 0)), .inl x0]) (rest := []) h rfl (fun _ _ hv => zx_run_up (by omega) (r_X11_goes (d := d) hv)) (fun v1 M1 h => ?_)
  show zx_E _ _ _ (5, [some (.inr (some (25, 0, 0, 0))), some (.inl x0)], [.inl v1], (zx_lay M1, n)) _
  refine zx_E.brh (c := v1 = 0) (s1 := (8, [some (.inr (some (25, 0, 0, 0))), some (.inl x0)], [], (zx_lay M1, n))) (s2 := (12, [some (.inr (some (25, 0, 0, 0))), some (.inl x0)], [], (zx_lay M1, n))) h (zx_if_ne rfl) (fun _ h => ?_) (fun _ h => ?_)
  · refine zx_E.go 1 (s' := (9, [some (.inr (some (25, 0, 0, 0))), some (.inl x0)], [.inr (some (25, 0, 0, 0))], (zx_lay M1, n))) rfl ?_
    refine zx_E.cm (y := 153) (as := [.inr (some (25, 0, 0, 0))]) (rest := []) h rfl (fun _ hv => zx_run_up (by omega) (r_X11_faultHere (d := d) hv)) (fun M2 h => ?_)
    show zx_E _ _ _ (12, [some (.inr (some (25, 0, 0, 0))), some (.inl x0)], [], (zx_lay M2, n)) _
    exact zx_E.r0 h rfl
  · exact zx_E.r0 h rfl
def g_X11_readRest (M : zx_Y) : Option zx_Y := (zv (g_X11_goes M 43) fun v1 M1 => (if v1 = 0 then (zm (g_X11_keepNumber M1 0) fun M2 => (zv (g_X11_goes M2 104) fun v2 M3 => (if v2 = 0 then (zm (g_X11_keepNumber M3 480) fun M4 => (some M4)) else (zm (g_X11_readNumber M3) fun M5 => (some M5))))) else (zm (g_X11_digit M1 57) fun M6 => (zv (g_X11_goes M6 104) fun v3 M7 => (if v3 = 0 then (zm (g_X11_keepNumber M7 480) fun M8 => (some M8)) else (zm (g_X11_readNumber M7) fun M9 => (some M9)))))))
set_option maxRecDepth 100000 in
set_option maxHeartbeats 4000000 in
theorem r_X11_readRest {X : zx_X} {d n : Nat} {M : zx_Y} {rM : zx_Y} (h : g_X11_readRest M = some rM) : zx_run X (d + 3) 160 [.inr (some (25, 0, 0, 0))] (zx_lay M, n) (none, (zx_lay rM, n)) := by
  refine zx_run_of zc_X11_readRest [some (.inr (some (25, 0, 0, 0)))] rfl rfl ?_
  unfold g_X11_readRest at h
  refine zx_E.go 2 (s' := (3, [some (.inr (some (25, 0, 0, 0)))], [.inl 43, .inr (some (25, 0, 0, 0))], (zx_lay M, n))) rfl ?_
  refine zx_E.cv (y := 154) (as := [.inr (some (25, 0, 0, 0)), .inl 43]) (rest := []) h rfl (fun _ _ hv => zx_run_up (by omega) (r_X11_goes (d := d) hv)) (fun v1 M1 h => ?_)
  show zx_E _ _ _ (6, [some (.inr (some (25, 0, 0, 0)))], [.inl v1], (zx_lay M1, n)) _
  refine zx_E.brh (c := v1 = 0) (s1 := (18, [some (.inr (some (25, 0, 0, 0)))], [], (zx_lay M1, n))) (s2 := (9, [some (.inr (some (25, 0, 0, 0)))], [], (zx_lay M1, n))) h (zx_if_eq rfl) (fun _ h => ?_) (fun _ h => ?_)
  · refine zx_E.go 2 (s' := (20, [some (.inr (some (25, 0, 0, 0)))], [.inl 0, .inr (some (25, 0, 0, 0))], (zx_lay M1, n))) rfl ?_
    refine zx_E.cm (y := 156) (as := [.inr (some (25, 0, 0, 0)), .inl 0]) (rest := []) h rfl (fun _ hv => zx_run_up (by omega) (r_X11_keepNumber (d := d) hv)) (fun M2 h => ?_)
    show zx_E _ _ _ (23, [some (.inr (some (25, 0, 0, 0)))], [], (zx_lay M2, n)) _
    refine zx_E.go 2 (s' := (26, [some (.inr (some (25, 0, 0, 0)))], [.inl 104, .inr (some (25, 0, 0, 0))], (zx_lay M2, n))) rfl ?_
    refine zx_E.cv (y := 154) (as := [.inr (some (25, 0, 0, 0)), .inl 104]) (rest := []) h rfl (fun _ _ hv => zx_run_up (by omega) (r_X11_goes (d := d) hv)) (fun v2 M3 h => ?_)
    show zx_E _ _ _ (29, [some (.inr (some (25, 0, 0, 0)))], [.inl v2], (zx_lay M3, n)) _
    refine zx_E.brh (c := v2 = 0) (s1 := (39, [some (.inr (some (25, 0, 0, 0)))], [], (zx_lay M3, n))) (s2 := (32, [some (.inr (some (25, 0, 0, 0)))], [], (zx_lay M3, n))) h (zx_if_eq rfl) (fun _ h => ?_) (fun _ h => ?_)
    · refine zx_E.go 2 (s' := (43, [some (.inr (some (25, 0, 0, 0)))], [.inl 480, .inr (some (25, 0, 0, 0))], (zx_lay M3, n))) rfl ?_
      refine zx_E.cm (y := 156) (as := [.inr (some (25, 0, 0, 0)), .inl 480]) (rest := []) h rfl (fun _ hv => zx_run_up (by omega) (r_X11_keepNumber (d := d) hv)) (fun M4 h => ?_)
      show zx_E _ _ _ (46, [some (.inr (some (25, 0, 0, 0)))], [], (zx_lay M4, n)) _
      exact zx_E.r0 h rfl
    · refine zx_E.go 1 (s' := (33, [some (.inr (some (25, 0, 0, 0)))], [.inr (some (25, 0, 0, 0))], (zx_lay M3, n))) rfl ?_
      refine zx_E.cm (y := 158) (as := [.inr (some (25, 0, 0, 0))]) (rest := []) h rfl (fun _ hv => zx_run_up (by omega) (r_X11_readNumber (d := d) hv)) (fun M5 h => ?_)
      show zx_E _ _ _ (36, [some (.inr (some (25, 0, 0, 0)))], [], (zx_lay M5, n)) _
      refine zx_E.go 1 (s' := (46, [some (.inr (some (25, 0, 0, 0)))], [], (zx_lay M5, n))) rfl ?_
      exact zx_E.r0 h rfl
  · refine zx_E.go 2 (s' := (12, [some (.inr (some (25, 0, 0, 0)))], [.inl 57, .inr (some (25, 0, 0, 0))], (zx_lay M1, n))) rfl ?_
    refine zx_E.cm (y := 157) (as := [.inr (some (25, 0, 0, 0)), .inl 57]) (rest := []) h rfl (fun _ hv => zx_run_up (by omega) (r_X11_digit (d := d) hv)) (fun M6 h => ?_)
    show zx_E _ _ _ (15, [some (.inr (some (25, 0, 0, 0)))], [], (zx_lay M6, n)) _
    refine zx_E.go 3 (s' := (26, [some (.inr (some (25, 0, 0, 0)))], [.inl 104, .inr (some (25, 0, 0, 0))], (zx_lay M6, n))) rfl ?_
    refine zx_E.cv (y := 154) (as := [.inr (some (25, 0, 0, 0)), .inl 104]) (rest := []) h rfl (fun _ _ hv => zx_run_up (by omega) (r_X11_goes (d := d) hv)) (fun v3 M7 h => ?_)
    show zx_E _ _ _ (29, [some (.inr (some (25, 0, 0, 0)))], [.inl v3], (zx_lay M7, n)) _
    refine zx_E.brh (c := v3 = 0) (s1 := (39, [some (.inr (some (25, 0, 0, 0)))], [], (zx_lay M7, n))) (s2 := (32, [some (.inr (some (25, 0, 0, 0)))], [], (zx_lay M7, n))) h (zx_if_eq rfl) (fun _ h => ?_) (fun _ h => ?_)
    · refine zx_E.go 2 (s' := (43, [some (.inr (some (25, 0, 0, 0)))], [.inl 480, .inr (some (25, 0, 0, 0))], (zx_lay M7, n))) rfl ?_
      refine zx_E.cm (y := 156) (as := [.inr (some (25, 0, 0, 0)), .inl 480]) (rest := []) h rfl (fun _ hv => zx_run_up (by omega) (r_X11_keepNumber (d := d) hv)) (fun M8 h => ?_)
      show zx_E _ _ _ (46, [some (.inr (some (25, 0, 0, 0)))], [], (zx_lay M8, n)) _
      exact zx_E.r0 h rfl
    · refine zx_E.go 1 (s' := (33, [some (.inr (some (25, 0, 0, 0)))], [.inr (some (25, 0, 0, 0))], (zx_lay M7, n))) rfl ?_
      refine zx_E.cm (y := 158) (as := [.inr (some (25, 0, 0, 0))]) (rest := []) h rfl (fun _ hv => zx_run_up (by omega) (r_X11_readNumber (d := d) hv)) (fun M9 h => ?_)
      show zx_E _ _ _ (36, [some (.inr (some (25, 0, 0, 0)))], [], (zx_lay M9, n)) _
      refine zx_E.go 1 (s' := (46, [some (.inr (some (25, 0, 0, 0)))], [], (zx_lay M9, n))) rfl ?_
      exact zx_E.r0 h rfl
def lg_X11_readCommand_26 (kk : zx_Y → Option zx_Y) : Nat → zx_Y → Option zx_Y
  | 0, _ => none
  | q + 1, M => (if (7 : Int32) ≤ (M (25, 0, 0, 0) 11) then (kk M) else (zv (g_X11_goes M 44) fun v1 M1 => (if v1 = 0 then (kk M1) else (zm (g_X11_readNumber M1) fun M2 => (lg_X11_readCommand_26 kk q M2)))))
set_option maxRecDepth 100000 in
set_option maxHeartbeats 4000000 in
theorem rl_X11_readCommand_26 {X : zx_X} {d n : Nat} {kk : zx_Y → Option zx_Y} {rM : zx_Y} (hk : ∀ (M : zx_Y), kk M = some rM → zx_E X (d + 3) zc_X11_readCommand (223, [some (.inr (some (25, 0, 0, 0)))], [], (zx_lay M, n)) (none, (zx_lay rM, n))) : ∀ (q : Nat) (M : zx_Y), lg_X11_readCommand_26 kk q M = some rM → zx_E X (d + 3) zc_X11_readCommand (26, [some (.inr (some (25, 0, 0, 0)))], [], (zx_lay M, n)) (none, (zx_lay rM, n))
  | 0, M, h => by
    rw [lg_X11_readCommand_26.eq_1] at h
    cases h
  | q + 1, M, h => by
    rw [lg_X11_readCommand_26.eq_2] at h
    refine zx_E.go 3 (s' := (32, [some (.inr (some (25, 0, 0, 0)))], [.inl 7, .inl (M (25, 0, 0, 0) 11)], (zx_lay M, n))) rfl ?_
    refine zx_E.brh (c := (7 : Int32) ≤ (M (25, 0, 0, 0) 11)) (s1 := (223, [some (.inr (some (25, 0, 0, 0)))], [], (zx_lay M, n))) (s2 := (35, [some (.inr (some (25, 0, 0, 0)))], [], (zx_lay M, n))) h (zx_ic_ge rfl) (fun _ h => ?_) (fun _ h => ?_)
    · exact hk _ h
    · refine zx_E.go 2 (s' := (38, [some (.inr (some (25, 0, 0, 0)))], [.inl 44, .inr (some (25, 0, 0, 0))], (zx_lay M, n))) rfl ?_
      refine zx_E.cv (y := 154) (as := [.inr (some (25, 0, 0, 0)), .inl 44]) (rest := []) h rfl (fun _ _ hv => zx_run_up (by omega) (r_X11_goes (d := d) hv)) (fun v1 M1 h => ?_)
      show zx_E _ _ _ (41, [some (.inr (some (25, 0, 0, 0)))], [.inl v1], (zx_lay M1, n)) _
      refine zx_E.brh (c := v1 = 0) (s1 := (223, [some (.inr (some (25, 0, 0, 0)))], [], (zx_lay M1, n))) (s2 := (44, [some (.inr (some (25, 0, 0, 0)))], [], (zx_lay M1, n))) h (zx_if_eq rfl) (fun _ h => ?_) (fun _ h => ?_)
      · exact hk _ h
      · refine zx_E.go 1 (s' := (45, [some (.inr (some (25, 0, 0, 0)))], [.inr (some (25, 0, 0, 0))], (zx_lay M1, n))) rfl ?_
        refine zx_E.cm (y := 158) (as := [.inr (some (25, 0, 0, 0))]) (rest := []) h rfl (fun _ hv => zx_run_up (by omega) (r_X11_readNumber (d := d) hv)) (fun M2 h => ?_)
        show zx_E _ _ _ (48, [some (.inr (some (25, 0, 0, 0)))], [], (zx_lay M2, n)) _
        refine zx_E.go 1 (s' := (26, [some (.inr (some (25, 0, 0, 0)))], [], (zx_lay M2, n))) rfl ?_
        exact rl_X11_readCommand_26 hk q M2 h
def g_X11_readCommand (M : zx_Y) : Option zx_Y := (zb (g_X11_sign M) fun v1 => (zl (zx_up M (25, 0, 0, 0) 15 v1) fun M1 => (zl (zx_up M1 (25, 0, 0, 0) 11 0) fun M2 => (zv (g_X11_goes M2 76) fun v2 M3 => (if v2 = 0 then (zv (g_X11_goes M3 83) fun v3 M4 => (if v3 = 0 then (zv (g_X11_goes M4 84) fun v4 M5 => (if v4 = 0 then (zv (g_X11_goes M5 79) fun v5 M6 => (if v5 = 0 then (zv (g_X11_goes M6 87) fun v6 M7 => (if v6 = 0 then (zm (g_X11_faultHere M7) fun M8 => (some M8)) else (zm (g_X11_readNumber M7) fun M9 => (some M9)))) else (zm (g_X11_digit M6 55) fun M10 => (zm (g_X11_must M10 43) fun M11 => (zm (g_X11_readNumber M11) fun M12 => (zm (g_X11_must M12 64) fun M13 => (zm (g_X11_readNumber M13) fun M14 => (zm (g_X11_must M14 45) fun M15 => (zm (g_X11_readNumber M15) fun M16 => (some M16)))))))))) else (zm (g_X11_digit M5 55) fun M17 => (zm (g_X11_must M17 62) fun M18 => (zm (g_X11_digit M18 55) fun M19 => (zm (g_X11_must M19 112) fun M20 => (zm (g_X11_digit M20 57) fun M21 => (zm (g_X11_must M21 64) fun M22 => (zm (g_X11_readNumber M22) fun M23 => (zm (g_X11_readRest M23) fun M24 => (some M24))))))))))) else (zm (g_X11_digit M4 55) fun M25 => (zm (g_X11_must M25 58) fun M26 => (zm (g_X11_digit M26 57) fun M27 => (zv (g_X11_goes M27 114) fun v7 M28 => (if v7 = 0 then (zm (g_X11_keepNumber M28 0) fun M29 => (some M29)) else (zm (g_X11_keepNumber M28 1) fun M30 => (some M30))))))))) else (zm (g_X11_readNumber M3) fun M31 => (lg_X11_readCommand_26 (fun M32 => (some M32)) 1000 M31)))))))
set_option maxRecDepth 100000 in
set_option maxHeartbeats 4000000 in
theorem r_X11_readCommand {X : zx_X} {d n : Nat} {M : zx_Y} {rM : zx_Y} (h : g_X11_readCommand M = some rM) : zx_run X (d + 4) 159 [.inr (some (25, 0, 0, 0))] (zx_lay M, n) (none, (zx_lay rM, n)) := by
  refine zx_run_of zc_X11_readCommand [some (.inr (some (25, 0, 0, 0)))] rfl rfl ?_
  unfold g_X11_readCommand at h
  refine zx_E.go 2 (s' := (2, [some (.inr (some (25, 0, 0, 0)))], [.inr (some (25, 0, 0, 0)), .inr (some (25, 0, 0, 0))], (zx_lay M, n))) rfl ?_
  refine zx_E.cb (y := 152) (as := [.inr (some (25, 0, 0, 0))]) (rest := [.inr (some (25, 0, 0, 0))]) h rfl (fun _ hv => zx_run_up (by omega) (r_X11_sign (d := d) hv)) (fun v1 h => ?_)
  show zx_E _ _ _ (5, [some (.inr (some (25, 0, 0, 0)))], [.inl v1, .inr (some (25, 0, 0, 0))], (zx_lay M, n)) _
  refine zx_E.pu h rfl rfl (fun h => absurd h (by decide)) (fun M1 h => ?_)
  show zx_E _ _ _ (8, [some (.inr (some (25, 0, 0, 0)))], [], (zx_lay M1, n)) _
  refine zx_E.go 2 (s' := (10, [some (.inr (some (25, 0, 0, 0)))], [.inl 0, .inr (some (25, 0, 0, 0))], (zx_lay M1, n))) rfl ?_
  refine zx_E.pu h rfl rfl (fun h => absurd h (by decide)) (fun M2 h => ?_)
  show zx_E _ _ _ (13, [some (.inr (some (25, 0, 0, 0)))], [], (zx_lay M2, n)) _
  refine zx_E.go 2 (s' := (16, [some (.inr (some (25, 0, 0, 0)))], [.inl 76, .inr (some (25, 0, 0, 0))], (zx_lay M2, n))) rfl ?_
  refine zx_E.cv (y := 154) (as := [.inr (some (25, 0, 0, 0)), .inl 76]) (rest := []) h rfl (fun _ _ hv => zx_run_up (by omega) (r_X11_goes (d := d) hv)) (fun v2 M3 h => ?_)
  show zx_E _ _ _ (19, [some (.inr (some (25, 0, 0, 0)))], [.inl v2], (zx_lay M3, n)) _
  refine zx_E.brh (c := v2 = 0) (s1 := (51, [some (.inr (some (25, 0, 0, 0)))], [], (zx_lay M3, n))) (s2 := (22, [some (.inr (some (25, 0, 0, 0)))], [], (zx_lay M3, n))) h (zx_if_eq rfl) (fun _ h => ?_) (fun _ h => ?_)
  · refine zx_E.go 2 (s' := (54, [some (.inr (some (25, 0, 0, 0)))], [.inl 83, .inr (some (25, 0, 0, 0))], (zx_lay M3, n))) rfl ?_
    refine zx_E.cv (y := 154) (as := [.inr (some (25, 0, 0, 0)), .inl 83]) (rest := []) h rfl (fun _ _ hv => zx_run_up (by omega) (r_X11_goes (d := d) hv)) (fun v3 M4 h => ?_)
    show zx_E _ _ _ (57, [some (.inr (some (25, 0, 0, 0)))], [.inl v3], (zx_lay M4, n)) _
    refine zx_E.brh (c := v3 = 0) (s1 := (99, [some (.inr (some (25, 0, 0, 0)))], [], (zx_lay M4, n))) (s2 := (60, [some (.inr (some (25, 0, 0, 0)))], [], (zx_lay M4, n))) h (zx_if_eq rfl) (fun _ h => ?_) (fun _ h => ?_)
    · refine zx_E.go 2 (s' := (102, [some (.inr (some (25, 0, 0, 0)))], [.inl 84, .inr (some (25, 0, 0, 0))], (zx_lay M4, n))) rfl ?_
      refine zx_E.cv (y := 154) (as := [.inr (some (25, 0, 0, 0)), .inl 84]) (rest := []) h rfl (fun _ _ hv => zx_run_up (by omega) (r_X11_goes (d := d) hv)) (fun v4 M5 h => ?_)
      show zx_E _ _ _ (105, [some (.inr (some (25, 0, 0, 0)))], [.inl v4], (zx_lay M5, n)) _
      refine zx_E.brh (c := v4 = 0) (s1 := (155, [some (.inr (some (25, 0, 0, 0)))], [], (zx_lay M5, n))) (s2 := (108, [some (.inr (some (25, 0, 0, 0)))], [], (zx_lay M5, n))) h (zx_if_eq rfl) (fun _ h => ?_) (fun _ h => ?_)
      · refine zx_E.go 2 (s' := (158, [some (.inr (some (25, 0, 0, 0)))], [.inl 79, .inr (some (25, 0, 0, 0))], (zx_lay M5, n))) rfl ?_
        refine zx_E.cv (y := 154) (as := [.inr (some (25, 0, 0, 0)), .inl 79]) (rest := []) h rfl (fun _ _ hv => zx_run_up (by omega) (r_X11_goes (d := d) hv)) (fun v5 M6 h => ?_)
        show zx_E _ _ _ (161, [some (.inr (some (25, 0, 0, 0)))], [.inl v5], (zx_lay M6, n)) _
        refine zx_E.brh (c := v5 = 0) (s1 := (203, [some (.inr (some (25, 0, 0, 0)))], [], (zx_lay M6, n))) (s2 := (164, [some (.inr (some (25, 0, 0, 0)))], [], (zx_lay M6, n))) h (zx_if_eq rfl) (fun _ h => ?_) (fun _ h => ?_)
        · refine zx_E.go 2 (s' := (206, [some (.inr (some (25, 0, 0, 0)))], [.inl 87, .inr (some (25, 0, 0, 0))], (zx_lay M6, n))) rfl ?_
          refine zx_E.cv (y := 154) (as := [.inr (some (25, 0, 0, 0)), .inl 87]) (rest := []) h rfl (fun _ _ hv => zx_run_up (by omega) (r_X11_goes (d := d) hv)) (fun v6 M7 h => ?_)
          show zx_E _ _ _ (209, [some (.inr (some (25, 0, 0, 0)))], [.inl v6], (zx_lay M7, n)) _
          refine zx_E.brh (c := v6 = 0) (s1 := (219, [some (.inr (some (25, 0, 0, 0)))], [], (zx_lay M7, n))) (s2 := (212, [some (.inr (some (25, 0, 0, 0)))], [], (zx_lay M7, n))) h (zx_if_eq rfl) (fun _ h => ?_) (fun _ h => ?_)
          · refine zx_E.go 1 (s' := (220, [some (.inr (some (25, 0, 0, 0)))], [.inr (some (25, 0, 0, 0))], (zx_lay M7, n))) rfl ?_
            refine zx_E.cm (y := 153) (as := [.inr (some (25, 0, 0, 0))]) (rest := []) h rfl (fun _ hv => zx_run_up (by omega) (r_X11_faultHere (d := d) hv)) (fun M8 h => ?_)
            show zx_E _ _ _ (223, [some (.inr (some (25, 0, 0, 0)))], [], (zx_lay M8, n)) _
            exact zx_E.r0 h rfl
          · refine zx_E.go 1 (s' := (213, [some (.inr (some (25, 0, 0, 0)))], [.inr (some (25, 0, 0, 0))], (zx_lay M7, n))) rfl ?_
            refine zx_E.cm (y := 158) (as := [.inr (some (25, 0, 0, 0))]) (rest := []) h rfl (fun _ hv => zx_run_up (by omega) (r_X11_readNumber (d := d) hv)) (fun M9 h => ?_)
            show zx_E _ _ _ (216, [some (.inr (some (25, 0, 0, 0)))], [], (zx_lay M9, n)) _
            refine zx_E.go 1 (s' := (223, [some (.inr (some (25, 0, 0, 0)))], [], (zx_lay M9, n))) rfl ?_
            exact zx_E.r0 h rfl
        · refine zx_E.go 2 (s' := (167, [some (.inr (some (25, 0, 0, 0)))], [.inl 55, .inr (some (25, 0, 0, 0))], (zx_lay M6, n))) rfl ?_
          refine zx_E.cm (y := 157) (as := [.inr (some (25, 0, 0, 0)), .inl 55]) (rest := []) h rfl (fun _ hv => zx_run_up (by omega) (r_X11_digit (d := d) hv)) (fun M10 h => ?_)
          show zx_E _ _ _ (170, [some (.inr (some (25, 0, 0, 0)))], [], (zx_lay M10, n)) _
          refine zx_E.go 2 (s' := (173, [some (.inr (some (25, 0, 0, 0)))], [.inl 43, .inr (some (25, 0, 0, 0))], (zx_lay M10, n))) rfl ?_
          refine zx_E.cm (y := 155) (as := [.inr (some (25, 0, 0, 0)), .inl 43]) (rest := []) h rfl (fun _ hv => zx_run_up (by omega) (r_X11_must (d := d) hv)) (fun M11 h => ?_)
          show zx_E _ _ _ (176, [some (.inr (some (25, 0, 0, 0)))], [], (zx_lay M11, n)) _
          refine zx_E.go 1 (s' := (177, [some (.inr (some (25, 0, 0, 0)))], [.inr (some (25, 0, 0, 0))], (zx_lay M11, n))) rfl ?_
          refine zx_E.cm (y := 158) (as := [.inr (some (25, 0, 0, 0))]) (rest := []) h rfl (fun _ hv => zx_run_up (by omega) (r_X11_readNumber (d := d) hv)) (fun M12 h => ?_)
          show zx_E _ _ _ (180, [some (.inr (some (25, 0, 0, 0)))], [], (zx_lay M12, n)) _
          refine zx_E.go 2 (s' := (183, [some (.inr (some (25, 0, 0, 0)))], [.inl 64, .inr (some (25, 0, 0, 0))], (zx_lay M12, n))) rfl ?_
          refine zx_E.cm (y := 155) (as := [.inr (some (25, 0, 0, 0)), .inl 64]) (rest := []) h rfl (fun _ hv => zx_run_up (by omega) (r_X11_must (d := d) hv)) (fun M13 h => ?_)
          show zx_E _ _ _ (186, [some (.inr (some (25, 0, 0, 0)))], [], (zx_lay M13, n)) _
          refine zx_E.go 1 (s' := (187, [some (.inr (some (25, 0, 0, 0)))], [.inr (some (25, 0, 0, 0))], (zx_lay M13, n))) rfl ?_
          refine zx_E.cm (y := 158) (as := [.inr (some (25, 0, 0, 0))]) (rest := []) h rfl (fun _ hv => zx_run_up (by omega) (r_X11_readNumber (d := d) hv)) (fun M14 h => ?_)
          show zx_E _ _ _ (190, [some (.inr (some (25, 0, 0, 0)))], [], (zx_lay M14, n)) _
          refine zx_E.go 2 (s' := (193, [some (.inr (some (25, 0, 0, 0)))], [.inl 45, .inr (some (25, 0, 0, 0))], (zx_lay M14, n))) rfl ?_
          refine zx_E.cm (y := 155) (as := [.inr (some (25, 0, 0, 0)), .inl 45]) (rest := []) h rfl (fun _ hv => zx_run_up (by omega) (r_X11_must (d := d) hv)) (fun M15 h => ?_)
          show zx_E _ _ _ (196, [some (.inr (some (25, 0, 0, 0)))], [], (zx_lay M15, n)) _
          refine zx_E.go 1 (s' := (197, [some (.inr (some (25, 0, 0, 0)))], [.inr (some (25, 0, 0, 0))], (zx_lay M15, n))) rfl ?_
          refine zx_E.cm (y := 158) (as := [.inr (some (25, 0, 0, 0))]) (rest := []) h rfl (fun _ hv => zx_run_up (by omega) (r_X11_readNumber (d := d) hv)) (fun M16 h => ?_)
          show zx_E _ _ _ (200, [some (.inr (some (25, 0, 0, 0)))], [], (zx_lay M16, n)) _
          refine zx_E.go 1 (s' := (223, [some (.inr (some (25, 0, 0, 0)))], [], (zx_lay M16, n))) rfl ?_
          exact zx_E.r0 h rfl
      · refine zx_E.go 2 (s' := (111, [some (.inr (some (25, 0, 0, 0)))], [.inl 55, .inr (some (25, 0, 0, 0))], (zx_lay M5, n))) rfl ?_
        refine zx_E.cm (y := 157) (as := [.inr (some (25, 0, 0, 0)), .inl 55]) (rest := []) h rfl (fun _ hv => zx_run_up (by omega) (r_X11_digit (d := d) hv)) (fun M17 h => ?_)
        show zx_E _ _ _ (114, [some (.inr (some (25, 0, 0, 0)))], [], (zx_lay M17, n)) _
        refine zx_E.go 2 (s' := (117, [some (.inr (some (25, 0, 0, 0)))], [.inl 62, .inr (some (25, 0, 0, 0))], (zx_lay M17, n))) rfl ?_
        refine zx_E.cm (y := 155) (as := [.inr (some (25, 0, 0, 0)), .inl 62]) (rest := []) h rfl (fun _ hv => zx_run_up (by omega) (r_X11_must (d := d) hv)) (fun M18 h => ?_)
        show zx_E _ _ _ (120, [some (.inr (some (25, 0, 0, 0)))], [], (zx_lay M18, n)) _
        refine zx_E.go 2 (s' := (123, [some (.inr (some (25, 0, 0, 0)))], [.inl 55, .inr (some (25, 0, 0, 0))], (zx_lay M18, n))) rfl ?_
        refine zx_E.cm (y := 157) (as := [.inr (some (25, 0, 0, 0)), .inl 55]) (rest := []) h rfl (fun _ hv => zx_run_up (by omega) (r_X11_digit (d := d) hv)) (fun M19 h => ?_)
        show zx_E _ _ _ (126, [some (.inr (some (25, 0, 0, 0)))], [], (zx_lay M19, n)) _
        refine zx_E.go 2 (s' := (129, [some (.inr (some (25, 0, 0, 0)))], [.inl 112, .inr (some (25, 0, 0, 0))], (zx_lay M19, n))) rfl ?_
        refine zx_E.cm (y := 155) (as := [.inr (some (25, 0, 0, 0)), .inl 112]) (rest := []) h rfl (fun _ hv => zx_run_up (by omega) (r_X11_must (d := d) hv)) (fun M20 h => ?_)
        show zx_E _ _ _ (132, [some (.inr (some (25, 0, 0, 0)))], [], (zx_lay M20, n)) _
        refine zx_E.go 2 (s' := (135, [some (.inr (some (25, 0, 0, 0)))], [.inl 57, .inr (some (25, 0, 0, 0))], (zx_lay M20, n))) rfl ?_
        refine zx_E.cm (y := 157) (as := [.inr (some (25, 0, 0, 0)), .inl 57]) (rest := []) h rfl (fun _ hv => zx_run_up (by omega) (r_X11_digit (d := d) hv)) (fun M21 h => ?_)
        show zx_E _ _ _ (138, [some (.inr (some (25, 0, 0, 0)))], [], (zx_lay M21, n)) _
        refine zx_E.go 2 (s' := (141, [some (.inr (some (25, 0, 0, 0)))], [.inl 64, .inr (some (25, 0, 0, 0))], (zx_lay M21, n))) rfl ?_
        refine zx_E.cm (y := 155) (as := [.inr (some (25, 0, 0, 0)), .inl 64]) (rest := []) h rfl (fun _ hv => zx_run_up (by omega) (r_X11_must (d := d) hv)) (fun M22 h => ?_)
        show zx_E _ _ _ (144, [some (.inr (some (25, 0, 0, 0)))], [], (zx_lay M22, n)) _
        refine zx_E.go 1 (s' := (145, [some (.inr (some (25, 0, 0, 0)))], [.inr (some (25, 0, 0, 0))], (zx_lay M22, n))) rfl ?_
        refine zx_E.cm (y := 158) (as := [.inr (some (25, 0, 0, 0))]) (rest := []) h rfl (fun _ hv => zx_run_up (by omega) (r_X11_readNumber (d := d) hv)) (fun M23 h => ?_)
        show zx_E _ _ _ (148, [some (.inr (some (25, 0, 0, 0)))], [], (zx_lay M23, n)) _
        refine zx_E.go 1 (s' := (149, [some (.inr (some (25, 0, 0, 0)))], [.inr (some (25, 0, 0, 0))], (zx_lay M23, n))) rfl ?_
        refine zx_E.cm (y := 160) (as := [.inr (some (25, 0, 0, 0))]) (rest := []) h rfl (fun _ hv => zx_run_up (by omega) (r_X11_readRest (d := d) hv)) (fun M24 h => ?_)
        show zx_E _ _ _ (152, [some (.inr (some (25, 0, 0, 0)))], [], (zx_lay M24, n)) _
        refine zx_E.go 1 (s' := (223, [some (.inr (some (25, 0, 0, 0)))], [], (zx_lay M24, n))) rfl ?_
        exact zx_E.r0 h rfl
    · refine zx_E.go 2 (s' := (63, [some (.inr (some (25, 0, 0, 0)))], [.inl 55, .inr (some (25, 0, 0, 0))], (zx_lay M4, n))) rfl ?_
      refine zx_E.cm (y := 157) (as := [.inr (some (25, 0, 0, 0)), .inl 55]) (rest := []) h rfl (fun _ hv => zx_run_up (by omega) (r_X11_digit (d := d) hv)) (fun M25 h => ?_)
      show zx_E _ _ _ (66, [some (.inr (some (25, 0, 0, 0)))], [], (zx_lay M25, n)) _
      refine zx_E.go 2 (s' := (69, [some (.inr (some (25, 0, 0, 0)))], [.inl 58, .inr (some (25, 0, 0, 0))], (zx_lay M25, n))) rfl ?_
      refine zx_E.cm (y := 155) (as := [.inr (some (25, 0, 0, 0)), .inl 58]) (rest := []) h rfl (fun _ hv => zx_run_up (by omega) (r_X11_must (d := d) hv)) (fun M26 h => ?_)
      show zx_E _ _ _ (72, [some (.inr (some (25, 0, 0, 0)))], [], (zx_lay M26, n)) _
      refine zx_E.go 2 (s' := (75, [some (.inr (some (25, 0, 0, 0)))], [.inl 57, .inr (some (25, 0, 0, 0))], (zx_lay M26, n))) rfl ?_
      refine zx_E.cm (y := 157) (as := [.inr (some (25, 0, 0, 0)), .inl 57]) (rest := []) h rfl (fun _ hv => zx_run_up (by omega) (r_X11_digit (d := d) hv)) (fun M27 h => ?_)
      show zx_E _ _ _ (78, [some (.inr (some (25, 0, 0, 0)))], [], (zx_lay M27, n)) _
      refine zx_E.go 3 (s' := (82, [some (.inr (some (25, 0, 0, 0)))], [.inl 114, .inr (some (25, 0, 0, 0)), .inr (some (25, 0, 0, 0))], (zx_lay M27, n))) rfl ?_
      refine zx_E.cv (y := 154) (as := [.inr (some (25, 0, 0, 0)), .inl 114]) (rest := [.inr (some (25, 0, 0, 0))]) h rfl (fun _ _ hv => zx_run_up (by omega) (r_X11_goes (d := d) hv)) (fun v7 M28 h => ?_)
      show zx_E _ _ _ (85, [some (.inr (some (25, 0, 0, 0)))], [.inl v7, .inr (some (25, 0, 0, 0))], (zx_lay M28, n)) _
      refine zx_E.brh (c := v7 = 0) (s1 := (92, [some (.inr (some (25, 0, 0, 0)))], [.inr (some (25, 0, 0, 0))], (zx_lay M28, n))) (s2 := (88, [some (.inr (some (25, 0, 0, 0)))], [.inr (some (25, 0, 0, 0))], (zx_lay M28, n))) h (zx_if_eq rfl) (fun _ h => ?_) (fun _ h => ?_)
      · refine zx_E.go 1 (s' := (93, [some (.inr (some (25, 0, 0, 0)))], [.inl 0, .inr (some (25, 0, 0, 0))], (zx_lay M28, n))) rfl ?_
        refine zx_E.cm (y := 156) (as := [.inr (some (25, 0, 0, 0)), .inl 0]) (rest := []) h rfl (fun _ hv => zx_run_up (by omega) (r_X11_keepNumber (d := d) hv)) (fun M29 h => ?_)
        show zx_E _ _ _ (96, [some (.inr (some (25, 0, 0, 0)))], [], (zx_lay M29, n)) _
        refine zx_E.go 1 (s' := (223, [some (.inr (some (25, 0, 0, 0)))], [], (zx_lay M29, n))) rfl ?_
        exact zx_E.r0 h rfl
      · refine zx_E.go 2 (s' := (93, [some (.inr (some (25, 0, 0, 0)))], [.inl 1, .inr (some (25, 0, 0, 0))], (zx_lay M28, n))) rfl ?_
        refine zx_E.cm (y := 156) (as := [.inr (some (25, 0, 0, 0)), .inl 1]) (rest := []) h rfl (fun _ hv => zx_run_up (by omega) (r_X11_keepNumber (d := d) hv)) (fun M30 h => ?_)
        show zx_E _ _ _ (96, [some (.inr (some (25, 0, 0, 0)))], [], (zx_lay M30, n)) _
        refine zx_E.go 1 (s' := (223, [some (.inr (some (25, 0, 0, 0)))], [], (zx_lay M30, n))) rfl ?_
        exact zx_E.r0 h rfl
  · refine zx_E.go 1 (s' := (23, [some (.inr (some (25, 0, 0, 0)))], [.inr (some (25, 0, 0, 0))], (zx_lay M3, n))) rfl ?_
    refine zx_E.cm (y := 158) (as := [.inr (some (25, 0, 0, 0))]) (rest := []) h rfl (fun _ hv => zx_run_up (by omega) (r_X11_readNumber (d := d) hv)) (fun M31 h => ?_)
    show zx_E _ _ _ (26, [some (.inr (some (25, 0, 0, 0)))], [], (zx_lay M31, n)) _
    refine rl_X11_readCommand_26 (fun M32 h => ?_) 1000   M31 h
    exact zx_E.r0 h rfl
def lg_X11_makeLine_2 (M : zx_Y) (kk : Int32 → Option zx_Y) : Nat → Int32 → Option zx_Y
  | 0, _ => none
  | q + 1, w1 => (if (M (25, 0, 0, 0) 11) ≤ w1 then (kk w1) else (zi w1 8 fun k1 => (zb (g_X11_isIn M (M (30, 0, 0, 0) k1) 1 99) fun v1 => (if v1 = 0 then (zi w1 8 fun k2 => (zm (g_X11_refuse M 4 (M (30, 0, 0, 0) k2)) fun M1 => (some M1))) else (lg_X11_makeLine_2 M kk q (w1 + 1))))))
set_option maxRecDepth 100000 in
set_option maxHeartbeats 4000000 in
theorem rl_X11_makeLine_2 {X : zx_X} {d n : Nat} {M : zx_Y} {kk : Int32 → Option zx_Y} {rM : zx_Y} {g2 : Option zx_V} {g3 : Option zx_V} {g4 : Option zx_V} (hk : ∀ (w1 : Int32), kk w1 = some rM → zx_E X (d + 1) zc_X11_makeLine (43, [some (.inr (some (25, 0, 0, 0))), some (.inl w1), g2, g3, g4], [], (zx_lay M, n)) (none, (zx_lay rM, n))) : ∀ (q : Nat) (w1 : Int32), lg_X11_makeLine_2 M kk q w1 = some rM → zx_E X (d + 1) zc_X11_makeLine (2, [some (.inr (some (25, 0, 0, 0))), some (.inl w1), g2, g3, g4], [], (zx_lay M, n)) (none, (zx_lay rM, n))
  | 0, w1, h => by
    rw [lg_X11_makeLine_2.eq_1] at h
    cases h
  | q + 1, w1, h => by
    rw [lg_X11_makeLine_2.eq_2] at h
    refine zx_E.go 3 (s' := (7, [some (.inr (some (25, 0, 0, 0))), some (.inl w1), g2, g3, g4], [.inl (M (25, 0, 0, 0) 11), .inl w1], (zx_lay M, n))) rfl ?_
    refine zx_E.brh (c := (M (25, 0, 0, 0) 11) ≤ w1) (s1 := (43, [some (.inr (some (25, 0, 0, 0))), some (.inl w1), g2, g3, g4], [], (zx_lay M, n))) (s2 := (10, [some (.inr (some (25, 0, 0, 0))), some (.inl w1), g2, g3, g4], [], (zx_lay M, n))) h (zx_ic_ge rfl) (fun _ h => ?_) (fun _ h => ?_)
    · exact hk _ h
    · refine zx_E.go 3 (s' := (15, [some (.inr (some (25, 0, 0, 0))), some (.inl w1), g2, g3, g4], [.inl w1, .inr (some (30, 0, 0, 0))], (zx_lay M, n))) rfl ?_
      refine zx_E.ix h (fun k1 hx_k1 hl_k1 h => ?_)
      refine zx_E.iald (k := k1) (h := (30, 0, 0, 0)) rfl rfl hx_k1 hl_k1 ?_
      show zx_E _ _ _ (16, [some (.inr (some (25, 0, 0, 0))), some (.inl w1), g2, g3, g4], [.inl (M (30, 0, 0, 0) k1)], (zx_lay M, n)) _
      refine zx_E.go 2 (s' := (19, [some (.inr (some (25, 0, 0, 0))), some (.inl w1), g2, g3, g4], [.inl 99, .inl 1, .inl (M (30, 0, 0, 0) k1)], (zx_lay M, n))) rfl ?_
      refine zx_E.cb (y := 121) (as := [.inl (M (30, 0, 0, 0) k1), .inl 1, .inl 99]) (rest := []) h rfl (fun _ hv => zx_run_up (by omega) (r_X11_isIn (d := d) hv)) (fun v1 h => ?_)
      show zx_E _ _ _ (22, [some (.inr (some (25, 0, 0, 0))), some (.inl w1), g2, g3, g4], [.inl v1], (zx_lay M, n)) _
      refine zx_E.brh (c := v1 = 0) (s1 := (25, [some (.inr (some (25, 0, 0, 0))), some (.inl w1), g2, g3, g4], [], (zx_lay M, n))) (s2 := (37, [some (.inr (some (25, 0, 0, 0))), some (.inl w1), g2, g3, g4], [], (zx_lay M, n))) h (zx_if_ne rfl) (fun _ h => ?_) (fun _ h => ?_)
      · refine zx_E.go 5 (s' := (32, [some (.inr (some (25, 0, 0, 0))), some (.inl w1), g2, g3, g4], [.inl w1, .inr (some (30, 0, 0, 0)), .inl 4, .inr (some (25, 0, 0, 0))], (zx_lay M, n))) rfl ?_
        refine zx_E.ix h (fun k2 hx_k2 hl_k2 h => ?_)
        refine zx_E.iald (k := k2) (h := (30, 0, 0, 0)) rfl rfl hx_k2 hl_k2 ?_
        show zx_E _ _ _ (33, [some (.inr (some (25, 0, 0, 0))), some (.inl w1), g2, g3, g4], [.inl (M (30, 0, 0, 0) k2), .inl 4, .inr (some (25, 0, 0, 0))], (zx_lay M, n)) _
        refine zx_E.cm (y := 161) (as := [.inr (some (25, 0, 0, 0)), .inl 4, .inl (M (30, 0, 0, 0) k2)]) (rest := []) h rfl (fun _ hv => zx_run_up (by omega) (r_X11_refuse (d := d) hv)) (fun M1 h => ?_)
        show zx_E _ _ _ (36, [some (.inr (some (25, 0, 0, 0))), some (.inl w1), g2, g3, g4], [], (zx_lay M1, n)) _
        exact zx_E.r0 h rfl
      · refine zx_E.go 2 (s' := (2, [some (.inr (some (25, 0, 0, 0))), some (.inl (w1 + 1)), g2, g3, g4], [], (zx_lay M, n))) rfl ?_
        exact rl_X11_makeLine_2 hk q (w1 + 1) h
def lg_X11_makeLine_69 (p1 : Int32) (p2 : Int32) (p3 : Int32) (kk : Int32 → zx_Y → Option zx_Y) : Nat → Int32 → zx_Y → Option zx_Y
  | 0, _, _ => none
  | q + 1, w4, M => (if (640 : Int32) ≤ w4 then (kk w4 M) else (zi w4 640 fun k1 => (zl (zx_up M (26, 0, 0, 0) k1 0) fun M1 => (lg_X11_makeLine_69 p1 p2 p3 kk q (w4 + 1) M1))))
set_option maxRecDepth 100000 in
set_option maxHeartbeats 4000000 in
theorem rl_X11_makeLine_69 {X : zx_X} {d n : Nat} {p1 : Int32} {p2 : Int32} {p3 : Int32} {kk : Int32 → zx_Y → Option zx_Y} {rM : zx_Y} (hk : ∀ (w4 : Int32) (M : zx_Y), kk w4 M = some rM → zx_E X (d + 1) zc_X11_makeLine (91, [some (.inr (some (25, 0, 0, 0))), some (.inl p1), some (.inl p2), some (.inl p3), some (.inl w4)], [], (zx_lay M, n)) (none, (zx_lay rM, n))) : ∀ (q : Nat) (w4 : Int32) (M : zx_Y), lg_X11_makeLine_69 p1 p2 p3 kk q w4 M = some rM → zx_E X (d + 1) zc_X11_makeLine (69, [some (.inr (some (25, 0, 0, 0))), some (.inl p1), some (.inl p2), some (.inl p3), some (.inl w4)], [], (zx_lay M, n)) (none, (zx_lay rM, n))
  | 0, w4, M, h => by
    rw [lg_X11_makeLine_69.eq_1] at h
    cases h
  | q + 1, w4, M, h => by
    rw [lg_X11_makeLine_69.eq_2] at h
    refine zx_E.go 2 (s' := (74, [some (.inr (some (25, 0, 0, 0))), some (.inl p1), some (.inl p2), some (.inl p3), some (.inl w4)], [.inl 640, .inl w4], (zx_lay M, n))) rfl ?_
    refine zx_E.brh (c := (640 : Int32) ≤ w4) (s1 := (91, [some (.inr (some (25, 0, 0, 0))), some (.inl p1), some (.inl p2), some (.inl p3), some (.inl w4)], [], (zx_lay M, n))) (s2 := (77, [some (.inr (some (25, 0, 0, 0))), some (.inl p1), some (.inl p2), some (.inl p3), some (.inl w4)], [], (zx_lay M, n))) h (zx_ic_ge rfl) (fun _ h => ?_) (fun _ h => ?_)
    · exact hk _ _ h
    · refine zx_E.go 4 (s' := (84, [some (.inr (some (25, 0, 0, 0))), some (.inl p1), some (.inl p2), some (.inl p3), some (.inl w4)], [.inl 0, .inl w4, .inr (some (26, 0, 0, 0))], (zx_lay M, n))) rfl ?_
      refine zx_E.ix h (fun k1 hx_k1 hl_k1 h => ?_)
      refine zx_E.ia h rfl rfl hx_k1 hl_k1 (fun M1 h => ?_)
      show zx_E _ _ _ (85, [some (.inr (some (25, 0, 0, 0))), some (.inl p1), some (.inl p2), some (.inl p3), some (.inl w4)], [], (zx_lay M1, n)) _
      refine zx_E.go 2 (s' := (69, [some (.inr (some (25, 0, 0, 0))), some (.inl p1), some (.inl p2), some (.inl p3), some (.inl (w4 + 1))], [], (zx_lay M1, n))) rfl ?_
      exact rl_X11_makeLine_69 hk q (w4 + 1) M1 h
def lg_X11_makeLine_129 (kk : Int32 → zx_Y → Option zx_Y) : Nat → Int32 → zx_Y → Option zx_Y
  | 0, _, _ => none
  | q + 1, w4, M => (if (M (25, 0, 0, 0) 11) ≤ w4 then (kk w4 M) else (zi w4 8 fun k1 => (zi (2 + w4) 640 fun k2 => (zl (zx_up M (26, 0, 0, 0) k2 (M (30, 0, 0, 0) k1)) fun M1 => (lg_X11_makeLine_129 kk q (w4 + 1) M1)))))
set_option maxRecDepth 100000 in
set_option maxHeartbeats 4000000 in
theorem rl_X11_makeLine_129 {X : zx_X} {d n : Nat} {kk : Int32 → zx_Y → Option zx_Y} {rM : zx_Y} {g1 : Option zx_V} {g2 : Option zx_V} {g3 : Option zx_V} (hk : ∀ (w4 : Int32) (M : zx_Y), kk w4 M = some rM → zx_E X (d + 1) zc_X11_makeLine (160, [some (.inr (some (25, 0, 0, 0))), g1, g2, g3, some (.inl w4)], [], (zx_lay M, n)) (none, (zx_lay rM, n))) : ∀ (q : Nat) (w4 : Int32) (M : zx_Y), lg_X11_makeLine_129 kk q w4 M = some rM → zx_E X (d + 1) zc_X11_makeLine (129, [some (.inr (some (25, 0, 0, 0))), g1, g2, g3, some (.inl w4)], [], (zx_lay M, n)) (none, (zx_lay rM, n))
  | 0, w4, M, h => by
    rw [lg_X11_makeLine_129.eq_1] at h
    cases h
  | q + 1, w4, M, h => by
    rw [lg_X11_makeLine_129.eq_2] at h
    refine zx_E.go 3 (s' := (135, [some (.inr (some (25, 0, 0, 0))), g1, g2, g3, some (.inl w4)], [.inl (M (25, 0, 0, 0) 11), .inl w4], (zx_lay M, n))) rfl ?_
    refine zx_E.brh (c := (M (25, 0, 0, 0) 11) ≤ w4) (s1 := (160, [some (.inr (some (25, 0, 0, 0))), g1, g2, g3, some (.inl w4)], [], (zx_lay M, n))) (s2 := (138, [some (.inr (some (25, 0, 0, 0))), g1, g2, g3, some (.inl w4)], [], (zx_lay M, n))) h (zx_ic_ge rfl) (fun _ h => ?_) (fun _ h => ?_)
    · exact hk _ _ h
    · refine zx_E.go 4 (s' := (145, [some (.inr (some (25, 0, 0, 0))), g1, g2, g3, some (.inl w4)], [.inl w4, .inl 2, .inr (some (26, 0, 0, 0))], (zx_lay M, n))) rfl ?_
      refine zx_E.go 4 (s' := (152, [some (.inr (some (25, 0, 0, 0))), g1, g2, g3, some (.inl w4)], [.inl w4, .inr (some (30, 0, 0, 0)), .inl (2 + w4), .inr (some (26, 0, 0, 0))], (zx_lay M, n))) rfl ?_
      refine zx_E.ix h (fun k1 hx_k1 hl_k1 h => ?_)
      refine zx_E.iald (k := k1) (h := (30, 0, 0, 0)) rfl rfl hx_k1 hl_k1 ?_
      show zx_E _ _ _ (153, [some (.inr (some (25, 0, 0, 0))), g1, g2, g3, some (.inl w4)], [.inl (M (30, 0, 0, 0) k1), .inl (2 + w4), .inr (some (26, 0, 0, 0))], (zx_lay M, n)) _
      refine zx_E.ix h (fun k2 hx_k2 hl_k2 h => ?_)
      refine zx_E.ia h rfl rfl hx_k2 hl_k2 (fun M1 h => ?_)
      show zx_E _ _ _ (154, [some (.inr (some (25, 0, 0, 0))), g1, g2, g3, some (.inl w4)], [], (zx_lay M1, n)) _
      refine zx_E.go 2 (s' := (129, [some (.inr (some (25, 0, 0, 0))), g1, g2, g3, some (.inl (w4 + 1))], [], (zx_lay M1, n))) rfl ?_
      exact rl_X11_makeLine_129 hk q (w4 + 1) M1 h
def lg_X11_makeLine_163 (kk : Int32 → zx_Y → Option zx_Y) : Nat → Int32 → zx_Y → Option zx_Y
  | 0, _, _ => none
  | q + 1, w4, M => (if (M (25, 0, 0, 0) 11) < w4 then (kk w4 M) else (zi (9 + w4) 640 fun k1 => (zl (zx_up M (26, 0, 0, 0) k1 2) fun M1 => (lg_X11_makeLine_163 kk q (w4 + 1) M1))))
set_option maxRecDepth 100000 in
set_option maxHeartbeats 4000000 in
theorem rl_X11_makeLine_163 {X : zx_X} {d n : Nat} {kk : Int32 → zx_Y → Option zx_Y} {rM : zx_Y} {g1 : Option zx_V} {g2 : Option zx_V} {g3 : Option zx_V} (hk : ∀ (w4 : Int32) (M : zx_Y), kk w4 M = some rM → zx_E X (d + 1) zc_X11_makeLine (189, [some (.inr (some (25, 0, 0, 0))), g1, g2, g3, some (.inl w4)], [], (zx_lay M, n)) (none, (zx_lay rM, n))) : ∀ (q : Nat) (w4 : Int32) (M : zx_Y), lg_X11_makeLine_163 kk q w4 M = some rM → zx_E X (d + 1) zc_X11_makeLine (163, [some (.inr (some (25, 0, 0, 0))), g1, g2, g3, some (.inl w4)], [], (zx_lay M, n)) (none, (zx_lay rM, n))
  | 0, w4, M, h => by
    rw [lg_X11_makeLine_163.eq_1] at h
    cases h
  | q + 1, w4, M, h => by
    rw [lg_X11_makeLine_163.eq_2] at h
    refine zx_E.go 3 (s' := (169, [some (.inr (some (25, 0, 0, 0))), g1, g2, g3, some (.inl w4)], [.inl (M (25, 0, 0, 0) 11), .inl w4], (zx_lay M, n))) rfl ?_
    refine zx_E.brh (c := (M (25, 0, 0, 0) 11) < w4) (s1 := (189, [some (.inr (some (25, 0, 0, 0))), g1, g2, g3, some (.inl w4)], [], (zx_lay M, n))) (s2 := (172, [some (.inr (some (25, 0, 0, 0))), g1, g2, g3, some (.inl w4)], [], (zx_lay M, n))) h (zx_ic_gt rfl) (fun _ h => ?_) (fun _ h => ?_)
    · exact hk _ _ h
    · refine zx_E.go 4 (s' := (180, [some (.inr (some (25, 0, 0, 0))), g1, g2, g3, some (.inl w4)], [.inl w4, .inl 9, .inr (some (26, 0, 0, 0))], (zx_lay M, n))) rfl ?_
      refine zx_E.go 2 (s' := (182, [some (.inr (some (25, 0, 0, 0))), g1, g2, g3, some (.inl w4)], [.inl 2, .inl (9 + w4), .inr (some (26, 0, 0, 0))], (zx_lay M, n))) rfl ?_
      refine zx_E.ix h (fun k1 hx_k1 hl_k1 h => ?_)
      refine zx_E.ia h rfl rfl hx_k1 hl_k1 (fun M1 h => ?_)
      show zx_E _ _ _ (183, [some (.inr (some (25, 0, 0, 0))), g1, g2, g3, some (.inl w4)], [], (zx_lay M1, n)) _
      refine zx_E.go 2 (s' := (163, [some (.inr (some (25, 0, 0, 0))), g1, g2, g3, some (.inl (w4 + 1))], [], (zx_lay M1, n))) rfl ?_
      exact rl_X11_makeLine_163 hk q (w4 + 1) M1 h
def g_X11_makeLine (M : zx_Y) : Option zx_Y := (lg_X11_makeLine_2 M (fun v1 => (lg_X11_makeLine_69 (M (26, 0, 0, 0) 0) (M (26, 0, 0, 0) 25) (M (26, 0, 0, 0) 26) (fun v2 M1 => (zl (zx_up M1 (26, 0, 0, 0) 0 (M (26, 0, 0, 0) 0)) fun M2 => (zl (zx_up M2 (26, 0, 0, 0) 25 (M (26, 0, 0, 0) 25)) fun M3 => (zl (zx_up M3 (26, 0, 0, 0) 26 (M (26, 0, 0, 0) 26)) fun M4 => (zl (zx_up M4 (26, 0, 0, 0) 1 ((M4 (25, 0, 0, 0) 11) + 1)) fun M5 => (lg_X11_makeLine_129 (fun v3 M6 => (lg_X11_makeLine_163 (fun v4 M7 => (some M7)) 1000 0 M6)) 1000 0 M5)))))) 1000 0 M)) 1000 0)
set_option maxRecDepth 100000 in
set_option maxHeartbeats 4000000 in
theorem r_X11_makeLine {X : zx_X} {d n : Nat} {M : zx_Y} {rM : zx_Y} (h : g_X11_makeLine M = some rM) : zx_run X (d + 2) 162 [.inr (some (25, 0, 0, 0))] (zx_lay M, n) (none, (zx_lay rM, n)) := by
  refine zx_run_of zc_X11_makeLine [some (.inr (some (25, 0, 0, 0))), none, none, none, none] rfl rfl ?_
  unfold g_X11_makeLine at h
  refine zx_E.go 2 (s' := (2, [some (.inr (some (25, 0, 0, 0))), some (.inl 0), none, none, none], [], (zx_lay M, n))) rfl ?_
  refine rl_X11_makeLine_2 (fun v1 h => ?_) 1000  0  h
  refine zx_E.go 3 (s' := (48, [some (.inr (some (25, 0, 0, 0))), some (.inl v1), none, none, none], [.inl 0, .inr (some (26, 0, 0, 0))], (zx_lay M, n))) rfl ?_
  refine zx_E.iald (k := 0) (h := (26, 0, 0, 0)) rfl rfl rfl (by decide) ?_
  show zx_E _ _ _ (49, [some (.inr (some (25, 0, 0, 0))), some (.inl v1), none, none, none], [.inl (M (26, 0, 0, 0) 0)], (zx_lay M, n)) _
  refine zx_E.go 4 (s' := (56, [some (.inr (some (25, 0, 0, 0))), some (.inl (M (26, 0, 0, 0) 0)), none, none, none], [.inl 25, .inr (some (26, 0, 0, 0))], (zx_lay M, n))) rfl ?_
  refine zx_E.iald (k := 25) (h := (26, 0, 0, 0)) rfl rfl rfl (by decide) ?_
  show zx_E _ _ _ (57, [some (.inr (some (25, 0, 0, 0))), some (.inl (M (26, 0, 0, 0) 0)), none, none, none], [.inl (M (26, 0, 0, 0) 25)], (zx_lay M, n)) _
  refine zx_E.go 4 (s' := (64, [some (.inr (some (25, 0, 0, 0))), some (.inl (M (26, 0, 0, 0) 0)), some (.inl (M (26, 0, 0, 0) 25)), none, none], [.inl 26, .inr (some (26, 0, 0, 0))], (zx_lay M, n))) rfl ?_
  refine zx_E.iald (k := 26) (h := (26, 0, 0, 0)) rfl rfl rfl (by decide) ?_
  show zx_E _ _ _ (65, [some (.inr (some (25, 0, 0, 0))), some (.inl (M (26, 0, 0, 0) 0)), some (.inl (M (26, 0, 0, 0) 25)), none, none], [.inl (M (26, 0, 0, 0) 26)], (zx_lay M, n)) _
  refine zx_E.go 3 (s' := (69, [some (.inr (some (25, 0, 0, 0))), some (.inl (M (26, 0, 0, 0) 0)), some (.inl (M (26, 0, 0, 0) 25)), some (.inl (M (26, 0, 0, 0) 26)), some (.inl 0)], [], (zx_lay M, n))) rfl ?_
  refine rl_X11_makeLine_69 (fun v2 M1 h => ?_) 1000  0 M h
  refine zx_E.go 4 (s' := (97, [some (.inr (some (25, 0, 0, 0))), some (.inl (M (26, 0, 0, 0) 0)), some (.inl (M (26, 0, 0, 0) 25)), some (.inl (M (26, 0, 0, 0) 26)), some (.inl v2)], [.inl (M (26, 0, 0, 0) 0), .inl 0, .inr (some (26, 0, 0, 0))], (zx_lay M1, n))) rfl ?_
  refine zx_E.ia h rfl rfl rfl (by decide) (fun M2 h => ?_)
  show zx_E _ _ _ (98, [some (.inr (some (25, 0, 0, 0))), some (.inl (M (26, 0, 0, 0) 0)), some (.inl (M (26, 0, 0, 0) 25)), some (.inl (M (26, 0, 0, 0) 26)), some (.inl v2)], [], (zx_lay M2, n)) _
  refine zx_E.go 4 (s' := (105, [some (.inr (some (25, 0, 0, 0))), some (.inl (M (26, 0, 0, 0) 0)), some (.inl (M (26, 0, 0, 0) 25)), some (.inl (M (26, 0, 0, 0) 26)), some (.inl v2)], [.inl (M (26, 0, 0, 0) 25), .inl 25, .inr (some (26, 0, 0, 0))], (zx_lay M2, n))) rfl ?_
  refine zx_E.ia h rfl rfl rfl (by decide) (fun M3 h => ?_)
  show zx_E _ _ _ (106, [some (.inr (some (25, 0, 0, 0))), some (.inl (M (26, 0, 0, 0) 0)), some (.inl (M (26, 0, 0, 0) 25)), some (.inl (M (26, 0, 0, 0) 26)), some (.inl v2)], [], (zx_lay M3, n)) _
  refine zx_E.go 4 (s' := (113, [some (.inr (some (25, 0, 0, 0))), some (.inl (M (26, 0, 0, 0) 0)), some (.inl (M (26, 0, 0, 0) 25)), some (.inl (M (26, 0, 0, 0) 26)), some (.inl v2)], [.inl (M (26, 0, 0, 0) 26), .inl 26, .inr (some (26, 0, 0, 0))], (zx_lay M3, n))) rfl ?_
  refine zx_E.ia h rfl rfl rfl (by decide) (fun M4 h => ?_)
  show zx_E _ _ _ (114, [some (.inr (some (25, 0, 0, 0))), some (.inl (M (26, 0, 0, 0) 0)), some (.inl (M (26, 0, 0, 0) 25)), some (.inl (M (26, 0, 0, 0) 26)), some (.inl v2)], [], (zx_lay M4, n)) _
  refine zx_E.go 6 (s' := (124, [some (.inr (some (25, 0, 0, 0))), some (.inl (M (26, 0, 0, 0) 0)), some (.inl (M (26, 0, 0, 0) 25)), some (.inl (M (26, 0, 0, 0) 26)), some (.inl v2)], [.inl 1, .inl (M4 (25, 0, 0, 0) 11), .inl 1, .inr (some (26, 0, 0, 0))], (zx_lay M4, n))) rfl ?_
  refine zx_E.go 1 (s' := (125, [some (.inr (some (25, 0, 0, 0))), some (.inl (M (26, 0, 0, 0) 0)), some (.inl (M (26, 0, 0, 0) 25)), some (.inl (M (26, 0, 0, 0) 26)), some (.inl v2)], [.inl ((M4 (25, 0, 0, 0) 11) + 1), .inl 1, .inr (some (26, 0, 0, 0))], (zx_lay M4, n))) rfl ?_
  refine zx_E.ia h rfl rfl rfl (by decide) (fun M5 h => ?_)
  show zx_E _ _ _ (126, [some (.inr (some (25, 0, 0, 0))), some (.inl (M (26, 0, 0, 0) 0)), some (.inl (M (26, 0, 0, 0) 25)), some (.inl (M (26, 0, 0, 0) 26)), some (.inl v2)], [], (zx_lay M5, n)) _
  refine zx_E.go 2 (s' := (129, [some (.inr (some (25, 0, 0, 0))), some (.inl (M (26, 0, 0, 0) 0)), some (.inl (M (26, 0, 0, 0) 25)), some (.inl (M (26, 0, 0, 0) 26)), some (.inl 0)], [], (zx_lay M5, n))) rfl ?_
  refine rl_X11_makeLine_129 (fun v3 M6 h => ?_) 1000  0 M5 h
  refine zx_E.go 2 (s' := (163, [some (.inr (some (25, 0, 0, 0))), some (.inl (M (26, 0, 0, 0) 0)), some (.inl (M (26, 0, 0, 0) 25)), some (.inl (M (26, 0, 0, 0) 26)), some (.inl 0)], [], (zx_lay M6, n))) rfl ?_
  refine rl_X11_makeLine_163 (fun v4 M7 h => ?_) 1000  0 M6 h
  exact zx_E.r0 h rfl
def g_X11_bound (M : zx_Y) : Option zx_Y := (if (M (30, 0, 0, 0) 0) = 0 then (zm (g_X11_refuse M 4 0) fun M1 => (some M1)) else (zl (zx_up M (26, 0, 0, 0) 25 (M (30, 0, 0, 0) 0)) fun M2 => (some M2)))
set_option maxRecDepth 100000 in
set_option maxHeartbeats 4000000 in
theorem r_X11_bound {X : zx_X} {d n : Nat} {M : zx_Y} {rM : zx_Y} (h : g_X11_bound M = some rM) : zx_run X (d + 2) 167 [.inr (some (25, 0, 0, 0))] (zx_lay M, n) (none, (zx_lay rM, n)) := by
  refine zx_run_of zc_X11_bound [some (.inr (some (25, 0, 0, 0)))] rfl rfl ?_
  unfold g_X11_bound at h
  refine zx_E.go 3 (s' := (5, [some (.inr (some (25, 0, 0, 0)))], [.inl 0, .inr (some (30, 0, 0, 0))], (zx_lay M, n))) rfl ?_
  refine zx_E.iald (k := 0) (h := (30, 0, 0, 0)) rfl rfl rfl (by decide) ?_
  show zx_E _ _ _ (6, [some (.inr (some (25, 0, 0, 0)))], [.inl (M (30, 0, 0, 0) 0)], (zx_lay M, n)) _
  refine zx_E.brh (c := (M (30, 0, 0, 0) 0) = 0) (s1 := (9, [some (.inr (some (25, 0, 0, 0)))], [], (zx_lay M, n))) (s2 := (18, [some (.inr (some (25, 0, 0, 0)))], [], (zx_lay M, n))) h (zx_if_ne rfl) (fun _ h => ?_) (fun _ h => ?_)
  · refine zx_E.go 3 (s' := (12, [some (.inr (some (25, 0, 0, 0)))], [.inl 0, .inl 4, .inr (some (25, 0, 0, 0))], (zx_lay M, n))) rfl ?_
    refine zx_E.cm (y := 161) (as := [.inr (some (25, 0, 0, 0)), .inl 4, .inl 0]) (rest := []) h rfl (fun _ hv => zx_run_up (by omega) (r_X11_refuse (d := d) hv)) (fun M1 h => ?_)
    show zx_E _ _ _ (15, [some (.inr (some (25, 0, 0, 0)))], [], (zx_lay M1, n)) _
    refine zx_E.go 1 (s' := (31, [some (.inr (some (25, 0, 0, 0)))], [], (zx_lay M1, n))) rfl ?_
    exact zx_E.r0 h rfl
  · refine zx_E.go 6 (s' := (29, [some (.inr (some (25, 0, 0, 0)))], [.inl 0, .inr (some (30, 0, 0, 0)), .inl 25, .inr (some (26, 0, 0, 0))], (zx_lay M, n))) rfl ?_
    refine zx_E.iald (k := 0) (h := (30, 0, 0, 0)) rfl rfl rfl (by decide) ?_
    show zx_E _ _ _ (30, [some (.inr (some (25, 0, 0, 0)))], [.inl (M (30, 0, 0, 0) 0), .inl 25, .inr (some (26, 0, 0, 0))], (zx_lay M, n)) _
    refine zx_E.ia h rfl rfl rfl (by decide) (fun M2 h => ?_)
    show zx_E _ _ _ (31, [some (.inr (some (25, 0, 0, 0)))], [], (zx_lay M2, n)) _
    exact zx_E.r0 h rfl
def g_X11_isBlock (M : zx_Y) (x0 : Int32) : Option Int32 := (zb (g_X11_isIn M x0 0 ((M (26, 0, 0, 0) 1) - 2)) fun v1 => (zo v1 ((some v1))))
set_option maxRecDepth 100000 in
set_option maxHeartbeats 4000000 in
theorem r_X11_isBlock {X : zx_X} {d n : Nat} {M : zx_Y} {x0 : Int32} {rv : Int32} (h : g_X11_isBlock M x0 = some rv) : zx_run X (d + 2) 123 [.inr (some (25, 0, 0, 0)), .inl x0] (zx_lay M, n) (some (.inl rv), (zx_lay M, n)) := by
  refine zx_run_of zc_X11_isBlock [some (.inr (some (25, 0, 0, 0))), some (.inl x0)] rfl rfl ?_
  unfold g_X11_isBlock at h
  refine zx_E.go 5 (s' := (7, [some (.inr (some (25, 0, 0, 0))), some (.inl x0)], [.inl 1, .inr (some (26, 0, 0, 0)), .inl 0, .inl x0], (zx_lay M, n))) rfl ?_
  refine zx_E.iald (k := 1) (h := (26, 0, 0, 0)) rfl rfl rfl (by decide) ?_
  show zx_E _ _ _ (8, [some (.inr (some (25, 0, 0, 0))), some (.inl x0)], [.inl (M (26, 0, 0, 0) 1), .inl 0, .inl x0], (zx_lay M, n)) _
  refine zx_E.go 2 (s' := (10, [some (.inr (some (25, 0, 0, 0))), some (.inl x0)], [.inl ((M (26, 0, 0, 0) 1) - 2), .inl 0, .inl x0], (zx_lay M, n))) rfl ?_
  refine zx_E.cb (y := 121) (as := [.inl x0, .inl 0, .inl ((M (26, 0, 0, 0) 1) - 2)]) (rest := []) h rfl (fun _ hv => zx_run_up (by omega) (r_X11_isIn (d := d) hv)) (fun v1 h => ?_)
  show zx_E _ _ _ (13, [some (.inr (some (25, 0, 0, 0))), some (.inl x0)], [.inl v1], (zx_lay M, n)) _
  refine zx_E.ob h (fun hv h => ?_)
  exact zx_E.rp h rfl (fun _ => hv)
def lg_X11_slow_112 (p1 : Int32) (kk : Int32 → zx_Y → Option zx_Y) : Nat → Int32 → zx_Y → Option zx_Y
  | 0, _, _ => none
  | q + 1, w2, M => (if (4 : Int32) ≤ w2 then (kk w2 M) else (zi w2 8 fun k1 => (zi (p1 + w2) 640 fun k2 => (zl (zx_up M (26, 0, 0, 0) k2 (M (30, 0, 0, 0) k1)) fun M1 => (lg_X11_slow_112 p1 kk q (w2 + 1) M1)))))
set_option maxRecDepth 100000 in
set_option maxHeartbeats 4000000 in
theorem rl_X11_slow_112 {X : zx_X} {d n : Nat} {p1 : Int32} {kk : Int32 → zx_Y → Option zx_Y} {rM : zx_Y} (hk : ∀ (w2 : Int32) (M : zx_Y), kk w2 M = some rM → zx_E X (d + 2) zc_X11_slow (137, [some (.inr (some (25, 0, 0, 0))), some (.inl p1), some (.inl w2)], [], (zx_lay M, n)) (none, (zx_lay rM, n))) : ∀ (q : Nat) (w2 : Int32) (M : zx_Y), lg_X11_slow_112 p1 kk q w2 M = some rM → zx_E X (d + 2) zc_X11_slow (112, [some (.inr (some (25, 0, 0, 0))), some (.inl p1), some (.inl w2)], [], (zx_lay M, n)) (none, (zx_lay rM, n))
  | 0, w2, M, h => by
    rw [lg_X11_slow_112.eq_1] at h
    cases h
  | q + 1, w2, M, h => by
    rw [lg_X11_slow_112.eq_2] at h
    refine zx_E.go 2 (s' := (114, [some (.inr (some (25, 0, 0, 0))), some (.inl p1), some (.inl w2)], [.inl 4, .inl w2], (zx_lay M, n))) rfl ?_
    refine zx_E.brh (c := (4 : Int32) ≤ w2) (s1 := (137, [some (.inr (some (25, 0, 0, 0))), some (.inl p1), some (.inl w2)], [], (zx_lay M, n))) (s2 := (117, [some (.inr (some (25, 0, 0, 0))), some (.inl p1), some (.inl w2)], [], (zx_lay M, n))) h (zx_ic_ge rfl) (fun _ h => ?_) (fun _ h => ?_)
    · exact hk _ _ h
    · refine zx_E.go 4 (s' := (123, [some (.inr (some (25, 0, 0, 0))), some (.inl p1), some (.inl w2)], [.inl w2, .inl p1, .inr (some (26, 0, 0, 0))], (zx_lay M, n))) rfl ?_
      refine zx_E.go 4 (s' := (129, [some (.inr (some (25, 0, 0, 0))), some (.inl p1), some (.inl w2)], [.inl w2, .inr (some (30, 0, 0, 0)), .inl (p1 + w2), .inr (some (26, 0, 0, 0))], (zx_lay M, n))) rfl ?_
      refine zx_E.ix h (fun k1 hx_k1 hl_k1 h => ?_)
      refine zx_E.iald (k := k1) (h := (30, 0, 0, 0)) rfl rfl hx_k1 hl_k1 ?_
      show zx_E _ _ _ (130, [some (.inr (some (25, 0, 0, 0))), some (.inl p1), some (.inl w2)], [.inl (M (30, 0, 0, 0) k1), .inl (p1 + w2), .inr (some (26, 0, 0, 0))], (zx_lay M, n)) _
      refine zx_E.ix h (fun k2 hx_k2 hl_k2 h => ?_)
      refine zx_E.ia h rfl rfl hx_k2 hl_k2 (fun M1 h => ?_)
      show zx_E _ _ _ (131, [some (.inr (some (25, 0, 0, 0))), some (.inl p1), some (.inl w2)], [], (zx_lay M1, n)) _
      refine zx_E.go 2 (s' := (112, [some (.inr (some (25, 0, 0, 0))), some (.inl p1), some (.inl (w2 + 1))], [], (zx_lay M1, n))) rfl ?_
      exact rl_X11_slow_112 hk q (w2 + 1) M1 h
def g_X11_slow (M : zx_Y) : Option zx_Y := (if (M (26, 0, 0, 0) 1) = 0 then (zm (g_X11_refuse M 1 (-5)) fun M1 => (some M1)) else (zb (g_X11_isBlock M (M (30, 0, 0, 0) 0)) fun v1 => (if v1 = 0 then (zm (g_X11_refuse M 2 (M (30, 0, 0, 0) 0)) fun M2 => (some M2)) else (if (M (26, 0, 0, 0) 50) = 6 then (zm (g_X11_refuse M 3 6) fun M3 => (some M3)) else (if (M (30, 0, 0, 0) 2) < (M (30, 0, 0, 0) 3) then (lg_X11_slow_112 (51 + (4 * (M (26, 0, 0, 0) 50))) (fun v2 M4 => (zl (zx_up M4 (26, 0, 0, 0) 50 ((M4 (26, 0, 0, 0) 50) + 1)) fun M5 => (some M5))) 1000 0 M) else (zm (g_X11_refuse M 4 (M (30, 0, 0, 0) 3)) fun M6 => (some M6)))))))
set_option maxRecDepth 100000 in
set_option maxHeartbeats 4000000 in
theorem r_X11_slow {X : zx_X} {d n : Nat} {M : zx_Y} {rM : zx_Y} (h : g_X11_slow M = some rM) : zx_run X (d + 3) 166 [.inr (some (25, 0, 0, 0))] (zx_lay M, n) (none, (zx_lay rM, n)) := by
  refine zx_run_of zc_X11_slow [some (.inr (some (25, 0, 0, 0))), none, none] rfl rfl ?_
  unfold g_X11_slow at h
  refine zx_E.go 3 (s' := (5, [some (.inr (some (25, 0, 0, 0))), none, none], [.inl 1, .inr (some (26, 0, 0, 0))], (zx_lay M, n))) rfl ?_
  refine zx_E.iald (k := 1) (h := (26, 0, 0, 0)) rfl rfl rfl (by decide) ?_
  show zx_E _ _ _ (6, [some (.inr (some (25, 0, 0, 0))), none, none], [.inl (M (26, 0, 0, 0) 1)], (zx_lay M, n)) _
  refine zx_E.brh (c := (M (26, 0, 0, 0) 1) = 0) (s1 := (9, [some (.inr (some (25, 0, 0, 0))), none, none], [], (zx_lay M, n))) (s2 := (19, [some (.inr (some (25, 0, 0, 0))), none, none], [], (zx_lay M, n))) h (zx_if_ne rfl) (fun _ h => ?_) (fun _ h => ?_)
  · refine zx_E.go 3 (s' := (13, [some (.inr (some (25, 0, 0, 0))), none, none], [.inl (-5), .inl 1, .inr (some (25, 0, 0, 0))], (zx_lay M, n))) rfl ?_
    refine zx_E.cm (y := 161) (as := [.inr (some (25, 0, 0, 0)), .inl 1, .inl (-5)]) (rest := []) h rfl (fun _ hv => zx_run_up (by omega) (r_X11_refuse (d := d) hv)) (fun M1 h => ?_)
    show zx_E _ _ _ (16, [some (.inr (some (25, 0, 0, 0))), none, none], [], (zx_lay M1, n)) _
    refine zx_E.go 1 (s' := (148, [some (.inr (some (25, 0, 0, 0))), none, none], [], (zx_lay M1, n))) rfl ?_
    exact zx_E.r0 h rfl
  · refine zx_E.go 4 (s' := (25, [some (.inr (some (25, 0, 0, 0))), none, none], [.inl 0, .inr (some (30, 0, 0, 0)), .inr (some (25, 0, 0, 0))], (zx_lay M, n))) rfl ?_
    refine zx_E.iald (k := 0) (h := (30, 0, 0, 0)) rfl rfl rfl (by decide) ?_
    show zx_E _ _ _ (26, [some (.inr (some (25, 0, 0, 0))), none, none], [.inl (M (30, 0, 0, 0) 0), .inr (some (25, 0, 0, 0))], (zx_lay M, n)) _
    refine zx_E.cb (y := 123) (as := [.inr (some (25, 0, 0, 0)), .inl (M (30, 0, 0, 0) 0)]) (rest := []) h rfl (fun _ hv => zx_run_up (by omega) (r_X11_isBlock (d := d) hv)) (fun v1 h => ?_)
    show zx_E _ _ _ (29, [some (.inr (some (25, 0, 0, 0))), none, none], [.inl v1], (zx_lay M, n)) _
    refine zx_E.brh (c := v1 = 0) (s1 := (32, [some (.inr (some (25, 0, 0, 0))), none, none], [], (zx_lay M, n))) (s2 := (46, [some (.inr (some (25, 0, 0, 0))), none, none], [], (zx_lay M, n))) h (zx_if_ne rfl) (fun _ h => ?_) (fun _ h => ?_)
    · refine zx_E.go 5 (s' := (39, [some (.inr (some (25, 0, 0, 0))), none, none], [.inl 0, .inr (some (30, 0, 0, 0)), .inl 2, .inr (some (25, 0, 0, 0))], (zx_lay M, n))) rfl ?_
      refine zx_E.iald (k := 0) (h := (30, 0, 0, 0)) rfl rfl rfl (by decide) ?_
      show zx_E _ _ _ (40, [some (.inr (some (25, 0, 0, 0))), none, none], [.inl (M (30, 0, 0, 0) 0), .inl 2, .inr (some (25, 0, 0, 0))], (zx_lay M, n)) _
      refine zx_E.cm (y := 161) (as := [.inr (some (25, 0, 0, 0)), .inl 2, .inl (M (30, 0, 0, 0) 0)]) (rest := []) h rfl (fun _ hv => zx_run_up (by omega) (r_X11_refuse (d := d) hv)) (fun M2 h => ?_)
      show zx_E _ _ _ (43, [some (.inr (some (25, 0, 0, 0))), none, none], [], (zx_lay M2, n)) _
      refine zx_E.go 1 (s' := (148, [some (.inr (some (25, 0, 0, 0))), none, none], [], (zx_lay M2, n))) rfl ?_
      exact zx_E.r0 h rfl
    · refine zx_E.go 3 (s' := (52, [some (.inr (some (25, 0, 0, 0))), none, none], [.inl 50, .inr (some (26, 0, 0, 0))], (zx_lay M, n))) rfl ?_
      refine zx_E.iald (k := 50) (h := (26, 0, 0, 0)) rfl rfl rfl (by decide) ?_
      show zx_E _ _ _ (53, [some (.inr (some (25, 0, 0, 0))), none, none], [.inl (M (26, 0, 0, 0) 50)], (zx_lay M, n)) _
      refine zx_E.go 1 (s' := (55, [some (.inr (some (25, 0, 0, 0))), none, none], [.inl 6, .inl (M (26, 0, 0, 0) 50)], (zx_lay M, n))) rfl ?_
      refine zx_E.brh (c := (M (26, 0, 0, 0) 50) = 6) (s1 := (58, [some (.inr (some (25, 0, 0, 0))), none, none], [], (zx_lay M, n))) (s2 := (68, [some (.inr (some (25, 0, 0, 0))), none, none], [], (zx_lay M, n))) h (zx_ic_ne rfl) (fun _ h => ?_) (fun _ h => ?_)
      · refine zx_E.go 3 (s' := (62, [some (.inr (some (25, 0, 0, 0))), none, none], [.inl 6, .inl 3, .inr (some (25, 0, 0, 0))], (zx_lay M, n))) rfl ?_
        refine zx_E.cm (y := 161) (as := [.inr (some (25, 0, 0, 0)), .inl 3, .inl 6]) (rest := []) h rfl (fun _ hv => zx_run_up (by omega) (r_X11_refuse (d := d) hv)) (fun M3 h => ?_)
        show zx_E _ _ _ (65, [some (.inr (some (25, 0, 0, 0))), none, none], [], (zx_lay M3, n)) _
        refine zx_E.go 1 (s' := (148, [some (.inr (some (25, 0, 0, 0))), none, none], [], (zx_lay M3, n))) rfl ?_
        exact zx_E.r0 h rfl
      · refine zx_E.go 3 (s' := (73, [some (.inr (some (25, 0, 0, 0))), none, none], [.inl 3, .inr (some (30, 0, 0, 0))], (zx_lay M, n))) rfl ?_
        refine zx_E.iald (k := 3) (h := (30, 0, 0, 0)) rfl rfl rfl (by decide) ?_
        show zx_E _ _ _ (74, [some (.inr (some (25, 0, 0, 0))), none, none], [.inl (M (30, 0, 0, 0) 3)], (zx_lay M, n)) _
        refine zx_E.go 3 (s' := (79, [some (.inr (some (25, 0, 0, 0))), none, none], [.inl 2, .inr (some (30, 0, 0, 0)), .inl (M (30, 0, 0, 0) 3)], (zx_lay M, n))) rfl ?_
        refine zx_E.iald (k := 2) (h := (30, 0, 0, 0)) rfl rfl rfl (by decide) ?_
        show zx_E _ _ _ (80, [some (.inr (some (25, 0, 0, 0))), none, none], [.inl (M (30, 0, 0, 0) 2), .inl (M (30, 0, 0, 0) 3)], (zx_lay M, n)) _
        refine zx_E.brh (c := (M (30, 0, 0, 0) 2) < (M (30, 0, 0, 0) 3)) (s1 := (97, [some (.inr (some (25, 0, 0, 0))), none, none], [], (zx_lay M, n))) (s2 := (83, [some (.inr (some (25, 0, 0, 0))), none, none], [], (zx_lay M, n))) h (zx_ic_gt rfl) (fun _ h => ?_) (fun _ h => ?_)
        · refine zx_E.go 5 (s' := (106, [some (.inr (some (25, 0, 0, 0))), none, none], [.inl 50, .inr (some (26, 0, 0, 0)), .inl 4, .inl 51], (zx_lay M, n))) rfl ?_
          refine zx_E.iald (k := 50) (h := (26, 0, 0, 0)) rfl rfl rfl (by decide) ?_
          show zx_E _ _ _ (107, [some (.inr (some (25, 0, 0, 0))), none, none], [.inl (M (26, 0, 0, 0) 50), .inl 4, .inl 51], (zx_lay M, n)) _
          refine zx_E.go 5 (s' := (112, [some (.inr (some (25, 0, 0, 0))), some (.inl (51 + (4 * (M (26, 0, 0, 0) 50)))), some (.inl 0)], [], (zx_lay M, n))) rfl ?_
          refine rl_X11_slow_112 (fun v2 M4 h => ?_) 1000  0 M h
          refine zx_E.go 4 (s' := (144, [some (.inr (some (25, 0, 0, 0))), some (.inl (51 + (4 * (M (26, 0, 0, 0) 50)))), some (.inl v2)], [.inl 50, .inr (some (26, 0, 0, 0)), .inl 50, .inr (some (26, 0, 0, 0))], (zx_lay M4, n))) rfl ?_
          refine zx_E.iald (k := 50) (h := (26, 0, 0, 0)) rfl rfl rfl (by decide) ?_
          show zx_E _ _ _ (145, [some (.inr (some (25, 0, 0, 0))), some (.inl (51 + (4 * (M (26, 0, 0, 0) 50)))), some (.inl v2)], [.inl (M4 (26, 0, 0, 0) 50), .inl 50, .inr (some (26, 0, 0, 0))], (zx_lay M4, n)) _
          refine zx_E.go 2 (s' := (147, [some (.inr (some (25, 0, 0, 0))), some (.inl (51 + (4 * (M (26, 0, 0, 0) 50)))), some (.inl v2)], [.inl ((M4 (26, 0, 0, 0) 50) + 1), .inl 50, .inr (some (26, 0, 0, 0))], (zx_lay M4, n))) rfl ?_
          refine zx_E.ia h rfl rfl rfl (by decide) (fun M5 h => ?_)
          show zx_E _ _ _ (148, [some (.inr (some (25, 0, 0, 0))), some (.inl (51 + (4 * (M (26, 0, 0, 0) 50)))), some (.inl v2)], [], (zx_lay M5, n)) _
          exact zx_E.r0 h rfl
        · refine zx_E.go 5 (s' := (90, [some (.inr (some (25, 0, 0, 0))), none, none], [.inl 3, .inr (some (30, 0, 0, 0)), .inl 4, .inr (some (25, 0, 0, 0))], (zx_lay M, n))) rfl ?_
          refine zx_E.iald (k := 3) (h := (30, 0, 0, 0)) rfl rfl rfl (by decide) ?_
          show zx_E _ _ _ (91, [some (.inr (some (25, 0, 0, 0))), none, none], [.inl (M (30, 0, 0, 0) 3), .inl 4, .inr (some (25, 0, 0, 0))], (zx_lay M, n)) _
          refine zx_E.cm (y := 161) (as := [.inr (some (25, 0, 0, 0)), .inl 4, .inl (M (30, 0, 0, 0) 3)]) (rest := []) h rfl (fun _ hv => zx_run_up (by omega) (r_X11_refuse (d := d) hv)) (fun M6 h => ?_)
          show zx_E _ _ _ (94, [some (.inr (some (25, 0, 0, 0))), none, none], [], (zx_lay M6, n)) _
          refine zx_E.go 1 (s' := (148, [some (.inr (some (25, 0, 0, 0))), none, none], [], (zx_lay M6, n))) rfl ?_
          exact zx_E.r0 h rfl
def g_X11_isStation (M : zx_Y) (x0 : Int32) : Option Int32 := (zb (g_X11_isIn M x0 0 ((M (26, 0, 0, 0) 1) - 1)) fun v1 => (zo v1 ((some v1))))
set_option maxRecDepth 100000 in
set_option maxHeartbeats 4000000 in
theorem r_X11_isStation {X : zx_X} {d n : Nat} {M : zx_Y} {x0 : Int32} {rv : Int32} (h : g_X11_isStation M x0 = some rv) : zx_run X (d + 2) 122 [.inr (some (25, 0, 0, 0)), .inl x0] (zx_lay M, n) (some (.inl rv), (zx_lay M, n)) := by
  refine zx_run_of zc_X11_isStation [some (.inr (some (25, 0, 0, 0))), some (.inl x0)] rfl rfl ?_
  unfold g_X11_isStation at h
  refine zx_E.go 5 (s' := (7, [some (.inr (some (25, 0, 0, 0))), some (.inl x0)], [.inl 1, .inr (some (26, 0, 0, 0)), .inl 0, .inl x0], (zx_lay M, n))) rfl ?_
  refine zx_E.iald (k := 1) (h := (26, 0, 0, 0)) rfl rfl rfl (by decide) ?_
  show zx_E _ _ _ (8, [some (.inr (some (25, 0, 0, 0))), some (.inl x0)], [.inl (M (26, 0, 0, 0) 1), .inl 0, .inl x0], (zx_lay M, n)) _
  refine zx_E.go 2 (s' := (10, [some (.inr (some (25, 0, 0, 0))), some (.inl x0)], [.inl ((M (26, 0, 0, 0) 1) - 1), .inl 0, .inl x0], (zx_lay M, n))) rfl ?_
  refine zx_E.cb (y := 121) (as := [.inl x0, .inl 0, .inl ((M (26, 0, 0, 0) 1) - 1)]) (rest := []) h rfl (fun _ hv => zx_run_up (by omega) (r_X11_isIn (d := d) hv)) (fun v1 h => ?_)
  show zx_E _ _ _ (13, [some (.inr (some (25, 0, 0, 0))), some (.inl x0)], [.inl v1], (zx_lay M, n)) _
  refine zx_E.ob h (fun hv h => ?_)
  exact zx_E.rp h rfl (fun _ => hv)
def g_X11_at (M : zx_Y) (x0 : Int32) (x1 : Int32) : Option Int32 := (zi ((75 + (40 * x0)) + x1) 640 fun k1 => (some (M (26, 0, 0, 0) k1)))
set_option maxRecDepth 100000 in
set_option maxHeartbeats 4000000 in
theorem r_X11_at {X : zx_X} {d n : Nat} {M : zx_Y} {x0 : Int32} {x1 : Int32} {rv : Int32} (h : g_X11_at M x0 x1 = some rv) : zx_run X (d + 1) 125 [.inr (some (25, 0, 0, 0)), .inl x0, .inl x1] (zx_lay M, n) (some (.inl rv), (zx_lay M, n)) := by
  refine zx_run_of zc_X11_at [some (.inr (some (25, 0, 0, 0))), some (.inl x0), some (.inl x1)] rfl rfl ?_
  unfold g_X11_at at h
  refine zx_E.go 5 (s' := (9, [some (.inr (some (25, 0, 0, 0))), some (.inl x0), some (.inl x1)], [.inl x0, .inl 40, .inl 75, .inr (some (26, 0, 0, 0))], (zx_lay M, n))) rfl ?_
  refine zx_E.go 4 (s' := (13, [some (.inr (some (25, 0, 0, 0))), some (.inl x0), some (.inl x1)], [.inl ((75 + (40 * x0)) + x1), .inr (some (26, 0, 0, 0))], (zx_lay M, n))) rfl ?_
  refine zx_E.ix h (fun k1 hx_k1 hl_k1 h => ?_)
  refine zx_E.iald (k := k1) (h := (26, 0, 0, 0)) rfl rfl hx_k1 hl_k1 ?_
  show zx_E _ _ _ (14, [some (.inr (some (25, 0, 0, 0))), some (.inl x0), some (.inl x1)], [.inl (M (26, 0, 0, 0) k1)], (zx_lay M, n)) _
  exact zx_E.rp h rfl (fun h => absurd h (by decide))
def g_X11_isUp (M : zx_Y) (x0 : Int32) : Option Int32 := (zb (g_X11_at M x0 2) fun v1 => (zb (g_X11_at M x0 1) fun v2 => (if v1 ≤ v2 then (some 0) else (some 1))))
set_option maxRecDepth 100000 in
set_option maxHeartbeats 4000000 in
theorem r_X11_isUp {X : zx_X} {d n : Nat} {M : zx_Y} {x0 : Int32} {rv : Int32} (h : g_X11_isUp M x0 = some rv) : zx_run X (d + 2) 127 [.inr (some (25, 0, 0, 0)), .inl x0] (zx_lay M, n) (some (.inl rv), (zx_lay M, n)) := by
  refine zx_run_of zc_X11_isUp [some (.inr (some (25, 0, 0, 0))), some (.inl x0)] rfl rfl ?_
  unfold g_X11_isUp at h
  refine zx_E.go 3 (s' := (3, [some (.inr (some (25, 0, 0, 0))), some (.inl x0)], [.inl 2, .inl x0, .inr (some (25, 0, 0, 0))], (zx_lay M, n))) rfl ?_
  refine zx_E.cb (y := 125) (as := [.inr (some (25, 0, 0, 0)), .inl x0, .inl 2]) (rest := []) h rfl (fun _ hv => zx_run_up (by omega) (r_X11_at (d := d) hv)) (fun v1 h => ?_)
  show zx_E _ _ _ (6, [some (.inr (some (25, 0, 0, 0))), some (.inl x0)], [.inl v1], (zx_lay M, n)) _
  refine zx_E.go 3 (s' := (9, [some (.inr (some (25, 0, 0, 0))), some (.inl x0)], [.inl 1, .inl x0, .inr (some (25, 0, 0, 0)), .inl v1], (zx_lay M, n))) rfl ?_
  refine zx_E.cb (y := 125) (as := [.inr (some (25, 0, 0, 0)), .inl x0, .inl 1]) (rest := [.inl v1]) h rfl (fun _ hv => zx_run_up (by omega) (r_X11_at (d := d) hv)) (fun v2 h => ?_)
  show zx_E _ _ _ (12, [some (.inr (some (25, 0, 0, 0))), some (.inl x0)], [.inl v2, .inl v1], (zx_lay M, n)) _
  refine zx_E.brh (c := v1 ≤ v2) (s1 := (19, [some (.inr (some (25, 0, 0, 0))), some (.inl x0)], [], (zx_lay M, n))) (s2 := (15, [some (.inr (some (25, 0, 0, 0))), some (.inl x0)], [], (zx_lay M, n))) h (zx_ic_le rfl) (fun _ h => ?_) (fun _ h => ?_)
  · refine zx_E.go 1 (s' := (20, [some (.inr (some (25, 0, 0, 0))), some (.inl x0)], [.inl 0], (zx_lay M, n))) rfl ?_
    exact zx_E.rp h rfl (fun _ => Or.inl rfl)
  · refine zx_E.go 2 (s' := (20, [some (.inr (some (25, 0, 0, 0))), some (.inl x0)], [.inl 1], (zx_lay M, n))) rfl ?_
    exact zx_E.rp h rfl (fun _ => Or.inr rfl)
def g_X11_goal (M : zx_Y) (x0 : Int32) : Option Int32 := (zb (g_X11_isUp M x0) fun v1 => (if v1 = 0 then (zb (g_X11_at M x0 11) fun v2 => (some v2)) else (zb (g_X11_at M x0 11) fun v3 => (some (v3 + 1)))))
set_option maxRecDepth 100000 in
set_option maxHeartbeats 4000000 in
theorem r_X11_goal {X : zx_X} {d n : Nat} {M : zx_Y} {x0 : Int32} {rv : Int32} (h : g_X11_goal M x0 = some rv) : zx_run X (d + 3) 131 [.inr (some (25, 0, 0, 0)), .inl x0] (zx_lay M, n) (some (.inl rv), (zx_lay M, n)) := by
  refine zx_run_of zc_X11_goal [some (.inr (some (25, 0, 0, 0))), some (.inl x0)] rfl rfl ?_
  unfold g_X11_goal at h
  refine zx_E.go 2 (s' := (2, [some (.inr (some (25, 0, 0, 0))), some (.inl x0)], [.inl x0, .inr (some (25, 0, 0, 0))], (zx_lay M, n))) rfl ?_
  refine zx_E.cb (y := 127) (as := [.inr (some (25, 0, 0, 0)), .inl x0]) (rest := []) h rfl (fun _ hv => zx_run_up (by omega) (r_X11_isUp (d := d) hv)) (fun v1 h => ?_)
  show zx_E _ _ _ (5, [some (.inr (some (25, 0, 0, 0))), some (.inl x0)], [.inl v1], (zx_lay M, n)) _
  refine zx_E.brh (c := v1 = 0) (s1 := (20, [some (.inr (some (25, 0, 0, 0))), some (.inl x0)], [], (zx_lay M, n))) (s2 := (8, [some (.inr (some (25, 0, 0, 0))), some (.inl x0)], [], (zx_lay M, n))) h (zx_if_eq rfl) (fun _ h => ?_) (fun _ h => ?_)
  · refine zx_E.go 3 (s' := (24, [some (.inr (some (25, 0, 0, 0))), some (.inl x0)], [.inl 11, .inl x0, .inr (some (25, 0, 0, 0))], (zx_lay M, n))) rfl ?_
    refine zx_E.cb (y := 125) (as := [.inr (some (25, 0, 0, 0)), .inl x0, .inl 11]) (rest := []) h rfl (fun _ hv => zx_run_up (by omega) (r_X11_at (d := d) hv)) (fun v2 h => ?_)
    show zx_E _ _ _ (27, [some (.inr (some (25, 0, 0, 0))), some (.inl x0)], [.inl v2], (zx_lay M, n)) _
    exact zx_E.rp h rfl (fun h => absurd h (by decide))
  · refine zx_E.go 3 (s' := (12, [some (.inr (some (25, 0, 0, 0))), some (.inl x0)], [.inl 11, .inl x0, .inr (some (25, 0, 0, 0))], (zx_lay M, n))) rfl ?_
    refine zx_E.cb (y := 125) (as := [.inr (some (25, 0, 0, 0)), .inl x0, .inl 11]) (rest := []) h rfl (fun _ hv => zx_run_up (by omega) (r_X11_at (d := d) hv)) (fun v3 h => ?_)
    show zx_E _ _ _ (15, [some (.inr (some (25, 0, 0, 0))), some (.inl x0)], [.inl v3], (zx_lay M, n)) _
    refine zx_E.go 3 (s' := (27, [some (.inr (some (25, 0, 0, 0))), some (.inl x0)], [.inl (v3 + 1)], (zx_lay M, n))) rfl ?_
    exact zx_E.rp h rfl (fun h => absurd h (by decide))
def g_X11_isInStation (M : zx_Y) (x0 : Int32) (x1 : Int32) : Option Int32 := (zb (g_X11_at M x0 0) fun v1 => (if v1 = 1 then (zb (g_X11_at M x0 11) fun v2 => (if v2 = x1 then (some 1) else (some 0))) else (zb (g_X11_at M x0 0) fun v3 => (if v3 = 3 then (zb (g_X11_at M x0 11) fun v4 => (if v4 = x1 then (some 1) else (some 0))) else (some 0)))))
set_option maxRecDepth 100000 in
set_option maxHeartbeats 4000000 in
theorem r_X11_isInStation {X : zx_X} {d n : Nat} {M : zx_Y} {x0 : Int32} {x1 : Int32} {rv : Int32} (h : g_X11_isInStation M x0 x1 = some rv) : zx_run X (d + 2) 130 [.inr (some (25, 0, 0, 0)), .inl x0, .inl x1] (zx_lay M, n) (some (.inl rv), (zx_lay M, n)) := by
  refine zx_run_of zc_X11_isInStation [some (.inr (some (25, 0, 0, 0))), some (.inl x0), some (.inl x1)] rfl rfl ?_
  unfold g_X11_isInStation at h
  refine zx_E.go 3 (s' := (3, [some (.inr (some (25, 0, 0, 0))), some (.inl x0), some (.inl x1)], [.inl 0, .inl x0, .inr (some (25, 0, 0, 0))], (zx_lay M, n))) rfl ?_
  refine zx_E.cb (y := 125) (as := [.inr (some (25, 0, 0, 0)), .inl x0, .inl 0]) (rest := []) h rfl (fun _ hv => zx_run_up (by omega) (r_X11_at (d := d) hv)) (fun v1 h => ?_)
  show zx_E _ _ _ (6, [some (.inr (some (25, 0, 0, 0))), some (.inl x0), some (.inl x1)], [.inl v1], (zx_lay M, n)) _
  refine zx_E.go 1 (s' := (7, [some (.inr (some (25, 0, 0, 0))), some (.inl x0), some (.inl x1)], [.inl 1, .inl v1], (zx_lay M, n))) rfl ?_
  refine zx_E.brh (c := v1 = 1) (s1 := (20, [some (.inr (some (25, 0, 0, 0))), some (.inl x0), some (.inl x1)], [], (zx_lay M, n))) (s2 := (10, [some (.inr (some (25, 0, 0, 0))), some (.inl x0), some (.inl x1)], [], (zx_lay M, n))) h (zx_ic_eq rfl) (fun _ h => ?_) (fun _ h => ?_)
  · refine zx_E.go 3 (s' := (24, [some (.inr (some (25, 0, 0, 0))), some (.inl x0), some (.inl x1)], [.inl 11, .inl x0, .inr (some (25, 0, 0, 0))], (zx_lay M, n))) rfl ?_
    refine zx_E.cb (y := 125) (as := [.inr (some (25, 0, 0, 0)), .inl x0, .inl 11]) (rest := []) h rfl (fun _ hv => zx_run_up (by omega) (r_X11_at (d := d) hv)) (fun v2 h => ?_)
    show zx_E _ _ _ (27, [some (.inr (some (25, 0, 0, 0))), some (.inl x0), some (.inl x1)], [.inl v2], (zx_lay M, n)) _
    refine zx_E.go 1 (s' := (28, [some (.inr (some (25, 0, 0, 0))), some (.inl x0), some (.inl x1)], [.inl x1, .inl v2], (zx_lay M, n))) rfl ?_
    refine zx_E.brh (c := v2 = x1) (s1 := (31, [some (.inr (some (25, 0, 0, 0))), some (.inl x0), some (.inl x1)], [], (zx_lay M, n))) (s2 := (35, [some (.inr (some (25, 0, 0, 0))), some (.inl x0), some (.inl x1)], [], (zx_lay M, n))) h (zx_ic_ne rfl) (fun _ h => ?_) (fun _ h => ?_)
    · refine zx_E.go 2 (s' := (36, [some (.inr (some (25, 0, 0, 0))), some (.inl x0), some (.inl x1)], [.inl 1], (zx_lay M, n))) rfl ?_
      exact zx_E.rp h rfl (fun _ => Or.inr rfl)
    · refine zx_E.go 1 (s' := (36, [some (.inr (some (25, 0, 0, 0))), some (.inl x0), some (.inl x1)], [.inl 0], (zx_lay M, n))) rfl ?_
      exact zx_E.rp h rfl (fun _ => Or.inl rfl)
  · refine zx_E.go 3 (s' := (13, [some (.inr (some (25, 0, 0, 0))), some (.inl x0), some (.inl x1)], [.inl 0, .inl x0, .inr (some (25, 0, 0, 0))], (zx_lay M, n))) rfl ?_
    refine zx_E.cb (y := 125) (as := [.inr (some (25, 0, 0, 0)), .inl x0, .inl 0]) (rest := []) h rfl (fun _ hv => zx_run_up (by omega) (r_X11_at (d := d) hv)) (fun v3 h => ?_)
    show zx_E _ _ _ (16, [some (.inr (some (25, 0, 0, 0))), some (.inl x0), some (.inl x1)], [.inl v3], (zx_lay M, n)) _
    refine zx_E.go 1 (s' := (17, [some (.inr (some (25, 0, 0, 0))), some (.inl x0), some (.inl x1)], [.inl 3, .inl v3], (zx_lay M, n))) rfl ?_
    refine zx_E.brh (c := v3 = 3) (s1 := (20, [some (.inr (some (25, 0, 0, 0))), some (.inl x0), some (.inl x1)], [], (zx_lay M, n))) (s2 := (35, [some (.inr (some (25, 0, 0, 0))), some (.inl x0), some (.inl x1)], [], (zx_lay M, n))) h (zx_ic_ne rfl) (fun _ h => ?_) (fun _ h => ?_)
    · refine zx_E.go 3 (s' := (24, [some (.inr (some (25, 0, 0, 0))), some (.inl x0), some (.inl x1)], [.inl 11, .inl x0, .inr (some (25, 0, 0, 0))], (zx_lay M, n))) rfl ?_
      refine zx_E.cb (y := 125) (as := [.inr (some (25, 0, 0, 0)), .inl x0, .inl 11]) (rest := []) h rfl (fun _ hv => zx_run_up (by omega) (r_X11_at (d := d) hv)) (fun v4 h => ?_)
      show zx_E _ _ _ (27, [some (.inr (some (25, 0, 0, 0))), some (.inl x0), some (.inl x1)], [.inl v4], (zx_lay M, n)) _
      refine zx_E.go 1 (s' := (28, [some (.inr (some (25, 0, 0, 0))), some (.inl x0), some (.inl x1)], [.inl x1, .inl v4], (zx_lay M, n))) rfl ?_
      refine zx_E.brh (c := v4 = x1) (s1 := (31, [some (.inr (some (25, 0, 0, 0))), some (.inl x0), some (.inl x1)], [], (zx_lay M, n))) (s2 := (35, [some (.inr (some (25, 0, 0, 0))), some (.inl x0), some (.inl x1)], [], (zx_lay M, n))) h (zx_ic_ne rfl) (fun _ h => ?_) (fun _ h => ?_)
      · refine zx_E.go 2 (s' := (36, [some (.inr (some (25, 0, 0, 0))), some (.inl x0), some (.inl x1)], [.inl 1], (zx_lay M, n))) rfl ?_
        exact zx_E.rp h rfl (fun _ => Or.inr rfl)
      · refine zx_E.go 1 (s' := (36, [some (.inr (some (25, 0, 0, 0))), some (.inl x0), some (.inl x1)], [.inl 0], (zx_lay M, n))) rfl ?_
        exact zx_E.rp h rfl (fun _ => Or.inl rfl)
    · refine zx_E.go 1 (s' := (36, [some (.inr (some (25, 0, 0, 0))), some (.inl x0), some (.inl x1)], [.inl 0], (zx_lay M, n))) rfl ?_
      exact zx_E.rp h rfl (fun _ => Or.inl rfl)
def lg_X11_taken_4 (M : zx_Y) (x0 : Int32) (kk : Int32 → Int32 → Option Int32) : Nat → Int32 → Int32 → Option Int32
  | 0, _, _ => none
  | q + 1, w2, w3 => (if (M (26, 0, 0, 0) 27) ≤ w3 then (kk w2 w3) else (zb (g_X11_at M w3 0) fun v1 => (if v1 = 2 then (zb (g_X11_goal M w3) fun v2 => (if v2 = x0 then (zb (g_X11_at M w3 2) fun v3 => (if v3 = x0 then (zb (g_X11_isInStation M w3 x0) fun v4 => (if v4 = 0 then (lg_X11_taken_4 M x0 kk q (w2 + 0) (w3 + 1)) else (lg_X11_taken_4 M x0 kk q (w2 + 1) (w3 + 1)))) else (zb (g_X11_isInStation M w3 x0) fun v5 => (if v5 = 0 then (lg_X11_taken_4 M x0 kk q (w2 + 1) (w3 + 1)) else (lg_X11_taken_4 M x0 kk q (w2 + 1) (w3 + 1)))))) else (zb (g_X11_isInStation M w3 x0) fun v6 => (if v6 = 0 then (lg_X11_taken_4 M x0 kk q (w2 + 0) (w3 + 1)) else (lg_X11_taken_4 M x0 kk q (w2 + 1) (w3 + 1)))))) else (zb (g_X11_isInStation M w3 x0) fun v7 => (if v7 = 0 then (lg_X11_taken_4 M x0 kk q (w2 + 0) (w3 + 1)) else (lg_X11_taken_4 M x0 kk q (w2 + 1) (w3 + 1)))))))
set_option maxRecDepth 100000 in
set_option maxHeartbeats 4000000 in
theorem rl_X11_taken_4 {X : zx_X} {d n : Nat} {M : zx_Y} {x0 : Int32} {kk : Int32 → Int32 → Option Int32} {rv : Int32} (hk : ∀ (w2 : Int32) (w3 : Int32) (e4 : Option zx_V), kk w2 w3 = some rv → zx_E X (d + 3) zc_X11_taken (79, [some (.inr (some (25, 0, 0, 0))), some (.inl x0), some (.inl w2), some (.inl w3), e4], [], (zx_lay M, n)) (some (.inl rv), (zx_lay M, n))) : ∀ (q : Nat) (g4 : Option zx_V) (w2 : Int32) (w3 : Int32), lg_X11_taken_4 M x0 kk q w2 w3 = some rv → zx_E X (d + 3) zc_X11_taken (4, [some (.inr (some (25, 0, 0, 0))), some (.inl x0), some (.inl w2), some (.inl w3), g4], [], (zx_lay M, n)) (some (.inl rv), (zx_lay M, n))
  | 0, g4, w2, w3, h => by
    rw [lg_X11_taken_4.eq_1] at h
    cases h
  | q + 1, g4, w2, w3, h => by
    rw [lg_X11_taken_4.eq_2] at h
    refine zx_E.go 4 (s' := (11, [some (.inr (some (25, 0, 0, 0))), some (.inl x0), some (.inl w2), some (.inl w3), g4], [.inl 27, .inr (some (26, 0, 0, 0)), .inl w3], (zx_lay M, n))) rfl ?_
    refine zx_E.iald (k := 27) (h := (26, 0, 0, 0)) rfl rfl rfl (by decide) ?_
    show zx_E _ _ _ (12, [some (.inr (some (25, 0, 0, 0))), some (.inl x0), some (.inl w2), some (.inl w3), g4], [.inl (M (26, 0, 0, 0) 27), .inl w3], (zx_lay M, n)) _
    refine zx_E.brh (c := (M (26, 0, 0, 0) 27) ≤ w3) (s1 := (79, [some (.inr (some (25, 0, 0, 0))), some (.inl x0), some (.inl w2), some (.inl w3), g4], [], (zx_lay M, n))) (s2 := (15, [some (.inr (some (25, 0, 0, 0))), some (.inl x0), some (.inl w2), some (.inl w3), g4], [], (zx_lay M, n))) h (zx_ic_ge rfl) (fun _ h => ?_) (fun _ h => ?_)
    · exact hk _ _ _ h
    · refine zx_E.go 3 (s' := (18, [some (.inr (some (25, 0, 0, 0))), some (.inl x0), some (.inl w2), some (.inl w3), g4], [.inl 0, .inl w3, .inr (some (25, 0, 0, 0))], (zx_lay M, n))) rfl ?_
      refine zx_E.cb (y := 125) (as := [.inr (some (25, 0, 0, 0)), .inl w3, .inl 0]) (rest := []) h rfl (fun _ hv => zx_run_up (by omega) (r_X11_at (d := d) hv)) (fun v1 h => ?_)
      show zx_E _ _ _ (21, [some (.inr (some (25, 0, 0, 0))), some (.inl x0), some (.inl w2), some (.inl w3), g4], [.inl v1], (zx_lay M, n)) _
      refine zx_E.go 1 (s' := (22, [some (.inr (some (25, 0, 0, 0))), some (.inl x0), some (.inl w2), some (.inl w3), g4], [.inl 2, .inl v1], (zx_lay M, n))) rfl ?_
      refine zx_E.brh (c := v1 = 2) (s1 := (25, [some (.inr (some (25, 0, 0, 0))), some (.inl x0), some (.inl w2), some (.inl w3), g4], [], (zx_lay M, n))) (s2 := (48, [some (.inr (some (25, 0, 0, 0))), some (.inl x0), some (.inl w2), some (.inl w3), g4], [], (zx_lay M, n))) h (zx_ic_ne rfl) (fun _ h => ?_) (fun _ h => ?_)
      · refine zx_E.go 2 (s' := (27, [some (.inr (some (25, 0, 0, 0))), some (.inl x0), some (.inl w2), some (.inl w3), g4], [.inl w3, .inr (some (25, 0, 0, 0))], (zx_lay M, n))) rfl ?_
        refine zx_E.cb (y := 131) (as := [.inr (some (25, 0, 0, 0)), .inl w3]) (rest := []) h rfl (fun _ hv => zx_run_up (by omega) (r_X11_goal (d := d) hv)) (fun v2 h => ?_)
        show zx_E _ _ _ (30, [some (.inr (some (25, 0, 0, 0))), some (.inl x0), some (.inl w2), some (.inl w3), g4], [.inl v2], (zx_lay M, n)) _
        refine zx_E.go 1 (s' := (31, [some (.inr (some (25, 0, 0, 0))), some (.inl x0), some (.inl w2), some (.inl w3), g4], [.inl x0, .inl v2], (zx_lay M, n))) rfl ?_
        refine zx_E.brh (c := v2 = x0) (s1 := (34, [some (.inr (some (25, 0, 0, 0))), some (.inl x0), some (.inl w2), some (.inl w3), g4], [], (zx_lay M, n))) (s2 := (48, [some (.inr (some (25, 0, 0, 0))), some (.inl x0), some (.inl w2), some (.inl w3), g4], [], (zx_lay M, n))) h (zx_ic_ne rfl) (fun _ h => ?_) (fun _ h => ?_)
        · refine zx_E.go 3 (s' := (37, [some (.inr (some (25, 0, 0, 0))), some (.inl x0), some (.inl w2), some (.inl w3), g4], [.inl 2, .inl w3, .inr (some (25, 0, 0, 0))], (zx_lay M, n))) rfl ?_
          refine zx_E.cb (y := 125) (as := [.inr (some (25, 0, 0, 0)), .inl w3, .inl 2]) (rest := []) h rfl (fun _ hv => zx_run_up (by omega) (r_X11_at (d := d) hv)) (fun v3 h => ?_)
          show zx_E _ _ _ (40, [some (.inr (some (25, 0, 0, 0))), some (.inl x0), some (.inl w2), some (.inl w3), g4], [.inl v3], (zx_lay M, n)) _
          refine zx_E.go 1 (s' := (41, [some (.inr (some (25, 0, 0, 0))), some (.inl x0), some (.inl w2), some (.inl w3), g4], [.inl x0, .inl v3], (zx_lay M, n))) rfl ?_
          refine zx_E.brh (c := v3 = x0) (s1 := (48, [some (.inr (some (25, 0, 0, 0))), some (.inl x0), some (.inl w2), some (.inl w3), g4], [], (zx_lay M, n))) (s2 := (44, [some (.inr (some (25, 0, 0, 0))), some (.inl x0), some (.inl w2), some (.inl w3), g4], [], (zx_lay M, n))) h (zx_ic_eq rfl) (fun _ h => ?_) (fun _ h => ?_)
          · refine zx_E.go 6 (s' := (55, [some (.inr (some (25, 0, 0, 0))), some (.inl x0), some (.inl w2), some (.inl w3), some (.inl 0)], [.inl x0, .inl w3, .inr (some (25, 0, 0, 0)), .inl w2], (zx_lay M, n))) rfl ?_
            refine zx_E.cb (y := 130) (as := [.inr (some (25, 0, 0, 0)), .inl w3, .inl x0]) (rest := [.inl w2]) h rfl (fun _ hv => zx_run_up (by omega) (r_X11_isInStation (d := d) hv)) (fun v4 h => ?_)
            show zx_E _ _ _ (58, [some (.inr (some (25, 0, 0, 0))), some (.inl x0), some (.inl w2), some (.inl w3), some (.inl 0)], [.inl v4, .inl w2], (zx_lay M, n)) _
            refine zx_E.brh (c := v4 = 0) (s1 := (61, [some (.inr (some (25, 0, 0, 0))), some (.inl x0), some (.inl w2), some (.inl w3), some (.inl 0)], [.inl w2], (zx_lay M, n))) (s2 := (66, [some (.inr (some (25, 0, 0, 0))), some (.inl x0), some (.inl w2), some (.inl w3), some (.inl 0)], [.inl w2], (zx_lay M, n))) h (zx_if_ne rfl) (fun _ h => ?_) (fun _ h => ?_)
            · refine zx_E.go 1 (s' := (63, [some (.inr (some (25, 0, 0, 0))), some (.inl x0), some (.inl w2), some (.inl w3), some (.inl 0)], [.inl 0, .inl w2], (zx_lay M, n))) rfl ?_
              refine zx_E.bt (c := ((0 : Int32) = 0 : Prop)) (s1 := (70, [some (.inr (some (25, 0, 0, 0))), some (.inl x0), some (.inl w2), some (.inl w3), some (.inl 0)], [.inl w2], (zx_lay M, n))) (s2 := (66, [some (.inr (some (25, 0, 0, 0))), some (.inl x0), some (.inl w2), some (.inl w3), some (.inl 0)], [.inl w2], (zx_lay M, n))) (zx_if_eq rfl) (by decide) ?_
              refine zx_E.go 5 (s' := (4, [some (.inr (some (25, 0, 0, 0))), some (.inl x0), some (.inl (w2 + 0)), some (.inl (w3 + 1)), some (.inl 0)], [], (zx_lay M, n))) rfl ?_
              exact rl_X11_taken_4 hk q _ (w2 + 0) (w3 + 1) h
            · refine zx_E.go 6 (s' := (4, [some (.inr (some (25, 0, 0, 0))), some (.inl x0), some (.inl (w2 + 1)), some (.inl (w3 + 1)), some (.inl 0)], [], (zx_lay M, n))) rfl ?_
              exact rl_X11_taken_4 hk q _ (w2 + 1) (w3 + 1) h
          · refine zx_E.go 7 (s' := (55, [some (.inr (some (25, 0, 0, 0))), some (.inl x0), some (.inl w2), some (.inl w3), some (.inl 1)], [.inl x0, .inl w3, .inr (some (25, 0, 0, 0)), .inl w2], (zx_lay M, n))) rfl ?_
            refine zx_E.cb (y := 130) (as := [.inr (some (25, 0, 0, 0)), .inl w3, .inl x0]) (rest := [.inl w2]) h rfl (fun _ hv => zx_run_up (by omega) (r_X11_isInStation (d := d) hv)) (fun v5 h => ?_)
            show zx_E _ _ _ (58, [some (.inr (some (25, 0, 0, 0))), some (.inl x0), some (.inl w2), some (.inl w3), some (.inl 1)], [.inl v5, .inl w2], (zx_lay M, n)) _
            refine zx_E.brh (c := v5 = 0) (s1 := (61, [some (.inr (some (25, 0, 0, 0))), some (.inl x0), some (.inl w2), some (.inl w3), some (.inl 1)], [.inl w2], (zx_lay M, n))) (s2 := (66, [some (.inr (some (25, 0, 0, 0))), some (.inl x0), some (.inl w2), some (.inl w3), some (.inl 1)], [.inl w2], (zx_lay M, n))) h (zx_if_ne rfl) (fun _ h => ?_) (fun _ h => ?_)
            · refine zx_E.go 1 (s' := (63, [some (.inr (some (25, 0, 0, 0))), some (.inl x0), some (.inl w2), some (.inl w3), some (.inl 1)], [.inl 1, .inl w2], (zx_lay M, n))) rfl ?_
              refine zx_E.bf (c := ((1 : Int32) = 0 : Prop)) (s1 := (70, [some (.inr (some (25, 0, 0, 0))), some (.inl x0), some (.inl w2), some (.inl w3), some (.inl 1)], [.inl w2], (zx_lay M, n))) (s2 := (66, [some (.inr (some (25, 0, 0, 0))), some (.inl x0), some (.inl w2), some (.inl w3), some (.inl 1)], [.inl w2], (zx_lay M, n))) (zx_if_eq rfl) (by decide) ?_
              refine zx_E.go 6 (s' := (4, [some (.inr (some (25, 0, 0, 0))), some (.inl x0), some (.inl (w2 + 1)), some (.inl (w3 + 1)), some (.inl 1)], [], (zx_lay M, n))) rfl ?_
              exact rl_X11_taken_4 hk q _ (w2 + 1) (w3 + 1) h
            · refine zx_E.go 6 (s' := (4, [some (.inr (some (25, 0, 0, 0))), some (.inl x0), some (.inl (w2 + 1)), some (.inl (w3 + 1)), some (.inl 1)], [], (zx_lay M, n))) rfl ?_
              exact rl_X11_taken_4 hk q _ (w2 + 1) (w3 + 1) h
        · refine zx_E.go 6 (s' := (55, [some (.inr (some (25, 0, 0, 0))), some (.inl x0), some (.inl w2), some (.inl w3), some (.inl 0)], [.inl x0, .inl w3, .inr (some (25, 0, 0, 0)), .inl w2], (zx_lay M, n))) rfl ?_
          refine zx_E.cb (y := 130) (as := [.inr (some (25, 0, 0, 0)), .inl w3, .inl x0]) (rest := [.inl w2]) h rfl (fun _ hv => zx_run_up (by omega) (r_X11_isInStation (d := d) hv)) (fun v6 h => ?_)
          show zx_E _ _ _ (58, [some (.inr (some (25, 0, 0, 0))), some (.inl x0), some (.inl w2), some (.inl w3), some (.inl 0)], [.inl v6, .inl w2], (zx_lay M, n)) _
          refine zx_E.brh (c := v6 = 0) (s1 := (61, [some (.inr (some (25, 0, 0, 0))), some (.inl x0), some (.inl w2), some (.inl w3), some (.inl 0)], [.inl w2], (zx_lay M, n))) (s2 := (66, [some (.inr (some (25, 0, 0, 0))), some (.inl x0), some (.inl w2), some (.inl w3), some (.inl 0)], [.inl w2], (zx_lay M, n))) h (zx_if_ne rfl) (fun _ h => ?_) (fun _ h => ?_)
          · refine zx_E.go 1 (s' := (63, [some (.inr (some (25, 0, 0, 0))), some (.inl x0), some (.inl w2), some (.inl w3), some (.inl 0)], [.inl 0, .inl w2], (zx_lay M, n))) rfl ?_
            refine zx_E.bt (c := ((0 : Int32) = 0 : Prop)) (s1 := (70, [some (.inr (some (25, 0, 0, 0))), some (.inl x0), some (.inl w2), some (.inl w3), some (.inl 0)], [.inl w2], (zx_lay M, n))) (s2 := (66, [some (.inr (some (25, 0, 0, 0))), some (.inl x0), some (.inl w2), some (.inl w3), some (.inl 0)], [.inl w2], (zx_lay M, n))) (zx_if_eq rfl) (by decide) ?_
            refine zx_E.go 5 (s' := (4, [some (.inr (some (25, 0, 0, 0))), some (.inl x0), some (.inl (w2 + 0)), some (.inl (w3 + 1)), some (.inl 0)], [], (zx_lay M, n))) rfl ?_
            exact rl_X11_taken_4 hk q _ (w2 + 0) (w3 + 1) h
          · refine zx_E.go 6 (s' := (4, [some (.inr (some (25, 0, 0, 0))), some (.inl x0), some (.inl (w2 + 1)), some (.inl (w3 + 1)), some (.inl 0)], [], (zx_lay M, n))) rfl ?_
            exact rl_X11_taken_4 hk q _ (w2 + 1) (w3 + 1) h
      · refine zx_E.go 6 (s' := (55, [some (.inr (some (25, 0, 0, 0))), some (.inl x0), some (.inl w2), some (.inl w3), some (.inl 0)], [.inl x0, .inl w3, .inr (some (25, 0, 0, 0)), .inl w2], (zx_lay M, n))) rfl ?_
        refine zx_E.cb (y := 130) (as := [.inr (some (25, 0, 0, 0)), .inl w3, .inl x0]) (rest := [.inl w2]) h rfl (fun _ hv => zx_run_up (by omega) (r_X11_isInStation (d := d) hv)) (fun v7 h => ?_)
        show zx_E _ _ _ (58, [some (.inr (some (25, 0, 0, 0))), some (.inl x0), some (.inl w2), some (.inl w3), some (.inl 0)], [.inl v7, .inl w2], (zx_lay M, n)) _
        refine zx_E.brh (c := v7 = 0) (s1 := (61, [some (.inr (some (25, 0, 0, 0))), some (.inl x0), some (.inl w2), some (.inl w3), some (.inl 0)], [.inl w2], (zx_lay M, n))) (s2 := (66, [some (.inr (some (25, 0, 0, 0))), some (.inl x0), some (.inl w2), some (.inl w3), some (.inl 0)], [.inl w2], (zx_lay M, n))) h (zx_if_ne rfl) (fun _ h => ?_) (fun _ h => ?_)
        · refine zx_E.go 1 (s' := (63, [some (.inr (some (25, 0, 0, 0))), some (.inl x0), some (.inl w2), some (.inl w3), some (.inl 0)], [.inl 0, .inl w2], (zx_lay M, n))) rfl ?_
          refine zx_E.bt (c := ((0 : Int32) = 0 : Prop)) (s1 := (70, [some (.inr (some (25, 0, 0, 0))), some (.inl x0), some (.inl w2), some (.inl w3), some (.inl 0)], [.inl w2], (zx_lay M, n))) (s2 := (66, [some (.inr (some (25, 0, 0, 0))), some (.inl x0), some (.inl w2), some (.inl w3), some (.inl 0)], [.inl w2], (zx_lay M, n))) (zx_if_eq rfl) (by decide) ?_
          refine zx_E.go 5 (s' := (4, [some (.inr (some (25, 0, 0, 0))), some (.inl x0), some (.inl (w2 + 0)), some (.inl (w3 + 1)), some (.inl 0)], [], (zx_lay M, n))) rfl ?_
          exact rl_X11_taken_4 hk q _ (w2 + 0) (w3 + 1) h
        · refine zx_E.go 6 (s' := (4, [some (.inr (some (25, 0, 0, 0))), some (.inl x0), some (.inl (w2 + 1)), some (.inl (w3 + 1)), some (.inl 0)], [], (zx_lay M, n))) rfl ?_
          exact rl_X11_taken_4 hk q _ (w2 + 1) (w3 + 1) h
def g_X11_taken (M : zx_Y) (x0 : Int32) : Option Int32 := (lg_X11_taken_4 M x0 (fun v1 v2 => (some v1)) 1000 0 0)
set_option maxRecDepth 100000 in
set_option maxHeartbeats 4000000 in
theorem r_X11_taken {X : zx_X} {d n : Nat} {M : zx_Y} {x0 : Int32} {rv : Int32} (h : g_X11_taken M x0 = some rv) : zx_run X (d + 4) 132 [.inr (some (25, 0, 0, 0)), .inl x0] (zx_lay M, n) (some (.inl rv), (zx_lay M, n)) := by
  refine zx_run_of zc_X11_taken [some (.inr (some (25, 0, 0, 0))), some (.inl x0), none, none, none] rfl rfl ?_
  unfold g_X11_taken at h
  refine zx_E.go 4 (s' := (4, [some (.inr (some (25, 0, 0, 0))), some (.inl x0), some (.inl 0), some (.inl 0), none], [], (zx_lay M, n))) rfl ?_
  refine rl_X11_taken_4 (fun v1 v2 e1 h => ?_) 1000 _ 0 0  h
  refine zx_E.go 1 (s' := (80, [some (.inr (some (25, 0, 0, 0))), some (.inl x0), some (.inl v1), some (.inl v2), e1], [.inl v1], (zx_lay M, n))) rfl ?_
  exact zx_E.rp h rfl (fun h => absurd h (by decide))
def g_X11_equip (M : zx_Y) : Option zx_Y := (if (M (26, 0, 0, 0) 1) = 0 then (zm (g_X11_refuse M 1 (-5)) fun M1 => (some M1)) else (zb (g_X11_isStation M (M (30, 0, 0, 0) 0)) fun v1 => (if v1 = 0 then (zm (g_X11_refuse M 2 (M (30, 0, 0, 0) 0)) fun M2 => (some M2)) else (zb (g_X11_isIn M (M (30, 0, 0, 0) 1) 1 4) fun v2 => (if v2 = 0 then (zm (g_X11_refuse M 4 (M (30, 0, 0, 0) 1)) fun M3 => (some M3)) else (zb (g_X11_taken M (M (30, 0, 0, 0) 0)) fun v3 => (if v3 ≤ (M (30, 0, 0, 0) 1) then (zi (9 + (M (30, 0, 0, 0) 0)) 640 fun k1 => (zl (zx_up M (26, 0, 0, 0) k1 (M (30, 0, 0, 0) 1)) fun M4 => (zi (17 + (M (30, 0, 0, 0) 0)) 640 fun k2 => (zl (zx_up M4 (26, 0, 0, 0) k2 (M4 (30, 0, 0, 0) 2)) fun M5 => (some M5))))) else (zm (g_X11_refuse M 4 (M (30, 0, 0, 0) 1)) fun M6 => (some M6)))))))))
set_option maxRecDepth 100000 in
set_option maxHeartbeats 4000000 in
theorem r_X11_equip {X : zx_X} {d n : Nat} {M : zx_Y} {rM : zx_Y} (h : g_X11_equip M = some rM) : zx_run X (d + 5) 163 [.inr (some (25, 0, 0, 0))] (zx_lay M, n) (none, (zx_lay rM, n)) := by
  refine zx_run_of zc_X11_equip [some (.inr (some (25, 0, 0, 0))), none, none] rfl rfl ?_
  unfold g_X11_equip at h
  refine zx_E.go 3 (s' := (5, [some (.inr (some (25, 0, 0, 0))), none, none], [.inl 0, .inr (some (30, 0, 0, 0))], (zx_lay M, n))) rfl ?_
  refine zx_E.iald (k := 0) (h := (30, 0, 0, 0)) rfl rfl rfl (by decide) ?_
  show zx_E _ _ _ (6, [some (.inr (some (25, 0, 0, 0))), none, none], [.inl (M (30, 0, 0, 0) 0)], (zx_lay M, n)) _
  refine zx_E.go 4 (s' := (12, [some (.inr (some (25, 0, 0, 0))), some (.inl (M (30, 0, 0, 0) 0)), none], [.inl 1, .inr (some (30, 0, 0, 0))], (zx_lay M, n))) rfl ?_
  refine zx_E.iald (k := 1) (h := (30, 0, 0, 0)) rfl rfl rfl (by decide) ?_
  show zx_E _ _ _ (13, [some (.inr (some (25, 0, 0, 0))), some (.inl (M (30, 0, 0, 0) 0)), none], [.inl (M (30, 0, 0, 0) 1)], (zx_lay M, n)) _
  refine zx_E.go 4 (s' := (19, [some (.inr (some (25, 0, 0, 0))), some (.inl (M (30, 0, 0, 0) 0)), some (.inl (M (30, 0, 0, 0) 1))], [.inl 1, .inr (some (26, 0, 0, 0))], (zx_lay M, n))) rfl ?_
  refine zx_E.iald (k := 1) (h := (26, 0, 0, 0)) rfl rfl rfl (by decide) ?_
  show zx_E _ _ _ (20, [some (.inr (some (25, 0, 0, 0))), some (.inl (M (30, 0, 0, 0) 0)), some (.inl (M (30, 0, 0, 0) 1))], [.inl (M (26, 0, 0, 0) 1)], (zx_lay M, n)) _
  refine zx_E.brh (c := (M (26, 0, 0, 0) 1) = 0) (s1 := (23, [some (.inr (some (25, 0, 0, 0))), some (.inl (M (30, 0, 0, 0) 0)), some (.inl (M (30, 0, 0, 0) 1))], [], (zx_lay M, n))) (s2 := (33, [some (.inr (some (25, 0, 0, 0))), some (.inl (M (30, 0, 0, 0) 0)), some (.inl (M (30, 0, 0, 0) 1))], [], (zx_lay M, n))) h (zx_if_ne rfl) (fun _ h => ?_) (fun _ h => ?_)
  · refine zx_E.go 3 (s' := (27, [some (.inr (some (25, 0, 0, 0))), some (.inl (M (30, 0, 0, 0) 0)), some (.inl (M (30, 0, 0, 0) 1))], [.inl (-5), .inl 1, .inr (some (25, 0, 0, 0))], (zx_lay M, n))) rfl ?_
    refine zx_E.cm (y := 161) (as := [.inr (some (25, 0, 0, 0)), .inl 1, .inl (-5)]) (rest := []) h rfl (fun _ hv => zx_run_up (by omega) (r_X11_refuse (d := d) hv)) (fun M1 h => ?_)
    show zx_E _ _ _ (30, [some (.inr (some (25, 0, 0, 0))), some (.inl (M (30, 0, 0, 0) 0)), some (.inl (M (30, 0, 0, 0) 1))], [], (zx_lay M1, n)) _
    refine zx_E.go 1 (s' := (102, [some (.inr (some (25, 0, 0, 0))), some (.inl (M (30, 0, 0, 0) 0)), some (.inl (M (30, 0, 0, 0) 1))], [], (zx_lay M1, n))) rfl ?_
    exact zx_E.r0 h rfl
  · refine zx_E.go 2 (s' := (35, [some (.inr (some (25, 0, 0, 0))), some (.inl (M (30, 0, 0, 0) 0)), some (.inl (M (30, 0, 0, 0) 1))], [.inl (M (30, 0, 0, 0) 0), .inr (some (25, 0, 0, 0))], (zx_lay M, n))) rfl ?_
    refine zx_E.cb (y := 122) (as := [.inr (some (25, 0, 0, 0)), .inl (M (30, 0, 0, 0) 0)]) (rest := []) h rfl (fun _ hv => zx_run_up (by omega) (r_X11_isStation (d := d) hv)) (fun v1 h => ?_)
    show zx_E _ _ _ (38, [some (.inr (some (25, 0, 0, 0))), some (.inl (M (30, 0, 0, 0) 0)), some (.inl (M (30, 0, 0, 0) 1))], [.inl v1], (zx_lay M, n)) _
    refine zx_E.brh (c := v1 = 0) (s1 := (41, [some (.inr (some (25, 0, 0, 0))), some (.inl (M (30, 0, 0, 0) 0)), some (.inl (M (30, 0, 0, 0) 1))], [], (zx_lay M, n))) (s2 := (50, [some (.inr (some (25, 0, 0, 0))), some (.inl (M (30, 0, 0, 0) 0)), some (.inl (M (30, 0, 0, 0) 1))], [], (zx_lay M, n))) h (zx_if_ne rfl) (fun _ h => ?_) (fun _ h => ?_)
    · refine zx_E.go 3 (s' := (44, [some (.inr (some (25, 0, 0, 0))), some (.inl (M (30, 0, 0, 0) 0)), some (.inl (M (30, 0, 0, 0) 1))], [.inl (M (30, 0, 0, 0) 0), .inl 2, .inr (some (25, 0, 0, 0))], (zx_lay M, n))) rfl ?_
      refine zx_E.cm (y := 161) (as := [.inr (some (25, 0, 0, 0)), .inl 2, .inl (M (30, 0, 0, 0) 0)]) (rest := []) h rfl (fun _ hv => zx_run_up (by omega) (r_X11_refuse (d := d) hv)) (fun M2 h => ?_)
      show zx_E _ _ _ (47, [some (.inr (some (25, 0, 0, 0))), some (.inl (M (30, 0, 0, 0) 0)), some (.inl (M (30, 0, 0, 0) 1))], [], (zx_lay M2, n)) _
      refine zx_E.go 1 (s' := (102, [some (.inr (some (25, 0, 0, 0))), some (.inl (M (30, 0, 0, 0) 0)), some (.inl (M (30, 0, 0, 0) 1))], [], (zx_lay M2, n))) rfl ?_
      exact zx_E.r0 h rfl
    · refine zx_E.go 3 (s' := (53, [some (.inr (some (25, 0, 0, 0))), some (.inl (M (30, 0, 0, 0) 0)), some (.inl (M (30, 0, 0, 0) 1))], [.inl 4, .inl 1, .inl (M (30, 0, 0, 0) 1)], (zx_lay M, n))) rfl ?_
      refine zx_E.cb (y := 121) (as := [.inl (M (30, 0, 0, 0) 1), .inl 1, .inl 4]) (rest := []) h rfl (fun _ hv => zx_run_up (by omega) (r_X11_isIn (d := d) hv)) (fun v2 h => ?_)
      show zx_E _ _ _ (56, [some (.inr (some (25, 0, 0, 0))), some (.inl (M (30, 0, 0, 0) 0)), some (.inl (M (30, 0, 0, 0) 1))], [.inl v2], (zx_lay M, n)) _
      refine zx_E.brh (c := v2 = 0) (s1 := (68, [some (.inr (some (25, 0, 0, 0))), some (.inl (M (30, 0, 0, 0) 0)), some (.inl (M (30, 0, 0, 0) 1))], [], (zx_lay M, n))) (s2 := (59, [some (.inr (some (25, 0, 0, 0))), some (.inl (M (30, 0, 0, 0) 0)), some (.inl (M (30, 0, 0, 0) 1))], [], (zx_lay M, n))) h (zx_if_eq rfl) (fun _ h => ?_) (fun _ h => ?_)
      · refine zx_E.go 3 (s' := (71, [some (.inr (some (25, 0, 0, 0))), some (.inl (M (30, 0, 0, 0) 0)), some (.inl (M (30, 0, 0, 0) 1))], [.inl (M (30, 0, 0, 0) 1), .inl 4, .inr (some (25, 0, 0, 0))], (zx_lay M, n))) rfl ?_
        refine zx_E.cm (y := 161) (as := [.inr (some (25, 0, 0, 0)), .inl 4, .inl (M (30, 0, 0, 0) 1)]) (rest := []) h rfl (fun _ hv => zx_run_up (by omega) (r_X11_refuse (d := d) hv)) (fun M3 h => ?_)
        show zx_E _ _ _ (74, [some (.inr (some (25, 0, 0, 0))), some (.inl (M (30, 0, 0, 0) 0)), some (.inl (M (30, 0, 0, 0) 1))], [], (zx_lay M3, n)) _
        refine zx_E.go 1 (s' := (102, [some (.inr (some (25, 0, 0, 0))), some (.inl (M (30, 0, 0, 0) 0)), some (.inl (M (30, 0, 0, 0) 1))], [], (zx_lay M3, n))) rfl ?_
        exact zx_E.r0 h rfl
      · refine zx_E.go 3 (s' := (62, [some (.inr (some (25, 0, 0, 0))), some (.inl (M (30, 0, 0, 0) 0)), some (.inl (M (30, 0, 0, 0) 1))], [.inl (M (30, 0, 0, 0) 0), .inr (some (25, 0, 0, 0)), .inl (M (30, 0, 0, 0) 1)], (zx_lay M, n))) rfl ?_
        refine zx_E.cb (y := 132) (as := [.inr (some (25, 0, 0, 0)), .inl (M (30, 0, 0, 0) 0)]) (rest := [.inl (M (30, 0, 0, 0) 1)]) h rfl (fun _ hv => zx_run_up (by omega) (r_X11_taken (d := d) hv)) (fun v3 h => ?_)
        show zx_E _ _ _ (65, [some (.inr (some (25, 0, 0, 0))), some (.inl (M (30, 0, 0, 0) 0)), some (.inl (M (30, 0, 0, 0) 1))], [.inl v3, .inl (M (30, 0, 0, 0) 1)], (zx_lay M, n)) _
        refine zx_E.brh (c := v3 ≤ (M (30, 0, 0, 0) 1)) (s1 := (77, [some (.inr (some (25, 0, 0, 0))), some (.inl (M (30, 0, 0, 0) 0)), some (.inl (M (30, 0, 0, 0) 1))], [], (zx_lay M, n))) (s2 := (68, [some (.inr (some (25, 0, 0, 0))), some (.inl (M (30, 0, 0, 0) 0)), some (.inl (M (30, 0, 0, 0) 1))], [], (zx_lay M, n))) h (zx_ic_ge rfl) (fun _ h => ?_) (fun _ h => ?_)
        · refine zx_E.go 4 (s' := (84, [some (.inr (some (25, 0, 0, 0))), some (.inl (M (30, 0, 0, 0) 0)), some (.inl (M (30, 0, 0, 0) 1))], [.inl (M (30, 0, 0, 0) 0), .inl 9, .inr (some (26, 0, 0, 0))], (zx_lay M, n))) rfl ?_
          refine zx_E.go 2 (s' := (86, [some (.inr (some (25, 0, 0, 0))), some (.inl (M (30, 0, 0, 0) 0)), some (.inl (M (30, 0, 0, 0) 1))], [.inl (M (30, 0, 0, 0) 1), .inl (9 + (M (30, 0, 0, 0) 0)), .inr (some (26, 0, 0, 0))], (zx_lay M, n))) rfl ?_
          refine zx_E.ix h (fun k1 hx_k1 hl_k1 h => ?_)
          refine zx_E.ia h rfl rfl hx_k1 hl_k1 (fun M4 h => ?_)
          show zx_E _ _ _ (87, [some (.inr (some (25, 0, 0, 0))), some (.inl (M (30, 0, 0, 0) 0)), some (.inl (M (30, 0, 0, 0) 1))], [], (zx_lay M4, n)) _
          refine zx_E.go 4 (s' := (94, [some (.inr (some (25, 0, 0, 0))), some (.inl (M (30, 0, 0, 0) 0)), some (.inl (M (30, 0, 0, 0) 1))], [.inl (M (30, 0, 0, 0) 0), .inl 17, .inr (some (26, 0, 0, 0))], (zx_lay M4, n))) rfl ?_
          refine zx_E.go 4 (s' := (100, [some (.inr (some (25, 0, 0, 0))), some (.inl (M (30, 0, 0, 0) 0)), some (.inl (M (30, 0, 0, 0) 1))], [.inl 2, .inr (some (30, 0, 0, 0)), .inl (17 + (M (30, 0, 0, 0) 0)), .inr (some (26, 0, 0, 0))], (zx_lay M4, n))) rfl ?_
          refine zx_E.iald (k := 2) (h := (30, 0, 0, 0)) rfl rfl rfl (by decide) ?_
          show zx_E _ _ _ (101, [some (.inr (some (25, 0, 0, 0))), some (.inl (M (30, 0, 0, 0) 0)), some (.inl (M (30, 0, 0, 0) 1))], [.inl (M4 (30, 0, 0, 0) 2), .inl (17 + (M (30, 0, 0, 0) 0)), .inr (some (26, 0, 0, 0))], (zx_lay M4, n)) _
          refine zx_E.ix h (fun k2 hx_k2 hl_k2 h => ?_)
          refine zx_E.ia h rfl rfl hx_k2 hl_k2 (fun M5 h => ?_)
          show zx_E _ _ _ (102, [some (.inr (some (25, 0, 0, 0))), some (.inl (M (30, 0, 0, 0) 0)), some (.inl (M (30, 0, 0, 0) 1))], [], (zx_lay M5, n)) _
          exact zx_E.r0 h rfl
        · refine zx_E.go 3 (s' := (71, [some (.inr (some (25, 0, 0, 0))), some (.inl (M (30, 0, 0, 0) 0)), some (.inl (M (30, 0, 0, 0) 1))], [.inl (M (30, 0, 0, 0) 1), .inl 4, .inr (some (25, 0, 0, 0))], (zx_lay M, n))) rfl ?_
          refine zx_E.cm (y := 161) (as := [.inr (some (25, 0, 0, 0)), .inl 4, .inl (M (30, 0, 0, 0) 1)]) (rest := []) h rfl (fun _ hv => zx_run_up (by omega) (r_X11_refuse (d := d) hv)) (fun M6 h => ?_)
          show zx_E _ _ _ (74, [some (.inr (some (25, 0, 0, 0))), some (.inl (M (30, 0, 0, 0) 0)), some (.inl (M (30, 0, 0, 0) 1))], [], (zx_lay M6, n)) _
          refine zx_E.go 1 (s' := (102, [some (.inr (some (25, 0, 0, 0))), some (.inl (M (30, 0, 0, 0) 0)), some (.inl (M (30, 0, 0, 0) 1))], [], (zx_lay M6, n))) rfl ?_
          exact zx_E.r0 h rfl
def g_X11_set (M : zx_Y) (x0 : Int32) (x1 : Int32) (x2 : Int32) : Option zx_Y := (zi ((75 + (40 * x0)) + x1) 640 fun k1 => (zl (zx_up M (26, 0, 0, 0) k1 x2) fun M1 => (some M1)))
set_option maxRecDepth 100000 in
set_option maxHeartbeats 4000000 in
theorem r_X11_set {X : zx_X} {d n : Nat} {M : zx_Y} {x0 : Int32} {x1 : Int32} {x2 : Int32} {rM : zx_Y} (h : g_X11_set M x0 x1 x2 = some rM) : zx_run X (d + 1) 126 [.inr (some (25, 0, 0, 0)), .inl x0, .inl x1, .inl x2] (zx_lay M, n) (none, (zx_lay rM, n)) := by
  refine zx_run_of zc_X11_set [some (.inr (some (25, 0, 0, 0))), some (.inl x0), some (.inl x1), some (.inl x2)] rfl rfl ?_
  unfold g_X11_set at h
  refine zx_E.go 5 (s' := (9, [some (.inr (some (25, 0, 0, 0))), some (.inl x0), some (.inl x1), some (.inl x2)], [.inl x0, .inl 40, .inl 75, .inr (some (26, 0, 0, 0))], (zx_lay M, n))) rfl ?_
  refine zx_E.go 5 (s' := (14, [some (.inr (some (25, 0, 0, 0))), some (.inl x0), some (.inl x1), some (.inl x2)], [.inl x2, .inl ((75 + (40 * x0)) + x1), .inr (some (26, 0, 0, 0))], (zx_lay M, n))) rfl ?_
  refine zx_E.ix h (fun k1 hx_k1 hl_k1 h => ?_)
  refine zx_E.ia h rfl rfl hx_k1 hl_k1 (fun M1 h => ?_)
  show zx_E _ _ _ (15, [some (.inr (some (25, 0, 0, 0))), some (.inl x0), some (.inl x1), some (.inl x2)], [], (zx_lay M1, n)) _
  exact zx_E.r0 h rfl
def lg_X11_bringTrain_21 (p1 : Int32) (kk : Int32 → zx_Y → Option zx_Y) : Nat → Int32 → zx_Y → Option zx_Y
  | 0, _, _ => none
  | q + 1, w2, M => (if (40 : Int32) ≤ w2 then (kk w2 M) else (if w2 < 17 then (zm (g_X11_set M p1 w2 0) fun M1 => (lg_X11_bringTrain_21 p1 kk q (w2 + 1) M1)) else (zm (g_X11_set M p1 w2 (-5)) fun M2 => (lg_X11_bringTrain_21 p1 kk q (w2 + 1) M2))))
set_option maxRecDepth 100000 in
set_option maxHeartbeats 4000000 in
theorem rl_X11_bringTrain_21 {X : zx_X} {d n : Nat} {p1 : Int32} {kk : Int32 → zx_Y → Option zx_Y} {rM : zx_Y} (hk : ∀ (w2 : Int32) (M : zx_Y), kk w2 M = some rM → zx_E X (d + 1) zc_X11_bringTrain (51, [some (.inr (some (25, 0, 0, 0))), some (.inl p1), some (.inl w2)], [], (zx_lay M, n)) (none, (zx_lay rM, n))) : ∀ (q : Nat) (w2 : Int32) (M : zx_Y), lg_X11_bringTrain_21 p1 kk q w2 M = some rM → zx_E X (d + 1) zc_X11_bringTrain (21, [some (.inr (some (25, 0, 0, 0))), some (.inl p1), some (.inl w2)], [], (zx_lay M, n)) (none, (zx_lay rM, n))
  | 0, w2, M, h => by
    rw [lg_X11_bringTrain_21.eq_1] at h
    cases h
  | q + 1, w2, M, h => by
    rw [lg_X11_bringTrain_21.eq_2] at h
    refine zx_E.go 2 (s' := (24, [some (.inr (some (25, 0, 0, 0))), some (.inl p1), some (.inl w2)], [.inl 40, .inl w2], (zx_lay M, n))) rfl ?_
    refine zx_E.brh (c := (40 : Int32) ≤ w2) (s1 := (51, [some (.inr (some (25, 0, 0, 0))), some (.inl p1), some (.inl w2)], [], (zx_lay M, n))) (s2 := (27, [some (.inr (some (25, 0, 0, 0))), some (.inl p1), some (.inl w2)], [], (zx_lay M, n))) h (zx_ic_ge rfl) (fun _ h => ?_) (fun _ h => ?_)
    · exact hk _ _ h
    · refine zx_E.go 5 (s' := (33, [some (.inr (some (25, 0, 0, 0))), some (.inl p1), some (.inl w2)], [.inl 17, .inl w2, .inl w2, .inl p1, .inr (some (25, 0, 0, 0))], (zx_lay M, n))) rfl ?_
      refine zx_E.brh (c := w2 < 17) (s1 := (41, [some (.inr (some (25, 0, 0, 0))), some (.inl p1), some (.inl w2)], [.inl w2, .inl p1, .inr (some (25, 0, 0, 0))], (zx_lay M, n))) (s2 := (36, [some (.inr (some (25, 0, 0, 0))), some (.inl p1), some (.inl w2)], [.inl w2, .inl p1, .inr (some (25, 0, 0, 0))], (zx_lay M, n))) h (zx_ic_lt rfl) (fun _ h => ?_) (fun _ h => ?_)
      · refine zx_E.go 1 (s' := (42, [some (.inr (some (25, 0, 0, 0))), some (.inl p1), some (.inl w2)], [.inl 0, .inl w2, .inl p1, .inr (some (25, 0, 0, 0))], (zx_lay M, n))) rfl ?_
        refine zx_E.cm (y := 126) (as := [.inr (some (25, 0, 0, 0)), .inl p1, .inl w2, .inl 0]) (rest := []) h rfl (fun _ hv => zx_run_up (by omega) (r_X11_set (d := d) hv)) (fun M1 h => ?_)
        show zx_E _ _ _ (45, [some (.inr (some (25, 0, 0, 0))), some (.inl p1), some (.inl w2)], [], (zx_lay M1, n)) _
        refine zx_E.go 2 (s' := (21, [some (.inr (some (25, 0, 0, 0))), some (.inl p1), some (.inl (w2 + 1))], [], (zx_lay M1, n))) rfl ?_
        exact rl_X11_bringTrain_21 hk q (w2 + 1) M1 h
      · refine zx_E.go 2 (s' := (42, [some (.inr (some (25, 0, 0, 0))), some (.inl p1), some (.inl w2)], [.inl (-5), .inl w2, .inl p1, .inr (some (25, 0, 0, 0))], (zx_lay M, n))) rfl ?_
        refine zx_E.cm (y := 126) (as := [.inr (some (25, 0, 0, 0)), .inl p1, .inl w2, .inl (-5)]) (rest := []) h rfl (fun _ hv => zx_run_up (by omega) (r_X11_set (d := d) hv)) (fun M2 h => ?_)
        show zx_E _ _ _ (45, [some (.inr (some (25, 0, 0, 0))), some (.inl p1), some (.inl w2)], [], (zx_lay M2, n)) _
        refine zx_E.go 2 (s' := (21, [some (.inr (some (25, 0, 0, 0))), some (.inl p1), some (.inl (w2 + 1))], [], (zx_lay M2, n))) rfl ?_
        exact rl_X11_bringTrain_21 hk q (w2 + 1) M2 h
def lg_X11_bringTrain_177 (p1 : Int32) (kk : Int32 → zx_Y → Option zx_Y) : Nat → Int32 → zx_Y → Option zx_Y
  | 0, _, _ => none
  | q + 1, w2, M => (if (16 : Int32) ≤ w2 then (kk w2 M) else (zi ((477 + (16 * p1)) + w2) 640 fun k1 => (zl (zx_up M (26, 0, 0, 0) k1 (-5)) fun M1 => (lg_X11_bringTrain_177 p1 kk q (w2 + 1) M1))))
set_option maxRecDepth 100000 in
set_option maxHeartbeats 4000000 in
theorem rl_X11_bringTrain_177 {X : zx_X} {d n : Nat} {p1 : Int32} {kk : Int32 → zx_Y → Option zx_Y} {rM : zx_Y} (hk : ∀ (w2 : Int32) (M : zx_Y), kk w2 M = some rM → zx_E X (d + 1) zc_X11_bringTrain (206, [some (.inr (some (25, 0, 0, 0))), some (.inl p1), some (.inl w2)], [], (zx_lay M, n)) (none, (zx_lay rM, n))) : ∀ (q : Nat) (w2 : Int32) (M : zx_Y), lg_X11_bringTrain_177 p1 kk q w2 M = some rM → zx_E X (d + 1) zc_X11_bringTrain (177, [some (.inr (some (25, 0, 0, 0))), some (.inl p1), some (.inl w2)], [], (zx_lay M, n)) (none, (zx_lay rM, n))
  | 0, w2, M, h => by
    rw [lg_X11_bringTrain_177.eq_1] at h
    cases h
  | q + 1, w2, M, h => by
    rw [lg_X11_bringTrain_177.eq_2] at h
    refine zx_E.go 2 (s' := (180, [some (.inr (some (25, 0, 0, 0))), some (.inl p1), some (.inl w2)], [.inl 16, .inl w2], (zx_lay M, n))) rfl ?_
    refine zx_E.brh (c := (16 : Int32) ≤ w2) (s1 := (206, [some (.inr (some (25, 0, 0, 0))), some (.inl p1), some (.inl w2)], [], (zx_lay M, n))) (s2 := (183, [some (.inr (some (25, 0, 0, 0))), some (.inl p1), some (.inl w2)], [], (zx_lay M, n))) h (zx_ic_ge rfl) (fun _ h => ?_) (fun _ h => ?_)
    · exact hk _ _ h
    · refine zx_E.go 5 (s' := (193, [some (.inr (some (25, 0, 0, 0))), some (.inl p1), some (.inl w2)], [.inl p1, .inl 16, .inl 477, .inr (some (26, 0, 0, 0))], (zx_lay M, n))) rfl ?_
      refine zx_E.go 5 (s' := (199, [some (.inr (some (25, 0, 0, 0))), some (.inl p1), some (.inl w2)], [.inl (-5), .inl ((477 + (16 * p1)) + w2), .inr (some (26, 0, 0, 0))], (zx_lay M, n))) rfl ?_
      refine zx_E.ix h (fun k1 hx_k1 hl_k1 h => ?_)
      refine zx_E.ia h rfl rfl hx_k1 hl_k1 (fun M1 h => ?_)
      show zx_E _ _ _ (200, [some (.inr (some (25, 0, 0, 0))), some (.inl p1), some (.inl w2)], [], (zx_lay M1, n)) _
      refine zx_E.go 2 (s' := (177, [some (.inr (some (25, 0, 0, 0))), some (.inl p1), some (.inl (w2 + 1))], [], (zx_lay M1, n))) rfl ?_
      exact rl_X11_bringTrain_177 hk q (w2 + 1) M1 h
def g_X11_bringTrain (M : zx_Y) : Option zx_Y := (zl (zx_up M (26, 0, 0, 0) 27 ((M (26, 0, 0, 0) 27) + 1)) fun M1 => (lg_X11_bringTrain_21 (M (26, 0, 0, 0) 27) (fun v1 M2 => (zm (g_X11_set M2 (M (26, 0, 0, 0) 27) 1 (M2 (30, 0, 0, 0) 0)) fun M3 => (zm (g_X11_set M3 (M (26, 0, 0, 0) 27) 2 (M3 (30, 0, 0, 0) 1)) fun M4 => (zm (g_X11_set M4 (M (26, 0, 0, 0) 27) 3 (M4 (30, 0, 0, 0) 2)) fun M5 => (zm (g_X11_set M5 (M (26, 0, 0, 0) 27) 4 (M5 (30, 0, 0, 0) 3)) fun M6 => (zm (g_X11_set M6 (M (26, 0, 0, 0) 27) 5 (M6 (30, 0, 0, 0) 4)) fun M7 => (zm (g_X11_set M7 (M (26, 0, 0, 0) 27) 6 (M7 (30, 0, 0, 0) 5)) fun M8 => (zm (g_X11_set M8 (M (26, 0, 0, 0) 27) 7 (M8 (30, 0, 0, 0) 3)) fun M9 => (zm (g_X11_set M9 (M (26, 0, 0, 0) 27) 8 (-5)) fun M10 => (zm (g_X11_set M10 (M (26, 0, 0, 0) 27) 9 (-5)) fun M11 => (zm (g_X11_set M11 (M (26, 0, 0, 0) 27) 11 (-5)) fun M12 => (if (M12 (26, 0, 0, 0) 476) ≤ 0 then (some M12) else (lg_X11_bringTrain_177 (M (26, 0, 0, 0) 27) (fun v2 M13 => (some M13)) 1000 0 M12))))))))))))) 1000 0 M1))
set_option maxRecDepth 100000 in
set_option maxHeartbeats 4000000 in
theorem r_X11_bringTrain {X : zx_X} {d n : Nat} {M : zx_Y} {rM : zx_Y} (h : g_X11_bringTrain M = some rM) : zx_run X (d + 2) 165 [.inr (some (25, 0, 0, 0))] (zx_lay M, n) (none, (zx_lay rM, n)) := by
  refine zx_run_of zc_X11_bringTrain [some (.inr (some (25, 0, 0, 0))), none, none] rfl rfl ?_
  unfold g_X11_bringTrain at h
  refine zx_E.go 3 (s' := (6, [some (.inr (some (25, 0, 0, 0))), none, none], [.inl 27, .inr (some (26, 0, 0, 0))], (zx_lay M, n))) rfl ?_
  refine zx_E.iald (k := 27) (h := (26, 0, 0, 0)) rfl rfl rfl (by decide) ?_
  show zx_E _ _ _ (7, [some (.inr (some (25, 0, 0, 0))), none, none], [.inl (M (26, 0, 0, 0) 27)], (zx_lay M, n)) _
  refine zx_E.go 5 (s' := (15, [some (.inr (some (25, 0, 0, 0))), some (.inl (M (26, 0, 0, 0) 27)), none], [.inl 27, .inr (some (26, 0, 0, 0)), .inl 27, .inr (some (26, 0, 0, 0))], (zx_lay M, n))) rfl ?_
  refine zx_E.iald (k := 27) (h := (26, 0, 0, 0)) rfl rfl rfl (by decide) ?_
  show zx_E _ _ _ (16, [some (.inr (some (25, 0, 0, 0))), some (.inl (M (26, 0, 0, 0) 27)), none], [.inl (M (26, 0, 0, 0) 27), .inl 27, .inr (some (26, 0, 0, 0))], (zx_lay M, n)) _
  refine zx_E.go 2 (s' := (18, [some (.inr (some (25, 0, 0, 0))), some (.inl (M (26, 0, 0, 0) 27)), none], [.inl ((M (26, 0, 0, 0) 27) + 1), .inl 27, .inr (some (26, 0, 0, 0))], (zx_lay M, n))) rfl ?_
  refine zx_E.ia h rfl rfl rfl (by decide) (fun M1 h => ?_)
  show zx_E _ _ _ (19, [some (.inr (some (25, 0, 0, 0))), some (.inl (M (26, 0, 0, 0) 27)), none], [], (zx_lay M1, n)) _
  refine zx_E.go 2 (s' := (21, [some (.inr (some (25, 0, 0, 0))), some (.inl (M (26, 0, 0, 0) 27)), some (.inl 0)], [], (zx_lay M1, n))) rfl ?_
  refine rl_X11_bringTrain_21 (fun v1 M2 h => ?_) 1000  0 M1 h
  refine zx_E.go 6 (s' := (59, [some (.inr (some (25, 0, 0, 0))), some (.inl (M (26, 0, 0, 0) 27)), some (.inl v1)], [.inl 0, .inr (some (30, 0, 0, 0)), .inl 1, .inl (M (26, 0, 0, 0) 27), .inr (some (25, 0, 0, 0))], (zx_lay M2, n))) rfl ?_
  refine zx_E.iald (k := 0) (h := (30, 0, 0, 0)) rfl rfl rfl (by decide) ?_
  show zx_E _ _ _ (60, [some (.inr (some (25, 0, 0, 0))), some (.inl (M (26, 0, 0, 0) 27)), some (.inl v1)], [.inl (M2 (30, 0, 0, 0) 0), .inl 1, .inl (M (26, 0, 0, 0) 27), .inr (some (25, 0, 0, 0))], (zx_lay M2, n)) _
  refine zx_E.cm (y := 126) (as := [.inr (some (25, 0, 0, 0)), .inl (M (26, 0, 0, 0) 27), .inl 1, .inl (M2 (30, 0, 0, 0) 0)]) (rest := []) h rfl (fun _ hv => zx_run_up (by omega) (r_X11_set (d := d) hv)) (fun M3 h => ?_)
  show zx_E _ _ _ (63, [some (.inr (some (25, 0, 0, 0))), some (.inl (M (26, 0, 0, 0) 27)), some (.inl v1)], [], (zx_lay M3, n)) _
  refine zx_E.go 6 (s' := (71, [some (.inr (some (25, 0, 0, 0))), some (.inl (M (26, 0, 0, 0) 27)), some (.inl v1)], [.inl 1, .inr (some (30, 0, 0, 0)), .inl 2, .inl (M (26, 0, 0, 0) 27), .inr (some (25, 0, 0, 0))], (zx_lay M3, n))) rfl ?_
  refine zx_E.iald (k := 1) (h := (30, 0, 0, 0)) rfl rfl rfl (by decide) ?_
  show zx_E _ _ _ (72, [some (.inr (some (25, 0, 0, 0))), some (.inl (M (26, 0, 0, 0) 27)), some (.inl v1)], [.inl (M3 (30, 0, 0, 0) 1), .inl 2, .inl (M (26, 0, 0, 0) 27), .inr (some (25, 0, 0, 0))], (zx_lay M3, n)) _
  refine zx_E.cm (y := 126) (as := [.inr (some (25, 0, 0, 0)), .inl (M (26, 0, 0, 0) 27), .inl 2, .inl (M3 (30, 0, 0, 0) 1)]) (rest := []) h rfl (fun _ hv => zx_run_up (by omega) (r_X11_set (d := d) hv)) (fun M4 h => ?_)
  show zx_E _ _ _ (75, [some (.inr (some (25, 0, 0, 0))), some (.inl (M (26, 0, 0, 0) 27)), some (.inl v1)], [], (zx_lay M4, n)) _
  refine zx_E.go 6 (s' := (83, [some (.inr (some (25, 0, 0, 0))), some (.inl (M (26, 0, 0, 0) 27)), some (.inl v1)], [.inl 2, .inr (some (30, 0, 0, 0)), .inl 3, .inl (M (26, 0, 0, 0) 27), .inr (some (25, 0, 0, 0))], (zx_lay M4, n))) rfl ?_
  refine zx_E.iald (k := 2) (h := (30, 0, 0, 0)) rfl rfl rfl (by decide) ?_
  show zx_E _ _ _ (84, [some (.inr (some (25, 0, 0, 0))), some (.inl (M (26, 0, 0, 0) 27)), some (.inl v1)], [.inl (M4 (30, 0, 0, 0) 2), .inl 3, .inl (M (26, 0, 0, 0) 27), .inr (some (25, 0, 0, 0))], (zx_lay M4, n)) _
  refine zx_E.cm (y := 126) (as := [.inr (some (25, 0, 0, 0)), .inl (M (26, 0, 0, 0) 27), .inl 3, .inl (M4 (30, 0, 0, 0) 2)]) (rest := []) h rfl (fun _ hv => zx_run_up (by omega) (r_X11_set (d := d) hv)) (fun M5 h => ?_)
  show zx_E _ _ _ (87, [some (.inr (some (25, 0, 0, 0))), some (.inl (M (26, 0, 0, 0) 27)), some (.inl v1)], [], (zx_lay M5, n)) _
  refine zx_E.go 6 (s' := (95, [some (.inr (some (25, 0, 0, 0))), some (.inl (M (26, 0, 0, 0) 27)), some (.inl v1)], [.inl 3, .inr (some (30, 0, 0, 0)), .inl 4, .inl (M (26, 0, 0, 0) 27), .inr (some (25, 0, 0, 0))], (zx_lay M5, n))) rfl ?_
  refine zx_E.iald (k := 3) (h := (30, 0, 0, 0)) rfl rfl rfl (by decide) ?_
  show zx_E _ _ _ (96, [some (.inr (some (25, 0, 0, 0))), some (.inl (M (26, 0, 0, 0) 27)), some (.inl v1)], [.inl (M5 (30, 0, 0, 0) 3), .inl 4, .inl (M (26, 0, 0, 0) 27), .inr (some (25, 0, 0, 0))], (zx_lay M5, n)) _
  refine zx_E.cm (y := 126) (as := [.inr (some (25, 0, 0, 0)), .inl (M (26, 0, 0, 0) 27), .inl 4, .inl (M5 (30, 0, 0, 0) 3)]) (rest := []) h rfl (fun _ hv => zx_run_up (by omega) (r_X11_set (d := d) hv)) (fun M6 h => ?_)
  show zx_E _ _ _ (99, [some (.inr (some (25, 0, 0, 0))), some (.inl (M (26, 0, 0, 0) 27)), some (.inl v1)], [], (zx_lay M6, n)) _
  refine zx_E.go 6 (s' := (107, [some (.inr (some (25, 0, 0, 0))), some (.inl (M (26, 0, 0, 0) 27)), some (.inl v1)], [.inl 4, .inr (some (30, 0, 0, 0)), .inl 5, .inl (M (26, 0, 0, 0) 27), .inr (some (25, 0, 0, 0))], (zx_lay M6, n))) rfl ?_
  refine zx_E.iald (k := 4) (h := (30, 0, 0, 0)) rfl rfl rfl (by decide) ?_
  show zx_E _ _ _ (108, [some (.inr (some (25, 0, 0, 0))), some (.inl (M (26, 0, 0, 0) 27)), some (.inl v1)], [.inl (M6 (30, 0, 0, 0) 4), .inl 5, .inl (M (26, 0, 0, 0) 27), .inr (some (25, 0, 0, 0))], (zx_lay M6, n)) _
  refine zx_E.cm (y := 126) (as := [.inr (some (25, 0, 0, 0)), .inl (M (26, 0, 0, 0) 27), .inl 5, .inl (M6 (30, 0, 0, 0) 4)]) (rest := []) h rfl (fun _ hv => zx_run_up (by omega) (r_X11_set (d := d) hv)) (fun M7 h => ?_)
  show zx_E _ _ _ (111, [some (.inr (some (25, 0, 0, 0))), some (.inl (M (26, 0, 0, 0) 27)), some (.inl v1)], [], (zx_lay M7, n)) _
  refine zx_E.go 6 (s' := (120, [some (.inr (some (25, 0, 0, 0))), some (.inl (M (26, 0, 0, 0) 27)), some (.inl v1)], [.inl 5, .inr (some (30, 0, 0, 0)), .inl 6, .inl (M (26, 0, 0, 0) 27), .inr (some (25, 0, 0, 0))], (zx_lay M7, n))) rfl ?_
  refine zx_E.iald (k := 5) (h := (30, 0, 0, 0)) rfl rfl rfl (by decide) ?_
  show zx_E _ _ _ (121, [some (.inr (some (25, 0, 0, 0))), some (.inl (M (26, 0, 0, 0) 27)), some (.inl v1)], [.inl (M7 (30, 0, 0, 0) 5), .inl 6, .inl (M (26, 0, 0, 0) 27), .inr (some (25, 0, 0, 0))], (zx_lay M7, n)) _
  refine zx_E.cm (y := 126) (as := [.inr (some (25, 0, 0, 0)), .inl (M (26, 0, 0, 0) 27), .inl 6, .inl (M7 (30, 0, 0, 0) 5)]) (rest := []) h rfl (fun _ hv => zx_run_up (by omega) (r_X11_set (d := d) hv)) (fun M8 h => ?_)
  show zx_E _ _ _ (124, [some (.inr (some (25, 0, 0, 0))), some (.inl (M (26, 0, 0, 0) 27)), some (.inl v1)], [], (zx_lay M8, n)) _
  refine zx_E.go 6 (s' := (133, [some (.inr (some (25, 0, 0, 0))), some (.inl (M (26, 0, 0, 0) 27)), some (.inl v1)], [.inl 3, .inr (some (30, 0, 0, 0)), .inl 7, .inl (M (26, 0, 0, 0) 27), .inr (some (25, 0, 0, 0))], (zx_lay M8, n))) rfl ?_
  refine zx_E.iald (k := 3) (h := (30, 0, 0, 0)) rfl rfl rfl (by decide) ?_
  show zx_E _ _ _ (134, [some (.inr (some (25, 0, 0, 0))), some (.inl (M (26, 0, 0, 0) 27)), some (.inl v1)], [.inl (M8 (30, 0, 0, 0) 3), .inl 7, .inl (M (26, 0, 0, 0) 27), .inr (some (25, 0, 0, 0))], (zx_lay M8, n)) _
  refine zx_E.cm (y := 126) (as := [.inr (some (25, 0, 0, 0)), .inl (M (26, 0, 0, 0) 27), .inl 7, .inl (M8 (30, 0, 0, 0) 3)]) (rest := []) h rfl (fun _ hv => zx_run_up (by omega) (r_X11_set (d := d) hv)) (fun M9 h => ?_)
  show zx_E _ _ _ (137, [some (.inr (some (25, 0, 0, 0))), some (.inl (M (26, 0, 0, 0) 27)), some (.inl v1)], [], (zx_lay M9, n)) _
  refine zx_E.go 4 (s' := (143, [some (.inr (some (25, 0, 0, 0))), some (.inl (M (26, 0, 0, 0) 27)), some (.inl v1)], [.inl (-5), .inl 8, .inl (M (26, 0, 0, 0) 27), .inr (some (25, 0, 0, 0))], (zx_lay M9, n))) rfl ?_
  refine zx_E.cm (y := 126) (as := [.inr (some (25, 0, 0, 0)), .inl (M (26, 0, 0, 0) 27), .inl 8, .inl (-5)]) (rest := []) h rfl (fun _ hv => zx_run_up (by omega) (r_X11_set (d := d) hv)) (fun M10 h => ?_)
  show zx_E _ _ _ (146, [some (.inr (some (25, 0, 0, 0))), some (.inl (M (26, 0, 0, 0) 27)), some (.inl v1)], [], (zx_lay M10, n)) _
  refine zx_E.go 4 (s' := (152, [some (.inr (some (25, 0, 0, 0))), some (.inl (M (26, 0, 0, 0) 27)), some (.inl v1)], [.inl (-5), .inl 9, .inl (M (26, 0, 0, 0) 27), .inr (some (25, 0, 0, 0))], (zx_lay M10, n))) rfl ?_
  refine zx_E.cm (y := 126) (as := [.inr (some (25, 0, 0, 0)), .inl (M (26, 0, 0, 0) 27), .inl 9, .inl (-5)]) (rest := []) h rfl (fun _ hv => zx_run_up (by omega) (r_X11_set (d := d) hv)) (fun M11 h => ?_)
  show zx_E _ _ _ (155, [some (.inr (some (25, 0, 0, 0))), some (.inl (M (26, 0, 0, 0) 27)), some (.inl v1)], [], (zx_lay M11, n)) _
  refine zx_E.go 4 (s' := (161, [some (.inr (some (25, 0, 0, 0))), some (.inl (M (26, 0, 0, 0) 27)), some (.inl v1)], [.inl (-5), .inl 11, .inl (M (26, 0, 0, 0) 27), .inr (some (25, 0, 0, 0))], (zx_lay M11, n))) rfl ?_
  refine zx_E.cm (y := 126) (as := [.inr (some (25, 0, 0, 0)), .inl (M (26, 0, 0, 0) 27), .inl 11, .inl (-5)]) (rest := []) h rfl (fun _ hv => zx_run_up (by omega) (r_X11_set (d := d) hv)) (fun M12 h => ?_)
  show zx_E _ _ _ (164, [some (.inr (some (25, 0, 0, 0))), some (.inl (M (26, 0, 0, 0) 27)), some (.inl v1)], [], (zx_lay M12, n)) _
  refine zx_E.go 3 (s' := (171, [some (.inr (some (25, 0, 0, 0))), some (.inl (M (26, 0, 0, 0) 27)), some (.inl v1)], [.inl 476, .inr (some (26, 0, 0, 0))], (zx_lay M12, n))) rfl ?_
  refine zx_E.iald (k := 476) (h := (26, 0, 0, 0)) rfl rfl rfl (by decide) ?_
  show zx_E _ _ _ (172, [some (.inr (some (25, 0, 0, 0))), some (.inl (M (26, 0, 0, 0) 27)), some (.inl v1)], [.inl (M12 (26, 0, 0, 0) 476)], (zx_lay M12, n)) _
  refine zx_E.brh (c := (M12 (26, 0, 0, 0) 476) ≤ 0) (s1 := (206, [some (.inr (some (25, 0, 0, 0))), some (.inl (M (26, 0, 0, 0) 27)), some (.inl v1)], [], (zx_lay M12, n))) (s2 := (175, [some (.inr (some (25, 0, 0, 0))), some (.inl (M (26, 0, 0, 0) 27)), some (.inl v1)], [], (zx_lay M12, n))) h (zx_if_le rfl) (fun _ h => ?_) (fun _ h => ?_)
  · exact zx_E.r0 h rfl
  · refine zx_E.go 2 (s' := (177, [some (.inr (some (25, 0, 0, 0))), some (.inl (M (26, 0, 0, 0) 27)), some (.inl 0)], [], (zx_lay M12, n))) rfl ?_
    refine rl_X11_bringTrain_177 (fun v2 M13 h => ?_) 1000  0 M12 h
    exact zx_E.r0 h rfl
def g_X11_bring (M : zx_Y) : Option zx_Y := (if (M (26, 0, 0, 0) 1) = 0 then (zm (g_X11_refuse M 1 (-5)) fun M1 => (some M1)) else (zb (g_X11_isStation M (M (30, 0, 0, 0) 0)) fun v1 => (if v1 = 0 then (zb (g_X11_isStation M (M (30, 0, 0, 0) 0)) fun v2 => (if v2 = 0 then (zm (g_X11_refuse M 2 (M (30, 0, 0, 0) 0)) fun M2 => (some M2)) else (zm (g_X11_refuse M 2 (M (30, 0, 0, 0) 1)) fun M3 => (some M3)))) else (zb (g_X11_isStation M (M (30, 0, 0, 0) 1)) fun v3 => (if v3 = 0 then (zb (g_X11_isStation M (M (30, 0, 0, 0) 0)) fun v4 => (if v4 = 0 then (zm (g_X11_refuse M 2 (M (30, 0, 0, 0) 0)) fun M4 => (some M4)) else (zm (g_X11_refuse M 2 (M (30, 0, 0, 0) 1)) fun M5 => (some M5)))) else (if (M (26, 0, 0, 0) 27) = 10 then (zm (g_X11_refuse M 3 10) fun M6 => (some M6)) else (if (M (30, 0, 0, 0) 0) = (M (30, 0, 0, 0) 1) then (zm (g_X11_refuse M 4 (M (30, 0, 0, 0) 1)) fun M7 => (some M7)) else (if (M (26, 0, 0, 0) 0) ≤ (M (30, 0, 0, 0) 3) then (if (M (30, 0, 0, 0) 5) = 0 then (zm (g_X11_refuse M 4 0) fun M8 => (some M8)) else (zm (g_X11_bringTrain M) fun M9 => (some M9))) else (zm (g_X11_refuse M 4 (M (30, 0, 0, 0) 3)) fun M10 => (some M10))))))))))
set_option maxRecDepth 100000 in
set_option maxHeartbeats 4000000 in
theorem r_X11_bring {X : zx_X} {d n : Nat} {M : zx_Y} {rM : zx_Y} (h : g_X11_bring M = some rM) : zx_run X (d + 3) 164 [.inr (some (25, 0, 0, 0))] (zx_lay M, n) (none, (zx_lay rM, n)) := by
  refine zx_run_of zc_X11_bring [some (.inr (some (25, 0, 0, 0))), none, none] rfl rfl ?_
  unfold g_X11_bring at h
  refine zx_E.go 3 (s' := (5, [some (.inr (some (25, 0, 0, 0))), none, none], [.inl 0, .inr (some (30, 0, 0, 0))], (zx_lay M, n))) rfl ?_
  refine zx_E.iald (k := 0) (h := (30, 0, 0, 0)) rfl rfl rfl (by decide) ?_
  show zx_E _ _ _ (6, [some (.inr (some (25, 0, 0, 0))), none, none], [.inl (M (30, 0, 0, 0) 0)], (zx_lay M, n)) _
  refine zx_E.go 4 (s' := (12, [some (.inr (some (25, 0, 0, 0))), some (.inl (M (30, 0, 0, 0) 0)), none], [.inl 1, .inr (some (30, 0, 0, 0))], (zx_lay M, n))) rfl ?_
  refine zx_E.iald (k := 1) (h := (30, 0, 0, 0)) rfl rfl rfl (by decide) ?_
  show zx_E _ _ _ (13, [some (.inr (some (25, 0, 0, 0))), some (.inl (M (30, 0, 0, 0) 0)), none], [.inl (M (30, 0, 0, 0) 1)], (zx_lay M, n)) _
  refine zx_E.go 4 (s' := (19, [some (.inr (some (25, 0, 0, 0))), some (.inl (M (30, 0, 0, 0) 0)), some (.inl (M (30, 0, 0, 0) 1))], [.inl 1, .inr (some (26, 0, 0, 0))], (zx_lay M, n))) rfl ?_
  refine zx_E.iald (k := 1) (h := (26, 0, 0, 0)) rfl rfl rfl (by decide) ?_
  show zx_E _ _ _ (20, [some (.inr (some (25, 0, 0, 0))), some (.inl (M (30, 0, 0, 0) 0)), some (.inl (M (30, 0, 0, 0) 1))], [.inl (M (26, 0, 0, 0) 1)], (zx_lay M, n)) _
  refine zx_E.brh (c := (M (26, 0, 0, 0) 1) = 0) (s1 := (23, [some (.inr (some (25, 0, 0, 0))), some (.inl (M (30, 0, 0, 0) 0)), some (.inl (M (30, 0, 0, 0) 1))], [], (zx_lay M, n))) (s2 := (33, [some (.inr (some (25, 0, 0, 0))), some (.inl (M (30, 0, 0, 0) 0)), some (.inl (M (30, 0, 0, 0) 1))], [], (zx_lay M, n))) h (zx_if_ne rfl) (fun _ h => ?_) (fun _ h => ?_)
  · refine zx_E.go 3 (s' := (27, [some (.inr (some (25, 0, 0, 0))), some (.inl (M (30, 0, 0, 0) 0)), some (.inl (M (30, 0, 0, 0) 1))], [.inl (-5), .inl 1, .inr (some (25, 0, 0, 0))], (zx_lay M, n))) rfl ?_
    refine zx_E.cm (y := 161) (as := [.inr (some (25, 0, 0, 0)), .inl 1, .inl (-5)]) (rest := []) h rfl (fun _ hv => zx_run_up (by omega) (r_X11_refuse (d := d) hv)) (fun M1 h => ?_)
    show zx_E _ _ _ (30, [some (.inr (some (25, 0, 0, 0))), some (.inl (M (30, 0, 0, 0) 0)), some (.inl (M (30, 0, 0, 0) 1))], [], (zx_lay M1, n)) _
    refine zx_E.go 1 (s' := (157, [some (.inr (some (25, 0, 0, 0))), some (.inl (M (30, 0, 0, 0) 0)), some (.inl (M (30, 0, 0, 0) 1))], [], (zx_lay M1, n))) rfl ?_
    exact zx_E.r0 h rfl
  · refine zx_E.go 2 (s' := (35, [some (.inr (some (25, 0, 0, 0))), some (.inl (M (30, 0, 0, 0) 0)), some (.inl (M (30, 0, 0, 0) 1))], [.inl (M (30, 0, 0, 0) 0), .inr (some (25, 0, 0, 0))], (zx_lay M, n))) rfl ?_
    refine zx_E.cb (y := 122) (as := [.inr (some (25, 0, 0, 0)), .inl (M (30, 0, 0, 0) 0)]) (rest := []) h rfl (fun _ hv => zx_run_up (by omega) (r_X11_isStation (d := d) hv)) (fun v1 h => ?_)
    show zx_E _ _ _ (38, [some (.inr (some (25, 0, 0, 0))), some (.inl (M (30, 0, 0, 0) 0)), some (.inl (M (30, 0, 0, 0) 1))], [.inl v1], (zx_lay M, n)) _
    refine zx_E.brh (c := v1 = 0) (s1 := (49, [some (.inr (some (25, 0, 0, 0))), some (.inl (M (30, 0, 0, 0) 0)), some (.inl (M (30, 0, 0, 0) 1))], [], (zx_lay M, n))) (s2 := (41, [some (.inr (some (25, 0, 0, 0))), some (.inl (M (30, 0, 0, 0) 0)), some (.inl (M (30, 0, 0, 0) 1))], [], (zx_lay M, n))) h (zx_if_eq rfl) (fun _ h => ?_) (fun _ h => ?_)
    · refine zx_E.go 4 (s' := (53, [some (.inr (some (25, 0, 0, 0))), some (.inl (M (30, 0, 0, 0) 0)), some (.inl (M (30, 0, 0, 0) 1))], [.inl (M (30, 0, 0, 0) 0), .inr (some (25, 0, 0, 0)), .inl 2, .inr (some (25, 0, 0, 0))], (zx_lay M, n))) rfl ?_
      refine zx_E.cb (y := 122) (as := [.inr (some (25, 0, 0, 0)), .inl (M (30, 0, 0, 0) 0)]) (rest := [.inl 2, .inr (some (25, 0, 0, 0))]) h rfl (fun _ hv => zx_run_up (by omega) (r_X11_isStation (d := d) hv)) (fun v2 h => ?_)
      show zx_E _ _ _ (56, [some (.inr (some (25, 0, 0, 0))), some (.inl (M (30, 0, 0, 0) 0)), some (.inl (M (30, 0, 0, 0) 1))], [.inl v2, .inl 2, .inr (some (25, 0, 0, 0))], (zx_lay M, n)) _
      refine zx_E.brh (c := v2 = 0) (s1 := (63, [some (.inr (some (25, 0, 0, 0))), some (.inl (M (30, 0, 0, 0) 0)), some (.inl (M (30, 0, 0, 0) 1))], [.inl 2, .inr (some (25, 0, 0, 0))], (zx_lay M, n))) (s2 := (59, [some (.inr (some (25, 0, 0, 0))), some (.inl (M (30, 0, 0, 0) 0)), some (.inl (M (30, 0, 0, 0) 1))], [.inl 2, .inr (some (25, 0, 0, 0))], (zx_lay M, n))) h (zx_if_eq rfl) (fun _ h => ?_) (fun _ h => ?_)
      · refine zx_E.go 1 (s' := (64, [some (.inr (some (25, 0, 0, 0))), some (.inl (M (30, 0, 0, 0) 0)), some (.inl (M (30, 0, 0, 0) 1))], [.inl (M (30, 0, 0, 0) 0), .inl 2, .inr (some (25, 0, 0, 0))], (zx_lay M, n))) rfl ?_
        refine zx_E.cm (y := 161) (as := [.inr (some (25, 0, 0, 0)), .inl 2, .inl (M (30, 0, 0, 0) 0)]) (rest := []) h rfl (fun _ hv => zx_run_up (by omega) (r_X11_refuse (d := d) hv)) (fun M2 h => ?_)
        show zx_E _ _ _ (67, [some (.inr (some (25, 0, 0, 0))), some (.inl (M (30, 0, 0, 0) 0)), some (.inl (M (30, 0, 0, 0) 1))], [], (zx_lay M2, n)) _
        refine zx_E.go 1 (s' := (157, [some (.inr (some (25, 0, 0, 0))), some (.inl (M (30, 0, 0, 0) 0)), some (.inl (M (30, 0, 0, 0) 1))], [], (zx_lay M2, n))) rfl ?_
        exact zx_E.r0 h rfl
      · refine zx_E.go 2 (s' := (64, [some (.inr (some (25, 0, 0, 0))), some (.inl (M (30, 0, 0, 0) 0)), some (.inl (M (30, 0, 0, 0) 1))], [.inl (M (30, 0, 0, 0) 1), .inl 2, .inr (some (25, 0, 0, 0))], (zx_lay M, n))) rfl ?_
        refine zx_E.cm (y := 161) (as := [.inr (some (25, 0, 0, 0)), .inl 2, .inl (M (30, 0, 0, 0) 1)]) (rest := []) h rfl (fun _ hv => zx_run_up (by omega) (r_X11_refuse (d := d) hv)) (fun M3 h => ?_)
        show zx_E _ _ _ (67, [some (.inr (some (25, 0, 0, 0))), some (.inl (M (30, 0, 0, 0) 0)), some (.inl (M (30, 0, 0, 0) 1))], [], (zx_lay M3, n)) _
        refine zx_E.go 1 (s' := (157, [some (.inr (some (25, 0, 0, 0))), some (.inl (M (30, 0, 0, 0) 0)), some (.inl (M (30, 0, 0, 0) 1))], [], (zx_lay M3, n))) rfl ?_
        exact zx_E.r0 h rfl
    · refine zx_E.go 2 (s' := (43, [some (.inr (some (25, 0, 0, 0))), some (.inl (M (30, 0, 0, 0) 0)), some (.inl (M (30, 0, 0, 0) 1))], [.inl (M (30, 0, 0, 0) 1), .inr (some (25, 0, 0, 0))], (zx_lay M, n))) rfl ?_
      refine zx_E.cb (y := 122) (as := [.inr (some (25, 0, 0, 0)), .inl (M (30, 0, 0, 0) 1)]) (rest := []) h rfl (fun _ hv => zx_run_up (by omega) (r_X11_isStation (d := d) hv)) (fun v3 h => ?_)
      show zx_E _ _ _ (46, [some (.inr (some (25, 0, 0, 0))), some (.inl (M (30, 0, 0, 0) 0)), some (.inl (M (30, 0, 0, 0) 1))], [.inl v3], (zx_lay M, n)) _
      refine zx_E.brh (c := v3 = 0) (s1 := (49, [some (.inr (some (25, 0, 0, 0))), some (.inl (M (30, 0, 0, 0) 0)), some (.inl (M (30, 0, 0, 0) 1))], [], (zx_lay M, n))) (s2 := (70, [some (.inr (some (25, 0, 0, 0))), some (.inl (M (30, 0, 0, 0) 0)), some (.inl (M (30, 0, 0, 0) 1))], [], (zx_lay M, n))) h (zx_if_ne rfl) (fun _ h => ?_) (fun _ h => ?_)
      · refine zx_E.go 4 (s' := (53, [some (.inr (some (25, 0, 0, 0))), some (.inl (M (30, 0, 0, 0) 0)), some (.inl (M (30, 0, 0, 0) 1))], [.inl (M (30, 0, 0, 0) 0), .inr (some (25, 0, 0, 0)), .inl 2, .inr (some (25, 0, 0, 0))], (zx_lay M, n))) rfl ?_
        refine zx_E.cb (y := 122) (as := [.inr (some (25, 0, 0, 0)), .inl (M (30, 0, 0, 0) 0)]) (rest := [.inl 2, .inr (some (25, 0, 0, 0))]) h rfl (fun _ hv => zx_run_up (by omega) (r_X11_isStation (d := d) hv)) (fun v4 h => ?_)
        show zx_E _ _ _ (56, [some (.inr (some (25, 0, 0, 0))), some (.inl (M (30, 0, 0, 0) 0)), some (.inl (M (30, 0, 0, 0) 1))], [.inl v4, .inl 2, .inr (some (25, 0, 0, 0))], (zx_lay M, n)) _
        refine zx_E.brh (c := v4 = 0) (s1 := (63, [some (.inr (some (25, 0, 0, 0))), some (.inl (M (30, 0, 0, 0) 0)), some (.inl (M (30, 0, 0, 0) 1))], [.inl 2, .inr (some (25, 0, 0, 0))], (zx_lay M, n))) (s2 := (59, [some (.inr (some (25, 0, 0, 0))), some (.inl (M (30, 0, 0, 0) 0)), some (.inl (M (30, 0, 0, 0) 1))], [.inl 2, .inr (some (25, 0, 0, 0))], (zx_lay M, n))) h (zx_if_eq rfl) (fun _ h => ?_) (fun _ h => ?_)
        · refine zx_E.go 1 (s' := (64, [some (.inr (some (25, 0, 0, 0))), some (.inl (M (30, 0, 0, 0) 0)), some (.inl (M (30, 0, 0, 0) 1))], [.inl (M (30, 0, 0, 0) 0), .inl 2, .inr (some (25, 0, 0, 0))], (zx_lay M, n))) rfl ?_
          refine zx_E.cm (y := 161) (as := [.inr (some (25, 0, 0, 0)), .inl 2, .inl (M (30, 0, 0, 0) 0)]) (rest := []) h rfl (fun _ hv => zx_run_up (by omega) (r_X11_refuse (d := d) hv)) (fun M4 h => ?_)
          show zx_E _ _ _ (67, [some (.inr (some (25, 0, 0, 0))), some (.inl (M (30, 0, 0, 0) 0)), some (.inl (M (30, 0, 0, 0) 1))], [], (zx_lay M4, n)) _
          refine zx_E.go 1 (s' := (157, [some (.inr (some (25, 0, 0, 0))), some (.inl (M (30, 0, 0, 0) 0)), some (.inl (M (30, 0, 0, 0) 1))], [], (zx_lay M4, n))) rfl ?_
          exact zx_E.r0 h rfl
        · refine zx_E.go 2 (s' := (64, [some (.inr (some (25, 0, 0, 0))), some (.inl (M (30, 0, 0, 0) 0)), some (.inl (M (30, 0, 0, 0) 1))], [.inl (M (30, 0, 0, 0) 1), .inl 2, .inr (some (25, 0, 0, 0))], (zx_lay M, n))) rfl ?_
          refine zx_E.cm (y := 161) (as := [.inr (some (25, 0, 0, 0)), .inl 2, .inl (M (30, 0, 0, 0) 1)]) (rest := []) h rfl (fun _ hv => zx_run_up (by omega) (r_X11_refuse (d := d) hv)) (fun M5 h => ?_)
          show zx_E _ _ _ (67, [some (.inr (some (25, 0, 0, 0))), some (.inl (M (30, 0, 0, 0) 0)), some (.inl (M (30, 0, 0, 0) 1))], [], (zx_lay M5, n)) _
          refine zx_E.go 1 (s' := (157, [some (.inr (some (25, 0, 0, 0))), some (.inl (M (30, 0, 0, 0) 0)), some (.inl (M (30, 0, 0, 0) 1))], [], (zx_lay M5, n))) rfl ?_
          exact zx_E.r0 h rfl
      · refine zx_E.go 3 (s' := (76, [some (.inr (some (25, 0, 0, 0))), some (.inl (M (30, 0, 0, 0) 0)), some (.inl (M (30, 0, 0, 0) 1))], [.inl 27, .inr (some (26, 0, 0, 0))], (zx_lay M, n))) rfl ?_
        refine zx_E.iald (k := 27) (h := (26, 0, 0, 0)) rfl rfl rfl (by decide) ?_
        show zx_E _ _ _ (77, [some (.inr (some (25, 0, 0, 0))), some (.inl (M (30, 0, 0, 0) 0)), some (.inl (M (30, 0, 0, 0) 1))], [.inl (M (26, 0, 0, 0) 27)], (zx_lay M, n)) _
        refine zx_E.go 1 (s' := (79, [some (.inr (some (25, 0, 0, 0))), some (.inl (M (30, 0, 0, 0) 0)), some (.inl (M (30, 0, 0, 0) 1))], [.inl 10, .inl (M (26, 0, 0, 0) 27)], (zx_lay M, n))) rfl ?_
        refine zx_E.brh (c := (M (26, 0, 0, 0) 27) = 10) (s1 := (82, [some (.inr (some (25, 0, 0, 0))), some (.inl (M (30, 0, 0, 0) 0)), some (.inl (M (30, 0, 0, 0) 1))], [], (zx_lay M, n))) (s2 := (92, [some (.inr (some (25, 0, 0, 0))), some (.inl (M (30, 0, 0, 0) 0)), some (.inl (M (30, 0, 0, 0) 1))], [], (zx_lay M, n))) h (zx_ic_ne rfl) (fun _ h => ?_) (fun _ h => ?_)
        · refine zx_E.go 3 (s' := (86, [some (.inr (some (25, 0, 0, 0))), some (.inl (M (30, 0, 0, 0) 0)), some (.inl (M (30, 0, 0, 0) 1))], [.inl 10, .inl 3, .inr (some (25, 0, 0, 0))], (zx_lay M, n))) rfl ?_
          refine zx_E.cm (y := 161) (as := [.inr (some (25, 0, 0, 0)), .inl 3, .inl 10]) (rest := []) h rfl (fun _ hv => zx_run_up (by omega) (r_X11_refuse (d := d) hv)) (fun M6 h => ?_)
          show zx_E _ _ _ (89, [some (.inr (some (25, 0, 0, 0))), some (.inl (M (30, 0, 0, 0) 0)), some (.inl (M (30, 0, 0, 0) 1))], [], (zx_lay M6, n)) _
          refine zx_E.go 1 (s' := (157, [some (.inr (some (25, 0, 0, 0))), some (.inl (M (30, 0, 0, 0) 0)), some (.inl (M (30, 0, 0, 0) 1))], [], (zx_lay M6, n))) rfl ?_
          exact zx_E.r0 h rfl
        · refine zx_E.go 2 (s' := (94, [some (.inr (some (25, 0, 0, 0))), some (.inl (M (30, 0, 0, 0) 0)), some (.inl (M (30, 0, 0, 0) 1))], [.inl (M (30, 0, 0, 0) 1), .inl (M (30, 0, 0, 0) 0)], (zx_lay M, n))) rfl ?_
          refine zx_E.brh (c := (M (30, 0, 0, 0) 0) = (M (30, 0, 0, 0) 1)) (s1 := (97, [some (.inr (some (25, 0, 0, 0))), some (.inl (M (30, 0, 0, 0) 0)), some (.inl (M (30, 0, 0, 0) 1))], [], (zx_lay M, n))) (s2 := (106, [some (.inr (some (25, 0, 0, 0))), some (.inl (M (30, 0, 0, 0) 0)), some (.inl (M (30, 0, 0, 0) 1))], [], (zx_lay M, n))) h (zx_ic_ne rfl) (fun _ h => ?_) (fun _ h => ?_)
          · refine zx_E.go 3 (s' := (100, [some (.inr (some (25, 0, 0, 0))), some (.inl (M (30, 0, 0, 0) 0)), some (.inl (M (30, 0, 0, 0) 1))], [.inl (M (30, 0, 0, 0) 1), .inl 4, .inr (some (25, 0, 0, 0))], (zx_lay M, n))) rfl ?_
            refine zx_E.cm (y := 161) (as := [.inr (some (25, 0, 0, 0)), .inl 4, .inl (M (30, 0, 0, 0) 1)]) (rest := []) h rfl (fun _ hv => zx_run_up (by omega) (r_X11_refuse (d := d) hv)) (fun M7 h => ?_)
            show zx_E _ _ _ (103, [some (.inr (some (25, 0, 0, 0))), some (.inl (M (30, 0, 0, 0) 0)), some (.inl (M (30, 0, 0, 0) 1))], [], (zx_lay M7, n)) _
            refine zx_E.go 1 (s' := (157, [some (.inr (some (25, 0, 0, 0))), some (.inl (M (30, 0, 0, 0) 0)), some (.inl (M (30, 0, 0, 0) 1))], [], (zx_lay M7, n))) rfl ?_
            exact zx_E.r0 h rfl
          · refine zx_E.go 3 (s' := (111, [some (.inr (some (25, 0, 0, 0))), some (.inl (M (30, 0, 0, 0) 0)), some (.inl (M (30, 0, 0, 0) 1))], [.inl 3, .inr (some (30, 0, 0, 0))], (zx_lay M, n))) rfl ?_
            refine zx_E.iald (k := 3) (h := (30, 0, 0, 0)) rfl rfl rfl (by decide) ?_
            show zx_E _ _ _ (112, [some (.inr (some (25, 0, 0, 0))), some (.inl (M (30, 0, 0, 0) 0)), some (.inl (M (30, 0, 0, 0) 1))], [.inl (M (30, 0, 0, 0) 3)], (zx_lay M, n)) _
            refine zx_E.go 3 (s' := (117, [some (.inr (some (25, 0, 0, 0))), some (.inl (M (30, 0, 0, 0) 0)), some (.inl (M (30, 0, 0, 0) 1))], [.inl 0, .inr (some (26, 0, 0, 0)), .inl (M (30, 0, 0, 0) 3)], (zx_lay M, n))) rfl ?_
            refine zx_E.iald (k := 0) (h := (26, 0, 0, 0)) rfl rfl rfl (by decide) ?_
            show zx_E _ _ _ (118, [some (.inr (some (25, 0, 0, 0))), some (.inl (M (30, 0, 0, 0) 0)), some (.inl (M (30, 0, 0, 0) 1))], [.inl (M (26, 0, 0, 0) 0), .inl (M (30, 0, 0, 0) 3)], (zx_lay M, n)) _
            refine zx_E.brh (c := (M (26, 0, 0, 0) 0) ≤ (M (30, 0, 0, 0) 3)) (s1 := (135, [some (.inr (some (25, 0, 0, 0))), some (.inl (M (30, 0, 0, 0) 0)), some (.inl (M (30, 0, 0, 0) 1))], [], (zx_lay M, n))) (s2 := (121, [some (.inr (some (25, 0, 0, 0))), some (.inl (M (30, 0, 0, 0) 0)), some (.inl (M (30, 0, 0, 0) 1))], [], (zx_lay M, n))) h (zx_ic_ge rfl) (fun _ h => ?_) (fun _ h => ?_)
            · refine zx_E.go 3 (s' := (140, [some (.inr (some (25, 0, 0, 0))), some (.inl (M (30, 0, 0, 0) 0)), some (.inl (M (30, 0, 0, 0) 1))], [.inl 5, .inr (some (30, 0, 0, 0))], (zx_lay M, n))) rfl ?_
              refine zx_E.iald (k := 5) (h := (30, 0, 0, 0)) rfl rfl rfl (by decide) ?_
              show zx_E _ _ _ (141, [some (.inr (some (25, 0, 0, 0))), some (.inl (M (30, 0, 0, 0) 0)), some (.inl (M (30, 0, 0, 0) 1))], [.inl (M (30, 0, 0, 0) 5)], (zx_lay M, n)) _
              refine zx_E.brh (c := (M (30, 0, 0, 0) 5) = 0) (s1 := (144, [some (.inr (some (25, 0, 0, 0))), some (.inl (M (30, 0, 0, 0) 0)), some (.inl (M (30, 0, 0, 0) 1))], [], (zx_lay M, n))) (s2 := (153, [some (.inr (some (25, 0, 0, 0))), some (.inl (M (30, 0, 0, 0) 0)), some (.inl (M (30, 0, 0, 0) 1))], [], (zx_lay M, n))) h (zx_if_ne rfl) (fun _ h => ?_) (fun _ h => ?_)
              · refine zx_E.go 3 (s' := (147, [some (.inr (some (25, 0, 0, 0))), some (.inl (M (30, 0, 0, 0) 0)), some (.inl (M (30, 0, 0, 0) 1))], [.inl 0, .inl 4, .inr (some (25, 0, 0, 0))], (zx_lay M, n))) rfl ?_
                refine zx_E.cm (y := 161) (as := [.inr (some (25, 0, 0, 0)), .inl 4, .inl 0]) (rest := []) h rfl (fun _ hv => zx_run_up (by omega) (r_X11_refuse (d := d) hv)) (fun M8 h => ?_)
                show zx_E _ _ _ (150, [some (.inr (some (25, 0, 0, 0))), some (.inl (M (30, 0, 0, 0) 0)), some (.inl (M (30, 0, 0, 0) 1))], [], (zx_lay M8, n)) _
                refine zx_E.go 1 (s' := (157, [some (.inr (some (25, 0, 0, 0))), some (.inl (M (30, 0, 0, 0) 0)), some (.inl (M (30, 0, 0, 0) 1))], [], (zx_lay M8, n))) rfl ?_
                exact zx_E.r0 h rfl
              · refine zx_E.go 1 (s' := (154, [some (.inr (some (25, 0, 0, 0))), some (.inl (M (30, 0, 0, 0) 0)), some (.inl (M (30, 0, 0, 0) 1))], [.inr (some (25, 0, 0, 0))], (zx_lay M, n))) rfl ?_
                refine zx_E.cm (y := 165) (as := [.inr (some (25, 0, 0, 0))]) (rest := []) h rfl (fun _ hv => zx_run_up (by omega) (r_X11_bringTrain (d := d) hv)) (fun M9 h => ?_)
                show zx_E _ _ _ (157, [some (.inr (some (25, 0, 0, 0))), some (.inl (M (30, 0, 0, 0) 0)), some (.inl (M (30, 0, 0, 0) 1))], [], (zx_lay M9, n)) _
                exact zx_E.r0 h rfl
            · refine zx_E.go 5 (s' := (128, [some (.inr (some (25, 0, 0, 0))), some (.inl (M (30, 0, 0, 0) 0)), some (.inl (M (30, 0, 0, 0) 1))], [.inl 3, .inr (some (30, 0, 0, 0)), .inl 4, .inr (some (25, 0, 0, 0))], (zx_lay M, n))) rfl ?_
              refine zx_E.iald (k := 3) (h := (30, 0, 0, 0)) rfl rfl rfl (by decide) ?_
              show zx_E _ _ _ (129, [some (.inr (some (25, 0, 0, 0))), some (.inl (M (30, 0, 0, 0) 0)), some (.inl (M (30, 0, 0, 0) 1))], [.inl (M (30, 0, 0, 0) 3), .inl 4, .inr (some (25, 0, 0, 0))], (zx_lay M, n)) _
              refine zx_E.cm (y := 161) (as := [.inr (some (25, 0, 0, 0)), .inl 4, .inl (M (30, 0, 0, 0) 3)]) (rest := []) h rfl (fun _ hv => zx_run_up (by omega) (r_X11_refuse (d := d) hv)) (fun M10 h => ?_)
              show zx_E _ _ _ (132, [some (.inr (some (25, 0, 0, 0))), some (.inl (M (30, 0, 0, 0) 0)), some (.inl (M (30, 0, 0, 0) 1))], [], (zx_lay M10, n)) _
              refine zx_E.go 1 (s' := (157, [some (.inr (some (25, 0, 0, 0))), some (.inl (M (30, 0, 0, 0) 0)), some (.inl (M (30, 0, 0, 0) 1))], [], (zx_lay M10, n))) rfl ?_
              exact zx_E.r0 h rfl
def g_X11_carryOut (M : zx_Y) : Option zx_Y := (if (M (25, 0, 0, 0) 15) = 76 then (zm (g_X11_makeLine M) fun M1 => (some M1)) else (if (M (25, 0, 0, 0) 15) = 77 then (zm (g_X11_bound M) fun M2 => (some M2)) else (if (M (25, 0, 0, 0) 15) = 78 then (zm (g_X11_bound M) fun M3 => (some M3)) else (if (M (25, 0, 0, 0) 15) = 79 then (zm (g_X11_slow M) fun M4 => (some M4)) else (if (M (25, 0, 0, 0) 15) = 80 then (zm (g_X11_bound M) fun M5 => (some M5)) else (if (M (25, 0, 0, 0) 15) = 81 then (zm (g_X11_bound M) fun M6 => (some M6)) else (if (M (25, 0, 0, 0) 15) = 82 then (zm (g_X11_bound M) fun M7 => (some M7)) else (if (M (25, 0, 0, 0) 15) = 83 then (zm (g_X11_equip M) fun M8 => (some M8)) else (if (M (25, 0, 0, 0) 15) = 84 then (zm (g_X11_bring M) fun M9 => (some M9)) else (zm (g_X11_bound M) fun M10 => (some M10)))))))))))
set_option maxRecDepth 100000 in
set_option maxHeartbeats 4000000 in
theorem r_X11_carryOut {X : zx_X} {d n : Nat} {M : zx_Y} {rM : zx_Y} (h : g_X11_carryOut M = some rM) : zx_run X (d + 6) 168 [.inr (some (25, 0, 0, 0))] (zx_lay M, n) (none, (zx_lay rM, n)) := by
  refine zx_run_of zc_X11_carryOut [some (.inr (some (25, 0, 0, 0)))] rfl rfl ?_
  unfold g_X11_carryOut at h
  refine zx_E.go 2 (s' := (4, [some (.inr (some (25, 0, 0, 0)))], [.inl (M (25, 0, 0, 0) 15)], (zx_lay M, n))) rfl ?_
  refine zx_E.one (s' := (zx_pick (M (25, 0, 0, 0) 15) 76 [56, 84, 84, 77, 84, 84, 84, 63, 70] 84, [some (.inr (some (25, 0, 0, 0)))], [], (zx_lay M, n))) rfl ?_
  refine zx_E.pickh (k' := 77) h (by decide) (fun _ h => ?_) (fun _ h => ?_)
  · refine zx_E.go 1 (s' := (57, [some (.inr (some (25, 0, 0, 0)))], [.inr (some (25, 0, 0, 0))], (zx_lay M, n))) rfl ?_
    refine zx_E.cm (y := 162) (as := [.inr (some (25, 0, 0, 0))]) (rest := []) h rfl (fun _ hv => zx_run_up (by omega) (r_X11_makeLine (d := d) hv)) (fun M1 h => ?_)
    show zx_E _ _ _ (60, [some (.inr (some (25, 0, 0, 0)))], [], (zx_lay M1, n)) _
    refine zx_E.go 1 (s' := (88, [some (.inr (some (25, 0, 0, 0)))], [], (zx_lay M1, n))) rfl ?_
    exact zx_E.r0 h rfl
  · refine zx_E.pickh (k' := 78) h (by decide) (fun _ h => ?_) (fun _ h => ?_)
    · refine zx_E.go 1 (s' := (85, [some (.inr (some (25, 0, 0, 0)))], [.inr (some (25, 0, 0, 0))], (zx_lay M, n))) rfl ?_
      refine zx_E.cm (y := 167) (as := [.inr (some (25, 0, 0, 0))]) (rest := []) h rfl (fun _ hv => zx_run_up (by omega) (r_X11_bound (d := d) hv)) (fun M2 h => ?_)
      show zx_E _ _ _ (88, [some (.inr (some (25, 0, 0, 0)))], [], (zx_lay M2, n)) _
      exact zx_E.r0 h rfl
    · refine zx_E.pickh (k' := 79) h (by decide) (fun _ h => ?_) (fun _ h => ?_)
      · refine zx_E.go 1 (s' := (85, [some (.inr (some (25, 0, 0, 0)))], [.inr (some (25, 0, 0, 0))], (zx_lay M, n))) rfl ?_
        refine zx_E.cm (y := 167) (as := [.inr (some (25, 0, 0, 0))]) (rest := []) h rfl (fun _ hv => zx_run_up (by omega) (r_X11_bound (d := d) hv)) (fun M3 h => ?_)
        show zx_E _ _ _ (88, [some (.inr (some (25, 0, 0, 0)))], [], (zx_lay M3, n)) _
        exact zx_E.r0 h rfl
      · refine zx_E.pickh (k' := 80) h (by decide) (fun _ h => ?_) (fun _ h => ?_)
        · refine zx_E.go 1 (s' := (78, [some (.inr (some (25, 0, 0, 0)))], [.inr (some (25, 0, 0, 0))], (zx_lay M, n))) rfl ?_
          refine zx_E.cm (y := 166) (as := [.inr (some (25, 0, 0, 0))]) (rest := []) h rfl (fun _ hv => zx_run_up (by omega) (r_X11_slow (d := d) hv)) (fun M4 h => ?_)
          show zx_E _ _ _ (81, [some (.inr (some (25, 0, 0, 0)))], [], (zx_lay M4, n)) _
          refine zx_E.go 1 (s' := (88, [some (.inr (some (25, 0, 0, 0)))], [], (zx_lay M4, n))) rfl ?_
          exact zx_E.r0 h rfl
        · refine zx_E.pickh (k' := 81) h (by decide) (fun _ h => ?_) (fun _ h => ?_)
          · refine zx_E.go 1 (s' := (85, [some (.inr (some (25, 0, 0, 0)))], [.inr (some (25, 0, 0, 0))], (zx_lay M, n))) rfl ?_
            refine zx_E.cm (y := 167) (as := [.inr (some (25, 0, 0, 0))]) (rest := []) h rfl (fun _ hv => zx_run_up (by omega) (r_X11_bound (d := d) hv)) (fun M5 h => ?_)
            show zx_E _ _ _ (88, [some (.inr (some (25, 0, 0, 0)))], [], (zx_lay M5, n)) _
            exact zx_E.r0 h rfl
          · refine zx_E.pickh (k' := 82) h (by decide) (fun _ h => ?_) (fun _ h => ?_)
            · refine zx_E.go 1 (s' := (85, [some (.inr (some (25, 0, 0, 0)))], [.inr (some (25, 0, 0, 0))], (zx_lay M, n))) rfl ?_
              refine zx_E.cm (y := 167) (as := [.inr (some (25, 0, 0, 0))]) (rest := []) h rfl (fun _ hv => zx_run_up (by omega) (r_X11_bound (d := d) hv)) (fun M6 h => ?_)
              show zx_E _ _ _ (88, [some (.inr (some (25, 0, 0, 0)))], [], (zx_lay M6, n)) _
              exact zx_E.r0 h rfl
            · refine zx_E.pickh (k' := 83) h (by decide) (fun _ h => ?_) (fun _ h => ?_)
              · refine zx_E.go 1 (s' := (85, [some (.inr (some (25, 0, 0, 0)))], [.inr (some (25, 0, 0, 0))], (zx_lay M, n))) rfl ?_
                refine zx_E.cm (y := 167) (as := [.inr (some (25, 0, 0, 0))]) (rest := []) h rfl (fun _ hv => zx_run_up (by omega) (r_X11_bound (d := d) hv)) (fun M7 h => ?_)
                show zx_E _ _ _ (88, [some (.inr (some (25, 0, 0, 0)))], [], (zx_lay M7, n)) _
                exact zx_E.r0 h rfl
              · refine zx_E.pickh (k' := 84) h (by decide) (fun _ h => ?_) (fun _ h => ?_)
                · refine zx_E.go 1 (s' := (64, [some (.inr (some (25, 0, 0, 0)))], [.inr (some (25, 0, 0, 0))], (zx_lay M, n))) rfl ?_
                  refine zx_E.cm (y := 163) (as := [.inr (some (25, 0, 0, 0))]) (rest := []) h rfl (fun _ hv => zx_run_up (by omega) (r_X11_equip (d := d) hv)) (fun M8 h => ?_)
                  show zx_E _ _ _ (67, [some (.inr (some (25, 0, 0, 0)))], [], (zx_lay M8, n)) _
                  refine zx_E.go 1 (s' := (88, [some (.inr (some (25, 0, 0, 0)))], [], (zx_lay M8, n))) rfl ?_
                  exact zx_E.r0 h rfl
                · refine zx_E.pickh (k' := 85) h (by decide) (fun _ h => ?_) (fun _ h => ?_)
                  · refine zx_E.go 1 (s' := (71, [some (.inr (some (25, 0, 0, 0)))], [.inr (some (25, 0, 0, 0))], (zx_lay M, n))) rfl ?_
                    refine zx_E.cm (y := 164) (as := [.inr (some (25, 0, 0, 0))]) (rest := []) h rfl (fun _ hv => zx_run_up (by omega) (r_X11_bring (d := d) hv)) (fun M9 h => ?_)
                    show zx_E _ _ _ (74, [some (.inr (some (25, 0, 0, 0)))], [], (zx_lay M9, n)) _
                    refine zx_E.go 1 (s' := (88, [some (.inr (some (25, 0, 0, 0)))], [], (zx_lay M9, n))) rfl ?_
                    exact zx_E.r0 h rfl
                  · show zx_E _ _ _ (84, [some (.inr (some (25, 0, 0, 0)))], [], (zx_lay M, n)) _
                    refine zx_E.go 1 (s' := (85, [some (.inr (some (25, 0, 0, 0)))], [.inr (some (25, 0, 0, 0))], (zx_lay M, n))) rfl ?_
                    refine zx_E.cm (y := 167) (as := [.inr (some (25, 0, 0, 0))]) (rest := []) h rfl (fun _ hv => zx_run_up (by omega) (r_X11_bound (d := d) hv)) (fun M10 h => ?_)
                    show zx_E _ _ _ (88, [some (.inr (some (25, 0, 0, 0)))], [], (zx_lay M10, n)) _
                    exact zx_E.r0 h rfl
def lg_X11_go_12 (x0 : Int32) (kk : Int32 → zx_Y → Option zx_Y) : Nat → Int32 → zx_Y → Option zx_Y
  | 0, _, _ => none
  | q + 1, w2, M => (if w2 = 0 then (kk w2 M) else (zm (g_X11_readCommand M) fun M1 => (if x0 = 0 then (if (M1 (25, 0, 0, 0) 13) = (-5) then (zv (g_X11_goes M1 59) fun v1 M2 => (if v1 = 0 then (zl (zx_up M2 (25, 0, 0, 0) 8 ((M2 (25, 0, 0, 0) 8) + 0)) fun M3 => (lg_X11_go_12 x0 kk q 0 M3)) else (zl (zx_up M2 (25, 0, 0, 0) 8 ((M2 (25, 0, 0, 0) 8) + 1)) fun M4 => (lg_X11_go_12 x0 kk q 1 M4)))) else (zl (zx_up M1 (25, 0, 0, 0) 8 ((M1 (25, 0, 0, 0) 8) + 0)) fun M5 => (lg_X11_go_12 x0 kk q 0 M5))) else (zm (g_X11_carryOut M1) fun M6 => (if (M6 (25, 0, 0, 0) 13) = (-5) then (zv (g_X11_goes M6 59) fun v2 M7 => (if v2 = 0 then (zl (zx_up M7 (25, 0, 0, 0) 8 ((M7 (25, 0, 0, 0) 8) + 0)) fun M8 => (lg_X11_go_12 x0 kk q 0 M8)) else (zl (zx_up M7 (25, 0, 0, 0) 8 ((M7 (25, 0, 0, 0) 8) + 1)) fun M9 => (lg_X11_go_12 x0 kk q 1 M9)))) else (zl (zx_up M6 (25, 0, 0, 0) 8 ((M6 (25, 0, 0, 0) 8) + 0)) fun M10 => (lg_X11_go_12 x0 kk q 0 M10)))))))
set_option maxRecDepth 100000 in
set_option maxHeartbeats 4000000 in
theorem rl_X11_go_12 {X : zx_X} {d n : Nat} {x0 : Int32} {kk : Int32 → zx_Y → Option zx_Y} {rM : zx_Y} (hk : ∀ (w2 : Int32) (M : zx_Y), kk w2 M = some rM → zx_E X (d + 6) zc_X11_go (73, [some (.inr (some (25, 0, 0, 0))), some (.inl x0), some (.inl w2)], [], (zx_lay M, n)) (none, (zx_lay rM, n))) : ∀ (q : Nat) (w2 : Int32) (M : zx_Y), lg_X11_go_12 x0 kk q w2 M = some rM → zx_E X (d + 6) zc_X11_go (12, [some (.inr (some (25, 0, 0, 0))), some (.inl x0), some (.inl w2)], [], (zx_lay M, n)) (none, (zx_lay rM, n))
  | 0, w2, M, h => by
    rw [lg_X11_go_12.eq_1] at h
    cases h
  | q + 1, w2, M, h => by
    rw [lg_X11_go_12.eq_2] at h
    refine zx_E.go 1 (s' := (13, [some (.inr (some (25, 0, 0, 0))), some (.inl x0), some (.inl w2)], [.inl w2], (zx_lay M, n))) rfl ?_
    refine zx_E.brh (c := w2 = 0) (s1 := (73, [some (.inr (some (25, 0, 0, 0))), some (.inl x0), some (.inl w2)], [], (zx_lay M, n))) (s2 := (16, [some (.inr (some (25, 0, 0, 0))), some (.inl x0), some (.inl w2)], [], (zx_lay M, n))) h (zx_if_eq rfl) (fun _ h => ?_) (fun _ h => ?_)
    · exact hk _ _ h
    · refine zx_E.go 1 (s' := (17, [some (.inr (some (25, 0, 0, 0))), some (.inl x0), some (.inl w2)], [.inr (some (25, 0, 0, 0))], (zx_lay M, n))) rfl ?_
      refine zx_E.cm (y := 159) (as := [.inr (some (25, 0, 0, 0))]) (rest := []) h rfl (fun _ hv => zx_run_up (by omega) (r_X11_readCommand (d := d) hv)) (fun M1 h => ?_)
      show zx_E _ _ _ (20, [some (.inr (some (25, 0, 0, 0))), some (.inl x0), some (.inl w2)], [], (zx_lay M1, n)) _
      refine zx_E.go 1 (s' := (21, [some (.inr (some (25, 0, 0, 0))), some (.inl x0), some (.inl w2)], [.inl x0], (zx_lay M1, n))) rfl ?_
      refine zx_E.brh (c := x0 = 0) (s1 := (28, [some (.inr (some (25, 0, 0, 0))), some (.inl x0), some (.inl w2)], [], (zx_lay M1, n))) (s2 := (24, [some (.inr (some (25, 0, 0, 0))), some (.inl x0), some (.inl w2)], [], (zx_lay M1, n))) h (zx_if_eq rfl) (fun _ h => ?_) (fun _ h => ?_)
      · refine zx_E.go 3 (s' := (34, [some (.inr (some (25, 0, 0, 0))), some (.inl x0), some (.inl w2)], [.inl (-5), .inl (M1 (25, 0, 0, 0) 13)], (zx_lay M1, n))) rfl ?_
        refine zx_E.brh (c := (M1 (25, 0, 0, 0) 13) = (-5)) (s1 := (37, [some (.inr (some (25, 0, 0, 0))), some (.inl x0), some (.inl w2)], [], (zx_lay M1, n))) (s2 := (50, [some (.inr (some (25, 0, 0, 0))), some (.inl x0), some (.inl w2)], [], (zx_lay M1, n))) h (zx_ic_ne rfl) (fun _ h => ?_) (fun _ h => ?_)
        · refine zx_E.go 2 (s' := (40, [some (.inr (some (25, 0, 0, 0))), some (.inl x0), some (.inl w2)], [.inl 59, .inr (some (25, 0, 0, 0))], (zx_lay M1, n))) rfl ?_
          refine zx_E.cv (y := 154) (as := [.inr (some (25, 0, 0, 0)), .inl 59]) (rest := []) h rfl (fun _ _ hv => zx_run_up (by omega) (r_X11_goes (d := d) hv)) (fun v1 M2 h => ?_)
          show zx_E _ _ _ (43, [some (.inr (some (25, 0, 0, 0))), some (.inl x0), some (.inl w2)], [.inl v1], (zx_lay M2, n)) _
          refine zx_E.brh (c := v1 = 0) (s1 := (50, [some (.inr (some (25, 0, 0, 0))), some (.inl x0), some (.inl w2)], [], (zx_lay M2, n))) (s2 := (46, [some (.inr (some (25, 0, 0, 0))), some (.inl x0), some (.inl w2)], [], (zx_lay M2, n))) h (zx_if_eq rfl) (fun _ h => ?_) (fun _ h => ?_)
          · refine zx_E.go 6 (s' := (58, [some (.inr (some (25, 0, 0, 0))), some (.inl x0), some (.inl 0)], [.inl 0, .inl (M2 (25, 0, 0, 0) 8), .inr (some (25, 0, 0, 0))], (zx_lay M2, n))) rfl ?_
            refine zx_E.bt (c := ((0 : Int32) = 0 : Prop)) (s1 := (65, [some (.inr (some (25, 0, 0, 0))), some (.inl x0), some (.inl 0)], [.inl (M2 (25, 0, 0, 0) 8), .inr (some (25, 0, 0, 0))], (zx_lay M2, n))) (s2 := (61, [some (.inr (some (25, 0, 0, 0))), some (.inl x0), some (.inl 0)], [.inl (M2 (25, 0, 0, 0) 8), .inr (some (25, 0, 0, 0))], (zx_lay M2, n))) (zx_if_eq rfl) (by decide) ?_
            refine zx_E.go 2 (s' := (67, [some (.inr (some (25, 0, 0, 0))), some (.inl x0), some (.inl 0)], [.inl ((M2 (25, 0, 0, 0) 8) + 0), .inr (some (25, 0, 0, 0))], (zx_lay M2, n))) rfl ?_
            refine zx_E.pu h rfl rfl (fun h => absurd h (by decide)) (fun M3 h => ?_)
            show zx_E _ _ _ (70, [some (.inr (some (25, 0, 0, 0))), some (.inl x0), some (.inl 0)], [], (zx_lay M3, n)) _
            refine zx_E.go 1 (s' := (12, [some (.inr (some (25, 0, 0, 0))), some (.inl x0), some (.inl 0)], [], (zx_lay M3, n))) rfl ?_
            exact rl_X11_go_12 hk q 0 M3 h
          · refine zx_E.go 7 (s' := (58, [some (.inr (some (25, 0, 0, 0))), some (.inl x0), some (.inl 1)], [.inl 1, .inl (M2 (25, 0, 0, 0) 8), .inr (some (25, 0, 0, 0))], (zx_lay M2, n))) rfl ?_
            refine zx_E.bf (c := ((1 : Int32) = 0 : Prop)) (s1 := (65, [some (.inr (some (25, 0, 0, 0))), some (.inl x0), some (.inl 1)], [.inl (M2 (25, 0, 0, 0) 8), .inr (some (25, 0, 0, 0))], (zx_lay M2, n))) (s2 := (61, [some (.inr (some (25, 0, 0, 0))), some (.inl x0), some (.inl 1)], [.inl (M2 (25, 0, 0, 0) 8), .inr (some (25, 0, 0, 0))], (zx_lay M2, n))) (zx_if_eq rfl) (by decide) ?_
            refine zx_E.go 3 (s' := (67, [some (.inr (some (25, 0, 0, 0))), some (.inl x0), some (.inl 1)], [.inl ((M2 (25, 0, 0, 0) 8) + 1), .inr (some (25, 0, 0, 0))], (zx_lay M2, n))) rfl ?_
            refine zx_E.pu h rfl rfl (fun h => absurd h (by decide)) (fun M4 h => ?_)
            show zx_E _ _ _ (70, [some (.inr (some (25, 0, 0, 0))), some (.inl x0), some (.inl 1)], [], (zx_lay M4, n)) _
            refine zx_E.go 1 (s' := (12, [some (.inr (some (25, 0, 0, 0))), some (.inl x0), some (.inl 1)], [], (zx_lay M4, n))) rfl ?_
            exact rl_X11_go_12 hk q 1 M4 h
        · refine zx_E.go 6 (s' := (58, [some (.inr (some (25, 0, 0, 0))), some (.inl x0), some (.inl 0)], [.inl 0, .inl (M1 (25, 0, 0, 0) 8), .inr (some (25, 0, 0, 0))], (zx_lay M1, n))) rfl ?_
          refine zx_E.bt (c := ((0 : Int32) = 0 : Prop)) (s1 := (65, [some (.inr (some (25, 0, 0, 0))), some (.inl x0), some (.inl 0)], [.inl (M1 (25, 0, 0, 0) 8), .inr (some (25, 0, 0, 0))], (zx_lay M1, n))) (s2 := (61, [some (.inr (some (25, 0, 0, 0))), some (.inl x0), some (.inl 0)], [.inl (M1 (25, 0, 0, 0) 8), .inr (some (25, 0, 0, 0))], (zx_lay M1, n))) (zx_if_eq rfl) (by decide) ?_
          refine zx_E.go 2 (s' := (67, [some (.inr (some (25, 0, 0, 0))), some (.inl x0), some (.inl 0)], [.inl ((M1 (25, 0, 0, 0) 8) + 0), .inr (some (25, 0, 0, 0))], (zx_lay M1, n))) rfl ?_
          refine zx_E.pu h rfl rfl (fun h => absurd h (by decide)) (fun M5 h => ?_)
          show zx_E _ _ _ (70, [some (.inr (some (25, 0, 0, 0))), some (.inl x0), some (.inl 0)], [], (zx_lay M5, n)) _
          refine zx_E.go 1 (s' := (12, [some (.inr (some (25, 0, 0, 0))), some (.inl x0), some (.inl 0)], [], (zx_lay M5, n))) rfl ?_
          exact rl_X11_go_12 hk q 0 M5 h
      · refine zx_E.go 1 (s' := (25, [some (.inr (some (25, 0, 0, 0))), some (.inl x0), some (.inl w2)], [.inr (some (25, 0, 0, 0))], (zx_lay M1, n))) rfl ?_
        refine zx_E.cm (y := 168) (as := [.inr (some (25, 0, 0, 0))]) (rest := []) h rfl (fun _ hv => zx_run_up (by omega) (r_X11_carryOut (d := d) hv)) (fun M6 h => ?_)
        show zx_E _ _ _ (28, [some (.inr (some (25, 0, 0, 0))), some (.inl x0), some (.inl w2)], [], (zx_lay M6, n)) _
        refine zx_E.go 3 (s' := (34, [some (.inr (some (25, 0, 0, 0))), some (.inl x0), some (.inl w2)], [.inl (-5), .inl (M6 (25, 0, 0, 0) 13)], (zx_lay M6, n))) rfl ?_
        refine zx_E.brh (c := (M6 (25, 0, 0, 0) 13) = (-5)) (s1 := (37, [some (.inr (some (25, 0, 0, 0))), some (.inl x0), some (.inl w2)], [], (zx_lay M6, n))) (s2 := (50, [some (.inr (some (25, 0, 0, 0))), some (.inl x0), some (.inl w2)], [], (zx_lay M6, n))) h (zx_ic_ne rfl) (fun _ h => ?_) (fun _ h => ?_)
        · refine zx_E.go 2 (s' := (40, [some (.inr (some (25, 0, 0, 0))), some (.inl x0), some (.inl w2)], [.inl 59, .inr (some (25, 0, 0, 0))], (zx_lay M6, n))) rfl ?_
          refine zx_E.cv (y := 154) (as := [.inr (some (25, 0, 0, 0)), .inl 59]) (rest := []) h rfl (fun _ _ hv => zx_run_up (by omega) (r_X11_goes (d := d) hv)) (fun v2 M7 h => ?_)
          show zx_E _ _ _ (43, [some (.inr (some (25, 0, 0, 0))), some (.inl x0), some (.inl w2)], [.inl v2], (zx_lay M7, n)) _
          refine zx_E.brh (c := v2 = 0) (s1 := (50, [some (.inr (some (25, 0, 0, 0))), some (.inl x0), some (.inl w2)], [], (zx_lay M7, n))) (s2 := (46, [some (.inr (some (25, 0, 0, 0))), some (.inl x0), some (.inl w2)], [], (zx_lay M7, n))) h (zx_if_eq rfl) (fun _ h => ?_) (fun _ h => ?_)
          · refine zx_E.go 6 (s' := (58, [some (.inr (some (25, 0, 0, 0))), some (.inl x0), some (.inl 0)], [.inl 0, .inl (M7 (25, 0, 0, 0) 8), .inr (some (25, 0, 0, 0))], (zx_lay M7, n))) rfl ?_
            refine zx_E.bt (c := ((0 : Int32) = 0 : Prop)) (s1 := (65, [some (.inr (some (25, 0, 0, 0))), some (.inl x0), some (.inl 0)], [.inl (M7 (25, 0, 0, 0) 8), .inr (some (25, 0, 0, 0))], (zx_lay M7, n))) (s2 := (61, [some (.inr (some (25, 0, 0, 0))), some (.inl x0), some (.inl 0)], [.inl (M7 (25, 0, 0, 0) 8), .inr (some (25, 0, 0, 0))], (zx_lay M7, n))) (zx_if_eq rfl) (by decide) ?_
            refine zx_E.go 2 (s' := (67, [some (.inr (some (25, 0, 0, 0))), some (.inl x0), some (.inl 0)], [.inl ((M7 (25, 0, 0, 0) 8) + 0), .inr (some (25, 0, 0, 0))], (zx_lay M7, n))) rfl ?_
            refine zx_E.pu h rfl rfl (fun h => absurd h (by decide)) (fun M8 h => ?_)
            show zx_E _ _ _ (70, [some (.inr (some (25, 0, 0, 0))), some (.inl x0), some (.inl 0)], [], (zx_lay M8, n)) _
            refine zx_E.go 1 (s' := (12, [some (.inr (some (25, 0, 0, 0))), some (.inl x0), some (.inl 0)], [], (zx_lay M8, n))) rfl ?_
            exact rl_X11_go_12 hk q 0 M8 h
          · refine zx_E.go 7 (s' := (58, [some (.inr (some (25, 0, 0, 0))), some (.inl x0), some (.inl 1)], [.inl 1, .inl (M7 (25, 0, 0, 0) 8), .inr (some (25, 0, 0, 0))], (zx_lay M7, n))) rfl ?_
            refine zx_E.bf (c := ((1 : Int32) = 0 : Prop)) (s1 := (65, [some (.inr (some (25, 0, 0, 0))), some (.inl x0), some (.inl 1)], [.inl (M7 (25, 0, 0, 0) 8), .inr (some (25, 0, 0, 0))], (zx_lay M7, n))) (s2 := (61, [some (.inr (some (25, 0, 0, 0))), some (.inl x0), some (.inl 1)], [.inl (M7 (25, 0, 0, 0) 8), .inr (some (25, 0, 0, 0))], (zx_lay M7, n))) (zx_if_eq rfl) (by decide) ?_
            refine zx_E.go 3 (s' := (67, [some (.inr (some (25, 0, 0, 0))), some (.inl x0), some (.inl 1)], [.inl ((M7 (25, 0, 0, 0) 8) + 1), .inr (some (25, 0, 0, 0))], (zx_lay M7, n))) rfl ?_
            refine zx_E.pu h rfl rfl (fun h => absurd h (by decide)) (fun M9 h => ?_)
            show zx_E _ _ _ (70, [some (.inr (some (25, 0, 0, 0))), some (.inl x0), some (.inl 1)], [], (zx_lay M9, n)) _
            refine zx_E.go 1 (s' := (12, [some (.inr (some (25, 0, 0, 0))), some (.inl x0), some (.inl 1)], [], (zx_lay M9, n))) rfl ?_
            exact rl_X11_go_12 hk q 1 M9 h
        · refine zx_E.go 6 (s' := (58, [some (.inr (some (25, 0, 0, 0))), some (.inl x0), some (.inl 0)], [.inl 0, .inl (M6 (25, 0, 0, 0) 8), .inr (some (25, 0, 0, 0))], (zx_lay M6, n))) rfl ?_
          refine zx_E.bt (c := ((0 : Int32) = 0 : Prop)) (s1 := (65, [some (.inr (some (25, 0, 0, 0))), some (.inl x0), some (.inl 0)], [.inl (M6 (25, 0, 0, 0) 8), .inr (some (25, 0, 0, 0))], (zx_lay M6, n))) (s2 := (61, [some (.inr (some (25, 0, 0, 0))), some (.inl x0), some (.inl 0)], [.inl (M6 (25, 0, 0, 0) 8), .inr (some (25, 0, 0, 0))], (zx_lay M6, n))) (zx_if_eq rfl) (by decide) ?_
          refine zx_E.go 2 (s' := (67, [some (.inr (some (25, 0, 0, 0))), some (.inl x0), some (.inl 0)], [.inl ((M6 (25, 0, 0, 0) 8) + 0), .inr (some (25, 0, 0, 0))], (zx_lay M6, n))) rfl ?_
          refine zx_E.pu h rfl rfl (fun h => absurd h (by decide)) (fun M10 h => ?_)
          show zx_E _ _ _ (70, [some (.inr (some (25, 0, 0, 0))), some (.inl x0), some (.inl 0)], [], (zx_lay M10, n)) _
          refine zx_E.go 1 (s' := (12, [some (.inr (some (25, 0, 0, 0))), some (.inl x0), some (.inl 0)], [], (zx_lay M10, n))) rfl ?_
          exact rl_X11_go_12 hk q 0 M10 h
def g_X11_go (M : zx_Y) (x0 : Int32) : Option zx_Y := (zl (zx_up M (25, 0, 0, 0) 6 0) fun M1 => (zl (zx_up M1 (25, 0, 0, 0) 8 0) fun M2 => (lg_X11_go_12 x0 (fun v1 M3 => (if x0 = 0 then (if (M3 (25, 0, 0, 0) 5) ≤ (M3 (25, 0, 0, 0) 6) then (some M3) else (zm (g_X11_faultHere M3) fun M4 => (some M4))) else (some M3))) 1000 1 M2)))
set_option maxRecDepth 100000 in
set_option maxHeartbeats 4000000 in
theorem r_X11_go {X : zx_X} {d n : Nat} {M : zx_Y} {x0 : Int32} {rM : zx_Y} (h : g_X11_go M x0 = some rM) : zx_run X (d + 7) 169 [.inr (some (25, 0, 0, 0)), .inl x0] (zx_lay M, n) (none, (zx_lay rM, n)) := by
  refine zx_run_of zc_X11_go [some (.inr (some (25, 0, 0, 0))), some (.inl x0), none] rfl rfl ?_
  unfold g_X11_go at h
  refine zx_E.go 2 (s' := (2, [some (.inr (some (25, 0, 0, 0))), some (.inl x0), none], [.inl 0, .inr (some (25, 0, 0, 0))], (zx_lay M, n))) rfl ?_
  refine zx_E.pu h rfl rfl (fun h => absurd h (by decide)) (fun M1 h => ?_)
  show zx_E _ _ _ (5, [some (.inr (some (25, 0, 0, 0))), some (.inl x0), none], [], (zx_lay M1, n)) _
  refine zx_E.go 2 (s' := (7, [some (.inr (some (25, 0, 0, 0))), some (.inl x0), none], [.inl 0, .inr (some (25, 0, 0, 0))], (zx_lay M1, n))) rfl ?_
  refine zx_E.pu h rfl rfl (fun h => absurd h (by decide)) (fun M2 h => ?_)
  show zx_E _ _ _ (10, [some (.inr (some (25, 0, 0, 0))), some (.inl x0), none], [], (zx_lay M2, n)) _
  refine zx_E.go 2 (s' := (12, [some (.inr (some (25, 0, 0, 0))), some (.inl x0), some (.inl 1)], [], (zx_lay M2, n))) rfl ?_
  refine rl_X11_go_12 (fun v1 M3 h => ?_) 1000  1 M2 h
  refine zx_E.go 1 (s' := (74, [some (.inr (some (25, 0, 0, 0))), some (.inl x0), some (.inl v1)], [.inl x0], (zx_lay M3, n))) rfl ?_
  refine zx_E.brh (c := x0 = 0) (s1 := (77, [some (.inr (some (25, 0, 0, 0))), some (.inl x0), some (.inl v1)], [], (zx_lay M3, n))) (s2 := (92, [some (.inr (some (25, 0, 0, 0))), some (.inl x0), some (.inl v1)], [], (zx_lay M3, n))) h (zx_if_ne rfl) (fun _ h => ?_) (fun _ h => ?_)
  · refine zx_E.go 4 (s' := (85, [some (.inr (some (25, 0, 0, 0))), some (.inl x0), some (.inl v1)], [.inl (M3 (25, 0, 0, 0) 5), .inl (M3 (25, 0, 0, 0) 6)], (zx_lay M3, n))) rfl ?_
    refine zx_E.brh (c := (M3 (25, 0, 0, 0) 5) ≤ (M3 (25, 0, 0, 0) 6)) (s1 := (92, [some (.inr (some (25, 0, 0, 0))), some (.inl x0), some (.inl v1)], [], (zx_lay M3, n))) (s2 := (88, [some (.inr (some (25, 0, 0, 0))), some (.inl x0), some (.inl v1)], [], (zx_lay M3, n))) h (zx_ic_ge rfl) (fun _ h => ?_) (fun _ h => ?_)
    · exact zx_E.r0 h rfl
    · refine zx_E.go 1 (s' := (89, [some (.inr (some (25, 0, 0, 0))), some (.inl x0), some (.inl v1)], [.inr (some (25, 0, 0, 0))], (zx_lay M3, n))) rfl ?_
      refine zx_E.cm (y := 153) (as := [.inr (some (25, 0, 0, 0))]) (rest := []) h rfl (fun _ hv => zx_run_up (by omega) (r_X11_faultHere (d := d) hv)) (fun M4 h => ?_)
      show zx_E _ _ _ (92, [some (.inr (some (25, 0, 0, 0))), some (.inl x0), some (.inl v1)], [], (zx_lay M4, n)) _
      exact zx_E.r0 h rfl
  · exact zx_E.r0 h rfl
def g_X11_execute (M : zx_Y) : Option (Int32 × zx_Y) := (zl (zx_up M (25, 0, 0, 0) 5 (M (25, 0, 0, 0) 4)) fun M1 => (zl (zx_up M1 (25, 0, 0, 0) 4 0) fun M2 => (zl (zx_up M2 (25, 0, 0, 0) 7 (-1)) fun M3 => (zl (zx_up M3 (25, 0, 0, 0) 12 (-5)) fun M4 => (zm (g_X11_refuse M4 (-5) (-5)) fun M5 => (zm (g_X11_go M5 0) fun M6 => (if (M6 (25, 0, 0, 0) 7) = (-1) then (zl (zy_ck 26 29 640 M6) fun M7 => (zm (g_X11_go M7 1) fun M8 => (if (M8 (25, 0, 0, 0) 13) = (-5) then (some (((M8 (25, 0, 0, 0) 8) + 1), M8)) else (zl (zy_ck 29 26 640 M8) fun M9 => (zl (zx_up M9 (25, 0, 0, 0) 12 (M9 (25, 0, 0, 0) 8)) fun M10 => (some (((-200) - (M10 (25, 0, 0, 0) 8)), M10))))))) else (zl (zx_up M6 (25, 0, 0, 0) 12 (M6 (25, 0, 0, 0) 7)) fun M11 => (if (M11 (25, 0, 0, 0) 5) ≤ (M11 (25, 0, 0, 0) 7) then (zm (g_X11_refuse M11 0 (-1)) fun M12 => (some (((-100) - (M12 (25, 0, 0, 0) 7)), M12))) else (zi (M11 (25, 0, 0, 0) 7) 60 fun k1 => (zm (g_X11_refuse M11 0 (M11 (28, 0, 0, 0) k1)) fun M13 => (some (((-100) - (M13 (25, 0, 0, 0) 7)), M13)))))))))))))
set_option maxRecDepth 100000 in
set_option maxHeartbeats 4000000 in
theorem r_X11_execute {X : zx_X} {d n : Nat} {M : zx_Y} {rv : Int32} {rM : zx_Y} (h : g_X11_execute M = some (rv, rM)) : zx_run X (d + 8) 170 [.inr (some (25, 0, 0, 0))] (zx_lay M, n) (some (.inl rv), (zx_lay rM, n)) := by
  refine zx_run_of zc_X11_execute [some (.inr (some (25, 0, 0, 0)))] rfl rfl ?_
  unfold g_X11_execute at h
  refine zx_E.go 3 (s' := (5, [some (.inr (some (25, 0, 0, 0)))], [.inl (M (25, 0, 0, 0) 4), .inr (some (25, 0, 0, 0))], (zx_lay M, n))) rfl ?_
  refine zx_E.pu h rfl rfl (fun h => absurd h (by decide)) (fun M1 h => ?_)
  show zx_E _ _ _ (8, [some (.inr (some (25, 0, 0, 0)))], [], (zx_lay M1, n)) _
  refine zx_E.go 2 (s' := (10, [some (.inr (some (25, 0, 0, 0)))], [.inl 0, .inr (some (25, 0, 0, 0))], (zx_lay M1, n))) rfl ?_
  refine zx_E.pu h rfl rfl (fun h => absurd h (by decide)) (fun M2 h => ?_)
  show zx_E _ _ _ (13, [some (.inr (some (25, 0, 0, 0)))], [], (zx_lay M2, n)) _
  refine zx_E.go 2 (s' := (15, [some (.inr (some (25, 0, 0, 0)))], [.inl (-1), .inr (some (25, 0, 0, 0))], (zx_lay M2, n))) rfl ?_
  refine zx_E.pu h rfl rfl (fun h => absurd h (by decide)) (fun M3 h => ?_)
  show zx_E _ _ _ (18, [some (.inr (some (25, 0, 0, 0)))], [], (zx_lay M3, n)) _
  refine zx_E.go 2 (s' := (21, [some (.inr (some (25, 0, 0, 0)))], [.inl (-5), .inr (some (25, 0, 0, 0))], (zx_lay M3, n))) rfl ?_
  refine zx_E.pu h rfl rfl (fun h => absurd h (by decide)) (fun M4 h => ?_)
  show zx_E _ _ _ (24, [some (.inr (some (25, 0, 0, 0)))], [], (zx_lay M4, n)) _
  refine zx_E.go 3 (s' := (29, [some (.inr (some (25, 0, 0, 0)))], [.inl (-5), .inl (-5), .inr (some (25, 0, 0, 0))], (zx_lay M4, n))) rfl ?_
  refine zx_E.cm (y := 161) (as := [.inr (some (25, 0, 0, 0)), .inl (-5), .inl (-5)]) (rest := []) h rfl (fun _ hv => zx_run_up (by omega) (r_X11_refuse (d := d) hv)) (fun M5 h => ?_)
  show zx_E _ _ _ (32, [some (.inr (some (25, 0, 0, 0)))], [], (zx_lay M5, n)) _
  refine zx_E.go 2 (s' := (34, [some (.inr (some (25, 0, 0, 0)))], [.inl 0, .inr (some (25, 0, 0, 0))], (zx_lay M5, n))) rfl ?_
  refine zx_E.cm (y := 169) (as := [.inr (some (25, 0, 0, 0)), .inl 0]) (rest := []) h rfl (fun _ hv => zx_run_up (by omega) (r_X11_go (d := d) hv)) (fun M6 h => ?_)
  show zx_E _ _ _ (37, [some (.inr (some (25, 0, 0, 0)))], [], (zx_lay M6, n)) _
  refine zx_E.go 3 (s' := (42, [some (.inr (some (25, 0, 0, 0)))], [.inl (-1), .inl (M6 (25, 0, 0, 0) 7)], (zx_lay M6, n))) rfl ?_
  refine zx_E.brh (c := (M6 (25, 0, 0, 0) 7) = (-1)) (s1 := (90, [some (.inr (some (25, 0, 0, 0)))], [], (zx_lay M6, n))) (s2 := (45, [some (.inr (some (25, 0, 0, 0)))], [], (zx_lay M6, n))) h (zx_ic_eq rfl) (fun _ h => ?_) (fun _ h => ?_)
  · refine zx_E.go 4 (s' := (98, [some (.inr (some (25, 0, 0, 0)))], [.inr (some (29, 0, 0, 0)), .inr (some (26, 0, 0, 0))], (zx_lay M6, n))) rfl ?_
    refine zx_E.cl (y := 171) (as := [.inr (some (26, 0, 0, 0)), .inr (some (29, 0, 0, 0))]) (rest := []) h rfl (zx_run_up (by omega) (r_copy (d := d) (by decide) (by decide) (by decide))) (fun M7 h => ?_)
    show zx_E _ _ _ (101, [some (.inr (some (25, 0, 0, 0)))], [], (zx_lay M7, n)) _
    refine zx_E.go 2 (s' := (103, [some (.inr (some (25, 0, 0, 0)))], [.inl 1, .inr (some (25, 0, 0, 0))], (zx_lay M7, n))) rfl ?_
    refine zx_E.cm (y := 169) (as := [.inr (some (25, 0, 0, 0)), .inl 1]) (rest := []) h rfl (fun _ hv => zx_run_up (by omega) (r_X11_go (d := d) hv)) (fun M8 h => ?_)
    show zx_E _ _ _ (106, [some (.inr (some (25, 0, 0, 0)))], [], (zx_lay M8, n)) _
    refine zx_E.go 3 (s' := (112, [some (.inr (some (25, 0, 0, 0)))], [.inl (-5), .inl (M8 (25, 0, 0, 0) 13)], (zx_lay M8, n))) rfl ?_
    refine zx_E.brh (c := (M8 (25, 0, 0, 0) 13) = (-5)) (s1 := (143, [some (.inr (some (25, 0, 0, 0)))], [], (zx_lay M8, n))) (s2 := (115, [some (.inr (some (25, 0, 0, 0)))], [], (zx_lay M8, n))) h (zx_ic_eq rfl) (fun _ h => ?_) (fun _ h => ?_)
    · refine zx_E.go 3 (s' := (148, [some (.inr (some (25, 0, 0, 0)))], [.inl 1, .inl (M8 (25, 0, 0, 0) 8)], (zx_lay M8, n))) rfl ?_
      refine zx_E.go 1 (s' := (149, [some (.inr (some (25, 0, 0, 0)))], [.inl ((M8 (25, 0, 0, 0) 8) + 1)], (zx_lay M8, n))) rfl ?_
      exact zx_E.ri h rfl (fun h => absurd h (by decide))
    · refine zx_E.go 4 (s' := (123, [some (.inr (some (25, 0, 0, 0)))], [.inr (some (26, 0, 0, 0)), .inr (some (29, 0, 0, 0))], (zx_lay M8, n))) rfl ?_
      refine zx_E.cl (y := 171) (as := [.inr (some (29, 0, 0, 0)), .inr (some (26, 0, 0, 0))]) (rest := []) h rfl (zx_run_up (by omega) (r_copy (d := d) (by decide) (by decide) (by decide))) (fun M9 h => ?_)
      show zx_E _ _ _ (126, [some (.inr (some (25, 0, 0, 0)))], [], (zx_lay M9, n)) _
      refine zx_E.go 3 (s' := (131, [some (.inr (some (25, 0, 0, 0)))], [.inl (M9 (25, 0, 0, 0) 8), .inr (some (25, 0, 0, 0))], (zx_lay M9, n))) rfl ?_
      refine zx_E.pu h rfl rfl (fun h => absurd h (by decide)) (fun M10 h => ?_)
      show zx_E _ _ _ (134, [some (.inr (some (25, 0, 0, 0)))], [], (zx_lay M10, n)) _
      refine zx_E.go 3 (s' := (141, [some (.inr (some (25, 0, 0, 0)))], [.inl (M10 (25, 0, 0, 0) 8), .inl (-200)], (zx_lay M10, n))) rfl ?_
      refine zx_E.go 1 (s' := (142, [some (.inr (some (25, 0, 0, 0)))], [.inl ((-200) - (M10 (25, 0, 0, 0) 8))], (zx_lay M10, n))) rfl ?_
      exact zx_E.ri h rfl (fun h => absurd h (by decide))
  · refine zx_E.go 3 (s' := (50, [some (.inr (some (25, 0, 0, 0)))], [.inl (M6 (25, 0, 0, 0) 7), .inr (some (25, 0, 0, 0))], (zx_lay M6, n))) rfl ?_
    refine zx_E.pu h rfl rfl (fun h => absurd h (by decide)) (fun M11 h => ?_)
    show zx_E _ _ _ (53, [some (.inr (some (25, 0, 0, 0)))], [], (zx_lay M11, n)) _
    refine zx_E.go 6 (s' := (63, [some (.inr (some (25, 0, 0, 0)))], [.inl (M11 (25, 0, 0, 0) 5), .inl (M11 (25, 0, 0, 0) 7), .inl 0, .inr (some (25, 0, 0, 0))], (zx_lay M11, n))) rfl ?_
    refine zx_E.brh (c := (M11 (25, 0, 0, 0) 5) ≤ (M11 (25, 0, 0, 0) 7)) (s1 := (78, [some (.inr (some (25, 0, 0, 0)))], [.inl 0, .inr (some (25, 0, 0, 0))], (zx_lay M11, n))) (s2 := (66, [some (.inr (some (25, 0, 0, 0)))], [.inl 0, .inr (some (25, 0, 0, 0))], (zx_lay M11, n))) h (zx_ic_ge rfl) (fun _ h => ?_) (fun _ h => ?_)
    · refine zx_E.go 1 (s' := (79, [some (.inr (some (25, 0, 0, 0)))], [.inl (-1), .inl 0, .inr (some (25, 0, 0, 0))], (zx_lay M11, n))) rfl ?_
      refine zx_E.cm (y := 161) (as := [.inr (some (25, 0, 0, 0)), .inl 0, .inl (-1)]) (rest := []) h rfl (fun _ hv => zx_run_up (by omega) (r_X11_refuse (d := d) hv)) (fun M12 h => ?_)
      show zx_E _ _ _ (82, [some (.inr (some (25, 0, 0, 0)))], [], (zx_lay M12, n)) _
      refine zx_E.go 3 (s' := (88, [some (.inr (some (25, 0, 0, 0)))], [.inl (M12 (25, 0, 0, 0) 7), .inl (-100)], (zx_lay M12, n))) rfl ?_
      refine zx_E.go 1 (s' := (89, [some (.inr (some (25, 0, 0, 0)))], [.inl ((-100) - (M12 (25, 0, 0, 0) 7))], (zx_lay M12, n))) rfl ?_
      exact zx_E.ri h rfl (fun h => absurd h (by decide))
    · refine zx_E.go 4 (s' := (74, [some (.inr (some (25, 0, 0, 0)))], [.inl (M11 (25, 0, 0, 0) 7), .inr (some (28, 0, 0, 0)), .inl 0, .inr (some (25, 0, 0, 0))], (zx_lay M11, n))) rfl ?_
      refine zx_E.ix h (fun k1 hx_k1 hl_k1 h => ?_)
      refine zx_E.iald (k := k1) (h := (28, 0, 0, 0)) rfl rfl hx_k1 hl_k1 ?_
      show zx_E _ _ _ (75, [some (.inr (some (25, 0, 0, 0)))], [.inl (M11 (28, 0, 0, 0) k1), .inl 0, .inr (some (25, 0, 0, 0))], (zx_lay M11, n)) _
      refine zx_E.go 1 (s' := (79, [some (.inr (some (25, 0, 0, 0)))], [.inl (M11 (28, 0, 0, 0) k1), .inl 0, .inr (some (25, 0, 0, 0))], (zx_lay M11, n))) rfl ?_
      refine zx_E.cm (y := 161) (as := [.inr (some (25, 0, 0, 0)), .inl 0, .inl (M11 (28, 0, 0, 0) k1)]) (rest := []) h rfl (fun _ hv => zx_run_up (by omega) (r_X11_refuse (d := d) hv)) (fun M13 h => ?_)
      show zx_E _ _ _ (82, [some (.inr (some (25, 0, 0, 0)))], [], (zx_lay M13, n)) _
      refine zx_E.go 3 (s' := (88, [some (.inr (some (25, 0, 0, 0)))], [.inl (M13 (25, 0, 0, 0) 7), .inl (-100)], (zx_lay M13, n))) rfl ?_
      refine zx_E.go 1 (s' := (89, [some (.inr (some (25, 0, 0, 0)))], [.inl ((-100) - (M13 (25, 0, 0, 0) 7))], (zx_lay M13, n))) rfl ?_
      exact zx_E.ri h rfl (fun h => absurd h (by decide))
def g_X4_numberAt (M : zx_Y) (x0 : Int32) : Option Int32 := (if x0 < 0 then (some (-1)) else (if x0 < 3 then (if (M (19, 0, 0, 0) 0) = 0 then (some (-5)) else (zi x0 3 fun k1 => (some (M (20, 0, 0, 0) k1)))) else (some (-1))))
set_option maxRecDepth 100000 in
set_option maxHeartbeats 4000000 in
theorem r_X4_numberAt {X : zx_X} {d n : Nat} {M : zx_Y} {x0 : Int32} {rv : Int32} (h : g_X4_numberAt M x0 = some rv) : zx_run X (d + 1) 59 [.inr (some (19, 0, 0, 0)), .inl x0] (zx_lay M, n) (some (.inl rv), (zx_lay M, n)) := by
  refine zx_run_of zc_X4_numberAt [some (.inr (some (19, 0, 0, 0))), some (.inl x0)] rfl rfl ?_
  unfold g_X4_numberAt at h
  refine zx_E.go 1 (s' := (1, [some (.inr (some (19, 0, 0, 0))), some (.inl x0)], [.inl x0], (zx_lay M, n))) rfl ?_
  refine zx_E.brh (c := x0 < 0) (s1 := (13, [some (.inr (some (19, 0, 0, 0))), some (.inl x0)], [], (zx_lay M, n))) (s2 := (4, [some (.inr (some (19, 0, 0, 0))), some (.inl x0)], [], (zx_lay M, n))) h (zx_if_lt rfl) (fun _ h => ?_) (fun _ h => ?_)
  · refine zx_E.go 1 (s' := (14, [some (.inr (some (19, 0, 0, 0))), some (.inl x0)], [.inl (-1)], (zx_lay M, n))) rfl ?_
    exact zx_E.rp h rfl (fun h => absurd h (by decide))
  · refine zx_E.go 4 (s' := (10, [some (.inr (some (19, 0, 0, 0))), some (.inl x0)], [.inl 3, .inl x0], (zx_lay M, n))) rfl ?_
    refine zx_E.brh (c := x0 < 3) (s1 := (15, [some (.inr (some (19, 0, 0, 0))), some (.inl x0)], [], (zx_lay M, n))) (s2 := (13, [some (.inr (some (19, 0, 0, 0))), some (.inl x0)], [], (zx_lay M, n))) h (zx_ic_lt rfl) (fun _ h => ?_) (fun _ h => ?_)
    · refine zx_E.go 2 (s' := (19, [some (.inr (some (19, 0, 0, 0))), some (.inl x0)], [.inl (M (19, 0, 0, 0) 0)], (zx_lay M, n))) rfl ?_
      refine zx_E.brh (c := (M (19, 0, 0, 0) 0) = 0) (s1 := (31, [some (.inr (some (19, 0, 0, 0))), some (.inl x0)], [], (zx_lay M, n))) (s2 := (22, [some (.inr (some (19, 0, 0, 0))), some (.inl x0)], [], (zx_lay M, n))) h (zx_if_eq rfl) (fun _ h => ?_) (fun _ h => ?_)
      · refine zx_E.go 1 (s' := (33, [some (.inr (some (19, 0, 0, 0))), some (.inl x0)], [.inl (-5)], (zx_lay M, n))) rfl ?_
        exact zx_E.rp h rfl (fun h => absurd h (by decide))
      · refine zx_E.go 3 (s' := (27, [some (.inr (some (19, 0, 0, 0))), some (.inl x0)], [.inl x0, .inr (some (20, 0, 0, 0))], (zx_lay M, n))) rfl ?_
        refine zx_E.ix h (fun k1 hx_k1 hl_k1 h => ?_)
        refine zx_E.iald (k := k1) (h := (20, 0, 0, 0)) rfl rfl hx_k1 hl_k1 ?_
        show zx_E _ _ _ (28, [some (.inr (some (19, 0, 0, 0))), some (.inl x0)], [.inl (M (20, 0, 0, 0) k1)], (zx_lay M, n)) _
        refine zx_E.go 1 (s' := (33, [some (.inr (some (19, 0, 0, 0))), some (.inl x0)], [.inl (M (20, 0, 0, 0) k1)], (zx_lay M, n))) rfl ?_
        exact zx_E.rp h rfl (fun h => absurd h (by decide))
    · refine zx_E.go 1 (s' := (14, [some (.inr (some (19, 0, 0, 0))), some (.inl x0)], [.inl (-1)], (zx_lay M, n))) rfl ?_
      exact zx_E.rp h rfl (fun h => absurd h (by decide))
def g_X10_refusal (M : zx_Y) (x0 : Int32) : Option Int32 := (zb (g_X4_numberAt M x0) fun v1 => (some v1))
set_option maxRecDepth 100000 in
set_option maxHeartbeats 4000000 in
theorem r_X10_refusal {X : zx_X} {d n : Nat} {M : zx_Y} {x0 : Int32} {rv : Int32} (h : g_X10_refusal M x0 = some rv) : zx_run X (d + 2) 96 [.inr (some (0, 0, 0, 0)), .inl x0] (zx_lay M, n) (some (.inl rv), (zx_lay M, n)) := by
  refine zx_run_of zc_X10_refusal [some (.inr (some (0, 0, 0, 0))), some (.inl x0)] rfl rfl ?_
  unfold g_X10_refusal at h
  refine zx_E.go 3 (s' := (5, [some (.inr (some (0, 0, 0, 0))), some (.inl x0)], [.inl x0, .inr (some (19, 0, 0, 0))], (zx_lay M, n))) rfl ?_
  refine zx_E.cb (y := 59) (as := [.inr (some (19, 0, 0, 0)), .inl x0]) (rest := []) h rfl (fun _ hv => zx_run_up (by omega) (r_X4_numberAt (d := d) hv)) (fun v1 h => ?_)
  show zx_E _ _ _ (8, [some (.inr (some (0, 0, 0, 0))), some (.inl x0)], [.inl v1], (zx_lay M, n)) _
  exact zx_E.rp h rfl (fun h => absurd h (by decide))
