def g_X9_left (M : zx_Y) (l : Nat) (i : Nat) (x0 : Int32) : Option Int32 := (if (M (7, l, i, 0) 3) ≤ (M (7, l, i, 0) 2) then (if x0 < 0 then (some (-5)) else (if x0 < 8 then (zi x0 8 fun k1 => (if (M (13, l, i, 0) k1) = (-5) then (some 1000000) else (zi x0 8 fun k2 => (some (M (13, l, i, 0) k2))))) else (some (-5)))) else (if (x0 + 1) < 0 then (some (-5)) else (if (x0 + 1) < 8 then (zi (x0 + 1) 8 fun k3 => (if (M (13, l, i, 0) k3) = (-5) then (some 1000000) else (zi (x0 + 1) 8 fun k4 => (some (M (13, l, i, 0) k4))))) else (some (-5)))))
set_option maxRecDepth 100000 in
set_option maxHeartbeats 4000000 in
theorem r_X9_left {X : zx_X} {d n : Nat} {M : zx_Y} {l : Nat} {i : Nat} {x0 : Int32} {rv : Int32} (h : g_X9_left M l i x0 = some rv) : zx_run X (d + 1) 90 [.inr (some (7, l, i, 0)), .inl x0] (zx_lay M, n) (some (.inl rv), (zx_lay M, n)) := by
  refine zx_run_of zc_X9_left [some (.inr (some (7, l, i, 0))), some (.inl x0), none] rfl rfl ?_
  unfold g_X9_left at h
  refine zx_E.go 4 (s' := (8, [some (.inr (some (7, l, i, 0))), some (.inl x0), none], [.inl (M (7, l, i, 0) 2), .inl (M (7, l, i, 0) 3)], (zx_lay M, n))) rfl ?_
  refine zx_E.brh (c := (M (7, l, i, 0) 3) ≤ (M (7, l, i, 0) 2)) (s1 := (17, [some (.inr (some (7, l, i, 0))), some (.inl x0), none], [], (zx_lay M, n))) (s2 := (11, [some (.inr (some (7, l, i, 0))), some (.inl x0), none], [], (zx_lay M, n))) h (zx_ic_le rfl) (fun _ h => ?_) (fun _ h => ?_)
  · refine zx_E.go 3 (s' := (20, [some (.inr (some (7, l, i, 0))), some (.inl x0), some (.inl x0)], [.inl x0], (zx_lay M, n))) rfl ?_
    refine zx_E.brh (c := x0 < 0) (s1 := (29, [some (.inr (some (7, l, i, 0))), some (.inl x0), some (.inl x0)], [], (zx_lay M, n))) (s2 := (23, [some (.inr (some (7, l, i, 0))), some (.inl x0), some (.inl x0)], [], (zx_lay M, n))) h (zx_if_lt rfl) (fun _ h => ?_) (fun _ h => ?_)
    · refine zx_E.go 1 (s' := (31, [some (.inr (some (7, l, i, 0))), some (.inl x0), some (.inl x0)], [.inl (-5)], (zx_lay M, n))) rfl ?_
      exact zx_E.rp h rfl (fun h => absurd h (by decide))
    · refine zx_E.go 2 (s' := (26, [some (.inr (some (7, l, i, 0))), some (.inl x0), some (.inl x0)], [.inl 8, .inl x0], (zx_lay M, n))) rfl ?_
      refine zx_E.brh (c := x0 < 8) (s1 := (32, [some (.inr (some (7, l, i, 0))), some (.inl x0), some (.inl x0)], [], (zx_lay M, n))) (s2 := (29, [some (.inr (some (7, l, i, 0))), some (.inl x0), some (.inl x0)], [], (zx_lay M, n))) h (zx_ic_lt rfl) (fun _ h => ?_) (fun _ h => ?_)
      · refine zx_E.go 3 (s' := (37, [some (.inr (some (7, l, i, 0))), some (.inl x0), some (.inl x0)], [.inl 0, .inr (some (12, l, i, 0))], (zx_lay M, n))) rfl ?_
        refine zx_E.aald (k := 0) (h := (12, l, i, 0)) (h' := (13, l, i, 0)) rfl rfl rfl (by decide) rfl ?_
        show zx_E _ _ _ (38, [some (.inr (some (7, l, i, 0))), some (.inl x0), some (.inl x0)], [.inr (some (13, l, i, 0))], (zx_lay M, n)) _
        refine zx_E.go 1 (s' := (39, [some (.inr (some (7, l, i, 0))), some (.inl x0), some (.inl x0)], [.inl x0, .inr (some (13, l, i, 0))], (zx_lay M, n))) rfl ?_
        refine zx_E.ix h (fun k1 hx_k1 hl_k1 h => ?_)
        refine zx_E.iald (k := k1) (h := (13, l, i, 0)) rfl rfl hx_k1 hl_k1 ?_
        show zx_E _ _ _ (40, [some (.inr (some (7, l, i, 0))), some (.inl x0), some (.inl x0)], [.inl (M (13, l, i, 0) k1)], (zx_lay M, n)) _
        refine zx_E.go 1 (s' := (42, [some (.inr (some (7, l, i, 0))), some (.inl x0), some (.inl x0)], [.inl (-5), .inl (M (13, l, i, 0) k1)], (zx_lay M, n))) rfl ?_
        refine zx_E.brh (c := (M (13, l, i, 0) k1) = (-5)) (s1 := (45, [some (.inr (some (7, l, i, 0))), some (.inl x0), some (.inl x0)], [], (zx_lay M, n))) (s2 := (50, [some (.inr (some (7, l, i, 0))), some (.inl x0), some (.inl x0)], [], (zx_lay M, n))) h (zx_ic_ne rfl) (fun _ h => ?_) (fun _ h => ?_)
        · refine zx_E.go 2 (s' := (58, [some (.inr (some (7, l, i, 0))), some (.inl x0), some (.inl x0)], [.inl 1000000], (zx_lay M, n))) rfl ?_
          exact zx_E.rp h rfl (fun h => absurd h (by decide))
        · refine zx_E.go 3 (s' := (55, [some (.inr (some (7, l, i, 0))), some (.inl x0), some (.inl x0)], [.inl 0, .inr (some (12, l, i, 0))], (zx_lay M, n))) rfl ?_
          refine zx_E.aald (k := 0) (h := (12, l, i, 0)) (h' := (13, l, i, 0)) rfl rfl rfl (by decide) rfl ?_
          show zx_E _ _ _ (56, [some (.inr (some (7, l, i, 0))), some (.inl x0), some (.inl x0)], [.inr (some (13, l, i, 0))], (zx_lay M, n)) _
          refine zx_E.go 1 (s' := (57, [some (.inr (some (7, l, i, 0))), some (.inl x0), some (.inl x0)], [.inl x0, .inr (some (13, l, i, 0))], (zx_lay M, n))) rfl ?_
          refine zx_E.ix h (fun k2 hx_k2 hl_k2 h => ?_)
          refine zx_E.iald (k := k2) (h := (13, l, i, 0)) rfl rfl hx_k2 hl_k2 ?_
          show zx_E _ _ _ (58, [some (.inr (some (7, l, i, 0))), some (.inl x0), some (.inl x0)], [.inl (M (13, l, i, 0) k2)], (zx_lay M, n)) _
          exact zx_E.rp h rfl (fun h => absurd h (by decide))
      · refine zx_E.go 1 (s' := (31, [some (.inr (some (7, l, i, 0))), some (.inl x0), some (.inl x0)], [.inl (-5)], (zx_lay M, n))) rfl ?_
        exact zx_E.rp h rfl (fun h => absurd h (by decide))
  · refine zx_E.go 6 (s' := (20, [some (.inr (some (7, l, i, 0))), some (.inl x0), some (.inl (x0 + 1))], [.inl (x0 + 1)], (zx_lay M, n))) rfl ?_
    refine zx_E.brh (c := (x0 + 1) < 0) (s1 := (29, [some (.inr (some (7, l, i, 0))), some (.inl x0), some (.inl (x0 + 1))], [], (zx_lay M, n))) (s2 := (23, [some (.inr (some (7, l, i, 0))), some (.inl x0), some (.inl (x0 + 1))], [], (zx_lay M, n))) h (zx_if_lt rfl) (fun _ h => ?_) (fun _ h => ?_)
    · refine zx_E.go 1 (s' := (31, [some (.inr (some (7, l, i, 0))), some (.inl x0), some (.inl (x0 + 1))], [.inl (-5)], (zx_lay M, n))) rfl ?_
      exact zx_E.rp h rfl (fun h => absurd h (by decide))
    · refine zx_E.go 2 (s' := (26, [some (.inr (some (7, l, i, 0))), some (.inl x0), some (.inl (x0 + 1))], [.inl 8, .inl (x0 + 1)], (zx_lay M, n))) rfl ?_
      refine zx_E.brh (c := (x0 + 1) < 8) (s1 := (32, [some (.inr (some (7, l, i, 0))), some (.inl x0), some (.inl (x0 + 1))], [], (zx_lay M, n))) (s2 := (29, [some (.inr (some (7, l, i, 0))), some (.inl x0), some (.inl (x0 + 1))], [], (zx_lay M, n))) h (zx_ic_lt rfl) (fun _ h => ?_) (fun _ h => ?_)
      · refine zx_E.go 3 (s' := (37, [some (.inr (some (7, l, i, 0))), some (.inl x0), some (.inl (x0 + 1))], [.inl 0, .inr (some (12, l, i, 0))], (zx_lay M, n))) rfl ?_
        refine zx_E.aald (k := 0) (h := (12, l, i, 0)) (h' := (13, l, i, 0)) rfl rfl rfl (by decide) rfl ?_
        show zx_E _ _ _ (38, [some (.inr (some (7, l, i, 0))), some (.inl x0), some (.inl (x0 + 1))], [.inr (some (13, l, i, 0))], (zx_lay M, n)) _
        refine zx_E.go 1 (s' := (39, [some (.inr (some (7, l, i, 0))), some (.inl x0), some (.inl (x0 + 1))], [.inl (x0 + 1), .inr (some (13, l, i, 0))], (zx_lay M, n))) rfl ?_
        refine zx_E.ix h (fun k3 hx_k3 hl_k3 h => ?_)
        refine zx_E.iald (k := k3) (h := (13, l, i, 0)) rfl rfl hx_k3 hl_k3 ?_
        show zx_E _ _ _ (40, [some (.inr (some (7, l, i, 0))), some (.inl x0), some (.inl (x0 + 1))], [.inl (M (13, l, i, 0) k3)], (zx_lay M, n)) _
        refine zx_E.go 1 (s' := (42, [some (.inr (some (7, l, i, 0))), some (.inl x0), some (.inl (x0 + 1))], [.inl (-5), .inl (M (13, l, i, 0) k3)], (zx_lay M, n))) rfl ?_
        refine zx_E.brh (c := (M (13, l, i, 0) k3) = (-5)) (s1 := (45, [some (.inr (some (7, l, i, 0))), some (.inl x0), some (.inl (x0 + 1))], [], (zx_lay M, n))) (s2 := (50, [some (.inr (some (7, l, i, 0))), some (.inl x0), some (.inl (x0 + 1))], [], (zx_lay M, n))) h (zx_ic_ne rfl) (fun _ h => ?_) (fun _ h => ?_)
        · refine zx_E.go 2 (s' := (58, [some (.inr (some (7, l, i, 0))), some (.inl x0), some (.inl (x0 + 1))], [.inl 1000000], (zx_lay M, n))) rfl ?_
          exact zx_E.rp h rfl (fun h => absurd h (by decide))
        · refine zx_E.go 3 (s' := (55, [some (.inr (some (7, l, i, 0))), some (.inl x0), some (.inl (x0 + 1))], [.inl 0, .inr (some (12, l, i, 0))], (zx_lay M, n))) rfl ?_
          refine zx_E.aald (k := 0) (h := (12, l, i, 0)) (h' := (13, l, i, 0)) rfl rfl rfl (by decide) rfl ?_
          show zx_E _ _ _ (56, [some (.inr (some (7, l, i, 0))), some (.inl x0), some (.inl (x0 + 1))], [.inr (some (13, l, i, 0))], (zx_lay M, n)) _
          refine zx_E.go 1 (s' := (57, [some (.inr (some (7, l, i, 0))), some (.inl x0), some (.inl (x0 + 1))], [.inl (x0 + 1), .inr (some (13, l, i, 0))], (zx_lay M, n))) rfl ?_
          refine zx_E.ix h (fun k4 hx_k4 hl_k4 h => ?_)
          refine zx_E.iald (k := k4) (h := (13, l, i, 0)) rfl rfl hx_k4 hl_k4 ?_
          show zx_E _ _ _ (58, [some (.inr (some (7, l, i, 0))), some (.inl x0), some (.inl (x0 + 1))], [.inl (M (13, l, i, 0) k4)], (zx_lay M, n)) _
          exact zx_E.rp h rfl (fun h => absurd h (by decide))
      · refine zx_E.go 1 (s' := (31, [some (.inr (some (7, l, i, 0))), some (.inl x0), some (.inl (x0 + 1))], [.inl (-5)], (zx_lay M, n))) rfl ?_
        exact zx_E.rp h rfl (fun h => absurd h (by decide))
def lg_X2_holder_2 (M : zx_Y) (l : Nat) (x0 : Int32) (x1 : Int32) (kk : Int32 → Option Int32) : Nat → Int32 → Option Int32
  | 0, _ => none
  | q + 1, w3 => (if (M (1, l, 0, 0) 4) ≤ w3 then (kk w3) else (zi w3 10 fun k1 => (zb (g_X9_entered M l k1 x0) fun v1 => (if v1 = (-5) then (lg_X2_holder_2 M l x0 x1 kk q (w3 + 1)) else (if x1 < v1 then (lg_X2_holder_2 M l x0 x1 kk q (w3 + 1)) else (zi w3 10 fun k2 => (zb (g_X9_left M l k2 x0) fun v2 => (if v2 ≤ x1 then (lg_X2_holder_2 M l x0 x1 kk q (w3 + 1)) else (some w3)))))))))
set_option maxRecDepth 100000 in
set_option maxHeartbeats 4000000 in
theorem rl_X2_holder_2 {X : zx_X} {d n : Nat} {M : zx_Y} {l : Nat} {x0 : Int32} {x1 : Int32} {kk : Int32 → Option Int32} {rv : Int32} (hk : ∀ (w3 : Int32) (e4 : Option zx_V), kk w3 = some rv → zx_E X (d + 1) zc_X2_holder (57, [some (.inr (some (1, l, 0, 0))), some (.inl x0), some (.inl x1), some (.inl w3), e4], [], (zx_lay M, n)) (some (.inl rv), (zx_lay M, n))) : ∀ (q : Nat) (g4 : Option zx_V) (w3 : Int32), lg_X2_holder_2 M l x0 x1 kk q w3 = some rv → zx_E X (d + 1) zc_X2_holder (2, [some (.inr (some (1, l, 0, 0))), some (.inl x0), some (.inl x1), some (.inl w3), g4], [], (zx_lay M, n)) (some (.inl rv), (zx_lay M, n))
  | 0, g4, w3, h => by
    rw [lg_X2_holder_2.eq_1] at h
    cases h
  | q + 1, g4, w3, h => by
    rw [lg_X2_holder_2.eq_2] at h
    refine zx_E.go 3 (s' := (7, [some (.inr (some (1, l, 0, 0))), some (.inl x0), some (.inl x1), some (.inl w3), g4], [.inl (M (1, l, 0, 0) 4), .inl w3], (zx_lay M, n))) rfl ?_
    refine zx_E.brh (c := (M (1, l, 0, 0) 4) ≤ w3) (s1 := (57, [some (.inr (some (1, l, 0, 0))), some (.inl x0), some (.inl x1), some (.inl w3), g4], [], (zx_lay M, n))) (s2 := (10, [some (.inr (some (1, l, 0, 0))), some (.inl x0), some (.inl x1), some (.inl w3), g4], [], (zx_lay M, n))) h (zx_ic_ge rfl) (fun _ h => ?_) (fun _ h => ?_)
    · exact hk _ _ h
    · refine zx_E.go 3 (s' := (15, [some (.inr (some (1, l, 0, 0))), some (.inl x0), some (.inl x1), some (.inl w3), g4], [.inl w3, .inr (some (6, l, 0, 0))], (zx_lay M, n))) rfl ?_
      refine zx_E.ix h (fun k1 hx_k1 hl_k1 h => ?_)
      refine zx_E.aald (k := k1) (h := (6, l, 0, 0)) (h' := (7, l, k1, 0)) rfl rfl hx_k1 hl_k1 rfl ?_
      show zx_E _ _ _ (16, [some (.inr (some (1, l, 0, 0))), some (.inl x0), some (.inl x1), some (.inl w3), g4], [.inr (some (7, l, k1, 0))], (zx_lay M, n)) _
      refine zx_E.go 1 (s' := (17, [some (.inr (some (1, l, 0, 0))), some (.inl x0), some (.inl x1), some (.inl w3), g4], [.inl x0, .inr (some (7, l, k1, 0))], (zx_lay M, n))) rfl ?_
      refine zx_E.cb (y := 89) (as := [.inr (some (7, l, k1, 0)), .inl x0]) (rest := []) h rfl (fun _ hv => zx_run_up (by omega) (r_X9_entered (d := d) hv)) (fun v1 h => ?_)
      show zx_E _ _ _ (20, [some (.inr (some (1, l, 0, 0))), some (.inl x0), some (.inl x1), some (.inl w3), g4], [.inl v1], (zx_lay M, n)) _
      refine zx_E.go 3 (s' := (26, [some (.inr (some (1, l, 0, 0))), some (.inl x0), some (.inl x1), some (.inl w3), some (.inl v1)], [.inl (-5), .inl v1], (zx_lay M, n))) rfl ?_
      refine zx_E.brh (c := v1 = (-5)) (s1 := (51, [some (.inr (some (1, l, 0, 0))), some (.inl x0), some (.inl x1), some (.inl w3), some (.inl v1)], [], (zx_lay M, n))) (s2 := (29, [some (.inr (some (1, l, 0, 0))), some (.inl x0), some (.inl x1), some (.inl w3), some (.inl v1)], [], (zx_lay M, n))) h (zx_ic_eq rfl) (fun _ h => ?_) (fun _ h => ?_)
      · refine zx_E.go 2 (s' := (2, [some (.inr (some (1, l, 0, 0))), some (.inl x0), some (.inl x1), some (.inl (w3 + 1)), some (.inl v1)], [], (zx_lay M, n))) rfl ?_
        exact rl_X2_holder_2 hk q _ (w3 + 1) h
      · refine zx_E.go 2 (s' := (32, [some (.inr (some (1, l, 0, 0))), some (.inl x0), some (.inl x1), some (.inl w3), some (.inl v1)], [.inl x1, .inl v1], (zx_lay M, n))) rfl ?_
        refine zx_E.brh (c := x1 < v1) (s1 := (51, [some (.inr (some (1, l, 0, 0))), some (.inl x0), some (.inl x1), some (.inl w3), some (.inl v1)], [], (zx_lay M, n))) (s2 := (35, [some (.inr (some (1, l, 0, 0))), some (.inl x0), some (.inl x1), some (.inl w3), some (.inl v1)], [], (zx_lay M, n))) h (zx_ic_gt rfl) (fun _ h => ?_) (fun _ h => ?_)
        · refine zx_E.go 2 (s' := (2, [some (.inr (some (1, l, 0, 0))), some (.inl x0), some (.inl x1), some (.inl (w3 + 1)), some (.inl v1)], [], (zx_lay M, n))) rfl ?_
          exact rl_X2_holder_2 hk q _ (w3 + 1) h
        · refine zx_E.go 4 (s' := (41, [some (.inr (some (1, l, 0, 0))), some (.inl x0), some (.inl x1), some (.inl w3), some (.inl v1)], [.inl w3, .inr (some (6, l, 0, 0)), .inl x1], (zx_lay M, n))) rfl ?_
          refine zx_E.ix h (fun k2 hx_k2 hl_k2 h => ?_)
          refine zx_E.aald (k := k2) (h := (6, l, 0, 0)) (h' := (7, l, k2, 0)) rfl rfl hx_k2 hl_k2 rfl ?_
          show zx_E _ _ _ (42, [some (.inr (some (1, l, 0, 0))), some (.inl x0), some (.inl x1), some (.inl w3), some (.inl v1)], [.inr (some (7, l, k2, 0)), .inl x1], (zx_lay M, n)) _
          refine zx_E.go 1 (s' := (43, [some (.inr (some (1, l, 0, 0))), some (.inl x0), some (.inl x1), some (.inl w3), some (.inl v1)], [.inl x0, .inr (some (7, l, k2, 0)), .inl x1], (zx_lay M, n))) rfl ?_
          refine zx_E.cb (y := 90) (as := [.inr (some (7, l, k2, 0)), .inl x0]) (rest := [.inl x1]) h rfl (fun _ hv => zx_run_up (by omega) (r_X9_left (d := d) hv)) (fun v2 h => ?_)
          show zx_E _ _ _ (46, [some (.inr (some (1, l, 0, 0))), some (.inl x0), some (.inl x1), some (.inl w3), some (.inl v1)], [.inl v2, .inl x1], (zx_lay M, n)) _
          refine zx_E.brh (c := v2 ≤ x1) (s1 := (51, [some (.inr (some (1, l, 0, 0))), some (.inl x0), some (.inl x1), some (.inl w3), some (.inl v1)], [], (zx_lay M, n))) (s2 := (49, [some (.inr (some (1, l, 0, 0))), some (.inl x0), some (.inl x1), some (.inl w3), some (.inl v1)], [], (zx_lay M, n))) h (zx_ic_ge rfl) (fun _ h => ?_) (fun _ h => ?_)
          · refine zx_E.go 2 (s' := (2, [some (.inr (some (1, l, 0, 0))), some (.inl x0), some (.inl x1), some (.inl (w3 + 1)), some (.inl v1)], [], (zx_lay M, n))) rfl ?_
            exact rl_X2_holder_2 hk q _ (w3 + 1) h
          · refine zx_E.go 1 (s' := (50, [some (.inr (some (1, l, 0, 0))), some (.inl x0), some (.inl x1), some (.inl w3), some (.inl v1)], [.inl w3], (zx_lay M, n))) rfl ?_
            exact zx_E.rp h rfl (fun h => absurd h (by decide))
def g_X2_holder (M : zx_Y) (l : Nat) (x0 : Int32) (x1 : Int32) : Option Int32 := (lg_X2_holder_2 M l x0 x1 (fun v1 => (some (-5))) 1000 0)
set_option maxRecDepth 100000 in
set_option maxHeartbeats 4000000 in
theorem r_X2_holder {X : zx_X} {d n : Nat} {M : zx_Y} {l : Nat} {x0 : Int32} {x1 : Int32} {rv : Int32} (h : g_X2_holder M l x0 x1 = some rv) : zx_run X (d + 2) 47 [.inr (some (1, l, 0, 0)), .inl x0, .inl x1] (zx_lay M, n) (some (.inl rv), (zx_lay M, n)) := by
  refine zx_run_of zc_X2_holder [some (.inr (some (1, l, 0, 0))), some (.inl x0), some (.inl x1), none, none] rfl rfl ?_
  unfold g_X2_holder at h
  refine zx_E.go 2 (s' := (2, [some (.inr (some (1, l, 0, 0))), some (.inl x0), some (.inl x1), some (.inl 0), none], [], (zx_lay M, n))) rfl ?_
  refine rl_X2_holder_2 (fun v1 e1 h => ?_) 1000 _ 0  h
  refine zx_E.go 1 (s' := (59, [some (.inr (some (1, l, 0, 0))), some (.inl x0), some (.inl x1), some (.inl v1), e1], [.inl (-5)], (zx_lay M, n))) rfl ?_
  exact zx_E.rp h rfl (fun h => absurd h (by decide))
def g_X10_held (M : zx_Y) (x0 : Int32) (x1 : Int32) : Option Int32 := (zb (g_X2_exists M 0) fun v1 => (if v1 = 0 then (some (-3)) else (zb (g_X2_hasBlock M 0 x0) fun v2 => (if v2 = 0 then (some (-1)) else (if x1 < 0 then (some (-2)) else (if x1 ≤ (M (1, 0, 0, 0) 0) then (zb (g_X2_holder M 0 x0 x1) fun v3 => (some v3)) else (some (-2))))))))
set_option maxRecDepth 100000 in
set_option maxHeartbeats 4000000 in
theorem r_X10_held {X : zx_X} {d n : Nat} {M : zx_Y} {x0 : Int32} {x1 : Int32} {rv : Int32} (h : g_X10_held M x0 x1 = some rv) : zx_run X (d + 3) 110 [.inr (some (0, 0, 0, 0)), .inl x0, .inl x1] (zx_lay M, n) (some (.inl rv), (zx_lay M, n)) := by
  refine zx_run_of zc_X10_held [some (.inr (some (0, 0, 0, 0))), some (.inl x0), some (.inl x1)] rfl rfl ?_
  unfold g_X10_held at h
  refine zx_E.go 2 (s' := (4, [some (.inr (some (0, 0, 0, 0))), some (.inl x0), some (.inl x1)], [.inr (some (1, 0, 0, 0))], (zx_lay M, n))) rfl ?_
  refine zx_E.cb (y := 15) (as := [.inr (some (1, 0, 0, 0))]) (rest := []) h rfl (fun _ hv => zx_run_up (by omega) (r_X2_exists (d := d) hv)) (fun v1 h => ?_)
  show zx_E _ _ _ (7, [some (.inr (some (0, 0, 0, 0))), some (.inl x0), some (.inl x1)], [.inl v1], (zx_lay M, n)) _
  refine zx_E.brh (c := v1 = 0) (s1 := (10, [some (.inr (some (0, 0, 0, 0))), some (.inl x0), some (.inl x1)], [], (zx_lay M, n))) (s2 := (13, [some (.inr (some (0, 0, 0, 0))), some (.inl x0), some (.inl x1)], [], (zx_lay M, n))) h (zx_if_ne rfl) (fun _ h => ?_) (fun _ h => ?_)
  · refine zx_E.go 1 (s' := (12, [some (.inr (some (0, 0, 0, 0))), some (.inl x0), some (.inl x1)], [.inl (-3)], (zx_lay M, n))) rfl ?_
    exact zx_E.rp h rfl (fun h => absurd h (by decide))
  · refine zx_E.go 3 (s' := (18, [some (.inr (some (0, 0, 0, 0))), some (.inl x0), some (.inl x1)], [.inl x0, .inr (some (1, 0, 0, 0))], (zx_lay M, n))) rfl ?_
    refine zx_E.cb (y := 17) (as := [.inr (some (1, 0, 0, 0)), .inl x0]) (rest := []) h rfl (fun _ hv => zx_run_up (by omega) (r_X2_hasBlock (d := d) hv)) (fun v2 h => ?_)
    show zx_E _ _ _ (21, [some (.inr (some (0, 0, 0, 0))), some (.inl x0), some (.inl x1)], [.inl v2], (zx_lay M, n)) _
    refine zx_E.brh (c := v2 = 0) (s1 := (24, [some (.inr (some (0, 0, 0, 0))), some (.inl x0), some (.inl x1)], [], (zx_lay M, n))) (s2 := (26, [some (.inr (some (0, 0, 0, 0))), some (.inl x0), some (.inl x1)], [], (zx_lay M, n))) h (zx_if_ne rfl) (fun _ h => ?_) (fun _ h => ?_)
    · refine zx_E.go 1 (s' := (25, [some (.inr (some (0, 0, 0, 0))), some (.inl x0), some (.inl x1)], [.inl (-1)], (zx_lay M, n))) rfl ?_
      exact zx_E.rp h rfl (fun h => absurd h (by decide))
    · refine zx_E.go 1 (s' := (27, [some (.inr (some (0, 0, 0, 0))), some (.inl x0), some (.inl x1)], [.inl x1], (zx_lay M, n))) rfl ?_
      refine zx_E.brh (c := x1 < 0) (s1 := (41, [some (.inr (some (0, 0, 0, 0))), some (.inl x0), some (.inl x1)], [], (zx_lay M, n))) (s2 := (30, [some (.inr (some (0, 0, 0, 0))), some (.inl x0), some (.inl x1)], [], (zx_lay M, n))) h (zx_if_lt rfl) (fun _ h => ?_) (fun _ h => ?_)
      · refine zx_E.go 1 (s' := (43, [some (.inr (some (0, 0, 0, 0))), some (.inl x0), some (.inl x1)], [.inl (-2)], (zx_lay M, n))) rfl ?_
        exact zx_E.rp h rfl (fun h => absurd h (by decide))
      · refine zx_E.go 4 (s' := (38, [some (.inr (some (0, 0, 0, 0))), some (.inl x0), some (.inl x1)], [.inl (M (1, 0, 0, 0) 0), .inl x1], (zx_lay M, n))) rfl ?_
        refine zx_E.brh (c := x1 ≤ (M (1, 0, 0, 0) 0)) (s1 := (44, [some (.inr (some (0, 0, 0, 0))), some (.inl x0), some (.inl x1)], [], (zx_lay M, n))) (s2 := (41, [some (.inr (some (0, 0, 0, 0))), some (.inl x0), some (.inl x1)], [], (zx_lay M, n))) h (zx_ic_le rfl) (fun _ h => ?_) (fun _ h => ?_)
        · refine zx_E.go 4 (s' := (50, [some (.inr (some (0, 0, 0, 0))), some (.inl x0), some (.inl x1)], [.inl x1, .inl x0, .inr (some (1, 0, 0, 0))], (zx_lay M, n))) rfl ?_
          refine zx_E.cb (y := 47) (as := [.inr (some (1, 0, 0, 0)), .inl x0, .inl x1]) (rest := []) h rfl (fun _ hv => zx_run_up (by omega) (r_X2_holder (d := d) hv)) (fun v3 h => ?_)
          show zx_E _ _ _ (53, [some (.inr (some (0, 0, 0, 0))), some (.inl x0), some (.inl x1)], [.inl v3], (zx_lay M, n)) _
          exact zx_E.rp h rfl (fun h => absurd h (by decide))
        · refine zx_E.go 1 (s' := (43, [some (.inr (some (0, 0, 0, 0))), some (.inl x0), some (.inl x1)], [.inl (-2)], (zx_lay M, n))) rfl ?_
          exact zx_E.rp h rfl (fun h => absurd h (by decide))
def g_X11_entered (M : zx_Y) (x0 : Int32) (x1 : Int32) : Option Int32 := (zb (g_X11_isUp M x0) fun v1 => (if v1 = 0 then (zb (g_X11_at M x0 (25 + (x1 + 1))) fun v2 => (some v2)) else (zb (g_X11_at M x0 (25 + x1)) fun v3 => (some v3))))
set_option maxRecDepth 100000 in
set_option maxHeartbeats 4000000 in
theorem r_X11_entered {X : zx_X} {d n : Nat} {M : zx_Y} {x0 : Int32} {x1 : Int32} {rv : Int32} (h : g_X11_entered M x0 x1 = some rv) : zx_run X (d + 3) 191 [.inr (some (25, 0, 0, 0)), .inl x0, .inl x1] (zx_lay M, n) (some (.inl rv), (zx_lay M, n)) := by
  refine zx_run_of zc_X11_entered [some (.inr (some (25, 0, 0, 0))), some (.inl x0), some (.inl x1)] rfl rfl ?_
  unfold g_X11_entered at h
  refine zx_E.go 5 (s' := (6, [some (.inr (some (25, 0, 0, 0))), some (.inl x0), some (.inl x1)], [.inl x0, .inr (some (25, 0, 0, 0)), .inl 25, .inl x0, .inr (some (25, 0, 0, 0))], (zx_lay M, n))) rfl ?_
  refine zx_E.cb (y := 127) (as := [.inr (some (25, 0, 0, 0)), .inl x0]) (rest := [.inl 25, .inl x0, .inr (some (25, 0, 0, 0))]) h rfl (fun _ hv => zx_run_up (by omega) (r_X11_isUp (d := d) hv)) (fun v1 h => ?_)
  show zx_E _ _ _ (9, [some (.inr (some (25, 0, 0, 0))), some (.inl x0), some (.inl x1)], [.inl v1, .inl 25, .inl x0, .inr (some (25, 0, 0, 0))], (zx_lay M, n)) _
  refine zx_E.brh (c := v1 = 0) (s1 := (16, [some (.inr (some (25, 0, 0, 0))), some (.inl x0), some (.inl x1)], [.inl 25, .inl x0, .inr (some (25, 0, 0, 0))], (zx_lay M, n))) (s2 := (12, [some (.inr (some (25, 0, 0, 0))), some (.inl x0), some (.inl x1)], [.inl 25, .inl x0, .inr (some (25, 0, 0, 0))], (zx_lay M, n))) h (zx_if_eq rfl) (fun _ h => ?_) (fun _ h => ?_)
  · refine zx_E.go 4 (s' := (20, [some (.inr (some (25, 0, 0, 0))), some (.inl x0), some (.inl x1)], [.inl (25 + (x1 + 1)), .inl x0, .inr (some (25, 0, 0, 0))], (zx_lay M, n))) rfl ?_
    refine zx_E.cb (y := 125) (as := [.inr (some (25, 0, 0, 0)), .inl x0, .inl (25 + (x1 + 1))]) (rest := []) h rfl (fun _ hv => zx_run_up (by omega) (r_X11_at (d := d) hv)) (fun v2 h => ?_)
    show zx_E _ _ _ (23, [some (.inr (some (25, 0, 0, 0))), some (.inl x0), some (.inl x1)], [.inl v2], (zx_lay M, n)) _
    exact zx_E.rp h rfl (fun h => absurd h (by decide))
  · refine zx_E.go 3 (s' := (20, [some (.inr (some (25, 0, 0, 0))), some (.inl x0), some (.inl x1)], [.inl (25 + x1), .inl x0, .inr (some (25, 0, 0, 0))], (zx_lay M, n))) rfl ?_
    refine zx_E.cb (y := 125) (as := [.inr (some (25, 0, 0, 0)), .inl x0, .inl (25 + x1)]) (rest := []) h rfl (fun _ hv => zx_run_up (by omega) (r_X11_at (d := d) hv)) (fun v3 h => ?_)
    show zx_E _ _ _ (23, [some (.inr (some (25, 0, 0, 0))), some (.inl x0), some (.inl x1)], [.inl v3], (zx_lay M, n)) _
    exact zx_E.rp h rfl (fun h => absurd h (by decide))
def g_X11_left (M : zx_Y) (x0 : Int32) (x1 : Int32) : Option Int32 := (zb (g_X11_isUp M x0) fun v1 => (if v1 = 0 then (zb (g_X11_at M x0 (17 + x1)) fun v2 => (if v2 = (-5) then (some 100000) else (some v2))) else (zb (g_X11_at M x0 (17 + (x1 + 1))) fun v3 => (if v3 = (-5) then (some 100000) else (some v3)))))
set_option maxRecDepth 100000 in
set_option maxHeartbeats 4000000 in
theorem r_X11_left {X : zx_X} {d n : Nat} {M : zx_Y} {x0 : Int32} {x1 : Int32} {rv : Int32} (h : g_X11_left M x0 x1 = some rv) : zx_run X (d + 3) 192 [.inr (some (25, 0, 0, 0)), .inl x0, .inl x1] (zx_lay M, n) (some (.inl rv), (zx_lay M, n)) := by
  refine zx_run_of zc_X11_left [some (.inr (some (25, 0, 0, 0))), some (.inl x0), some (.inl x1), none] rfl rfl ?_
  unfold g_X11_left at h
  refine zx_E.go 5 (s' := (6, [some (.inr (some (25, 0, 0, 0))), some (.inl x0), some (.inl x1), none], [.inl x0, .inr (some (25, 0, 0, 0)), .inl 17, .inl x0, .inr (some (25, 0, 0, 0))], (zx_lay M, n))) rfl ?_
  refine zx_E.cb (y := 127) (as := [.inr (some (25, 0, 0, 0)), .inl x0]) (rest := [.inl 17, .inl x0, .inr (some (25, 0, 0, 0))]) h rfl (fun _ hv => zx_run_up (by omega) (r_X11_isUp (d := d) hv)) (fun v1 h => ?_)
  show zx_E _ _ _ (9, [some (.inr (some (25, 0, 0, 0))), some (.inl x0), some (.inl x1), none], [.inl v1, .inl 17, .inl x0, .inr (some (25, 0, 0, 0))], (zx_lay M, n)) _
  refine zx_E.brh (c := v1 = 0) (s1 := (18, [some (.inr (some (25, 0, 0, 0))), some (.inl x0), some (.inl x1), none], [.inl 17, .inl x0, .inr (some (25, 0, 0, 0))], (zx_lay M, n))) (s2 := (12, [some (.inr (some (25, 0, 0, 0))), some (.inl x0), some (.inl x1), none], [.inl 17, .inl x0, .inr (some (25, 0, 0, 0))], (zx_lay M, n))) h (zx_if_eq rfl) (fun _ h => ?_) (fun _ h => ?_)
  · refine zx_E.go 2 (s' := (20, [some (.inr (some (25, 0, 0, 0))), some (.inl x0), some (.inl x1), none], [.inl (17 + x1), .inl x0, .inr (some (25, 0, 0, 0))], (zx_lay M, n))) rfl ?_
    refine zx_E.cb (y := 125) (as := [.inr (some (25, 0, 0, 0)), .inl x0, .inl (17 + x1)]) (rest := []) h rfl (fun _ hv => zx_run_up (by omega) (r_X11_at (d := d) hv)) (fun v2 h => ?_)
    show zx_E _ _ _ (23, [some (.inr (some (25, 0, 0, 0))), some (.inl x0), some (.inl x1), none], [.inl v2], (zx_lay M, n)) _
    refine zx_E.go 3 (s' := (27, [some (.inr (some (25, 0, 0, 0))), some (.inl x0), some (.inl x1), some (.inl v2)], [.inl (-5), .inl v2], (zx_lay M, n))) rfl ?_
    refine zx_E.brh (c := v2 = (-5)) (s1 := (30, [some (.inr (some (25, 0, 0, 0))), some (.inl x0), some (.inl x1), some (.inl v2)], [], (zx_lay M, n))) (s2 := (35, [some (.inr (some (25, 0, 0, 0))), some (.inl x0), some (.inl x1), some (.inl v2)], [], (zx_lay M, n))) h (zx_ic_ne rfl) (fun _ h => ?_) (fun _ h => ?_)
    · refine zx_E.go 2 (s' := (36, [some (.inr (some (25, 0, 0, 0))), some (.inl x0), some (.inl x1), some (.inl v2)], [.inl 100000], (zx_lay M, n))) rfl ?_
      exact zx_E.rp h rfl (fun h => absurd h (by decide))
    · refine zx_E.go 1 (s' := (36, [some (.inr (some (25, 0, 0, 0))), some (.inl x0), some (.inl x1), some (.inl v2)], [.inl v2], (zx_lay M, n))) rfl ?_
      exact zx_E.rp h rfl (fun h => absurd h (by decide))
  · refine zx_E.go 5 (s' := (20, [some (.inr (some (25, 0, 0, 0))), some (.inl x0), some (.inl x1), none], [.inl (17 + (x1 + 1)), .inl x0, .inr (some (25, 0, 0, 0))], (zx_lay M, n))) rfl ?_
    refine zx_E.cb (y := 125) (as := [.inr (some (25, 0, 0, 0)), .inl x0, .inl (17 + (x1 + 1))]) (rest := []) h rfl (fun _ hv => zx_run_up (by omega) (r_X11_at (d := d) hv)) (fun v3 h => ?_)
    show zx_E _ _ _ (23, [some (.inr (some (25, 0, 0, 0))), some (.inl x0), some (.inl x1), none], [.inl v3], (zx_lay M, n)) _
    refine zx_E.go 3 (s' := (27, [some (.inr (some (25, 0, 0, 0))), some (.inl x0), some (.inl x1), some (.inl v3)], [.inl (-5), .inl v3], (zx_lay M, n))) rfl ?_
    refine zx_E.brh (c := v3 = (-5)) (s1 := (30, [some (.inr (some (25, 0, 0, 0))), some (.inl x0), some (.inl x1), some (.inl v3)], [], (zx_lay M, n))) (s2 := (35, [some (.inr (some (25, 0, 0, 0))), some (.inl x0), some (.inl x1), some (.inl v3)], [], (zx_lay M, n))) h (zx_ic_ne rfl) (fun _ h => ?_) (fun _ h => ?_)
    · refine zx_E.go 2 (s' := (36, [some (.inr (some (25, 0, 0, 0))), some (.inl x0), some (.inl x1), some (.inl v3)], [.inl 100000], (zx_lay M, n))) rfl ?_
      exact zx_E.rp h rfl (fun h => absurd h (by decide))
    · refine zx_E.go 1 (s' := (36, [some (.inr (some (25, 0, 0, 0))), some (.inl x0), some (.inl x1), some (.inl v3)], [.inl v3], (zx_lay M, n))) rfl ?_
      exact zx_E.rp h rfl (fun h => absurd h (by decide))
def lg_X11_held_41 (M : zx_Y) (x0 : Int32) (x1 : Int32) (kk : Int32 → Option Int32) : Nat → Int32 → Option Int32
  | 0, _ => none
  | q + 1, w3 => (if (M (26, 0, 0, 0) 27) ≤ w3 then (kk w3) else (zb (g_X11_entered M w3 x0) fun v1 => (if v1 = (-5) then (lg_X11_held_41 M x0 x1 kk q (w3 + 1)) else (zb (g_X11_entered M w3 x0) fun v2 => (if x1 < v2 then (lg_X11_held_41 M x0 x1 kk q (w3 + 1)) else (zb (g_X11_left M w3 x0) fun v3 => (if v3 ≤ x1 then (lg_X11_held_41 M x0 x1 kk q (w3 + 1)) else (some w3))))))))
set_option maxRecDepth 100000 in
set_option maxHeartbeats 4000000 in
theorem rl_X11_held_41 {X : zx_X} {d n : Nat} {M : zx_Y} {x0 : Int32} {x1 : Int32} {kk : Int32 → Option Int32} {rv : Int32} (hk : ∀ (w3 : Int32), kk w3 = some rv → zx_E X (d + 3) zc_X11_held (91, [some (.inr (some (25, 0, 0, 0))), some (.inl x0), some (.inl x1), some (.inl w3)], [], (zx_lay M, n)) (some (.inl rv), (zx_lay M, n))) : ∀ (q : Nat) (w3 : Int32), lg_X11_held_41 M x0 x1 kk q w3 = some rv → zx_E X (d + 3) zc_X11_held (41, [some (.inr (some (25, 0, 0, 0))), some (.inl x0), some (.inl x1), some (.inl w3)], [], (zx_lay M, n)) (some (.inl rv), (zx_lay M, n))
  | 0, w3, h => by
    rw [lg_X11_held_41.eq_1] at h
    cases h
  | q + 1, w3, h => by
    rw [lg_X11_held_41.eq_2] at h
    refine zx_E.go 4 (s' := (48, [some (.inr (some (25, 0, 0, 0))), some (.inl x0), some (.inl x1), some (.inl w3)], [.inl 27, .inr (some (26, 0, 0, 0)), .inl w3], (zx_lay M, n))) rfl ?_
    refine zx_E.iald (k := 27) (h := (26, 0, 0, 0)) rfl rfl rfl (by decide) ?_
    show zx_E _ _ _ (49, [some (.inr (some (25, 0, 0, 0))), some (.inl x0), some (.inl x1), some (.inl w3)], [.inl (M (26, 0, 0, 0) 27), .inl w3], (zx_lay M, n)) _
    refine zx_E.brh (c := (M (26, 0, 0, 0) 27) ≤ w3) (s1 := (91, [some (.inr (some (25, 0, 0, 0))), some (.inl x0), some (.inl x1), some (.inl w3)], [], (zx_lay M, n))) (s2 := (52, [some (.inr (some (25, 0, 0, 0))), some (.inl x0), some (.inl x1), some (.inl w3)], [], (zx_lay M, n))) h (zx_ic_ge rfl) (fun _ h => ?_) (fun _ h => ?_)
    · exact hk _ h
    · refine zx_E.go 3 (s' := (55, [some (.inr (some (25, 0, 0, 0))), some (.inl x0), some (.inl x1), some (.inl w3)], [.inl x0, .inl w3, .inr (some (25, 0, 0, 0))], (zx_lay M, n))) rfl ?_
      refine zx_E.cb (y := 191) (as := [.inr (some (25, 0, 0, 0)), .inl w3, .inl x0]) (rest := []) h rfl (fun _ hv => zx_run_up (by omega) (r_X11_entered (d := d) hv)) (fun v1 h => ?_)
      show zx_E _ _ _ (58, [some (.inr (some (25, 0, 0, 0))), some (.inl x0), some (.inl x1), some (.inl w3)], [.inl v1], (zx_lay M, n)) _
      refine zx_E.go 1 (s' := (60, [some (.inr (some (25, 0, 0, 0))), some (.inl x0), some (.inl x1), some (.inl w3)], [.inl (-5), .inl v1], (zx_lay M, n))) rfl ?_
      refine zx_E.brh (c := v1 = (-5)) (s1 := (85, [some (.inr (some (25, 0, 0, 0))), some (.inl x0), some (.inl x1), some (.inl w3)], [], (zx_lay M, n))) (s2 := (63, [some (.inr (some (25, 0, 0, 0))), some (.inl x0), some (.inl x1), some (.inl w3)], [], (zx_lay M, n))) h (zx_ic_eq rfl) (fun _ h => ?_) (fun _ h => ?_)
      · refine zx_E.go 2 (s' := (41, [some (.inr (some (25, 0, 0, 0))), some (.inl x0), some (.inl x1), some (.inl (w3 + 1))], [], (zx_lay M, n))) rfl ?_
        exact rl_X11_held_41 hk q (w3 + 1) h
      · refine zx_E.go 3 (s' := (66, [some (.inr (some (25, 0, 0, 0))), some (.inl x0), some (.inl x1), some (.inl w3)], [.inl x0, .inl w3, .inr (some (25, 0, 0, 0))], (zx_lay M, n))) rfl ?_
        refine zx_E.cb (y := 191) (as := [.inr (some (25, 0, 0, 0)), .inl w3, .inl x0]) (rest := []) h rfl (fun _ hv => zx_run_up (by omega) (r_X11_entered (d := d) hv)) (fun v2 h => ?_)
        show zx_E _ _ _ (69, [some (.inr (some (25, 0, 0, 0))), some (.inl x0), some (.inl x1), some (.inl w3)], [.inl v2], (zx_lay M, n)) _
        refine zx_E.go 1 (s' := (70, [some (.inr (some (25, 0, 0, 0))), some (.inl x0), some (.inl x1), some (.inl w3)], [.inl x1, .inl v2], (zx_lay M, n))) rfl ?_
        refine zx_E.brh (c := x1 < v2) (s1 := (85, [some (.inr (some (25, 0, 0, 0))), some (.inl x0), some (.inl x1), some (.inl w3)], [], (zx_lay M, n))) (s2 := (73, [some (.inr (some (25, 0, 0, 0))), some (.inl x0), some (.inl x1), some (.inl w3)], [], (zx_lay M, n))) h (zx_ic_gt rfl) (fun _ h => ?_) (fun _ h => ?_)
        · refine zx_E.go 2 (s' := (41, [some (.inr (some (25, 0, 0, 0))), some (.inl x0), some (.inl x1), some (.inl (w3 + 1))], [], (zx_lay M, n))) rfl ?_
          exact rl_X11_held_41 hk q (w3 + 1) h
        · refine zx_E.go 3 (s' := (76, [some (.inr (some (25, 0, 0, 0))), some (.inl x0), some (.inl x1), some (.inl w3)], [.inl x0, .inl w3, .inr (some (25, 0, 0, 0))], (zx_lay M, n))) rfl ?_
          refine zx_E.cb (y := 192) (as := [.inr (some (25, 0, 0, 0)), .inl w3, .inl x0]) (rest := []) h rfl (fun _ hv => zx_run_up (by omega) (r_X11_left (d := d) hv)) (fun v3 h => ?_)
          show zx_E _ _ _ (79, [some (.inr (some (25, 0, 0, 0))), some (.inl x0), some (.inl x1), some (.inl w3)], [.inl v3], (zx_lay M, n)) _
          refine zx_E.go 1 (s' := (80, [some (.inr (some (25, 0, 0, 0))), some (.inl x0), some (.inl x1), some (.inl w3)], [.inl x1, .inl v3], (zx_lay M, n))) rfl ?_
          refine zx_E.brh (c := v3 ≤ x1) (s1 := (85, [some (.inr (some (25, 0, 0, 0))), some (.inl x0), some (.inl x1), some (.inl w3)], [], (zx_lay M, n))) (s2 := (83, [some (.inr (some (25, 0, 0, 0))), some (.inl x0), some (.inl x1), some (.inl w3)], [], (zx_lay M, n))) h (zx_ic_le rfl) (fun _ h => ?_) (fun _ h => ?_)
          · refine zx_E.go 2 (s' := (41, [some (.inr (some (25, 0, 0, 0))), some (.inl x0), some (.inl x1), some (.inl (w3 + 1))], [], (zx_lay M, n))) rfl ?_
            exact rl_X11_held_41 hk q (w3 + 1) h
          · refine zx_E.go 1 (s' := (84, [some (.inr (some (25, 0, 0, 0))), some (.inl x0), some (.inl x1), some (.inl w3)], [.inl w3], (zx_lay M, n))) rfl ?_
            exact zx_E.rp h rfl (fun h => absurd h (by decide))
def g_X11_held (M : zx_Y) (x0 : Int32) (x1 : Int32) : Option Int32 := (if (M (26, 0, 0, 0) 1) = 0 then (some (-3)) else (zb (g_X11_isBlock M x0) fun v1 => (if v1 = 0 then (some (-1)) else (zb (g_X11_isIn M x1 0 (M (26, 0, 0, 0) 0)) fun v2 => (if v2 = 0 then (some (-2)) else (lg_X11_held_41 M x0 x1 (fun v3 => (some (-5))) 1000 0))))))
set_option maxRecDepth 100000 in
set_option maxHeartbeats 4000000 in
theorem r_X11_held {X : zx_X} {d n : Nat} {M : zx_Y} {x0 : Int32} {x1 : Int32} {rv : Int32} (h : g_X11_held M x0 x1 = some rv) : zx_run X (d + 4) 193 [.inr (some (25, 0, 0, 0)), .inl x0, .inl x1] (zx_lay M, n) (some (.inl rv), (zx_lay M, n)) := by
  refine zx_run_of zc_X11_held [some (.inr (some (25, 0, 0, 0))), some (.inl x0), some (.inl x1), none] rfl rfl ?_
  unfold g_X11_held at h
  refine zx_E.go 3 (s' := (5, [some (.inr (some (25, 0, 0, 0))), some (.inl x0), some (.inl x1), none], [.inl 1, .inr (some (26, 0, 0, 0))], (zx_lay M, n))) rfl ?_
  refine zx_E.iald (k := 1) (h := (26, 0, 0, 0)) rfl rfl rfl (by decide) ?_
  show zx_E _ _ _ (6, [some (.inr (some (25, 0, 0, 0))), some (.inl x0), some (.inl x1), none], [.inl (M (26, 0, 0, 0) 1)], (zx_lay M, n)) _
  refine zx_E.brh (c := (M (26, 0, 0, 0) 1) = 0) (s1 := (9, [some (.inr (some (25, 0, 0, 0))), some (.inl x0), some (.inl x1), none], [], (zx_lay M, n))) (s2 := (12, [some (.inr (some (25, 0, 0, 0))), some (.inl x0), some (.inl x1), none], [], (zx_lay M, n))) h (zx_if_ne rfl) (fun _ h => ?_) (fun _ h => ?_)
  · refine zx_E.go 1 (s' := (11, [some (.inr (some (25, 0, 0, 0))), some (.inl x0), some (.inl x1), none], [.inl (-3)], (zx_lay M, n))) rfl ?_
    exact zx_E.rp h rfl (fun h => absurd h (by decide))
  · refine zx_E.go 2 (s' := (14, [some (.inr (some (25, 0, 0, 0))), some (.inl x0), some (.inl x1), none], [.inl x0, .inr (some (25, 0, 0, 0))], (zx_lay M, n))) rfl ?_
    refine zx_E.cb (y := 123) (as := [.inr (some (25, 0, 0, 0)), .inl x0]) (rest := []) h rfl (fun _ hv => zx_run_up (by omega) (r_X11_isBlock (d := d) hv)) (fun v1 h => ?_)
    show zx_E _ _ _ (17, [some (.inr (some (25, 0, 0, 0))), some (.inl x0), some (.inl x1), none], [.inl v1], (zx_lay M, n)) _
    refine zx_E.brh (c := v1 = 0) (s1 := (20, [some (.inr (some (25, 0, 0, 0))), some (.inl x0), some (.inl x1), none], [], (zx_lay M, n))) (s2 := (22, [some (.inr (some (25, 0, 0, 0))), some (.inl x0), some (.inl x1), none], [], (zx_lay M, n))) h (zx_if_ne rfl) (fun _ h => ?_) (fun _ h => ?_)
    · refine zx_E.go 1 (s' := (21, [some (.inr (some (25, 0, 0, 0))), some (.inl x0), some (.inl x1), none], [.inl (-1)], (zx_lay M, n))) rfl ?_
      exact zx_E.rp h rfl (fun h => absurd h (by decide))
    · refine zx_E.go 5 (s' := (29, [some (.inr (some (25, 0, 0, 0))), some (.inl x0), some (.inl x1), none], [.inl 0, .inr (some (26, 0, 0, 0)), .inl 0, .inl x1], (zx_lay M, n))) rfl ?_
      refine zx_E.iald (k := 0) (h := (26, 0, 0, 0)) rfl rfl rfl (by decide) ?_
      show zx_E _ _ _ (30, [some (.inr (some (25, 0, 0, 0))), some (.inl x0), some (.inl x1), none], [.inl (M (26, 0, 0, 0) 0), .inl 0, .inl x1], (zx_lay M, n)) _
      refine zx_E.cb (y := 121) (as := [.inl x1, .inl 0, .inl (M (26, 0, 0, 0) 0)]) (rest := []) h rfl (fun _ hv => zx_run_up (by omega) (r_X11_isIn (d := d) hv)) (fun v2 h => ?_)
      show zx_E _ _ _ (33, [some (.inr (some (25, 0, 0, 0))), some (.inl x0), some (.inl x1), none], [.inl v2], (zx_lay M, n)) _
      refine zx_E.brh (c := v2 = 0) (s1 := (36, [some (.inr (some (25, 0, 0, 0))), some (.inl x0), some (.inl x1), none], [], (zx_lay M, n))) (s2 := (39, [some (.inr (some (25, 0, 0, 0))), some (.inl x0), some (.inl x1), none], [], (zx_lay M, n))) h (zx_if_ne rfl) (fun _ h => ?_) (fun _ h => ?_)
      · refine zx_E.go 1 (s' := (38, [some (.inr (some (25, 0, 0, 0))), some (.inl x0), some (.inl x1), none], [.inl (-2)], (zx_lay M, n))) rfl ?_
        exact zx_E.rp h rfl (fun h => absurd h (by decide))
      · refine zx_E.go 2 (s' := (41, [some (.inr (some (25, 0, 0, 0))), some (.inl x0), some (.inl x1), some (.inl 0)], [], (zx_lay M, n))) rfl ?_
        refine rl_X11_held_41 (fun v3 h => ?_) 1000  0  h
        refine zx_E.go 1 (s' := (93, [some (.inr (some (25, 0, 0, 0))), some (.inl x0), some (.inl x1), some (.inl v3)], [.inl (-5)], (zx_lay M, n))) rfl ?_
        exact zx_E.rp h rfl (fun h => absurd h (by decide))
def g_X2_isConflict (M : zx_Y) (l : Nat) (i : Nat) (j : Nat) (x0 : Int32) : Option Int32 := (zb (g_X9_entered M l i x0) fun v1 => (zb (g_X9_entered M l j x0) fun v2 => (if v1 = (-5) then (some 0) else (if v2 = (-5) then (some 0) else (zb (g_X9_left M l i x0) fun v3 => (zb (g_X9_left M l j x0) fun v4 => (if (zmin v3 v4) ≤ (zmax v1 v2) then (some 0) else (some 1))))))))
set_option maxRecDepth 100000 in
set_option maxHeartbeats 4000000 in
theorem r_X2_isConflict {X : zx_X} {d n : Nat} {M : zx_Y} {l : Nat} {i : Nat} {j : Nat} {x0 : Int32} {rv : Int32} (h : g_X2_isConflict M l i j x0 = some rv) : zx_run X (d + 2) 49 [.inr (some (1, l, 0, 0)), .inr (some (7, l, i, 0)), .inr (some (7, l, j, 0)), .inl x0] (zx_lay M, n) (some (.inl rv), (zx_lay M, n)) := by
  refine zx_run_of zc_X2_isConflict [some (.inr (some (1, l, 0, 0))), some (.inr (some (7, l, i, 0))), some (.inr (some (7, l, j, 0))), some (.inl x0), none, none] rfl rfl ?_
  unfold g_X2_isConflict at h
  refine zx_E.go 2 (s' := (2, [some (.inr (some (1, l, 0, 0))), some (.inr (some (7, l, i, 0))), some (.inr (some (7, l, j, 0))), some (.inl x0), none, none], [.inl x0, .inr (some (7, l, i, 0))], (zx_lay M, n))) rfl ?_
  refine zx_E.cb (y := 89) (as := [.inr (some (7, l, i, 0)), .inl x0]) (rest := []) h rfl (fun _ hv => zx_run_up (by omega) (r_X9_entered (d := d) hv)) (fun v1 h => ?_)
  show zx_E _ _ _ (5, [some (.inr (some (1, l, 0, 0))), some (.inr (some (7, l, i, 0))), some (.inr (some (7, l, j, 0))), some (.inl x0), none, none], [.inl v1], (zx_lay M, n)) _
  refine zx_E.go 3 (s' := (9, [some (.inr (some (1, l, 0, 0))), some (.inr (some (7, l, i, 0))), some (.inr (some (7, l, j, 0))), some (.inl x0), some (.inl v1), none], [.inl x0, .inr (some (7, l, j, 0))], (zx_lay M, n))) rfl ?_
  refine zx_E.cb (y := 89) (as := [.inr (some (7, l, j, 0)), .inl x0]) (rest := []) h rfl (fun _ hv => zx_run_up (by omega) (r_X9_entered (d := d) hv)) (fun v2 h => ?_)
  show zx_E _ _ _ (12, [some (.inr (some (1, l, 0, 0))), some (.inr (some (7, l, i, 0))), some (.inr (some (7, l, j, 0))), some (.inl x0), some (.inl v1), none], [.inl v2], (zx_lay M, n)) _
  refine zx_E.go 3 (s' := (18, [some (.inr (some (1, l, 0, 0))), some (.inr (some (7, l, i, 0))), some (.inr (some (7, l, j, 0))), some (.inl x0), some (.inl v1), some (.inl v2)], [.inl (-5), .inl v1], (zx_lay M, n))) rfl ?_
  refine zx_E.brh (c := v1 = (-5)) (s1 := (28, [some (.inr (some (1, l, 0, 0))), some (.inr (some (7, l, i, 0))), some (.inr (some (7, l, j, 0))), some (.inl x0), some (.inl v1), some (.inl v2)], [], (zx_lay M, n))) (s2 := (21, [some (.inr (some (1, l, 0, 0))), some (.inr (some (7, l, i, 0))), some (.inr (some (7, l, j, 0))), some (.inl x0), some (.inl v1), some (.inl v2)], [], (zx_lay M, n))) h (zx_ic_eq rfl) (fun _ h => ?_) (fun _ h => ?_)
  · refine zx_E.go 1 (s' := (29, [some (.inr (some (1, l, 0, 0))), some (.inr (some (7, l, i, 0))), some (.inr (some (7, l, j, 0))), some (.inl x0), some (.inl v1), some (.inl v2)], [.inl 0], (zx_lay M, n))) rfl ?_
    exact zx_E.rp h rfl (fun _ => Or.inl rfl)
  · refine zx_E.go 2 (s' := (25, [some (.inr (some (1, l, 0, 0))), some (.inr (some (7, l, i, 0))), some (.inr (some (7, l, j, 0))), some (.inl x0), some (.inl v1), some (.inl v2)], [.inl (-5), .inl v2], (zx_lay M, n))) rfl ?_
    refine zx_E.brh (c := v2 = (-5)) (s1 := (28, [some (.inr (some (1, l, 0, 0))), some (.inr (some (7, l, i, 0))), some (.inr (some (7, l, j, 0))), some (.inl x0), some (.inl v1), some (.inl v2)], [], (zx_lay M, n))) (s2 := (30, [some (.inr (some (1, l, 0, 0))), some (.inr (some (7, l, i, 0))), some (.inr (some (7, l, j, 0))), some (.inl x0), some (.inl v1), some (.inl v2)], [], (zx_lay M, n))) h (zx_ic_ne rfl) (fun _ h => ?_) (fun _ h => ?_)
    · refine zx_E.go 1 (s' := (29, [some (.inr (some (1, l, 0, 0))), some (.inr (some (7, l, i, 0))), some (.inr (some (7, l, j, 0))), some (.inl x0), some (.inl v1), some (.inl v2)], [.inl 0], (zx_lay M, n))) rfl ?_
      exact zx_E.rp h rfl (fun _ => Or.inl rfl)
    · refine zx_E.go 5 (s' := (39, [some (.inr (some (1, l, 0, 0))), some (.inr (some (7, l, i, 0))), some (.inr (some (7, l, j, 0))), some (.inl x0), some (.inl v1), some (.inl v2)], [.inl x0, .inr (some (7, l, i, 0)), .inl (zmax v1 v2)], (zx_lay M, n))) rfl ?_
      refine zx_E.cb (y := 90) (as := [.inr (some (7, l, i, 0)), .inl x0]) (rest := [.inl (zmax v1 v2)]) h rfl (fun _ hv => zx_run_up (by omega) (r_X9_left (d := d) hv)) (fun v3 h => ?_)
      show zx_E _ _ _ (42, [some (.inr (some (1, l, 0, 0))), some (.inr (some (7, l, i, 0))), some (.inr (some (7, l, j, 0))), some (.inl x0), some (.inl v1), some (.inl v2)], [.inl v3, .inl (zmax v1 v2)], (zx_lay M, n)) _
      refine zx_E.go 2 (s' := (44, [some (.inr (some (1, l, 0, 0))), some (.inr (some (7, l, i, 0))), some (.inr (some (7, l, j, 0))), some (.inl x0), some (.inl v1), some (.inl v2)], [.inl x0, .inr (some (7, l, j, 0)), .inl v3, .inl (zmax v1 v2)], (zx_lay M, n))) rfl ?_
      refine zx_E.cb (y := 90) (as := [.inr (some (7, l, j, 0)), .inl x0]) (rest := [.inl v3, .inl (zmax v1 v2)]) h rfl (fun _ hv => zx_run_up (by omega) (r_X9_left (d := d) hv)) (fun v4 h => ?_)
      show zx_E _ _ _ (47, [some (.inr (some (1, l, 0, 0))), some (.inr (some (7, l, i, 0))), some (.inr (some (7, l, j, 0))), some (.inl x0), some (.inl v1), some (.inl v2)], [.inl v4, .inl v3, .inl (zmax v1 v2)], (zx_lay M, n)) _
      refine zx_E.go 1 (s' := (50, [some (.inr (some (1, l, 0, 0))), some (.inr (some (7, l, i, 0))), some (.inr (some (7, l, j, 0))), some (.inl x0), some (.inl v1), some (.inl v2)], [.inl (zmin v3 v4), .inl (zmax v1 v2)], (zx_lay M, n))) rfl ?_
      refine zx_E.brh (c := (zmin v3 v4) ≤ (zmax v1 v2)) (s1 := (57, [some (.inr (some (1, l, 0, 0))), some (.inr (some (7, l, i, 0))), some (.inr (some (7, l, j, 0))), some (.inl x0), some (.inl v1), some (.inl v2)], [], (zx_lay M, n))) (s2 := (53, [some (.inr (some (1, l, 0, 0))), some (.inr (some (7, l, i, 0))), some (.inr (some (7, l, j, 0))), some (.inl x0), some (.inl v1), some (.inl v2)], [], (zx_lay M, n))) h (zx_ic_ge rfl) (fun _ h => ?_) (fun _ h => ?_)
      · refine zx_E.go 1 (s' := (58, [some (.inr (some (1, l, 0, 0))), some (.inr (some (7, l, i, 0))), some (.inr (some (7, l, j, 0))), some (.inl x0), some (.inl v1), some (.inl v2)], [.inl 0], (zx_lay M, n))) rfl ?_
        exact zx_E.rp h rfl (fun _ => Or.inl rfl)
      · refine zx_E.go 2 (s' := (58, [some (.inr (some (1, l, 0, 0))), some (.inr (some (7, l, i, 0))), some (.inr (some (7, l, j, 0))), some (.inl x0), some (.inl v1), some (.inl v2)], [.inl 1], (zx_lay M, n))) rfl ?_
        exact zx_E.rp h rfl (fun _ => Or.inr rfl)
def lg_X2_conflictsIn_15 (M : zx_Y) (l : Nat) (x0 : Int32) (p3 : Int32) (kk : Int32 → Int32 → Option Int32) : Nat → Int32 → Int32 → Option Int32
  | 0, _, _ => none
  | q + 1, w2, w4 => (if p3 ≤ w4 then (kk w2 w4) else (zi p3 10 fun k1 => (zi w4 10 fun k2 => (zb (g_X2_isConflict M l k1 k2 x0) fun v1 => (if v1 = 0 then (lg_X2_conflictsIn_15 M l x0 p3 kk q w2 (w4 + 1)) else (lg_X2_conflictsIn_15 M l x0 p3 kk q (w2 + 1) (w4 + 1)))))))
set_option maxRecDepth 100000 in
set_option maxHeartbeats 4000000 in
theorem rl_X2_conflictsIn_15 {X : zx_X} {d n : Nat} {M : zx_Y} {l : Nat} {x0 : Int32} {p3 : Int32} {kk : Int32 → Int32 → Option Int32} {rv : Int32} (hk : ∀ (w2 : Int32) (w4 : Int32), kk w2 w4 = some rv → zx_E X (d + 2) zc_X2_conflictsIn (51, [some (.inr (some (1, l, 0, 0))), some (.inl x0), some (.inl w2), some (.inl p3), some (.inl w4)], [], (zx_lay M, n)) (some (.inl rv), (zx_lay M, n))) : ∀ (q : Nat) (w2 : Int32) (w4 : Int32), lg_X2_conflictsIn_15 M l x0 p3 kk q w2 w4 = some rv → zx_E X (d + 2) zc_X2_conflictsIn (15, [some (.inr (some (1, l, 0, 0))), some (.inl x0), some (.inl w2), some (.inl p3), some (.inl w4)], [], (zx_lay M, n)) (some (.inl rv), (zx_lay M, n))
  | 0, w2, w4, h => by
    rw [lg_X2_conflictsIn_15.eq_1] at h
    cases h
  | q + 1, w2, w4, h => by
    rw [lg_X2_conflictsIn_15.eq_2] at h
    refine zx_E.go 2 (s' := (18, [some (.inr (some (1, l, 0, 0))), some (.inl x0), some (.inl w2), some (.inl p3), some (.inl w4)], [.inl p3, .inl w4], (zx_lay M, n))) rfl ?_
    refine zx_E.brh (c := p3 ≤ w4) (s1 := (51, [some (.inr (some (1, l, 0, 0))), some (.inl x0), some (.inl w2), some (.inl p3), some (.inl w4)], [], (zx_lay M, n))) (s2 := (21, [some (.inr (some (1, l, 0, 0))), some (.inl x0), some (.inl w2), some (.inl p3), some (.inl w4)], [], (zx_lay M, n))) h (zx_ic_ge rfl) (fun _ h => ?_) (fun _ h => ?_)
    · exact hk _ _ h
    · refine zx_E.go 4 (s' := (27, [some (.inr (some (1, l, 0, 0))), some (.inl x0), some (.inl w2), some (.inl p3), some (.inl w4)], [.inl p3, .inr (some (6, l, 0, 0)), .inr (some (1, l, 0, 0))], (zx_lay M, n))) rfl ?_
      refine zx_E.ix h (fun k1 hx_k1 hl_k1 h => ?_)
      refine zx_E.aald (k := k1) (h := (6, l, 0, 0)) (h' := (7, l, k1, 0)) rfl rfl hx_k1 hl_k1 rfl ?_
      show zx_E _ _ _ (28, [some (.inr (some (1, l, 0, 0))), some (.inl x0), some (.inl w2), some (.inl p3), some (.inl w4)], [.inr (some (7, l, k1, 0)), .inr (some (1, l, 0, 0))], (zx_lay M, n)) _
      refine zx_E.go 3 (s' := (34, [some (.inr (some (1, l, 0, 0))), some (.inl x0), some (.inl w2), some (.inl p3), some (.inl w4)], [.inl w4, .inr (some (6, l, 0, 0)), .inr (some (7, l, k1, 0)), .inr (some (1, l, 0, 0))], (zx_lay M, n))) rfl ?_
      refine zx_E.ix h (fun k2 hx_k2 hl_k2 h => ?_)
      refine zx_E.aald (k := k2) (h := (6, l, 0, 0)) (h' := (7, l, k2, 0)) rfl rfl hx_k2 hl_k2 rfl ?_
      show zx_E _ _ _ (35, [some (.inr (some (1, l, 0, 0))), some (.inl x0), some (.inl w2), some (.inl p3), some (.inl w4)], [.inr (some (7, l, k2, 0)), .inr (some (7, l, k1, 0)), .inr (some (1, l, 0, 0))], (zx_lay M, n)) _
      refine zx_E.go 1 (s' := (36, [some (.inr (some (1, l, 0, 0))), some (.inl x0), some (.inl w2), some (.inl p3), some (.inl w4)], [.inl x0, .inr (some (7, l, k2, 0)), .inr (some (7, l, k1, 0)), .inr (some (1, l, 0, 0))], (zx_lay M, n))) rfl ?_
      refine zx_E.cb (y := 49) (as := [.inr (some (1, l, 0, 0)), .inr (some (7, l, k1, 0)), .inr (some (7, l, k2, 0)), .inl x0]) (rest := []) h rfl (fun _ hv => zx_run_up (by omega) (r_X2_isConflict (d := d) hv)) (fun v1 h => ?_)
      show zx_E _ _ _ (39, [some (.inr (some (1, l, 0, 0))), some (.inl x0), some (.inl w2), some (.inl p3), some (.inl w4)], [.inl v1], (zx_lay M, n)) _
      refine zx_E.brh (c := v1 = 0) (s1 := (45, [some (.inr (some (1, l, 0, 0))), some (.inl x0), some (.inl w2), some (.inl p3), some (.inl w4)], [], (zx_lay M, n))) (s2 := (42, [some (.inr (some (1, l, 0, 0))), some (.inl x0), some (.inl w2), some (.inl p3), some (.inl w4)], [], (zx_lay M, n))) h (zx_if_eq rfl) (fun _ h => ?_) (fun _ h => ?_)
      · refine zx_E.go 2 (s' := (15, [some (.inr (some (1, l, 0, 0))), some (.inl x0), some (.inl w2), some (.inl p3), some (.inl (w4 + 1))], [], (zx_lay M, n))) rfl ?_
        exact rl_X2_conflictsIn_15 hk q w2 (w4 + 1) h
      · refine zx_E.go 3 (s' := (15, [some (.inr (some (1, l, 0, 0))), some (.inl x0), some (.inl (w2 + 1)), some (.inl p3), some (.inl (w4 + 1))], [], (zx_lay M, n))) rfl ?_
        exact rl_X2_conflictsIn_15 hk q (w2 + 1) (w4 + 1) h
def lg_X2_conflictsIn_4 (M : zx_Y) (l : Nat) (x0 : Int32) (kk : Int32 → Int32 → Option Int32) : Nat → Int32 → Int32 → Option Int32
  | 0, _, _ => none
  | q + 1, w2, w3 => (if (M (1, l, 0, 0) 4) ≤ w3 then (kk w2 w3) else (lg_X2_conflictsIn_15 M l x0 w3 (fun v1 v2 => (lg_X2_conflictsIn_4 M l x0 kk q v1 (w3 + 1))) 1000 w2 0))
set_option maxRecDepth 100000 in
set_option maxHeartbeats 4000000 in
theorem rl_X2_conflictsIn_4 {X : zx_X} {d n : Nat} {M : zx_Y} {l : Nat} {x0 : Int32} {kk : Int32 → Int32 → Option Int32} {rv : Int32} (hk : ∀ (w2 : Int32) (w3 : Int32) (e4 : Option zx_V), kk w2 w3 = some rv → zx_E X (d + 2) zc_X2_conflictsIn (57, [some (.inr (some (1, l, 0, 0))), some (.inl x0), some (.inl w2), some (.inl w3), e4], [], (zx_lay M, n)) (some (.inl rv), (zx_lay M, n))) : ∀ (q : Nat) (g4 : Option zx_V) (w2 : Int32) (w3 : Int32), lg_X2_conflictsIn_4 M l x0 kk q w2 w3 = some rv → zx_E X (d + 2) zc_X2_conflictsIn (4, [some (.inr (some (1, l, 0, 0))), some (.inl x0), some (.inl w2), some (.inl w3), g4], [], (zx_lay M, n)) (some (.inl rv), (zx_lay M, n))
  | 0, g4, w2, w3, h => by
    rw [lg_X2_conflictsIn_4.eq_1] at h
    cases h
  | q + 1, g4, w2, w3, h => by
    rw [lg_X2_conflictsIn_4.eq_2] at h
    refine zx_E.go 3 (s' := (9, [some (.inr (some (1, l, 0, 0))), some (.inl x0), some (.inl w2), some (.inl w3), g4], [.inl (M (1, l, 0, 0) 4), .inl w3], (zx_lay M, n))) rfl ?_
    refine zx_E.brh (c := (M (1, l, 0, 0) 4) ≤ w3) (s1 := (57, [some (.inr (some (1, l, 0, 0))), some (.inl x0), some (.inl w2), some (.inl w3), g4], [], (zx_lay M, n))) (s2 := (12, [some (.inr (some (1, l, 0, 0))), some (.inl x0), some (.inl w2), some (.inl w3), g4], [], (zx_lay M, n))) h (zx_ic_ge rfl) (fun _ h => ?_) (fun _ h => ?_)
    · exact hk _ _ _ h
    · refine zx_E.go 2 (s' := (15, [some (.inr (some (1, l, 0, 0))), some (.inl x0), some (.inl w2), some (.inl w3), some (.inl 0)], [], (zx_lay M, n))) rfl ?_
      refine rl_X2_conflictsIn_15 (fun v1 v2 h => ?_) 1000  w2 0  h
      refine zx_E.go 2 (s' := (4, [some (.inr (some (1, l, 0, 0))), some (.inl x0), some (.inl v1), some (.inl (w3 + 1)), some (.inl v2)], [], (zx_lay M, n))) rfl ?_
      exact rl_X2_conflictsIn_4 hk q _ v1 (w3 + 1) h
def g_X2_conflictsIn (M : zx_Y) (l : Nat) (x0 : Int32) : Option Int32 := (lg_X2_conflictsIn_4 M l x0 (fun v1 v2 => (some v1)) 1000 0 0)
set_option maxRecDepth 100000 in
set_option maxHeartbeats 4000000 in
theorem r_X2_conflictsIn {X : zx_X} {d n : Nat} {M : zx_Y} {l : Nat} {x0 : Int32} {rv : Int32} (h : g_X2_conflictsIn M l x0 = some rv) : zx_run X (d + 3) 48 [.inr (some (1, l, 0, 0)), .inl x0] (zx_lay M, n) (some (.inl rv), (zx_lay M, n)) := by
  refine zx_run_of zc_X2_conflictsIn [some (.inr (some (1, l, 0, 0))), some (.inl x0), none, none, none] rfl rfl ?_
  unfold g_X2_conflictsIn at h
  refine zx_E.go 4 (s' := (4, [some (.inr (some (1, l, 0, 0))), some (.inl x0), some (.inl 0), some (.inl 0), none], [], (zx_lay M, n))) rfl ?_
  refine rl_X2_conflictsIn_4 (fun v1 v2 e1 h => ?_) 1000 _ 0 0  h
  refine zx_E.go 1 (s' := (58, [some (.inr (some (1, l, 0, 0))), some (.inl x0), some (.inl v1), some (.inl v2), e1], [.inl v1], (zx_lay M, n))) rfl ?_
  exact zx_E.rp h rfl (fun h => absurd h (by decide))
def lg_X10_conflicts_4 (M : zx_Y) (kk : Int32 → Int32 → Option Int32) : Nat → Int32 → Int32 → Option Int32
  | 0, _, _ => none
  | q + 1, w1, w2 => (if (7 : Int32) ≤ w2 then (kk w1 w2) else (zb (g_X2_hasBlock M 0 w2) fun v1 => (if v1 = 0 then (lg_X10_conflicts_4 M kk q w1 (w2 + 1)) else (zb (g_X2_conflictsIn M 0 w2) fun v2 => (lg_X10_conflicts_4 M kk q (w1 + v2) (w2 + 1))))))
set_option maxRecDepth 100000 in
set_option maxHeartbeats 4000000 in
theorem rl_X10_conflicts_4 {X : zx_X} {d n : Nat} {M : zx_Y} {kk : Int32 → Int32 → Option Int32} {rv : Int32} (hk : ∀ (w1 : Int32) (w2 : Int32), kk w1 w2 = some rv → zx_E X (d + 3) zc_X10_conflicts (38, [some (.inr (some (0, 0, 0, 0))), some (.inl w1), some (.inl w2)], [], (zx_lay M, n)) (some (.inl rv), (zx_lay M, n))) : ∀ (q : Nat) (w1 : Int32) (w2 : Int32), lg_X10_conflicts_4 M kk q w1 w2 = some rv → zx_E X (d + 3) zc_X10_conflicts (4, [some (.inr (some (0, 0, 0, 0))), some (.inl w1), some (.inl w2)], [], (zx_lay M, n)) (some (.inl rv), (zx_lay M, n))
  | 0, w1, w2, h => by
    rw [lg_X10_conflicts_4.eq_1] at h
    cases h
  | q + 1, w1, w2, h => by
    rw [lg_X10_conflicts_4.eq_2] at h
    refine zx_E.go 2 (s' := (7, [some (.inr (some (0, 0, 0, 0))), some (.inl w1), some (.inl w2)], [.inl 7, .inl w2], (zx_lay M, n))) rfl ?_
    refine zx_E.brh (c := (7 : Int32) ≤ w2) (s1 := (38, [some (.inr (some (0, 0, 0, 0))), some (.inl w1), some (.inl w2)], [], (zx_lay M, n))) (s2 := (10, [some (.inr (some (0, 0, 0, 0))), some (.inl w1), some (.inl w2)], [], (zx_lay M, n))) h (zx_ic_ge rfl) (fun _ h => ?_) (fun _ h => ?_)
    · exact hk _ _ h
    · refine zx_E.go 3 (s' := (15, [some (.inr (some (0, 0, 0, 0))), some (.inl w1), some (.inl w2)], [.inl w2, .inr (some (1, 0, 0, 0))], (zx_lay M, n))) rfl ?_
      refine zx_E.cb (y := 17) (as := [.inr (some (1, 0, 0, 0)), .inl w2]) (rest := []) h rfl (fun _ hv => zx_run_up (by omega) (r_X2_hasBlock (d := d) hv)) (fun v1 h => ?_)
      show zx_E _ _ _ (18, [some (.inr (some (0, 0, 0, 0))), some (.inl w1), some (.inl w2)], [.inl v1], (zx_lay M, n)) _
      refine zx_E.brh (c := v1 = 0) (s1 := (32, [some (.inr (some (0, 0, 0, 0))), some (.inl w1), some (.inl w2)], [], (zx_lay M, n))) (s2 := (21, [some (.inr (some (0, 0, 0, 0))), some (.inl w1), some (.inl w2)], [], (zx_lay M, n))) h (zx_if_eq rfl) (fun _ h => ?_) (fun _ h => ?_)
      · refine zx_E.go 2 (s' := (4, [some (.inr (some (0, 0, 0, 0))), some (.inl w1), some (.inl (w2 + 1))], [], (zx_lay M, n))) rfl ?_
        exact rl_X10_conflicts_4 hk q w1 (w2 + 1) h
      · refine zx_E.go 4 (s' := (27, [some (.inr (some (0, 0, 0, 0))), some (.inl w1), some (.inl w2)], [.inl w2, .inr (some (1, 0, 0, 0)), .inl w1], (zx_lay M, n))) rfl ?_
        refine zx_E.cb (y := 48) (as := [.inr (some (1, 0, 0, 0)), .inl w2]) (rest := [.inl w1]) h rfl (fun _ hv => zx_run_up (by omega) (r_X2_conflictsIn (d := d) hv)) (fun v2 h => ?_)
        show zx_E _ _ _ (30, [some (.inr (some (0, 0, 0, 0))), some (.inl w1), some (.inl w2)], [.inl v2, .inl w1], (zx_lay M, n)) _
        refine zx_E.go 4 (s' := (4, [some (.inr (some (0, 0, 0, 0))), some (.inl (w1 + v2)), some (.inl (w2 + 1))], [], (zx_lay M, n))) rfl ?_
        exact rl_X10_conflicts_4 hk q (w1 + v2) (w2 + 1) h
def g_X10_conflicts (M : zx_Y) : Option Int32 := (lg_X10_conflicts_4 M (fun v1 v2 => (some v1)) 1000 0 0)
set_option maxRecDepth 100000 in
set_option maxHeartbeats 4000000 in
theorem r_X10_conflicts {X : zx_X} {d n : Nat} {M : zx_Y} {rv : Int32} (h : g_X10_conflicts M = some rv) : zx_run X (d + 4) 111 [.inr (some (0, 0, 0, 0))] (zx_lay M, n) (some (.inl rv), (zx_lay M, n)) := by
  refine zx_run_of zc_X10_conflicts [some (.inr (some (0, 0, 0, 0))), none, none] rfl rfl ?_
  unfold g_X10_conflicts at h
  refine zx_E.go 4 (s' := (4, [some (.inr (some (0, 0, 0, 0))), some (.inl 0), some (.inl 0)], [], (zx_lay M, n))) rfl ?_
  refine rl_X10_conflicts_4 (fun v1 v2 h => ?_) 1000  0 0  h
  refine zx_E.go 1 (s' := (39, [some (.inr (some (0, 0, 0, 0))), some (.inl v1), some (.inl v2)], [.inl v1], (zx_lay M, n))) rfl ?_
  exact zx_E.rp h rfl (fun h => absurd h (by decide))
def lg_X11_conflicts_34 (M : zx_Y) (p2 : Int32) (p3 : Int32) (kk : Int32 → Int32 → Option Int32) : Nat → Int32 → Int32 → Option Int32
  | 0, _, _ => none
  | q + 1, w1, w4 => (if (M (26, 0, 0, 0) 27) ≤ w4 then (kk w1 w4) else (zb (g_X11_entered M p3 p2) fun v1 => (if v1 = (-5) then (lg_X11_conflicts_34 M p2 p3 kk q (w1 + 0) (w4 + 1)) else (zb (g_X11_entered M w4 p2) fun v2 => (if v2 = (-5) then (lg_X11_conflicts_34 M p2 p3 kk q (w1 + 0) (w4 + 1)) else (zb (g_X11_entered M p3 p2) fun v3 => (zb (g_X11_left M w4 p2) fun v4 => (if v4 ≤ v3 then (lg_X11_conflicts_34 M p2 p3 kk q (w1 + 0) (w4 + 1)) else (zb (g_X11_entered M w4 p2) fun v5 => (zb (g_X11_left M p3 p2) fun v6 => (if v6 ≤ v5 then (lg_X11_conflicts_34 M p2 p3 kk q (w1 + 0) (w4 + 1)) else (lg_X11_conflicts_34 M p2 p3 kk q (w1 + 1) (w4 + 1)))))))))))))
set_option maxRecDepth 100000 in
set_option maxHeartbeats 4000000 in
theorem rl_X11_conflicts_34 {X : zx_X} {d n : Nat} {M : zx_Y} {p2 : Int32} {p3 : Int32} {kk : Int32 → Int32 → Option Int32} {rv : Int32} (hk : ∀ (w1 : Int32) (w4 : Int32) (e5 : Option zx_V), kk w1 w4 = some rv → zx_E X (d + 3) zc_X11_conflicts (127, [some (.inr (some (25, 0, 0, 0))), some (.inl w1), some (.inl p2), some (.inl p3), some (.inl w4), e5], [], (zx_lay M, n)) (some (.inl rv), (zx_lay M, n))) : ∀ (q : Nat) (g5 : Option zx_V) (w1 : Int32) (w4 : Int32), lg_X11_conflicts_34 M p2 p3 kk q w1 w4 = some rv → zx_E X (d + 3) zc_X11_conflicts (34, [some (.inr (some (25, 0, 0, 0))), some (.inl w1), some (.inl p2), some (.inl p3), some (.inl w4), g5], [], (zx_lay M, n)) (some (.inl rv), (zx_lay M, n))
  | 0, g5, w1, w4, h => by
    rw [lg_X11_conflicts_34.eq_1] at h
    cases h
  | q + 1, g5, w1, w4, h => by
    rw [lg_X11_conflicts_34.eq_2] at h
    refine zx_E.go 4 (s' := (42, [some (.inr (some (25, 0, 0, 0))), some (.inl w1), some (.inl p2), some (.inl p3), some (.inl w4), g5], [.inl 27, .inr (some (26, 0, 0, 0)), .inl w4], (zx_lay M, n))) rfl ?_
    refine zx_E.iald (k := 27) (h := (26, 0, 0, 0)) rfl rfl rfl (by decide) ?_
    show zx_E _ _ _ (43, [some (.inr (some (25, 0, 0, 0))), some (.inl w1), some (.inl p2), some (.inl p3), some (.inl w4), g5], [.inl (M (26, 0, 0, 0) 27), .inl w4], (zx_lay M, n)) _
    refine zx_E.brh (c := (M (26, 0, 0, 0) 27) ≤ w4) (s1 := (127, [some (.inr (some (25, 0, 0, 0))), some (.inl w1), some (.inl p2), some (.inl p3), some (.inl w4), g5], [], (zx_lay M, n))) (s2 := (46, [some (.inr (some (25, 0, 0, 0))), some (.inl w1), some (.inl p2), some (.inl p3), some (.inl w4), g5], [], (zx_lay M, n))) h (zx_ic_ge rfl) (fun _ h => ?_) (fun _ h => ?_)
    · exact hk _ _ _ h
    · refine zx_E.go 3 (s' := (49, [some (.inr (some (25, 0, 0, 0))), some (.inl w1), some (.inl p2), some (.inl p3), some (.inl w4), g5], [.inl p2, .inl p3, .inr (some (25, 0, 0, 0))], (zx_lay M, n))) rfl ?_
      refine zx_E.cb (y := 191) (as := [.inr (some (25, 0, 0, 0)), .inl p3, .inl p2]) (rest := []) h rfl (fun _ hv => zx_run_up (by omega) (r_X11_entered (d := d) hv)) (fun v1 h => ?_)
      show zx_E _ _ _ (52, [some (.inr (some (25, 0, 0, 0))), some (.inl w1), some (.inl p2), some (.inl p3), some (.inl w4), g5], [.inl v1], (zx_lay M, n)) _
      refine zx_E.go 1 (s' := (54, [some (.inr (some (25, 0, 0, 0))), some (.inl w1), some (.inl p2), some (.inl p3), some (.inl w4), g5], [.inl (-5), .inl v1], (zx_lay M, n))) rfl ?_
      refine zx_E.brh (c := v1 = (-5)) (s1 := (73, [some (.inr (some (25, 0, 0, 0))), some (.inl w1), some (.inl p2), some (.inl p3), some (.inl w4), g5], [], (zx_lay M, n))) (s2 := (57, [some (.inr (some (25, 0, 0, 0))), some (.inl w1), some (.inl p2), some (.inl p3), some (.inl w4), g5], [], (zx_lay M, n))) h (zx_ic_eq rfl) (fun _ h => ?_) (fun _ h => ?_)
      · refine zx_E.go 4 (s' := (79, [some (.inr (some (25, 0, 0, 0))), some (.inl w1), some (.inl p2), some (.inl p3), some (.inl w4), some (.inl 0)], [.inl 0, .inl w1], (zx_lay M, n))) rfl ?_
        refine zx_E.bt (c := ((0 : Int32) = 0 : Prop)) (s1 := (118, [some (.inr (some (25, 0, 0, 0))), some (.inl w1), some (.inl p2), some (.inl p3), some (.inl w4), some (.inl 0)], [.inl w1], (zx_lay M, n))) (s2 := (82, [some (.inr (some (25, 0, 0, 0))), some (.inl w1), some (.inl p2), some (.inl p3), some (.inl w4), some (.inl 0)], [.inl w1], (zx_lay M, n))) (zx_if_eq rfl) (by decide) ?_
        refine zx_E.go 5 (s' := (34, [some (.inr (some (25, 0, 0, 0))), some (.inl (w1 + 0)), some (.inl p2), some (.inl p3), some (.inl (w4 + 1)), some (.inl 0)], [], (zx_lay M, n))) rfl ?_
        exact rl_X11_conflicts_34 hk q _ (w1 + 0) (w4 + 1) h
      · refine zx_E.go 3 (s' := (61, [some (.inr (some (25, 0, 0, 0))), some (.inl w1), some (.inl p2), some (.inl p3), some (.inl w4), g5], [.inl p2, .inl w4, .inr (some (25, 0, 0, 0))], (zx_lay M, n))) rfl ?_
        refine zx_E.cb (y := 191) (as := [.inr (some (25, 0, 0, 0)), .inl w4, .inl p2]) (rest := []) h rfl (fun _ hv => zx_run_up (by omega) (r_X11_entered (d := d) hv)) (fun v2 h => ?_)
        show zx_E _ _ _ (64, [some (.inr (some (25, 0, 0, 0))), some (.inl w1), some (.inl p2), some (.inl p3), some (.inl w4), g5], [.inl v2], (zx_lay M, n)) _
        refine zx_E.go 1 (s' := (66, [some (.inr (some (25, 0, 0, 0))), some (.inl w1), some (.inl p2), some (.inl p3), some (.inl w4), g5], [.inl (-5), .inl v2], (zx_lay M, n))) rfl ?_
        refine zx_E.brh (c := v2 = (-5)) (s1 := (73, [some (.inr (some (25, 0, 0, 0))), some (.inl w1), some (.inl p2), some (.inl p3), some (.inl w4), g5], [], (zx_lay M, n))) (s2 := (69, [some (.inr (some (25, 0, 0, 0))), some (.inl w1), some (.inl p2), some (.inl p3), some (.inl w4), g5], [], (zx_lay M, n))) h (zx_ic_eq rfl) (fun _ h => ?_) (fun _ h => ?_)
        · refine zx_E.go 4 (s' := (79, [some (.inr (some (25, 0, 0, 0))), some (.inl w1), some (.inl p2), some (.inl p3), some (.inl w4), some (.inl 0)], [.inl 0, .inl w1], (zx_lay M, n))) rfl ?_
          refine zx_E.bt (c := ((0 : Int32) = 0 : Prop)) (s1 := (118, [some (.inr (some (25, 0, 0, 0))), some (.inl w1), some (.inl p2), some (.inl p3), some (.inl w4), some (.inl 0)], [.inl w1], (zx_lay M, n))) (s2 := (82, [some (.inr (some (25, 0, 0, 0))), some (.inl w1), some (.inl p2), some (.inl p3), some (.inl w4), some (.inl 0)], [.inl w1], (zx_lay M, n))) (zx_if_eq rfl) (by decide) ?_
          refine zx_E.go 5 (s' := (34, [some (.inr (some (25, 0, 0, 0))), some (.inl (w1 + 0)), some (.inl p2), some (.inl p3), some (.inl (w4 + 1)), some (.inl 0)], [], (zx_lay M, n))) rfl ?_
          exact rl_X11_conflicts_34 hk q _ (w1 + 0) (w4 + 1) h
        · refine zx_E.go 5 (s' := (79, [some (.inr (some (25, 0, 0, 0))), some (.inl w1), some (.inl p2), some (.inl p3), some (.inl w4), some (.inl 1)], [.inl 1, .inl w1], (zx_lay M, n))) rfl ?_
          refine zx_E.bf (c := ((1 : Int32) = 0 : Prop)) (s1 := (118, [some (.inr (some (25, 0, 0, 0))), some (.inl w1), some (.inl p2), some (.inl p3), some (.inl w4), some (.inl 1)], [.inl w1], (zx_lay M, n))) (s2 := (82, [some (.inr (some (25, 0, 0, 0))), some (.inl w1), some (.inl p2), some (.inl p3), some (.inl w4), some (.inl 1)], [.inl w1], (zx_lay M, n))) (zx_if_eq rfl) (by decide) ?_
          refine zx_E.go 3 (s' := (85, [some (.inr (some (25, 0, 0, 0))), some (.inl w1), some (.inl p2), some (.inl p3), some (.inl w4), some (.inl 1)], [.inl p2, .inl p3, .inr (some (25, 0, 0, 0)), .inl w1], (zx_lay M, n))) rfl ?_
          refine zx_E.cb (y := 191) (as := [.inr (some (25, 0, 0, 0)), .inl p3, .inl p2]) (rest := [.inl w1]) h rfl (fun _ hv => zx_run_up (by omega) (r_X11_entered (d := d) hv)) (fun v3 h => ?_)
          show zx_E _ _ _ (88, [some (.inr (some (25, 0, 0, 0))), some (.inl w1), some (.inl p2), some (.inl p3), some (.inl w4), some (.inl 1)], [.inl v3, .inl w1], (zx_lay M, n)) _
          refine zx_E.go 3 (s' := (92, [some (.inr (some (25, 0, 0, 0))), some (.inl w1), some (.inl p2), some (.inl p3), some (.inl w4), some (.inl 1)], [.inl p2, .inl w4, .inr (some (25, 0, 0, 0)), .inl v3, .inl w1], (zx_lay M, n))) rfl ?_
          refine zx_E.cb (y := 192) (as := [.inr (some (25, 0, 0, 0)), .inl w4, .inl p2]) (rest := [.inl v3, .inl w1]) h rfl (fun _ hv => zx_run_up (by omega) (r_X11_left (d := d) hv)) (fun v4 h => ?_)
          show zx_E _ _ _ (95, [some (.inr (some (25, 0, 0, 0))), some (.inl w1), some (.inl p2), some (.inl p3), some (.inl w4), some (.inl 1)], [.inl v4, .inl v3, .inl w1], (zx_lay M, n)) _
          refine zx_E.brh (c := v4 ≤ v3) (s1 := (118, [some (.inr (some (25, 0, 0, 0))), some (.inl w1), some (.inl p2), some (.inl p3), some (.inl w4), some (.inl 1)], [.inl w1], (zx_lay M, n))) (s2 := (98, [some (.inr (some (25, 0, 0, 0))), some (.inl w1), some (.inl p2), some (.inl p3), some (.inl w4), some (.inl 1)], [.inl w1], (zx_lay M, n))) h (zx_ic_ge rfl) (fun _ h => ?_) (fun _ h => ?_)
          · refine zx_E.go 5 (s' := (34, [some (.inr (some (25, 0, 0, 0))), some (.inl (w1 + 0)), some (.inl p2), some (.inl p3), some (.inl (w4 + 1)), some (.inl 1)], [], (zx_lay M, n))) rfl ?_
            exact rl_X11_conflicts_34 hk q _ (w1 + 0) (w4 + 1) h
          · refine zx_E.go 3 (s' := (102, [some (.inr (some (25, 0, 0, 0))), some (.inl w1), some (.inl p2), some (.inl p3), some (.inl w4), some (.inl 1)], [.inl p2, .inl w4, .inr (some (25, 0, 0, 0)), .inl w1], (zx_lay M, n))) rfl ?_
            refine zx_E.cb (y := 191) (as := [.inr (some (25, 0, 0, 0)), .inl w4, .inl p2]) (rest := [.inl w1]) h rfl (fun _ hv => zx_run_up (by omega) (r_X11_entered (d := d) hv)) (fun v5 h => ?_)
            show zx_E _ _ _ (105, [some (.inr (some (25, 0, 0, 0))), some (.inl w1), some (.inl p2), some (.inl p3), some (.inl w4), some (.inl 1)], [.inl v5, .inl w1], (zx_lay M, n)) _
            refine zx_E.go 3 (s' := (108, [some (.inr (some (25, 0, 0, 0))), some (.inl w1), some (.inl p2), some (.inl p3), some (.inl w4), some (.inl 1)], [.inl p2, .inl p3, .inr (some (25, 0, 0, 0)), .inl v5, .inl w1], (zx_lay M, n))) rfl ?_
            refine zx_E.cb (y := 192) (as := [.inr (some (25, 0, 0, 0)), .inl p3, .inl p2]) (rest := [.inl v5, .inl w1]) h rfl (fun _ hv => zx_run_up (by omega) (r_X11_left (d := d) hv)) (fun v6 h => ?_)
            show zx_E _ _ _ (111, [some (.inr (some (25, 0, 0, 0))), some (.inl w1), some (.inl p2), some (.inl p3), some (.inl w4), some (.inl 1)], [.inl v6, .inl v5, .inl w1], (zx_lay M, n)) _
            refine zx_E.brh (c := v6 ≤ v5) (s1 := (118, [some (.inr (some (25, 0, 0, 0))), some (.inl w1), some (.inl p2), some (.inl p3), some (.inl w4), some (.inl 1)], [.inl w1], (zx_lay M, n))) (s2 := (114, [some (.inr (some (25, 0, 0, 0))), some (.inl w1), some (.inl p2), some (.inl p3), some (.inl w4), some (.inl 1)], [.inl w1], (zx_lay M, n))) h (zx_ic_ge rfl) (fun _ h => ?_) (fun _ h => ?_)
            · refine zx_E.go 5 (s' := (34, [some (.inr (some (25, 0, 0, 0))), some (.inl (w1 + 0)), some (.inl p2), some (.inl p3), some (.inl (w4 + 1)), some (.inl 1)], [], (zx_lay M, n))) rfl ?_
              exact rl_X11_conflicts_34 hk q _ (w1 + 0) (w4 + 1) h
            · refine zx_E.go 6 (s' := (34, [some (.inr (some (25, 0, 0, 0))), some (.inl (w1 + 1)), some (.inl p2), some (.inl p3), some (.inl (w4 + 1)), some (.inl 1)], [], (zx_lay M, n))) rfl ?_
              exact rl_X11_conflicts_34 hk q _ (w1 + 1) (w4 + 1) h
def lg_X11_conflicts_18 (M : zx_Y) (p2 : Int32) (kk : Int32 → Int32 → Option Int32) : Nat → Int32 → Int32 → Option Int32
  | 0, _, _ => none
  | q + 1, w1, w3 => (if (M (26, 0, 0, 0) 27) ≤ w3 then (kk w1 w3) else (lg_X11_conflicts_34 M p2 w3 (fun v1 v2 => (lg_X11_conflicts_18 M p2 kk q v1 (w3 + 1))) 1000 w1 (w3 + 1)))
set_option maxRecDepth 100000 in
set_option maxHeartbeats 4000000 in
theorem rl_X11_conflicts_18 {X : zx_X} {d n : Nat} {M : zx_Y} {p2 : Int32} {kk : Int32 → Int32 → Option Int32} {rv : Int32} (hk : ∀ (w1 : Int32) (w3 : Int32) (e4 : Option zx_V) (e5 : Option zx_V), kk w1 w3 = some rv → zx_E X (d + 3) zc_X11_conflicts (133, [some (.inr (some (25, 0, 0, 0))), some (.inl w1), some (.inl p2), some (.inl w3), e4, e5], [], (zx_lay M, n)) (some (.inl rv), (zx_lay M, n))) : ∀ (q : Nat) (g4 : Option zx_V) (g5 : Option zx_V) (w1 : Int32) (w3 : Int32), lg_X11_conflicts_18 M p2 kk q w1 w3 = some rv → zx_E X (d + 3) zc_X11_conflicts (18, [some (.inr (some (25, 0, 0, 0))), some (.inl w1), some (.inl p2), some (.inl w3), g4, g5], [], (zx_lay M, n)) (some (.inl rv), (zx_lay M, n))
  | 0, g4, g5, w1, w3, h => by
    rw [lg_X11_conflicts_18.eq_1] at h
    cases h
  | q + 1, g4, g5, w1, w3, h => by
    rw [lg_X11_conflicts_18.eq_2] at h
    refine zx_E.go 4 (s' := (25, [some (.inr (some (25, 0, 0, 0))), some (.inl w1), some (.inl p2), some (.inl w3), g4, g5], [.inl 27, .inr (some (26, 0, 0, 0)), .inl w3], (zx_lay M, n))) rfl ?_
    refine zx_E.iald (k := 27) (h := (26, 0, 0, 0)) rfl rfl rfl (by decide) ?_
    show zx_E _ _ _ (26, [some (.inr (some (25, 0, 0, 0))), some (.inl w1), some (.inl p2), some (.inl w3), g4, g5], [.inl (M (26, 0, 0, 0) 27), .inl w3], (zx_lay M, n)) _
    refine zx_E.brh (c := (M (26, 0, 0, 0) 27) ≤ w3) (s1 := (133, [some (.inr (some (25, 0, 0, 0))), some (.inl w1), some (.inl p2), some (.inl w3), g4, g5], [], (zx_lay M, n))) (s2 := (29, [some (.inr (some (25, 0, 0, 0))), some (.inl w1), some (.inl p2), some (.inl w3), g4, g5], [], (zx_lay M, n))) h (zx_ic_ge rfl) (fun _ h => ?_) (fun _ h => ?_)
    · exact hk _ _ _ _ h
    · refine zx_E.go 4 (s' := (34, [some (.inr (some (25, 0, 0, 0))), some (.inl w1), some (.inl p2), some (.inl w3), some (.inl (w3 + 1)), g5], [], (zx_lay M, n))) rfl ?_
      refine rl_X11_conflicts_34 (fun v1 v2 e1 h => ?_) 1000 _ w1 (w3 + 1)  h
      refine zx_E.go 2 (s' := (18, [some (.inr (some (25, 0, 0, 0))), some (.inl v1), some (.inl p2), some (.inl (w3 + 1)), some (.inl v2), e1], [], (zx_lay M, n))) rfl ?_
      exact rl_X11_conflicts_18 hk q _ _ v1 (w3 + 1) h
def lg_X11_conflicts_4 (M : zx_Y) (kk : Int32 → Int32 → Option Int32) : Nat → Int32 → Int32 → Option Int32
  | 0, _, _ => none
  | q + 1, w1, w2 => (if ((M (26, 0, 0, 0) 1) - 1) ≤ w2 then (kk w1 w2) else (lg_X11_conflicts_18 M w2 (fun v1 v2 => (lg_X11_conflicts_4 M kk q v1 (w2 + 1))) 1000 w1 0))
set_option maxRecDepth 100000 in
set_option maxHeartbeats 4000000 in
theorem rl_X11_conflicts_4 {X : zx_X} {d n : Nat} {M : zx_Y} {kk : Int32 → Int32 → Option Int32} {rv : Int32} (hk : ∀ (w1 : Int32) (w2 : Int32) (e3 : Option zx_V) (e4 : Option zx_V) (e5 : Option zx_V), kk w1 w2 = some rv → zx_E X (d + 3) zc_X11_conflicts (139, [some (.inr (some (25, 0, 0, 0))), some (.inl w1), some (.inl w2), e3, e4, e5], [], (zx_lay M, n)) (some (.inl rv), (zx_lay M, n))) : ∀ (q : Nat) (g3 : Option zx_V) (g4 : Option zx_V) (g5 : Option zx_V) (w1 : Int32) (w2 : Int32), lg_X11_conflicts_4 M kk q w1 w2 = some rv → zx_E X (d + 3) zc_X11_conflicts (4, [some (.inr (some (25, 0, 0, 0))), some (.inl w1), some (.inl w2), g3, g4, g5], [], (zx_lay M, n)) (some (.inl rv), (zx_lay M, n))
  | 0, g3, g4, g5, w1, w2, h => by
    rw [lg_X11_conflicts_4.eq_1] at h
    cases h
  | q + 1, g3, g4, g5, w1, w2, h => by
    rw [lg_X11_conflicts_4.eq_2] at h
    refine zx_E.go 4 (s' := (10, [some (.inr (some (25, 0, 0, 0))), some (.inl w1), some (.inl w2), g3, g4, g5], [.inl 1, .inr (some (26, 0, 0, 0)), .inl w2], (zx_lay M, n))) rfl ?_
    refine zx_E.iald (k := 1) (h := (26, 0, 0, 0)) rfl rfl rfl (by decide) ?_
    show zx_E _ _ _ (11, [some (.inr (some (25, 0, 0, 0))), some (.inl w1), some (.inl w2), g3, g4, g5], [.inl (M (26, 0, 0, 0) 1), .inl w2], (zx_lay M, n)) _
    refine zx_E.go 2 (s' := (13, [some (.inr (some (25, 0, 0, 0))), some (.inl w1), some (.inl w2), g3, g4, g5], [.inl ((M (26, 0, 0, 0) 1) - 1), .inl w2], (zx_lay M, n))) rfl ?_
    refine zx_E.brh (c := ((M (26, 0, 0, 0) 1) - 1) ≤ w2) (s1 := (139, [some (.inr (some (25, 0, 0, 0))), some (.inl w1), some (.inl w2), g3, g4, g5], [], (zx_lay M, n))) (s2 := (16, [some (.inr (some (25, 0, 0, 0))), some (.inl w1), some (.inl w2), g3, g4, g5], [], (zx_lay M, n))) h (zx_ic_ge rfl) (fun _ h => ?_) (fun _ h => ?_)
    · exact hk _ _ _ _ _ h
    · refine zx_E.go 2 (s' := (18, [some (.inr (some (25, 0, 0, 0))), some (.inl w1), some (.inl w2), some (.inl 0), g4, g5], [], (zx_lay M, n))) rfl ?_
      refine rl_X11_conflicts_18 (fun v1 v2 e1 e2 h => ?_) 1000 _ _ w1 0  h
      refine zx_E.go 2 (s' := (4, [some (.inr (some (25, 0, 0, 0))), some (.inl v1), some (.inl (w2 + 1)), some (.inl v2), e1, e2], [], (zx_lay M, n))) rfl ?_
      exact rl_X11_conflicts_4 hk q _ _ _ v1 (w2 + 1) h
def g_X11_conflicts (M : zx_Y) : Option Int32 := (lg_X11_conflicts_4 M (fun v1 v2 => (some v1)) 1000 0 0)
set_option maxRecDepth 100000 in
set_option maxHeartbeats 4000000 in
theorem r_X11_conflicts {X : zx_X} {d n : Nat} {M : zx_Y} {rv : Int32} (h : g_X11_conflicts M = some rv) : zx_run X (d + 4) 194 [.inr (some (25, 0, 0, 0))] (zx_lay M, n) (some (.inl rv), (zx_lay M, n)) := by
  refine zx_run_of zc_X11_conflicts [some (.inr (some (25, 0, 0, 0))), none, none, none, none, none] rfl rfl ?_
  unfold g_X11_conflicts at h
  refine zx_E.go 4 (s' := (4, [some (.inr (some (25, 0, 0, 0))), some (.inl 0), some (.inl 0), none, none, none], [], (zx_lay M, n))) rfl ?_
  refine rl_X11_conflicts_4 (fun v1 v2 e1 e2 e3 h => ?_) 1000 _ _ _ 0 0  h
  refine zx_E.go 1 (s' := (140, [some (.inr (some (25, 0, 0, 0))), some (.inl v1), some (.inl v2), e1, e2, e3], [.inl v1], (zx_lay M, n))) rfl ?_
  exact zx_E.rp h rfl (fun h => absurd h (by decide))
def lg_X9_allSpent_4 (M : zx_Y) (l : Nat) (i : Nat) (kk : Int32 → Int32 → Option Int32) : Nat → Int32 → Int32 → Option Int32
  | 0, _, _ => none
  | q + 1, w1, w2 => (if (4 : Int32) ≤ w2 then (kk w1 w2) else (zi w2 4 fun k1 => (lg_X9_allSpent_4 M l i kk q (w1 + (M (11, l, i, 0) k1)) (w2 + 1))))
set_option maxRecDepth 100000 in
set_option maxHeartbeats 4000000 in
theorem rl_X9_allSpent_4 {X : zx_X} {d n : Nat} {M : zx_Y} {l : Nat} {i : Nat} {kk : Int32 → Int32 → Option Int32} {rv : Int32} (hk : ∀ (w1 : Int32) (w2 : Int32), kk w1 w2 = some rv → zx_E X (d + 0) zc_X9_allSpent (28, [some (.inr (some (7, l, i, 0))), some (.inl w1), some (.inl w2)], [], (zx_lay M, n)) (some (.inl rv), (zx_lay M, n))) : ∀ (q : Nat) (w1 : Int32) (w2 : Int32), lg_X9_allSpent_4 M l i kk q w1 w2 = some rv → zx_E X (d + 0) zc_X9_allSpent (4, [some (.inr (some (7, l, i, 0))), some (.inl w1), some (.inl w2)], [], (zx_lay M, n)) (some (.inl rv), (zx_lay M, n))
  | 0, w1, w2, h => by
    rw [lg_X9_allSpent_4.eq_1] at h
    cases h
  | q + 1, w1, w2, h => by
    rw [lg_X9_allSpent_4.eq_2] at h
    refine zx_E.go 4 (s' := (10, [some (.inr (some (7, l, i, 0))), some (.inl w1), some (.inl w2)], [.inl 4, .inl w2], (zx_lay M, n))) rfl ?_
    refine zx_E.brh (c := (4 : Int32) ≤ w2) (s1 := (28, [some (.inr (some (7, l, i, 0))), some (.inl w1), some (.inl w2)], [], (zx_lay M, n))) (s2 := (13, [some (.inr (some (7, l, i, 0))), some (.inl w1), some (.inl w2)], [], (zx_lay M, n))) h (zx_ic_ge rfl) (fun _ h => ?_) (fun _ h => ?_)
    · exact hk _ _ h
    · refine zx_E.go 4 (s' := (19, [some (.inr (some (7, l, i, 0))), some (.inl w1), some (.inl w2)], [.inl w2, .inr (some (11, l, i, 0)), .inl w1], (zx_lay M, n))) rfl ?_
      refine zx_E.ix h (fun k1 hx_k1 hl_k1 h => ?_)
      refine zx_E.iald (k := k1) (h := (11, l, i, 0)) rfl rfl hx_k1 hl_k1 ?_
      show zx_E _ _ _ (20, [some (.inr (some (7, l, i, 0))), some (.inl w1), some (.inl w2)], [.inl (M (11, l, i, 0) k1), .inl w1], (zx_lay M, n)) _
      refine zx_E.go 4 (s' := (4, [some (.inr (some (7, l, i, 0))), some (.inl (w1 + (M (11, l, i, 0) k1))), some (.inl (w2 + 1))], [], (zx_lay M, n))) rfl ?_
      exact rl_X9_allSpent_4 hk q (w1 + (M (11, l, i, 0) k1)) (w2 + 1) h
def g_X9_allSpent (M : zx_Y) (l : Nat) (i : Nat) : Option Int32 := (lg_X9_allSpent_4 M l i (fun v1 v2 => (some v1)) 1000 0 0)
set_option maxRecDepth 100000 in
set_option maxHeartbeats 4000000 in
theorem r_X9_allSpent {X : zx_X} {d n : Nat} {M : zx_Y} {l : Nat} {i : Nat} {rv : Int32} (h : g_X9_allSpent M l i = some rv) : zx_run X (d + 1) 92 [.inr (some (7, l, i, 0))] (zx_lay M, n) (some (.inl rv), (zx_lay M, n)) := by
  refine zx_run_of zc_X9_allSpent [some (.inr (some (7, l, i, 0))), none, none] rfl rfl ?_
  unfold g_X9_allSpent at h
  refine zx_E.go 4 (s' := (4, [some (.inr (some (7, l, i, 0))), some (.inl 0), some (.inl 0)], [], (zx_lay M, n))) rfl ?_
  refine rl_X9_allSpent_4 (fun v1 v2 h => ?_) 1000  0 0  h
  refine zx_E.go 1 (s' := (29, [some (.inr (some (7, l, i, 0))), some (.inl v1), some (.inl v2)], [.inl v1], (zx_lay M, n))) rfl ?_
  exact zx_E.rp h rfl (fun h => absurd h (by decide))
def lg_X2_minutesOfWay_30 (M : zx_Y) (l : Nat) (i : Nat) (p4 : Int32) (kk : Int32 → Int32 → Option Int32) : Nat → Int32 → Int32 → Option Int32
  | 0, _, _ => none
  | q + 1, w2, w5 => (if p4 ≤ w5 then (kk w2 w5) else (zb (g_X2_hasBlock M l w5) fun v1 => (if v1 = 0 then (lg_X2_minutesOfWay_30 M l i p4 kk q w2 (w5 + 1)) else (zi w5 7 fun k1 => (lg_X2_minutesOfWay_30 M l i p4 kk q (w2 + ((M (5, l, k1, 0) 0) + (M (7, l, i, 0) 6))) (w5 + 1))))))
set_option maxRecDepth 100000 in
set_option maxHeartbeats 4000000 in
theorem rl_X2_minutesOfWay_30 {X : zx_X} {d n : Nat} {M : zx_Y} {l : Nat} {i : Nat} {p4 : Int32} {kk : Int32 → Int32 → Option Int32} {rv : Int32} {g3 : Option zx_V} (hk : ∀ (w2 : Int32) (w5 : Int32), kk w2 w5 = some rv → zx_E X (d + 1) zc_X2_minutesOfWay (70, [some (.inr (some (1, l, 0, 0))), some (.inr (some (7, l, i, 0))), some (.inl w2), g3, some (.inl p4), some (.inl w5)], [], (zx_lay M, n)) (some (.inl rv), (zx_lay M, n))) : ∀ (q : Nat) (w2 : Int32) (w5 : Int32), lg_X2_minutesOfWay_30 M l i p4 kk q w2 w5 = some rv → zx_E X (d + 1) zc_X2_minutesOfWay (30, [some (.inr (some (1, l, 0, 0))), some (.inr (some (7, l, i, 0))), some (.inl w2), g3, some (.inl p4), some (.inl w5)], [], (zx_lay M, n)) (some (.inl rv), (zx_lay M, n))
  | 0, w2, w5, h => by
    rw [lg_X2_minutesOfWay_30.eq_1] at h
    cases h
  | q + 1, w2, w5, h => by
    rw [lg_X2_minutesOfWay_30.eq_2] at h
    refine zx_E.go 2 (s' := (34, [some (.inr (some (1, l, 0, 0))), some (.inr (some (7, l, i, 0))), some (.inl w2), g3, some (.inl p4), some (.inl w5)], [.inl p4, .inl w5], (zx_lay M, n))) rfl ?_
    refine zx_E.brh (c := p4 ≤ w5) (s1 := (70, [some (.inr (some (1, l, 0, 0))), some (.inr (some (7, l, i, 0))), some (.inl w2), g3, some (.inl p4), some (.inl w5)], [], (zx_lay M, n))) (s2 := (37, [some (.inr (some (1, l, 0, 0))), some (.inr (some (7, l, i, 0))), some (.inl w2), g3, some (.inl p4), some (.inl w5)], [], (zx_lay M, n))) h (zx_ic_ge rfl) (fun _ h => ?_) (fun _ h => ?_)
    · exact hk _ _ h
    · refine zx_E.go 2 (s' := (40, [some (.inr (some (1, l, 0, 0))), some (.inr (some (7, l, i, 0))), some (.inl w2), g3, some (.inl p4), some (.inl w5)], [.inl w5, .inr (some (1, l, 0, 0))], (zx_lay M, n))) rfl ?_
      refine zx_E.cb (y := 17) (as := [.inr (some (1, l, 0, 0)), .inl w5]) (rest := []) h rfl (fun _ hv => zx_run_up (by omega) (r_X2_hasBlock (d := d) hv)) (fun v1 h => ?_)
      show zx_E _ _ _ (43, [some (.inr (some (1, l, 0, 0))), some (.inr (some (7, l, i, 0))), some (.inl w2), g3, some (.inl p4), some (.inl w5)], [.inl v1], (zx_lay M, n)) _
      refine zx_E.brh (c := v1 = 0) (s1 := (64, [some (.inr (some (1, l, 0, 0))), some (.inr (some (7, l, i, 0))), some (.inl w2), g3, some (.inl p4), some (.inl w5)], [], (zx_lay M, n))) (s2 := (46, [some (.inr (some (1, l, 0, 0))), some (.inr (some (7, l, i, 0))), some (.inl w2), g3, some (.inl p4), some (.inl w5)], [], (zx_lay M, n))) h (zx_if_eq rfl) (fun _ h => ?_) (fun _ h => ?_)
      · refine zx_E.go 2 (s' := (30, [some (.inr (some (1, l, 0, 0))), some (.inr (some (7, l, i, 0))), some (.inl w2), g3, some (.inl p4), some (.inl (w5 + 1))], [], (zx_lay M, n))) rfl ?_
        exact rl_X2_minutesOfWay_30 hk q w2 (w5 + 1) h
      · refine zx_E.go 4 (s' := (53, [some (.inr (some (1, l, 0, 0))), some (.inr (some (7, l, i, 0))), some (.inl w2), g3, some (.inl p4), some (.inl w5)], [.inl w5, .inr (some (4, l, 0, 0)), .inl w2], (zx_lay M, n))) rfl ?_
        refine zx_E.ix h (fun k1 hx_k1 hl_k1 h => ?_)
        refine zx_E.aald (k := k1) (h := (4, l, 0, 0)) (h' := (5, l, k1, 0)) rfl rfl hx_k1 hl_k1 rfl ?_
        show zx_E _ _ _ (54, [some (.inr (some (1, l, 0, 0))), some (.inr (some (7, l, i, 0))), some (.inl w2), g3, some (.inl p4), some (.inl w5)], [.inr (some (5, l, k1, 0)), .inl w2], (zx_lay M, n)) _
        refine zx_E.go 3 (s' := (61, [some (.inr (some (1, l, 0, 0))), some (.inr (some (7, l, i, 0))), some (.inl w2), g3, some (.inl p4), some (.inl w5)], [.inl (M (7, l, i, 0) 6), .inl (M (5, l, k1, 0) 0), .inl w2], (zx_lay M, n))) rfl ?_
        refine zx_E.go 5 (s' := (30, [some (.inr (some (1, l, 0, 0))), some (.inr (some (7, l, i, 0))), some (.inl (w2 + ((M (5, l, k1, 0) 0) + (M (7, l, i, 0) 6)))), g3, some (.inl p4), some (.inl (w5 + 1))], [], (zx_lay M, n))) rfl ?_
        exact rl_X2_minutesOfWay_30 hk q (w2 + ((M (5, l, k1, 0) 0) + (M (7, l, i, 0) 6))) (w5 + 1) h
def g_X2_minutesOfWay (M : zx_Y) (l : Nat) (i : Nat) : Option Int32 := (lg_X2_minutesOfWay_30 M l i (zmax (M (7, l, i, 0) 2) (M (7, l, i, 0) 3)) (fun v1 v2 => (some v1)) 1000 0 (zmin (M (7, l, i, 0) 2) (M (7, l, i, 0) 3)))
set_option maxRecDepth 100000 in
set_option maxHeartbeats 4000000 in
theorem r_X2_minutesOfWay {X : zx_X} {d n : Nat} {M : zx_Y} {l : Nat} {i : Nat} {rv : Int32} (h : g_X2_minutesOfWay M l i = some rv) : zx_run X (d + 2) 50 [.inr (some (1, l, 0, 0)), .inr (some (7, l, i, 0))] (zx_lay M, n) (some (.inl rv), (zx_lay M, n)) := by
  refine zx_run_of zc_X2_minutesOfWay [some (.inr (some (1, l, 0, 0))), some (.inr (some (7, l, i, 0))), none, none, none, none] rfl rfl ?_
  unfold g_X2_minutesOfWay at h
  refine zx_E.go 6 (s' := (10, [some (.inr (some (1, l, 0, 0))), some (.inr (some (7, l, i, 0))), some (.inl 0), none, none, none], [.inl (M (7, l, i, 0) 3), .inl (M (7, l, i, 0) 2)], (zx_lay M, n))) rfl ?_
  refine zx_E.go 6 (s' := (22, [some (.inr (some (1, l, 0, 0))), some (.inr (some (7, l, i, 0))), some (.inl 0), some (.inl (zmin (M (7, l, i, 0) 2) (M (7, l, i, 0) 3))), none, none], [.inl (M (7, l, i, 0) 3), .inl (M (7, l, i, 0) 2)], (zx_lay M, n))) rfl ?_
  refine zx_E.go 4 (s' := (30, [some (.inr (some (1, l, 0, 0))), some (.inr (some (7, l, i, 0))), some (.inl 0), some (.inl (zmin (M (7, l, i, 0) 2) (M (7, l, i, 0) 3))), some (.inl (zmax (M (7, l, i, 0) 2) (M (7, l, i, 0) 3))), some (.inl (zmin (M (7, l, i, 0) 2) (M (7, l, i, 0) 3)))], [], (zx_lay M, n))) rfl ?_
  refine rl_X2_minutesOfWay_30 (fun v1 v2 h => ?_) 1000  0 (zmin (M (7, l, i, 0) 2) (M (7, l, i, 0) 3))  h
  refine zx_E.go 1 (s' := (71, [some (.inr (some (1, l, 0, 0))), some (.inr (some (7, l, i, 0))), some (.inl v1), some (.inl (zmin (M (7, l, i, 0) 2) (M (7, l, i, 0) 3))), some (.inl (zmax (M (7, l, i, 0) 2) (M (7, l, i, 0) 3))), some (.inl v2)], [.inl v1], (zx_lay M, n))) rfl ?_
  exact zx_E.rp h rfl (fun h => absurd h (by decide))
def g_X10_account (M : zx_Y) (x0 : Int32) (x1 : Int32) : Option Int32 := (zt M 0 x0 (fun k1 => (if (M (7, 0, k1, 0) 1) = 5 then (some (-1)) else (if x1 = 0 then (some (M (11, 0, k1, 0) 0)) else (if x1 = 1 then (some (M (11, 0, k1, 0) 2)) else (if x1 = 2 then (some (M (11, 0, k1, 0) 3)) else (if x1 = 3 then (some (M (11, 0, k1, 0) 1)) else (if x1 = 4 then (zb (g_X9_allSpent M 0 k1) fun v1 => (some v1)) else (if x1 = 5 then (zb (g_X2_minutesOfWay M 0 k1) fun v2 => (some v2)) else (some (-1)))))))))) (some (-1)))
set_option maxRecDepth 100000 in
set_option maxHeartbeats 4000000 in
theorem r_X10_account {X : zx_X} {d n : Nat} {M : zx_Y} {x0 : Int32} {x1 : Int32} {rv : Int32} (h : g_X10_account M x0 x1 = some rv) : zx_run X (d + 3) 112 [.inr (some (0, 0, 0, 0)), .inl x0, .inl x1] (zx_lay M, n) (some (.inl rv), (zx_lay M, n)) := by
  refine zx_run_of zc_X10_account [some (.inr (some (0, 0, 0, 0))), some (.inl x0), some (.inl x1), none] rfl rfl ?_
  unfold g_X10_account at h
  refine zx_E.go 3 (s' := (5, [some (.inr (some (0, 0, 0, 0))), some (.inl x0), some (.inl x1), none], [.inl x0, .inr (some (1, 0, 0, 0))], (zx_lay M, n))) rfl ?_
  refine zx_E.tw (y := 18) (as := [.inr (some (1, 0, 0, 0)), .inl x0]) (rest := []) h rfl (fun hq => zx_run_up (by omega) (r_X2_trainWith_1 (d := d) hq)) (fun hq => zx_run_up (by omega) (r_X2_trainWith_0 (d := d) hq)) (fun k1 _ h => ?_) (fun h => ?_)
  · show zx_E _ _ _ (8, [some (.inr (some (0, 0, 0, 0))), some (.inl x0), some (.inl x1), none], [.inr (some (7, 0, k1, 0))], (zx_lay M, n)) _
    refine zx_E.go 6 (s' := (18, [some (.inr (some (0, 0, 0, 0))), some (.inl x0), some (.inl x1), some (.inr (some (7, 0, k1, 0)))], [.inl 5, .inl (M (7, 0, k1, 0) 1)], (zx_lay M, n))) rfl ?_
    refine zx_E.brh (c := (M (7, 0, k1, 0) 1) = 5) (s1 := (21, [some (.inr (some (0, 0, 0, 0))), some (.inl x0), some (.inl x1), some (.inr (some (7, 0, k1, 0)))], [], (zx_lay M, n))) (s2 := (23, [some (.inr (some (0, 0, 0, 0))), some (.inl x0), some (.inl x1), some (.inr (some (7, 0, k1, 0)))], [], (zx_lay M, n))) h (zx_ic_ne rfl) (fun _ h => ?_) (fun _ h => ?_)
    · refine zx_E.go 1 (s' := (22, [some (.inr (some (0, 0, 0, 0))), some (.inl x0), some (.inl x1), some (.inr (some (7, 0, k1, 0)))], [.inl (-1)], (zx_lay M, n))) rfl ?_
      exact zx_E.rp h rfl (fun h => absurd h (by decide))
    · refine zx_E.go 1 (s' := (24, [some (.inr (some (0, 0, 0, 0))), some (.inl x0), some (.inl x1), some (.inr (some (7, 0, k1, 0)))], [.inl x1], (zx_lay M, n))) rfl ?_
      refine zx_E.one (s' := (zx_pick x1 0 [64, 71, 78, 85, 92, 97] 106, [some (.inr (some (0, 0, 0, 0))), some (.inl x0), some (.inl x1), some (.inr (some (7, 0, k1, 0)))], [], (zx_lay M, n))) rfl ?_
      refine zx_E.pickh (k' := 1) h (by decide) (fun _ h => ?_) (fun _ h => ?_)
      · refine zx_E.go 3 (s' := (69, [some (.inr (some (0, 0, 0, 0))), some (.inl x0), some (.inl x1), some (.inr (some (7, 0, k1, 0)))], [.inl 0, .inr (some (11, 0, k1, 0))], (zx_lay M, n))) rfl ?_
        refine zx_E.iald (k := 0) (h := (11, 0, k1, 0)) rfl rfl rfl (by decide) ?_
        show zx_E _ _ _ (70, [some (.inr (some (0, 0, 0, 0))), some (.inl x0), some (.inl x1), some (.inr (some (7, 0, k1, 0)))], [.inl (M (11, 0, k1, 0) 0)], (zx_lay M, n)) _
        exact zx_E.rp h rfl (fun h => absurd h (by decide))
      · refine zx_E.pickh (k' := 2) h (by decide) (fun _ h => ?_) (fun _ h => ?_)
        · refine zx_E.go 3 (s' := (76, [some (.inr (some (0, 0, 0, 0))), some (.inl x0), some (.inl x1), some (.inr (some (7, 0, k1, 0)))], [.inl 2, .inr (some (11, 0, k1, 0))], (zx_lay M, n))) rfl ?_
          refine zx_E.iald (k := 2) (h := (11, 0, k1, 0)) rfl rfl rfl (by decide) ?_
          show zx_E _ _ _ (77, [some (.inr (some (0, 0, 0, 0))), some (.inl x0), some (.inl x1), some (.inr (some (7, 0, k1, 0)))], [.inl (M (11, 0, k1, 0) 2)], (zx_lay M, n)) _
          exact zx_E.rp h rfl (fun h => absurd h (by decide))
        · refine zx_E.pickh (k' := 3) h (by decide) (fun _ h => ?_) (fun _ h => ?_)
          · refine zx_E.go 3 (s' := (83, [some (.inr (some (0, 0, 0, 0))), some (.inl x0), some (.inl x1), some (.inr (some (7, 0, k1, 0)))], [.inl 3, .inr (some (11, 0, k1, 0))], (zx_lay M, n))) rfl ?_
            refine zx_E.iald (k := 3) (h := (11, 0, k1, 0)) rfl rfl rfl (by decide) ?_
            show zx_E _ _ _ (84, [some (.inr (some (0, 0, 0, 0))), some (.inl x0), some (.inl x1), some (.inr (some (7, 0, k1, 0)))], [.inl (M (11, 0, k1, 0) 3)], (zx_lay M, n)) _
            exact zx_E.rp h rfl (fun h => absurd h (by decide))
          · refine zx_E.pickh (k' := 4) h (by decide) (fun _ h => ?_) (fun _ h => ?_)
            · refine zx_E.go 3 (s' := (90, [some (.inr (some (0, 0, 0, 0))), some (.inl x0), some (.inl x1), some (.inr (some (7, 0, k1, 0)))], [.inl 1, .inr (some (11, 0, k1, 0))], (zx_lay M, n))) rfl ?_
              refine zx_E.iald (k := 1) (h := (11, 0, k1, 0)) rfl rfl rfl (by decide) ?_
              show zx_E _ _ _ (91, [some (.inr (some (0, 0, 0, 0))), some (.inl x0), some (.inl x1), some (.inr (some (7, 0, k1, 0)))], [.inl (M (11, 0, k1, 0) 1)], (zx_lay M, n)) _
              exact zx_E.rp h rfl (fun h => absurd h (by decide))
            · refine zx_E.pickh (k' := 5) h (by decide) (fun _ h => ?_) (fun _ h => ?_)
              · refine zx_E.go 1 (s' := (93, [some (.inr (some (0, 0, 0, 0))), some (.inl x0), some (.inl x1), some (.inr (some (7, 0, k1, 0)))], [.inr (some (7, 0, k1, 0))], (zx_lay M, n))) rfl ?_
                refine zx_E.cb (y := 92) (as := [.inr (some (7, 0, k1, 0))]) (rest := []) h rfl (fun _ hv => zx_run_up (by omega) (r_X9_allSpent (d := d) hv)) (fun v1 h => ?_)
                show zx_E _ _ _ (96, [some (.inr (some (0, 0, 0, 0))), some (.inl x0), some (.inl x1), some (.inr (some (7, 0, k1, 0)))], [.inl v1], (zx_lay M, n)) _
                exact zx_E.rp h rfl (fun h => absurd h (by decide))
              · refine zx_E.pickh (k' := 6) h (by decide) (fun _ h => ?_) (fun _ h => ?_)
                · refine zx_E.go 3 (s' := (102, [some (.inr (some (0, 0, 0, 0))), some (.inl x0), some (.inl x1), some (.inr (some (7, 0, k1, 0)))], [.inr (some (7, 0, k1, 0)), .inr (some (1, 0, 0, 0))], (zx_lay M, n))) rfl ?_
                  refine zx_E.cb (y := 50) (as := [.inr (some (1, 0, 0, 0)), .inr (some (7, 0, k1, 0))]) (rest := []) h rfl (fun _ hv => zx_run_up (by omega) (r_X2_minutesOfWay (d := d) hv)) (fun v2 h => ?_)
                  show zx_E _ _ _ (105, [some (.inr (some (0, 0, 0, 0))), some (.inl x0), some (.inl x1), some (.inr (some (7, 0, k1, 0)))], [.inl v2], (zx_lay M, n)) _
                  exact zx_E.rp h rfl (fun h => absurd h (by decide))
                · show zx_E _ _ _ (106, [some (.inr (some (0, 0, 0, 0))), some (.inl x0), some (.inl x1), some (.inr (some (7, 0, k1, 0)))], [], (zx_lay M, n)) _
                  refine zx_E.go 1 (s' := (107, [some (.inr (some (0, 0, 0, 0))), some (.inl x0), some (.inl x1), some (.inr (some (7, 0, k1, 0)))], [.inl (-1)], (zx_lay M, n))) rfl ?_
                  exact zx_E.rp h rfl (fun h => absurd h (by decide))
  · show zx_E _ _ _ (8, [some (.inr (some (0, 0, 0, 0))), some (.inl x0), some (.inl x1), none], [.inr none], (zx_lay M, n)) _
    refine zx_E.go 4 (s' := (22, [some (.inr (some (0, 0, 0, 0))), some (.inl x0), some (.inl x1), some (.inr none)], [.inl (-1)], (zx_lay M, n))) rfl ?_
    exact zx_E.rp h rfl (fun h => absurd h (by decide))
def lg_X11_account__34 (M : zx_Y) (x0 : Int32) (x1 : Int32) (kk : Int32 → Int32 → Option Int32) : Nat → Int32 → Int32 → Option Int32
  | 0, _, _ => none
  | q + 1, w3, w4 => (if (4 : Int32) ≤ w4 then (kk w3 w4) else (zb (g_X11_at M x0 (13 + w4)) fun v1 => (lg_X11_account__34 M x0 x1 kk q (w3 + v1) (w4 + 1))))
set_option maxRecDepth 100000 in
set_option maxHeartbeats 4000000 in
theorem rl_X11_account__34 {X : zx_X} {d n : Nat} {M : zx_Y} {x0 : Int32} {x1 : Int32} {kk : Int32 → Int32 → Option Int32} {rv : Int32} (hk : ∀ (w3 : Int32) (w4 : Int32), kk w3 w4 = some rv → zx_E X (d + 2) zc_X11_account_ (59, [some (.inr (some (25, 0, 0, 0))), some (.inl x0), some (.inl x1), some (.inl w3), some (.inl w4)], [], (zx_lay M, n)) (some (.inl rv), (zx_lay M, n))) : ∀ (q : Nat) (w3 : Int32) (w4 : Int32), lg_X11_account__34 M x0 x1 kk q w3 w4 = some rv → zx_E X (d + 2) zc_X11_account_ (34, [some (.inr (some (25, 0, 0, 0))), some (.inl x0), some (.inl x1), some (.inl w3), some (.inl w4)], [], (zx_lay M, n)) (some (.inl rv), (zx_lay M, n))
  | 0, w3, w4, h => by
    rw [lg_X11_account__34.eq_1] at h
    cases h
  | q + 1, w3, w4, h => by
    rw [lg_X11_account__34.eq_2] at h
    refine zx_E.go 2 (s' := (37, [some (.inr (some (25, 0, 0, 0))), some (.inl x0), some (.inl x1), some (.inl w3), some (.inl w4)], [.inl 4, .inl w4], (zx_lay M, n))) rfl ?_
    refine zx_E.brh (c := (4 : Int32) ≤ w4) (s1 := (59, [some (.inr (some (25, 0, 0, 0))), some (.inl x0), some (.inl x1), some (.inl w3), some (.inl w4)], [], (zx_lay M, n))) (s2 := (40, [some (.inr (some (25, 0, 0, 0))), some (.inl x0), some (.inl x1), some (.inl w3), some (.inl w4)], [], (zx_lay M, n))) h (zx_ic_ge rfl) (fun _ h => ?_) (fun _ h => ?_)
    · exact hk _ _ h
    · refine zx_E.go 6 (s' := (48, [some (.inr (some (25, 0, 0, 0))), some (.inl x0), some (.inl x1), some (.inl w3), some (.inl w4)], [.inl (13 + w4), .inl x0, .inr (some (25, 0, 0, 0)), .inl w3], (zx_lay M, n))) rfl ?_
      refine zx_E.cb (y := 125) (as := [.inr (some (25, 0, 0, 0)), .inl x0, .inl (13 + w4)]) (rest := [.inl w3]) h rfl (fun _ hv => zx_run_up (by omega) (r_X11_at (d := d) hv)) (fun v1 h => ?_)
      show zx_E _ _ _ (51, [some (.inr (some (25, 0, 0, 0))), some (.inl x0), some (.inl x1), some (.inl w3), some (.inl w4)], [.inl v1, .inl w3], (zx_lay M, n)) _
      refine zx_E.go 4 (s' := (34, [some (.inr (some (25, 0, 0, 0))), some (.inl x0), some (.inl x1), some (.inl (w3 + v1)), some (.inl (w4 + 1))], [], (zx_lay M, n))) rfl ?_
      exact rl_X11_account__34 hk q (w3 + v1) (w4 + 1) h
def lg_X11_needed_18 (M : zx_Y) (x0 : Int32) (kk : Int32 → Int32 → Option Int32) : Nat → Int32 → Int32 → Option Int32
  | 0, _, _ => none
  | q + 1, w2, w3 => (zb (g_X11_at M x0 1) fun v1 => (zb (g_X11_at M x0 2) fun v2 => (if (zmax v1 v2) ≤ w3 then (kk w2 w3) else (zi (2 + w3) 640 fun k1 => (zb (g_X11_at M x0 5) fun v3 => (lg_X11_needed_18 M x0 kk q (w2 + ((M (26, 0, 0, 0) k1) + v3)) (w3 + 1)))))))
set_option maxRecDepth 100000 in
set_option maxHeartbeats 4000000 in
theorem rl_X11_needed_18 {X : zx_X} {d n : Nat} {M : zx_Y} {x0 : Int32} {kk : Int32 → Int32 → Option Int32} {rv : Int32} (hk : ∀ (w2 : Int32) (w3 : Int32), kk w2 w3 = some rv → zx_E X (d + 1) zc_X11_needed (61, [some (.inr (some (25, 0, 0, 0))), some (.inl x0), some (.inl w2), some (.inl w3)], [], (zx_lay M, n)) (some (.inl rv), (zx_lay M, n))) : ∀ (q : Nat) (w2 : Int32) (w3 : Int32), lg_X11_needed_18 M x0 kk q w2 w3 = some rv → zx_E X (d + 1) zc_X11_needed (18, [some (.inr (some (25, 0, 0, 0))), some (.inl x0), some (.inl w2), some (.inl w3)], [], (zx_lay M, n)) (some (.inl rv), (zx_lay M, n))
  | 0, w2, w3, h => by
    rw [lg_X11_needed_18.eq_1] at h
    cases h
  | q + 1, w2, w3, h => by
    rw [lg_X11_needed_18.eq_2] at h
    refine zx_E.go 4 (s' := (22, [some (.inr (some (25, 0, 0, 0))), some (.inl x0), some (.inl w2), some (.inl w3)], [.inl 1, .inl x0, .inr (some (25, 0, 0, 0)), .inl w3], (zx_lay M, n))) rfl ?_
    refine zx_E.cb (y := 125) (as := [.inr (some (25, 0, 0, 0)), .inl x0, .inl 1]) (rest := [.inl w3]) h rfl (fun _ hv => zx_run_up (by omega) (r_X11_at (d := d) hv)) (fun v1 h => ?_)
    show zx_E _ _ _ (25, [some (.inr (some (25, 0, 0, 0))), some (.inl x0), some (.inl w2), some (.inl w3)], [.inl v1, .inl w3], (zx_lay M, n)) _
    refine zx_E.go 3 (s' := (28, [some (.inr (some (25, 0, 0, 0))), some (.inl x0), some (.inl w2), some (.inl w3)], [.inl 2, .inl x0, .inr (some (25, 0, 0, 0)), .inl v1, .inl w3], (zx_lay M, n))) rfl ?_
    refine zx_E.cb (y := 125) (as := [.inr (some (25, 0, 0, 0)), .inl x0, .inl 2]) (rest := [.inl v1, .inl w3]) h rfl (fun _ hv => zx_run_up (by omega) (r_X11_at (d := d) hv)) (fun v2 h => ?_)
    show zx_E _ _ _ (31, [some (.inr (some (25, 0, 0, 0))), some (.inl x0), some (.inl w2), some (.inl w3)], [.inl v2, .inl v1, .inl w3], (zx_lay M, n)) _
    refine zx_E.go 1 (s' := (34, [some (.inr (some (25, 0, 0, 0))), some (.inl x0), some (.inl w2), some (.inl w3)], [.inl (zmax v1 v2), .inl w3], (zx_lay M, n))) rfl ?_
    refine zx_E.brh (c := (zmax v1 v2) ≤ w3) (s1 := (61, [some (.inr (some (25, 0, 0, 0))), some (.inl x0), some (.inl w2), some (.inl w3)], [], (zx_lay M, n))) (s2 := (37, [some (.inr (some (25, 0, 0, 0))), some (.inl x0), some (.inl w2), some (.inl w3)], [], (zx_lay M, n))) h (zx_ic_ge rfl) (fun _ h => ?_) (fun _ h => ?_)
    · exact hk _ _ h
    · refine zx_E.go 5 (s' := (44, [some (.inr (some (25, 0, 0, 0))), some (.inl x0), some (.inl w2), some (.inl w3)], [.inl w3, .inl 2, .inr (some (26, 0, 0, 0)), .inl w2], (zx_lay M, n))) rfl ?_
      refine zx_E.go 1 (s' := (45, [some (.inr (some (25, 0, 0, 0))), some (.inl x0), some (.inl w2), some (.inl w3)], [.inl (2 + w3), .inr (some (26, 0, 0, 0)), .inl w2], (zx_lay M, n))) rfl ?_
      refine zx_E.ix h (fun k1 hx_k1 hl_k1 h => ?_)
      refine zx_E.iald (k := k1) (h := (26, 0, 0, 0)) rfl rfl hx_k1 hl_k1 ?_
      show zx_E _ _ _ (46, [some (.inr (some (25, 0, 0, 0))), some (.inl x0), some (.inl w2), some (.inl w3)], [.inl (M (26, 0, 0, 0) k1), .inl w2], (zx_lay M, n)) _
      refine zx_E.go 3 (s' := (49, [some (.inr (some (25, 0, 0, 0))), some (.inl x0), some (.inl w2), some (.inl w3)], [.inl 5, .inl x0, .inr (some (25, 0, 0, 0)), .inl (M (26, 0, 0, 0) k1), .inl w2], (zx_lay M, n))) rfl ?_
      refine zx_E.cb (y := 125) (as := [.inr (some (25, 0, 0, 0)), .inl x0, .inl 5]) (rest := [.inl (M (26, 0, 0, 0) k1), .inl w2]) h rfl (fun _ hv => zx_run_up (by omega) (r_X11_at (d := d) hv)) (fun v3 h => ?_)
      show zx_E _ _ _ (52, [some (.inr (some (25, 0, 0, 0))), some (.inl x0), some (.inl w2), some (.inl w3)], [.inl v3, .inl (M (26, 0, 0, 0) k1), .inl w2], (zx_lay M, n)) _
      refine zx_E.go 5 (s' := (18, [some (.inr (some (25, 0, 0, 0))), some (.inl x0), some (.inl (w2 + ((M (26, 0, 0, 0) k1) + v3))), some (.inl (w3 + 1))], [], (zx_lay M, n))) rfl ?_
      exact rl_X11_needed_18 hk q (w2 + ((M (26, 0, 0, 0) k1) + v3)) (w3 + 1) h
def g_X11_needed (M : zx_Y) (x0 : Int32) : Option Int32 := (zb (g_X11_at M x0 1) fun v1 => (zb (g_X11_at M x0 2) fun v2 => (lg_X11_needed_18 M x0 (fun v3 v4 => (some v3)) 1000 0 (zmin v1 v2))))
set_option maxRecDepth 100000 in
set_option maxHeartbeats 4000000 in
theorem r_X11_needed {X : zx_X} {d n : Nat} {M : zx_Y} {x0 : Int32} {rv : Int32} (h : g_X11_needed M x0 = some rv) : zx_run X (d + 2) 195 [.inr (some (25, 0, 0, 0)), .inl x0] (zx_lay M, n) (some (.inl rv), (zx_lay M, n)) := by
  refine zx_run_of zc_X11_needed [some (.inr (some (25, 0, 0, 0))), some (.inl x0), none, none] rfl rfl ?_
  unfold g_X11_needed at h
  refine zx_E.go 5 (s' := (5, [some (.inr (some (25, 0, 0, 0))), some (.inl x0), some (.inl 0), none], [.inl 1, .inl x0, .inr (some (25, 0, 0, 0))], (zx_lay M, n))) rfl ?_
  refine zx_E.cb (y := 125) (as := [.inr (some (25, 0, 0, 0)), .inl x0, .inl 1]) (rest := []) h rfl (fun _ hv => zx_run_up (by omega) (r_X11_at (d := d) hv)) (fun v1 h => ?_)
  show zx_E _ _ _ (8, [some (.inr (some (25, 0, 0, 0))), some (.inl x0), some (.inl 0), none], [.inl v1], (zx_lay M, n)) _
  refine zx_E.go 3 (s' := (11, [some (.inr (some (25, 0, 0, 0))), some (.inl x0), some (.inl 0), none], [.inl 2, .inl x0, .inr (some (25, 0, 0, 0)), .inl v1], (zx_lay M, n))) rfl ?_
  refine zx_E.cb (y := 125) (as := [.inr (some (25, 0, 0, 0)), .inl x0, .inl 2]) (rest := [.inl v1]) h rfl (fun _ hv => zx_run_up (by omega) (r_X11_at (d := d) hv)) (fun v2 h => ?_)
  show zx_E _ _ _ (14, [some (.inr (some (25, 0, 0, 0))), some (.inl x0), some (.inl 0), none], [.inl v2, .inl v1], (zx_lay M, n)) _
  refine zx_E.go 2 (s' := (18, [some (.inr (some (25, 0, 0, 0))), some (.inl x0), some (.inl 0), some (.inl (zmin v1 v2))], [], (zx_lay M, n))) rfl ?_
  refine rl_X11_needed_18 (fun v3 v4 h => ?_) 1000  0 (zmin v1 v2)  h
  refine zx_E.go 1 (s' := (62, [some (.inr (some (25, 0, 0, 0))), some (.inl x0), some (.inl v3), some (.inl v4)], [.inl v3], (zx_lay M, n))) rfl ?_
  exact zx_E.rp h rfl (fun h => absurd h (by decide))
def g_X11_account_ (M : zx_Y) (x0 : Int32) (x1 : Int32) : Option Int32 := (zb (g_X11_isTrain M x0) fun v1 => (if v1 = 0 then (some (-1)) else (zb (g_X11_at M x0 0) fun v2 => (if v2 = 5 then (some (-1)) else (zb (g_X11_isIn M x1 0 5) fun v3 => (if v3 = 0 then (some (-1)) else (lg_X11_account__34 M x0 x1 (fun v4 v5 => (if (4 : Int32) ≤ x1 then (if x1 = 4 then (some v4) else (zb (g_X11_needed M x0) fun v6 => (some v6))) else (zb (g_X11_at M x0 (13 + x1)) fun v7 => (some v7)))) 1000 0 0)))))))
set_option maxRecDepth 100000 in
set_option maxHeartbeats 4000000 in
theorem r_X11_account_ {X : zx_X} {d n : Nat} {M : zx_Y} {x0 : Int32} {x1 : Int32} {rv : Int32} (h : g_X11_account_ M x0 x1 = some rv) : zx_run X (d + 3) 196 [.inr (some (25, 0, 0, 0)), .inl x0, .inl x1] (zx_lay M, n) (some (.inl rv), (zx_lay M, n)) := by
  refine zx_run_of zc_X11_account_ [some (.inr (some (25, 0, 0, 0))), some (.inl x0), some (.inl x1), none, none] rfl rfl ?_
  unfold g_X11_account_ at h
  refine zx_E.go 2 (s' := (2, [some (.inr (some (25, 0, 0, 0))), some (.inl x0), some (.inl x1), none, none], [.inl x0, .inr (some (25, 0, 0, 0))], (zx_lay M, n))) rfl ?_
  refine zx_E.cb (y := 124) (as := [.inr (some (25, 0, 0, 0)), .inl x0]) (rest := []) h rfl (fun _ hv => zx_run_up (by omega) (r_X11_isTrain (d := d) hv)) (fun v1 h => ?_)
  show zx_E _ _ _ (5, [some (.inr (some (25, 0, 0, 0))), some (.inl x0), some (.inl x1), none, none], [.inl v1], (zx_lay M, n)) _
  refine zx_E.brh (c := v1 = 0) (s1 := (27, [some (.inr (some (25, 0, 0, 0))), some (.inl x0), some (.inl x1), none, none], [], (zx_lay M, n))) (s2 := (8, [some (.inr (some (25, 0, 0, 0))), some (.inl x0), some (.inl x1), none, none], [], (zx_lay M, n))) h (zx_if_eq rfl) (fun _ h => ?_) (fun _ h => ?_)
  · refine zx_E.go 1 (s' := (28, [some (.inr (some (25, 0, 0, 0))), some (.inl x0), some (.inl x1), none, none], [.inl (-1)], (zx_lay M, n))) rfl ?_
    exact zx_E.rp h rfl (fun h => absurd h (by decide))
  · refine zx_E.go 3 (s' := (11, [some (.inr (some (25, 0, 0, 0))), some (.inl x0), some (.inl x1), none, none], [.inl 0, .inl x0, .inr (some (25, 0, 0, 0))], (zx_lay M, n))) rfl ?_
    refine zx_E.cb (y := 125) (as := [.inr (some (25, 0, 0, 0)), .inl x0, .inl 0]) (rest := []) h rfl (fun _ hv => zx_run_up (by omega) (r_X11_at (d := d) hv)) (fun v2 h => ?_)
    show zx_E _ _ _ (14, [some (.inr (some (25, 0, 0, 0))), some (.inl x0), some (.inl x1), none, none], [.inl v2], (zx_lay M, n)) _
    refine zx_E.go 1 (s' := (15, [some (.inr (some (25, 0, 0, 0))), some (.inl x0), some (.inl x1), none, none], [.inl 5, .inl v2], (zx_lay M, n))) rfl ?_
    refine zx_E.brh (c := v2 = 5) (s1 := (27, [some (.inr (some (25, 0, 0, 0))), some (.inl x0), some (.inl x1), none, none], [], (zx_lay M, n))) (s2 := (18, [some (.inr (some (25, 0, 0, 0))), some (.inl x0), some (.inl x1), none, none], [], (zx_lay M, n))) h (zx_ic_eq rfl) (fun _ h => ?_) (fun _ h => ?_)
    · refine zx_E.go 1 (s' := (28, [some (.inr (some (25, 0, 0, 0))), some (.inl x0), some (.inl x1), none, none], [.inl (-1)], (zx_lay M, n))) rfl ?_
      exact zx_E.rp h rfl (fun h => absurd h (by decide))
    · refine zx_E.go 3 (s' := (21, [some (.inr (some (25, 0, 0, 0))), some (.inl x0), some (.inl x1), none, none], [.inl 5, .inl 0, .inl x1], (zx_lay M, n))) rfl ?_
      refine zx_E.cb (y := 121) (as := [.inl x1, .inl 0, .inl 5]) (rest := []) h rfl (fun _ hv => zx_run_up (by omega) (r_X11_isIn (d := d) hv)) (fun v3 h => ?_)
      show zx_E _ _ _ (24, [some (.inr (some (25, 0, 0, 0))), some (.inl x0), some (.inl x1), none, none], [.inl v3], (zx_lay M, n)) _
      refine zx_E.brh (c := v3 = 0) (s1 := (27, [some (.inr (some (25, 0, 0, 0))), some (.inl x0), some (.inl x1), none, none], [], (zx_lay M, n))) (s2 := (29, [some (.inr (some (25, 0, 0, 0))), some (.inl x0), some (.inl x1), none, none], [], (zx_lay M, n))) h (zx_if_ne rfl) (fun _ h => ?_) (fun _ h => ?_)
      · refine zx_E.go 1 (s' := (28, [some (.inr (some (25, 0, 0, 0))), some (.inl x0), some (.inl x1), none, none], [.inl (-1)], (zx_lay M, n))) rfl ?_
        exact zx_E.rp h rfl (fun h => absurd h (by decide))
      · refine zx_E.go 4 (s' := (34, [some (.inr (some (25, 0, 0, 0))), some (.inl x0), some (.inl x1), some (.inl 0), some (.inl 0)], [], (zx_lay M, n))) rfl ?_
        refine rl_X11_account__34 (fun v4 v5 h => ?_) 1000  0 0  h
        refine zx_E.go 2 (s' := (61, [some (.inr (some (25, 0, 0, 0))), some (.inl x0), some (.inl x1), some (.inl v4), some (.inl v5)], [.inl 4, .inl x1], (zx_lay M, n))) rfl ?_
        refine zx_E.brh (c := (4 : Int32) ≤ x1) (s1 := (76, [some (.inr (some (25, 0, 0, 0))), some (.inl x0), some (.inl x1), some (.inl v4), some (.inl v5)], [], (zx_lay M, n))) (s2 := (64, [some (.inr (some (25, 0, 0, 0))), some (.inl x0), some (.inl x1), some (.inl v4), some (.inl v5)], [], (zx_lay M, n))) h (zx_ic_ge rfl) (fun _ h => ?_) (fun _ h => ?_)
        · refine zx_E.go 2 (s' := (78, [some (.inr (some (25, 0, 0, 0))), some (.inl x0), some (.inl x1), some (.inl v4), some (.inl v5)], [.inl 4, .inl x1], (zx_lay M, n))) rfl ?_
          refine zx_E.brh (c := x1 = 4) (s1 := (81, [some (.inr (some (25, 0, 0, 0))), some (.inl x0), some (.inl x1), some (.inl v4), some (.inl v5)], [], (zx_lay M, n))) (s2 := (85, [some (.inr (some (25, 0, 0, 0))), some (.inl x0), some (.inl x1), some (.inl v4), some (.inl v5)], [], (zx_lay M, n))) h (zx_ic_ne rfl) (fun _ h => ?_) (fun _ h => ?_)
          · refine zx_E.go 2 (s' := (90, [some (.inr (some (25, 0, 0, 0))), some (.inl x0), some (.inl x1), some (.inl v4), some (.inl v5)], [.inl v4], (zx_lay M, n))) rfl ?_
            exact zx_E.rp h rfl (fun h => absurd h (by decide))
          · refine zx_E.go 2 (s' := (87, [some (.inr (some (25, 0, 0, 0))), some (.inl x0), some (.inl x1), some (.inl v4), some (.inl v5)], [.inl x0, .inr (some (25, 0, 0, 0))], (zx_lay M, n))) rfl ?_
            refine zx_E.cb (y := 195) (as := [.inr (some (25, 0, 0, 0)), .inl x0]) (rest := []) h rfl (fun _ hv => zx_run_up (by omega) (r_X11_needed (d := d) hv)) (fun v6 h => ?_)
            show zx_E _ _ _ (90, [some (.inr (some (25, 0, 0, 0))), some (.inl x0), some (.inl x1), some (.inl v4), some (.inl v5)], [.inl v6], (zx_lay M, n)) _
            exact zx_E.rp h rfl (fun h => absurd h (by decide))
        · refine zx_E.go 5 (s' := (70, [some (.inr (some (25, 0, 0, 0))), some (.inl x0), some (.inl x1), some (.inl v4), some (.inl v5)], [.inl (13 + x1), .inl x0, .inr (some (25, 0, 0, 0))], (zx_lay M, n))) rfl ?_
          refine zx_E.cb (y := 125) (as := [.inr (some (25, 0, 0, 0)), .inl x0, .inl (13 + x1)]) (rest := []) h rfl (fun _ hv => zx_run_up (by omega) (r_X11_at (d := d) hv)) (fun v7 h => ?_)
          show zx_E _ _ _ (73, [some (.inr (some (25, 0, 0, 0))), some (.inl x0), some (.inl x1), some (.inl v4), some (.inl v5)], [.inl v7], (zx_lay M, n)) _
          refine zx_E.go 1 (s' := (90, [some (.inr (some (25, 0, 0, 0))), some (.inl x0), some (.inl x1), some (.inl v4), some (.inl v5)], [.inl v7], (zx_lay M, n))) rfl ?_
          exact zx_E.rp h rfl (fun h => absurd h (by decide))
def g_X10_image (M : zx_Y) : Option (Int32 × zx_Y) := (zm (g_X2_copyFrom M 1 0) fun M1 => (zl (zx_up M1 (0, 0, 0, 0) 7 1) fun M2 => (some ((M2 (1, 0, 0, 0) 0), M2))))
set_option maxRecDepth 100000 in
set_option maxHeartbeats 4000000 in
theorem r_X10_image {X : zx_X} {d n : Nat} {M : zx_Y} {rv : Int32} {rM : zx_Y} (h : g_X10_image M = some (rv, rM)) : zx_run X (d + 3) 113 [.inr (some (0, 0, 0, 0))] (zx_lay M, n) (some (.inl rv), (zx_lay rM, n)) := by
  refine zx_run_of zc_X10_image [some (.inr (some (0, 0, 0, 0)))] rfl rfl ?_
  unfold g_X10_image at h
  refine zx_E.go 4 (s' := (8, [some (.inr (some (0, 0, 0, 0)))], [.inr (some (1, 0, 0, 0)), .inr (some (1, 1, 0, 0))], (zx_lay M, n))) rfl ?_
  refine zx_E.cm (y := 14) (as := [.inr (some (1, 1, 0, 0)), .inr (some (1, 0, 0, 0))]) (rest := []) h rfl (fun _ hv => zx_run_up (by omega) (r_X2_copyFrom (d := d) hv)) (fun M1 h => ?_)
  show zx_E _ _ _ (11, [some (.inr (some (0, 0, 0, 0)))], [], (zx_lay M1, n)) _
  refine zx_E.go 2 (s' := (13, [some (.inr (some (0, 0, 0, 0)))], [.inl 1, .inr (some (0, 0, 0, 0))], (zx_lay M1, n))) rfl ?_
  refine zx_E.pu h rfl rfl (fun _ => Or.inr rfl) (fun M2 h => ?_)
  show zx_E _ _ _ (16, [some (.inr (some (0, 0, 0, 0)))], [], (zx_lay M2, n)) _
  refine zx_E.go 3 (s' := (23, [some (.inr (some (0, 0, 0, 0)))], [.inl (M2 (1, 0, 0, 0) 0)], (zx_lay M2, n))) rfl ?_
  exact zx_E.ri h rfl (fun h => absurd h (by decide))
def g_X11_image (M : zx_Y) : Option (Int32 × zx_Y) := (zl (zx_up M (25, 0, 0, 0) 18 1) fun M1 => (zl (zy_ck 26 32 640 M1) fun M2 => (some ((M2 (26, 0, 0, 0) 0), M2))))
set_option maxRecDepth 100000 in
set_option maxHeartbeats 4000000 in
theorem r_X11_image {X : zx_X} {d n : Nat} {M : zx_Y} {rv : Int32} {rM : zx_Y} (h : g_X11_image M = some (rv, rM)) : zx_run X (d + 2) 197 [.inr (some (25, 0, 0, 0))] (zx_lay M, n) (some (.inl rv), (zx_lay rM, n)) := by
  refine zx_run_of zc_X11_image [some (.inr (some (25, 0, 0, 0)))] rfl rfl ?_
  unfold g_X11_image at h
  refine zx_E.go 2 (s' := (2, [some (.inr (some (25, 0, 0, 0)))], [.inl 1, .inr (some (25, 0, 0, 0))], (zx_lay M, n))) rfl ?_
  refine zx_E.pu h rfl rfl (fun _ => Or.inr rfl) (fun M1 h => ?_)
  show zx_E _ _ _ (5, [some (.inr (some (25, 0, 0, 0)))], [], (zx_lay M1, n)) _
  refine zx_E.go 4 (s' := (13, [some (.inr (some (25, 0, 0, 0)))], [.inr (some (32, 0, 0, 0)), .inr (some (26, 0, 0, 0))], (zx_lay M1, n))) rfl ?_
  refine zx_E.cl (y := 171) (as := [.inr (some (26, 0, 0, 0)), .inr (some (32, 0, 0, 0))]) (rest := []) h rfl (zx_run_up (by omega) (r_copy (d := d) (by decide) (by decide) (by decide))) (fun M2 h => ?_)
  show zx_E _ _ _ (16, [some (.inr (some (25, 0, 0, 0)))], [], (zx_lay M2, n)) _
  refine zx_E.go 3 (s' := (21, [some (.inr (some (25, 0, 0, 0)))], [.inl 0, .inr (some (26, 0, 0, 0))], (zx_lay M2, n))) rfl ?_
  refine zx_E.iald (k := 0) (h := (26, 0, 0, 0)) rfl rfl rfl (by decide) ?_
  show zx_E _ _ _ (22, [some (.inr (some (25, 0, 0, 0)))], [.inl (M2 (26, 0, 0, 0) 0)], (zx_lay M2, n)) _
  exact zx_E.ri h rfl (fun h => absurd h (by decide))
def g_X10_undo (M : zx_Y) : Option (Int32 × zx_Y) := (if (M (0, 0, 0, 0) 7) = 0 then (some ((-3), M)) else (zm (g_X2_copyFrom M 0 1) fun M1 => (zl (zx_up M1 (22, 0, 0, 0) 0 0) fun M2 => (some ((M2 (1, 0, 0, 0) 0), M2)))))
set_option maxRecDepth 100000 in
set_option maxHeartbeats 4000000 in
theorem r_X10_undo {X : zx_X} {d n : Nat} {M : zx_Y} {rv : Int32} {rM : zx_Y} (h : g_X10_undo M = some (rv, rM)) : zx_run X (d + 3) 114 [.inr (some (0, 0, 0, 0))] (zx_lay M, n) (some (.inl rv), (zx_lay rM, n)) := by
  refine zx_run_of zc_X10_undo [some (.inr (some (0, 0, 0, 0)))] rfl rfl ?_
  unfold g_X10_undo at h
  refine zx_E.go 2 (s' := (4, [some (.inr (some (0, 0, 0, 0)))], [.inl (M (0, 0, 0, 0) 7)], (zx_lay M, n))) rfl ?_
  refine zx_E.brh (c := (M (0, 0, 0, 0) 7) = 0) (s1 := (7, [some (.inr (some (0, 0, 0, 0)))], [], (zx_lay M, n))) (s2 := (10, [some (.inr (some (0, 0, 0, 0)))], [], (zx_lay M, n))) h (zx_if_ne rfl) (fun _ h => ?_) (fun _ h => ?_)
  · refine zx_E.go 1 (s' := (9, [some (.inr (some (0, 0, 0, 0)))], [.inl (-3)], (zx_lay M, n))) rfl ?_
    exact zx_E.ri h rfl (fun h => absurd h (by decide))
  · refine zx_E.go 4 (s' := (18, [some (.inr (some (0, 0, 0, 0)))], [.inr (some (1, 1, 0, 0)), .inr (some (1, 0, 0, 0))], (zx_lay M, n))) rfl ?_
    refine zx_E.cm (y := 14) (as := [.inr (some (1, 0, 0, 0)), .inr (some (1, 1, 0, 0))]) (rest := []) h rfl (fun _ hv => zx_run_up (by omega) (r_X2_copyFrom (d := d) hv)) (fun M1 h => ?_)
    show zx_E _ _ _ (21, [some (.inr (some (0, 0, 0, 0)))], [], (zx_lay M1, n)) _
    refine zx_E.go 3 (s' := (26, [some (.inr (some (0, 0, 0, 0)))], [.inl 0, .inr (some (22, 0, 0, 0))], (zx_lay M1, n))) rfl ?_
    refine zx_E.pu h rfl rfl (fun _ => Or.inl rfl) (fun M2 h => ?_)
    show zx_E _ _ _ (29, [some (.inr (some (0, 0, 0, 0)))], [], (zx_lay M2, n)) _
    refine zx_E.go 3 (s' := (36, [some (.inr (some (0, 0, 0, 0)))], [.inl (M2 (1, 0, 0, 0) 0)], (zx_lay M2, n))) rfl ?_
    exact zx_E.ri h rfl (fun h => absurd h (by decide))
def g_X11_undo (M : zx_Y) : Option (Int32 × zx_Y) := (if (M (25, 0, 0, 0) 18) = 0 then (some ((-3), M)) else (zl (zy_ck 32 26 640 M) fun M1 => (zl (zx_up M1 (26, 0, 0, 0) 475 0) fun M2 => (zl (zx_up M2 (26, 0, 0, 0) 476 0) fun M3 => (some ((M3 (26, 0, 0, 0) 0), M3))))))
set_option maxRecDepth 100000 in
set_option maxHeartbeats 4000000 in
theorem r_X11_undo {X : zx_X} {d n : Nat} {M : zx_Y} {rv : Int32} {rM : zx_Y} (h : g_X11_undo M = some (rv, rM)) : zx_run X (d + 2) 198 [.inr (some (25, 0, 0, 0))] (zx_lay M, n) (some (.inl rv), (zx_lay rM, n)) := by
  refine zx_run_of zc_X11_undo [some (.inr (some (25, 0, 0, 0)))] rfl rfl ?_
  unfold g_X11_undo at h
  refine zx_E.go 2 (s' := (4, [some (.inr (some (25, 0, 0, 0)))], [.inl (M (25, 0, 0, 0) 18)], (zx_lay M, n))) rfl ?_
  refine zx_E.brh (c := (M (25, 0, 0, 0) 18) = 0) (s1 := (7, [some (.inr (some (25, 0, 0, 0)))], [], (zx_lay M, n))) (s2 := (10, [some (.inr (some (25, 0, 0, 0)))], [], (zx_lay M, n))) h (zx_if_ne rfl) (fun _ h => ?_) (fun _ h => ?_)
  · refine zx_E.go 1 (s' := (9, [some (.inr (some (25, 0, 0, 0)))], [.inl (-3)], (zx_lay M, n))) rfl ?_
    exact zx_E.ri h rfl (fun h => absurd h (by decide))
  · refine zx_E.go 4 (s' := (18, [some (.inr (some (25, 0, 0, 0)))], [.inr (some (26, 0, 0, 0)), .inr (some (32, 0, 0, 0))], (zx_lay M, n))) rfl ?_
    refine zx_E.cl (y := 171) (as := [.inr (some (32, 0, 0, 0)), .inr (some (26, 0, 0, 0))]) (rest := []) h rfl (zx_run_up (by omega) (r_copy (d := d) (by decide) (by decide) (by decide))) (fun M1 h => ?_)
    show zx_E _ _ _ (21, [some (.inr (some (25, 0, 0, 0)))], [], (zx_lay M1, n)) _
    refine zx_E.go 4 (s' := (29, [some (.inr (some (25, 0, 0, 0)))], [.inl 0, .inl 475, .inr (some (26, 0, 0, 0))], (zx_lay M1, n))) rfl ?_
    refine zx_E.ia h rfl rfl rfl (by decide) (fun M2 h => ?_)
    show zx_E _ _ _ (30, [some (.inr (some (25, 0, 0, 0)))], [], (zx_lay M2, n)) _
    refine zx_E.go 4 (s' := (38, [some (.inr (some (25, 0, 0, 0)))], [.inl 0, .inl 476, .inr (some (26, 0, 0, 0))], (zx_lay M2, n))) rfl ?_
    refine zx_E.ia h rfl rfl rfl (by decide) (fun M3 h => ?_)
    show zx_E _ _ _ (39, [some (.inr (some (25, 0, 0, 0)))], [], (zx_lay M3, n)) _
    refine zx_E.go 3 (s' := (44, [some (.inr (some (25, 0, 0, 0)))], [.inl 0, .inr (some (26, 0, 0, 0))], (zx_lay M3, n))) rfl ?_
    refine zx_E.iald (k := 0) (h := (26, 0, 0, 0)) rfl rfl rfl (by decide) ?_
    show zx_E _ _ _ (45, [some (.inr (some (25, 0, 0, 0)))], [.inl (M3 (26, 0, 0, 0) 0)], (zx_lay M3, n)) _
    exact zx_E.ri h rfl (fun h => absurd h (by decide))
def lg_X2_longestStay_4 (M : zx_Y) (l : Nat) (kk : Int32 → Int32 → Option Int32) : Nat → Int32 → Int32 → Option Int32
  | 0, _, _ => none
  | q + 1, w1, w2 => (if (M (1, l, 0, 0) 4) ≤ w2 then (kk w1 w2) else (zi w2 10 fun k1 => (zb (g_X9_isInStation M l k1) fun v1 => (if v1 = 0 then (lg_X2_longestStay_4 M l kk q w1 (w2 + 1)) else (zi w2 10 fun k2 => (lg_X2_longestStay_4 M l kk q (zmax w1 ((M (1, l, 0, 0) 0) - (M (7, l, k2, 0) 13))) (w2 + 1)))))))
set_option maxRecDepth 100000 in
set_option maxHeartbeats 4000000 in
theorem rl_X2_longestStay_4 {X : zx_X} {d n : Nat} {M : zx_Y} {l : Nat} {kk : Int32 → Int32 → Option Int32} {rv : Int32} (hk : ∀ (w1 : Int32) (w2 : Int32), kk w1 w2 = some rv → zx_E X (d + 1) zc_X2_longestStay (49, [some (.inr (some (1, l, 0, 0))), some (.inl w1), some (.inl w2)], [], (zx_lay M, n)) (some (.inl rv), (zx_lay M, n))) : ∀ (q : Nat) (w1 : Int32) (w2 : Int32), lg_X2_longestStay_4 M l kk q w1 w2 = some rv → zx_E X (d + 1) zc_X2_longestStay (4, [some (.inr (some (1, l, 0, 0))), some (.inl w1), some (.inl w2)], [], (zx_lay M, n)) (some (.inl rv), (zx_lay M, n))
  | 0, w1, w2, h => by
    rw [lg_X2_longestStay_4.eq_1] at h
    cases h
  | q + 1, w1, w2, h => by
    rw [lg_X2_longestStay_4.eq_2] at h
    refine zx_E.go 3 (s' := (9, [some (.inr (some (1, l, 0, 0))), some (.inl w1), some (.inl w2)], [.inl (M (1, l, 0, 0) 4), .inl w2], (zx_lay M, n))) rfl ?_
    refine zx_E.brh (c := (M (1, l, 0, 0) 4) ≤ w2) (s1 := (49, [some (.inr (some (1, l, 0, 0))), some (.inl w1), some (.inl w2)], [], (zx_lay M, n))) (s2 := (12, [some (.inr (some (1, l, 0, 0))), some (.inl w1), some (.inl w2)], [], (zx_lay M, n))) h (zx_ic_ge rfl) (fun _ h => ?_) (fun _ h => ?_)
    · exact hk _ _ h
    · refine zx_E.go 3 (s' := (17, [some (.inr (some (1, l, 0, 0))), some (.inl w1), some (.inl w2)], [.inl w2, .inr (some (6, l, 0, 0))], (zx_lay M, n))) rfl ?_
      refine zx_E.ix h (fun k1 hx_k1 hl_k1 h => ?_)
      refine zx_E.aald (k := k1) (h := (6, l, 0, 0)) (h' := (7, l, k1, 0)) rfl rfl hx_k1 hl_k1 rfl ?_
      show zx_E _ _ _ (18, [some (.inr (some (1, l, 0, 0))), some (.inl w1), some (.inl w2)], [.inr (some (7, l, k1, 0))], (zx_lay M, n)) _
      refine zx_E.cb (y := 84) (as := [.inr (some (7, l, k1, 0))]) (rest := []) h rfl (fun _ hv => zx_run_up (by omega) (r_X9_isInStation (d := d) hv)) (fun v1 h => ?_)
      show zx_E _ _ _ (21, [some (.inr (some (1, l, 0, 0))), some (.inl w1), some (.inl w2)], [.inl v1], (zx_lay M, n)) _
      refine zx_E.brh (c := v1 = 0) (s1 := (43, [some (.inr (some (1, l, 0, 0))), some (.inl w1), some (.inl w2)], [], (zx_lay M, n))) (s2 := (24, [some (.inr (some (1, l, 0, 0))), some (.inl w1), some (.inl w2)], [], (zx_lay M, n))) h (zx_if_eq rfl) (fun _ h => ?_) (fun _ h => ?_)
      · refine zx_E.go 2 (s' := (4, [some (.inr (some (1, l, 0, 0))), some (.inl w1), some (.inl (w2 + 1))], [], (zx_lay M, n))) rfl ?_
        exact rl_X2_longestStay_4 hk q w1 (w2 + 1) h
      · refine zx_E.go 6 (s' := (34, [some (.inr (some (1, l, 0, 0))), some (.inl w1), some (.inl w2)], [.inl w2, .inr (some (6, l, 0, 0)), .inl (M (1, l, 0, 0) 0), .inl w1], (zx_lay M, n))) rfl ?_
        refine zx_E.ix h (fun k2 hx_k2 hl_k2 h => ?_)
        refine zx_E.aald (k := k2) (h := (6, l, 0, 0)) (h' := (7, l, k2, 0)) rfl rfl hx_k2 hl_k2 rfl ?_
        show zx_E _ _ _ (35, [some (.inr (some (1, l, 0, 0))), some (.inl w1), some (.inl w2)], [.inr (some (7, l, k2, 0)), .inl (M (1, l, 0, 0) 0), .inl w1], (zx_lay M, n)) _
        refine zx_E.go 1 (s' := (38, [some (.inr (some (1, l, 0, 0))), some (.inl w1), some (.inl w2)], [.inl (M (7, l, k2, 0) 13), .inl (M (1, l, 0, 0) 0), .inl w1], (zx_lay M, n))) rfl ?_
        refine zx_E.go 5 (s' := (4, [some (.inr (some (1, l, 0, 0))), some (.inl (zmax w1 ((M (1, l, 0, 0) 0) - (M (7, l, k2, 0) 13)))), some (.inl (w2 + 1))], [], (zx_lay M, n))) rfl ?_
        exact rl_X2_longestStay_4 hk q (zmax w1 ((M (1, l, 0, 0) 0) - (M (7, l, k2, 0) 13))) (w2 + 1) h
def g_X2_longestStay (M : zx_Y) (l : Nat) : Option Int32 := (lg_X2_longestStay_4 M l (fun v1 v2 => (some v1)) 1000 0 0)
set_option maxRecDepth 100000 in
set_option maxHeartbeats 4000000 in
theorem r_X2_longestStay {X : zx_X} {d n : Nat} {M : zx_Y} {l : Nat} {rv : Int32} (h : g_X2_longestStay M l = some rv) : zx_run X (d + 2) 41 [.inr (some (1, l, 0, 0))] (zx_lay M, n) (some (.inl rv), (zx_lay M, n)) := by
  refine zx_run_of zc_X2_longestStay [some (.inr (some (1, l, 0, 0))), none, none] rfl rfl ?_
  unfold g_X2_longestStay at h
  refine zx_E.go 4 (s' := (4, [some (.inr (some (1, l, 0, 0))), some (.inl 0), some (.inl 0)], [], (zx_lay M, n))) rfl ?_
  refine rl_X2_longestStay_4 (fun v1 v2 h => ?_) 1000  0 0  h
  refine zx_E.go 1 (s' := (50, [some (.inr (some (1, l, 0, 0))), some (.inl v1), some (.inl v2)], [.inl v1], (zx_lay M, n))) rfl ?_
  exact zx_E.rp h rfl (fun h => absurd h (by decide))
def g_X10_count (M : zx_Y) (x0 : Int32) : Option Int32 := (if x0 = 0 then (some (M (1, 0, 0, 0) 0)) else (if x0 = 1 then (some (M (1, 0, 0, 0) 3)) else (if x0 = 2 then (some (M (1, 0, 0, 0) 4)) else (if x0 = 3 then (zb (g_X2_trainsThatAre M 0 0) fun v1 => (some v1)) else (if x0 = 4 then (zb (g_X2_trainsThatAre M 0 4) fun v2 => (some v2)) else (if x0 = 5 then (some (M (1, 0, 0, 0) 5)) else (if x0 = 6 then (some (M (1, 0, 0, 0) 1)) else (if x0 = 7 then (some (M (14, 0, 0, 0) 1)) else (if x0 = 8 then (some (M (1, 0, 0, 0) 2)) else (if x0 = 9 then (zb (g_X2_longestStay M 0) fun v3 => (some v3)) else (some (-1))))))))))))
set_option maxRecDepth 100000 in
set_option maxHeartbeats 4000000 in
theorem r_X10_count {X : zx_X} {d n : Nat} {M : zx_Y} {x0 : Int32} {rv : Int32} (h : g_X10_count M x0 = some rv) : zx_run X (d + 3) 115 [.inr (some (0, 0, 0, 0)), .inl x0] (zx_lay M, n) (some (.inl rv), (zx_lay M, n)) := by
  refine zx_run_of zc_X10_count [some (.inr (some (0, 0, 0, 0))), some (.inl x0)] rfl rfl ?_
  unfold g_X10_count at h
  refine zx_E.go 1 (s' := (1, [some (.inr (some (0, 0, 0, 0))), some (.inl x0)], [.inl x0], (zx_lay M, n))) rfl ?_
  refine zx_E.one (s' := (zx_pick x0 0 [56, 64, 72, 80, 89, 98, 106, 114, 122, 130] 138, [some (.inr (some (0, 0, 0, 0))), some (.inl x0)], [], (zx_lay M, n))) rfl ?_
  refine zx_E.pickh (k' := 1) h (by decide) (fun _ h => ?_) (fun _ h => ?_)
  · refine zx_E.go 3 (s' := (63, [some (.inr (some (0, 0, 0, 0))), some (.inl x0)], [.inl (M (1, 0, 0, 0) 0)], (zx_lay M, n))) rfl ?_
    exact zx_E.rp h rfl (fun h => absurd h (by decide))
  · refine zx_E.pickh (k' := 2) h (by decide) (fun _ h => ?_) (fun _ h => ?_)
    · refine zx_E.go 3 (s' := (71, [some (.inr (some (0, 0, 0, 0))), some (.inl x0)], [.inl (M (1, 0, 0, 0) 3)], (zx_lay M, n))) rfl ?_
      exact zx_E.rp h rfl (fun h => absurd h (by decide))
    · refine zx_E.pickh (k' := 3) h (by decide) (fun _ h => ?_) (fun _ h => ?_)
      · refine zx_E.go 3 (s' := (79, [some (.inr (some (0, 0, 0, 0))), some (.inl x0)], [.inl (M (1, 0, 0, 0) 4)], (zx_lay M, n))) rfl ?_
        exact zx_E.rp h rfl (fun h => absurd h (by decide))
      · refine zx_E.pickh (k' := 4) h (by decide) (fun _ h => ?_) (fun _ h => ?_)
        · refine zx_E.go 3 (s' := (85, [some (.inr (some (0, 0, 0, 0))), some (.inl x0)], [.inl 0, .inr (some (1, 0, 0, 0))], (zx_lay M, n))) rfl ?_
          refine zx_E.cb (y := 40) (as := [.inr (some (1, 0, 0, 0)), .inl 0]) (rest := []) h rfl (fun _ hv => zx_run_up (by omega) (r_X2_trainsThatAre (d := d) hv)) (fun v1 h => ?_)
          show zx_E _ _ _ (88, [some (.inr (some (0, 0, 0, 0))), some (.inl x0)], [.inl v1], (zx_lay M, n)) _
          exact zx_E.rp h rfl (fun h => absurd h (by decide))
        · refine zx_E.pickh (k' := 5) h (by decide) (fun _ h => ?_) (fun _ h => ?_)
          · refine zx_E.go 3 (s' := (94, [some (.inr (some (0, 0, 0, 0))), some (.inl x0)], [.inl 4, .inr (some (1, 0, 0, 0))], (zx_lay M, n))) rfl ?_
            refine zx_E.cb (y := 40) (as := [.inr (some (1, 0, 0, 0)), .inl 4]) (rest := []) h rfl (fun _ hv => zx_run_up (by omega) (r_X2_trainsThatAre (d := d) hv)) (fun v2 h => ?_)
            show zx_E _ _ _ (97, [some (.inr (some (0, 0, 0, 0))), some (.inl x0)], [.inl v2], (zx_lay M, n)) _
            exact zx_E.rp h rfl (fun h => absurd h (by decide))
          · refine zx_E.pickh (k' := 6) h (by decide) (fun _ h => ?_) (fun _ h => ?_)
            · refine zx_E.go 3 (s' := (105, [some (.inr (some (0, 0, 0, 0))), some (.inl x0)], [.inl (M (1, 0, 0, 0) 5)], (zx_lay M, n))) rfl ?_
              exact zx_E.rp h rfl (fun h => absurd h (by decide))
            · refine zx_E.pickh (k' := 7) h (by decide) (fun _ h => ?_) (fun _ h => ?_)
              · refine zx_E.go 3 (s' := (113, [some (.inr (some (0, 0, 0, 0))), some (.inl x0)], [.inl (M (1, 0, 0, 0) 1)], (zx_lay M, n))) rfl ?_
                exact zx_E.rp h rfl (fun h => absurd h (by decide))
              · refine zx_E.pickh (k' := 8) h (by decide) (fun _ h => ?_) (fun _ h => ?_)
                · refine zx_E.go 3 (s' := (121, [some (.inr (some (0, 0, 0, 0))), some (.inl x0)], [.inl (M (14, 0, 0, 0) 1)], (zx_lay M, n))) rfl ?_
                  exact zx_E.rp h rfl (fun h => absurd h (by decide))
                · refine zx_E.pickh (k' := 9) h (by decide) (fun _ h => ?_) (fun _ h => ?_)
                  · refine zx_E.go 3 (s' := (129, [some (.inr (some (0, 0, 0, 0))), some (.inl x0)], [.inl (M (1, 0, 0, 0) 2)], (zx_lay M, n))) rfl ?_
                    exact zx_E.rp h rfl (fun h => absurd h (by decide))
                  · refine zx_E.pickh (k' := 10) h (by decide) (fun _ h => ?_) (fun _ h => ?_)
                    · refine zx_E.go 2 (s' := (134, [some (.inr (some (0, 0, 0, 0))), some (.inl x0)], [.inr (some (1, 0, 0, 0))], (zx_lay M, n))) rfl ?_
                      refine zx_E.cb (y := 41) (as := [.inr (some (1, 0, 0, 0))]) (rest := []) h rfl (fun _ hv => zx_run_up (by omega) (r_X2_longestStay (d := d) hv)) (fun v3 h => ?_)
                      show zx_E _ _ _ (137, [some (.inr (some (0, 0, 0, 0))), some (.inl x0)], [.inl v3], (zx_lay M, n)) _
                      exact zx_E.rp h rfl (fun h => absurd h (by decide))
                    · show zx_E _ _ _ (138, [some (.inr (some (0, 0, 0, 0))), some (.inl x0)], [], (zx_lay M, n)) _
                      refine zx_E.go 1 (s' := (139, [some (.inr (some (0, 0, 0, 0))), some (.inl x0)], [.inl (-1)], (zx_lay M, n))) rfl ?_
                      exact zx_E.rp h rfl (fun h => absurd h (by decide))
def lg_X11_longestStay_4 (M : zx_Y) (kk : Int32 → Int32 → Option Int32) : Nat → Int32 → Int32 → Option Int32
  | 0, _, _ => none
  | q + 1, w1, w2 => (if (M (26, 0, 0, 0) 27) ≤ w2 then (kk w1 w2) else (zb (g_X11_at M w2 0) fun v1 => (if v1 = 1 then (zb (g_X11_at M w2 12) fun v2 => (lg_X11_longestStay_4 M kk q (zmax w1 ((M (26, 0, 0, 0) 0) - v2)) (w2 + 1))) else (zb (g_X11_at M w2 0) fun v3 => (if v3 = 3 then (zb (g_X11_at M w2 12) fun v4 => (lg_X11_longestStay_4 M kk q (zmax w1 ((M (26, 0, 0, 0) 0) - v4)) (w2 + 1))) else (lg_X11_longestStay_4 M kk q w1 (w2 + 1)))))))
set_option maxRecDepth 100000 in
set_option maxHeartbeats 4000000 in
theorem rl_X11_longestStay_4 {X : zx_X} {d n : Nat} {M : zx_Y} {kk : Int32 → Int32 → Option Int32} {rv : Int32} (hk : ∀ (w1 : Int32) (w2 : Int32) (e3 : Option zx_V), kk w1 w2 = some rv → zx_E X (d + 1) zc_X11_longestStay (74, [some (.inr (some (25, 0, 0, 0))), some (.inl w1), some (.inl w2), e3], [], (zx_lay M, n)) (some (.inl rv), (zx_lay M, n))) : ∀ (q : Nat) (g3 : Option zx_V) (w1 : Int32) (w2 : Int32), lg_X11_longestStay_4 M kk q w1 w2 = some rv → zx_E X (d + 1) zc_X11_longestStay (4, [some (.inr (some (25, 0, 0, 0))), some (.inl w1), some (.inl w2), g3], [], (zx_lay M, n)) (some (.inl rv), (zx_lay M, n))
  | 0, g3, w1, w2, h => by
    rw [lg_X11_longestStay_4.eq_1] at h
    cases h
  | q + 1, g3, w1, w2, h => by
    rw [lg_X11_longestStay_4.eq_2] at h
    refine zx_E.go 4 (s' := (11, [some (.inr (some (25, 0, 0, 0))), some (.inl w1), some (.inl w2), g3], [.inl 27, .inr (some (26, 0, 0, 0)), .inl w2], (zx_lay M, n))) rfl ?_
    refine zx_E.iald (k := 27) (h := (26, 0, 0, 0)) rfl rfl rfl (by decide) ?_
    show zx_E _ _ _ (12, [some (.inr (some (25, 0, 0, 0))), some (.inl w1), some (.inl w2), g3], [.inl (M (26, 0, 0, 0) 27), .inl w2], (zx_lay M, n)) _
    refine zx_E.brh (c := (M (26, 0, 0, 0) 27) ≤ w2) (s1 := (74, [some (.inr (some (25, 0, 0, 0))), some (.inl w1), some (.inl w2), g3], [], (zx_lay M, n))) (s2 := (15, [some (.inr (some (25, 0, 0, 0))), some (.inl w1), some (.inl w2), g3], [], (zx_lay M, n))) h (zx_ic_ge rfl) (fun _ h => ?_) (fun _ h => ?_)
    · exact hk _ _ _ h
    · refine zx_E.go 3 (s' := (18, [some (.inr (some (25, 0, 0, 0))), some (.inl w1), some (.inl w2), g3], [.inl 0, .inl w2, .inr (some (25, 0, 0, 0))], (zx_lay M, n))) rfl ?_
      refine zx_E.cb (y := 125) (as := [.inr (some (25, 0, 0, 0)), .inl w2, .inl 0]) (rest := []) h rfl (fun _ hv => zx_run_up (by omega) (r_X11_at (d := d) hv)) (fun v1 h => ?_)
      show zx_E _ _ _ (21, [some (.inr (some (25, 0, 0, 0))), some (.inl w1), some (.inl w2), g3], [.inl v1], (zx_lay M, n)) _
      refine zx_E.go 1 (s' := (22, [some (.inr (some (25, 0, 0, 0))), some (.inl w1), some (.inl w2), g3], [.inl 1, .inl v1], (zx_lay M, n))) rfl ?_
      refine zx_E.brh (c := v1 = 1) (s1 := (35, [some (.inr (some (25, 0, 0, 0))), some (.inl w1), some (.inl w2), g3], [], (zx_lay M, n))) (s2 := (25, [some (.inr (some (25, 0, 0, 0))), some (.inl w1), some (.inl w2), g3], [], (zx_lay M, n))) h (zx_ic_eq rfl) (fun _ h => ?_) (fun _ h => ?_)
      · refine zx_E.go 4 (s' := (42, [some (.inr (some (25, 0, 0, 0))), some (.inl w1), some (.inl w2), some (.inl 1)], [.inl 1], (zx_lay M, n))) rfl ?_
        refine zx_E.bf (c := ((1 : Int32) = 0 : Prop)) (s1 := (66, [some (.inr (some (25, 0, 0, 0))), some (.inl w1), some (.inl w2), some (.inl 1)], [], (zx_lay M, n))) (s2 := (45, [some (.inr (some (25, 0, 0, 0))), some (.inl w1), some (.inl w2), some (.inl 1)], [], (zx_lay M, n))) (zx_if_eq rfl) (by decide) ?_
        refine zx_E.go 4 (s' := (51, [some (.inr (some (25, 0, 0, 0))), some (.inl w1), some (.inl w2), some (.inl 1)], [.inl 0, .inr (some (26, 0, 0, 0)), .inl w1], (zx_lay M, n))) rfl ?_
        refine zx_E.iald (k := 0) (h := (26, 0, 0, 0)) rfl rfl rfl (by decide) ?_
        show zx_E _ _ _ (52, [some (.inr (some (25, 0, 0, 0))), some (.inl w1), some (.inl w2), some (.inl 1)], [.inl (M (26, 0, 0, 0) 0), .inl w1], (zx_lay M, n)) _
        refine zx_E.go 3 (s' := (56, [some (.inr (some (25, 0, 0, 0))), some (.inl w1), some (.inl w2), some (.inl 1)], [.inl 12, .inl w2, .inr (some (25, 0, 0, 0)), .inl (M (26, 0, 0, 0) 0), .inl w1], (zx_lay M, n))) rfl ?_
        refine zx_E.cb (y := 125) (as := [.inr (some (25, 0, 0, 0)), .inl w2, .inl 12]) (rest := [.inl (M (26, 0, 0, 0) 0), .inl w1]) h rfl (fun _ hv => zx_run_up (by omega) (r_X11_at (d := d) hv)) (fun v2 h => ?_)
        show zx_E _ _ _ (59, [some (.inr (some (25, 0, 0, 0))), some (.inl w1), some (.inl w2), some (.inl 1)], [.inl v2, .inl (M (26, 0, 0, 0) 0), .inl w1], (zx_lay M, n)) _
        refine zx_E.go 6 (s' := (4, [some (.inr (some (25, 0, 0, 0))), some (.inl (zmax w1 ((M (26, 0, 0, 0) 0) - v2))), some (.inl (w2 + 1)), some (.inl 1)], [], (zx_lay M, n))) rfl ?_
        exact rl_X11_longestStay_4 hk q _ (zmax w1 ((M (26, 0, 0, 0) 0) - v2)) (w2 + 1) h
      · refine zx_E.go 3 (s' := (28, [some (.inr (some (25, 0, 0, 0))), some (.inl w1), some (.inl w2), g3], [.inl 0, .inl w2, .inr (some (25, 0, 0, 0))], (zx_lay M, n))) rfl ?_
        refine zx_E.cb (y := 125) (as := [.inr (some (25, 0, 0, 0)), .inl w2, .inl 0]) (rest := []) h rfl (fun _ hv => zx_run_up (by omega) (r_X11_at (d := d) hv)) (fun v3 h => ?_)
        show zx_E _ _ _ (31, [some (.inr (some (25, 0, 0, 0))), some (.inl w1), some (.inl w2), g3], [.inl v3], (zx_lay M, n)) _
        refine zx_E.go 1 (s' := (32, [some (.inr (some (25, 0, 0, 0))), some (.inl w1), some (.inl w2), g3], [.inl 3, .inl v3], (zx_lay M, n))) rfl ?_
        refine zx_E.brh (c := v3 = 3) (s1 := (35, [some (.inr (some (25, 0, 0, 0))), some (.inl w1), some (.inl w2), g3], [], (zx_lay M, n))) (s2 := (39, [some (.inr (some (25, 0, 0, 0))), some (.inl w1), some (.inl w2), g3], [], (zx_lay M, n))) h (zx_ic_ne rfl) (fun _ h => ?_) (fun _ h => ?_)
        · refine zx_E.go 4 (s' := (42, [some (.inr (some (25, 0, 0, 0))), some (.inl w1), some (.inl w2), some (.inl 1)], [.inl 1], (zx_lay M, n))) rfl ?_
          refine zx_E.bf (c := ((1 : Int32) = 0 : Prop)) (s1 := (66, [some (.inr (some (25, 0, 0, 0))), some (.inl w1), some (.inl w2), some (.inl 1)], [], (zx_lay M, n))) (s2 := (45, [some (.inr (some (25, 0, 0, 0))), some (.inl w1), some (.inl w2), some (.inl 1)], [], (zx_lay M, n))) (zx_if_eq rfl) (by decide) ?_
          refine zx_E.go 4 (s' := (51, [some (.inr (some (25, 0, 0, 0))), some (.inl w1), some (.inl w2), some (.inl 1)], [.inl 0, .inr (some (26, 0, 0, 0)), .inl w1], (zx_lay M, n))) rfl ?_
          refine zx_E.iald (k := 0) (h := (26, 0, 0, 0)) rfl rfl rfl (by decide) ?_
          show zx_E _ _ _ (52, [some (.inr (some (25, 0, 0, 0))), some (.inl w1), some (.inl w2), some (.inl 1)], [.inl (M (26, 0, 0, 0) 0), .inl w1], (zx_lay M, n)) _
          refine zx_E.go 3 (s' := (56, [some (.inr (some (25, 0, 0, 0))), some (.inl w1), some (.inl w2), some (.inl 1)], [.inl 12, .inl w2, .inr (some (25, 0, 0, 0)), .inl (M (26, 0, 0, 0) 0), .inl w1], (zx_lay M, n))) rfl ?_
          refine zx_E.cb (y := 125) (as := [.inr (some (25, 0, 0, 0)), .inl w2, .inl 12]) (rest := [.inl (M (26, 0, 0, 0) 0), .inl w1]) h rfl (fun _ hv => zx_run_up (by omega) (r_X11_at (d := d) hv)) (fun v4 h => ?_)
          show zx_E _ _ _ (59, [some (.inr (some (25, 0, 0, 0))), some (.inl w1), some (.inl w2), some (.inl 1)], [.inl v4, .inl (M (26, 0, 0, 0) 0), .inl w1], (zx_lay M, n)) _
          refine zx_E.go 6 (s' := (4, [some (.inr (some (25, 0, 0, 0))), some (.inl (zmax w1 ((M (26, 0, 0, 0) 0) - v4))), some (.inl (w2 + 1)), some (.inl 1)], [], (zx_lay M, n))) rfl ?_
          exact rl_X11_longestStay_4 hk q _ (zmax w1 ((M (26, 0, 0, 0) 0) - v4)) (w2 + 1) h
        · refine zx_E.go 3 (s' := (42, [some (.inr (some (25, 0, 0, 0))), some (.inl w1), some (.inl w2), some (.inl 0)], [.inl 0], (zx_lay M, n))) rfl ?_
          refine zx_E.bt (c := ((0 : Int32) = 0 : Prop)) (s1 := (66, [some (.inr (some (25, 0, 0, 0))), some (.inl w1), some (.inl w2), some (.inl 0)], [], (zx_lay M, n))) (s2 := (45, [some (.inr (some (25, 0, 0, 0))), some (.inl w1), some (.inl w2), some (.inl 0)], [], (zx_lay M, n))) (zx_if_eq rfl) (by decide) ?_
          refine zx_E.go 4 (s' := (4, [some (.inr (some (25, 0, 0, 0))), some (.inl w1), some (.inl (w2 + 1)), some (.inl 0)], [], (zx_lay M, n))) rfl ?_
          exact rl_X11_longestStay_4 hk q _ w1 (w2 + 1) h
def g_X11_longestStay (M : zx_Y) : Option Int32 := (lg_X11_longestStay_4 M (fun v1 v2 => (some v1)) 1000 0 0)
set_option maxRecDepth 100000 in
set_option maxHeartbeats 4000000 in
theorem r_X11_longestStay {X : zx_X} {d n : Nat} {M : zx_Y} {rv : Int32} (h : g_X11_longestStay M = some rv) : zx_run X (d + 2) 199 [.inr (some (25, 0, 0, 0))] (zx_lay M, n) (some (.inl rv), (zx_lay M, n)) := by
  refine zx_run_of zc_X11_longestStay [some (.inr (some (25, 0, 0, 0))), none, none, none] rfl rfl ?_
  unfold g_X11_longestStay at h
  refine zx_E.go 4 (s' := (4, [some (.inr (some (25, 0, 0, 0))), some (.inl 0), some (.inl 0), none], [], (zx_lay M, n))) rfl ?_
  refine rl_X11_longestStay_4 (fun v1 v2 e1 h => ?_) 1000 _ 0 0  h
  refine zx_E.go 1 (s' := (75, [some (.inr (some (25, 0, 0, 0))), some (.inl v1), some (.inl v2), e1], [.inl v1], (zx_lay M, n))) rfl ?_
  exact zx_E.rp h rfl (fun h => absurd h (by decide))
def g_X11_count (M : zx_Y) (x0 : Int32) : Option Int32 := (if x0 = 0 then (some (M (26, 0, 0, 0) 0)) else (if x0 = 1 then (some (M (26, 0, 0, 0) 1)) else (if x0 = 2 then (some (M (26, 0, 0, 0) 27)) else (if x0 = 3 then (zb (g_X11_counted M 0) fun v1 => (some v1)) else (if x0 = 4 then (zb (g_X11_counted M 4) fun v2 => (some v2)) else (if x0 = 5 then (some (M (26, 0, 0, 0) 50)) else (if x0 = 6 then (some (M (26, 0, 0, 0) 25)) else (if x0 = 7 then (some (M (25, 0, 0, 0) 4)) else (if x0 = 8 then (some (M (26, 0, 0, 0) 26)) else (if x0 = 9 then (zb (g_X11_longestStay M) fun v3 => (some v3)) else (some (-1))))))))))))
set_option maxRecDepth 100000 in
set_option maxHeartbeats 4000000 in
theorem r_X11_count {X : zx_X} {d n : Nat} {M : zx_Y} {x0 : Int32} {rv : Int32} (h : g_X11_count M x0 = some rv) : zx_run X (d + 3) 200 [.inr (some (25, 0, 0, 0)), .inl x0] (zx_lay M, n) (some (.inl rv), (zx_lay M, n)) := by
  refine zx_run_of zc_X11_count [some (.inr (some (25, 0, 0, 0))), some (.inl x0)] rfl rfl ?_
  unfold g_X11_count at h
  refine zx_E.go 1 (s' := (1, [some (.inr (some (25, 0, 0, 0))), some (.inl x0)], [.inl x0], (zx_lay M, n))) rfl ?_
  refine zx_E.one (s' := (zx_pick x0 0 [56, 63, 70, 78, 84, 90, 98, 106, 111, 119] 124, [some (.inr (some (25, 0, 0, 0))), some (.inl x0)], [], (zx_lay M, n))) rfl ?_
  refine zx_E.pickh (k' := 1) h (by decide) (fun _ h => ?_) (fun _ h => ?_)
  · refine zx_E.go 3 (s' := (61, [some (.inr (some (25, 0, 0, 0))), some (.inl x0)], [.inl 0, .inr (some (26, 0, 0, 0))], (zx_lay M, n))) rfl ?_
    refine zx_E.iald (k := 0) (h := (26, 0, 0, 0)) rfl rfl rfl (by decide) ?_
    show zx_E _ _ _ (62, [some (.inr (some (25, 0, 0, 0))), some (.inl x0)], [.inl (M (26, 0, 0, 0) 0)], (zx_lay M, n)) _
    exact zx_E.rp h rfl (fun h => absurd h (by decide))
  · refine zx_E.pickh (k' := 2) h (by decide) (fun _ h => ?_) (fun _ h => ?_)
    · refine zx_E.go 3 (s' := (68, [some (.inr (some (25, 0, 0, 0))), some (.inl x0)], [.inl 1, .inr (some (26, 0, 0, 0))], (zx_lay M, n))) rfl ?_
      refine zx_E.iald (k := 1) (h := (26, 0, 0, 0)) rfl rfl rfl (by decide) ?_
      show zx_E _ _ _ (69, [some (.inr (some (25, 0, 0, 0))), some (.inl x0)], [.inl (M (26, 0, 0, 0) 1)], (zx_lay M, n)) _
      exact zx_E.rp h rfl (fun h => absurd h (by decide))
    · refine zx_E.pickh (k' := 3) h (by decide) (fun _ h => ?_) (fun _ h => ?_)
      · refine zx_E.go 3 (s' := (76, [some (.inr (some (25, 0, 0, 0))), some (.inl x0)], [.inl 27, .inr (some (26, 0, 0, 0))], (zx_lay M, n))) rfl ?_
        refine zx_E.iald (k := 27) (h := (26, 0, 0, 0)) rfl rfl rfl (by decide) ?_
        show zx_E _ _ _ (77, [some (.inr (some (25, 0, 0, 0))), some (.inl x0)], [.inl (M (26, 0, 0, 0) 27)], (zx_lay M, n)) _
        exact zx_E.rp h rfl (fun h => absurd h (by decide))
      · refine zx_E.pickh (k' := 4) h (by decide) (fun _ h => ?_) (fun _ h => ?_)
        · refine zx_E.go 2 (s' := (80, [some (.inr (some (25, 0, 0, 0))), some (.inl x0)], [.inl 0, .inr (some (25, 0, 0, 0))], (zx_lay M, n))) rfl ?_
          refine zx_E.cb (y := 188) (as := [.inr (some (25, 0, 0, 0)), .inl 0]) (rest := []) h rfl (fun _ hv => zx_run_up (by omega) (r_X11_counted (d := d) hv)) (fun v1 h => ?_)
          show zx_E _ _ _ (83, [some (.inr (some (25, 0, 0, 0))), some (.inl x0)], [.inl v1], (zx_lay M, n)) _
          exact zx_E.rp h rfl (fun h => absurd h (by decide))
        · refine zx_E.pickh (k' := 5) h (by decide) (fun _ h => ?_) (fun _ h => ?_)
          · refine zx_E.go 2 (s' := (86, [some (.inr (some (25, 0, 0, 0))), some (.inl x0)], [.inl 4, .inr (some (25, 0, 0, 0))], (zx_lay M, n))) rfl ?_
            refine zx_E.cb (y := 188) (as := [.inr (some (25, 0, 0, 0)), .inl 4]) (rest := []) h rfl (fun _ hv => zx_run_up (by omega) (r_X11_counted (d := d) hv)) (fun v2 h => ?_)
            show zx_E _ _ _ (89, [some (.inr (some (25, 0, 0, 0))), some (.inl x0)], [.inl v2], (zx_lay M, n)) _
            exact zx_E.rp h rfl (fun h => absurd h (by decide))
          · refine zx_E.pickh (k' := 6) h (by decide) (fun _ h => ?_) (fun _ h => ?_)
            · refine zx_E.go 3 (s' := (96, [some (.inr (some (25, 0, 0, 0))), some (.inl x0)], [.inl 50, .inr (some (26, 0, 0, 0))], (zx_lay M, n))) rfl ?_
              refine zx_E.iald (k := 50) (h := (26, 0, 0, 0)) rfl rfl rfl (by decide) ?_
              show zx_E _ _ _ (97, [some (.inr (some (25, 0, 0, 0))), some (.inl x0)], [.inl (M (26, 0, 0, 0) 50)], (zx_lay M, n)) _
              exact zx_E.rp h rfl (fun h => absurd h (by decide))
            · refine zx_E.pickh (k' := 7) h (by decide) (fun _ h => ?_) (fun _ h => ?_)
              · refine zx_E.go 3 (s' := (104, [some (.inr (some (25, 0, 0, 0))), some (.inl x0)], [.inl 25, .inr (some (26, 0, 0, 0))], (zx_lay M, n))) rfl ?_
                refine zx_E.iald (k := 25) (h := (26, 0, 0, 0)) rfl rfl rfl (by decide) ?_
                show zx_E _ _ _ (105, [some (.inr (some (25, 0, 0, 0))), some (.inl x0)], [.inl (M (26, 0, 0, 0) 25)], (zx_lay M, n)) _
                exact zx_E.rp h rfl (fun h => absurd h (by decide))
              · refine zx_E.pickh (k' := 8) h (by decide) (fun _ h => ?_) (fun _ h => ?_)
                · refine zx_E.go 2 (s' := (110, [some (.inr (some (25, 0, 0, 0))), some (.inl x0)], [.inl (M (25, 0, 0, 0) 4)], (zx_lay M, n))) rfl ?_
                  exact zx_E.rp h rfl (fun h => absurd h (by decide))
                · refine zx_E.pickh (k' := 9) h (by decide) (fun _ h => ?_) (fun _ h => ?_)
                  · refine zx_E.go 3 (s' := (117, [some (.inr (some (25, 0, 0, 0))), some (.inl x0)], [.inl 26, .inr (some (26, 0, 0, 0))], (zx_lay M, n))) rfl ?_
                    refine zx_E.iald (k := 26) (h := (26, 0, 0, 0)) rfl rfl rfl (by decide) ?_
                    show zx_E _ _ _ (118, [some (.inr (some (25, 0, 0, 0))), some (.inl x0)], [.inl (M (26, 0, 0, 0) 26)], (zx_lay M, n)) _
                    exact zx_E.rp h rfl (fun h => absurd h (by decide))
                  · refine zx_E.pickh (k' := 10) h (by decide) (fun _ h => ?_) (fun _ h => ?_)
                    · refine zx_E.go 1 (s' := (120, [some (.inr (some (25, 0, 0, 0))), some (.inl x0)], [.inr (some (25, 0, 0, 0))], (zx_lay M, n))) rfl ?_
                      refine zx_E.cb (y := 199) (as := [.inr (some (25, 0, 0, 0))]) (rest := []) h rfl (fun _ hv => zx_run_up (by omega) (r_X11_longestStay (d := d) hv)) (fun v3 h => ?_)
                      show zx_E _ _ _ (123, [some (.inr (some (25, 0, 0, 0))), some (.inl x0)], [.inl v3], (zx_lay M, n)) _
                      exact zx_E.rp h rfl (fun h => absurd h (by decide))
                    · show zx_E _ _ _ (124, [some (.inr (some (25, 0, 0, 0))), some (.inl x0)], [], (zx_lay M, n)) _
                      refine zx_E.go 1 (s' := (125, [some (.inr (some (25, 0, 0, 0))), some (.inl x0)], [.inl (-1)], (zx_lay M, n))) rfl ?_
                      exact zx_E.rp h rfl (fun h => absurd h (by decide))
