def lg_X3_takeRow_18_2 (x1 : Int32) (r40 : Nat) (kk : Int32 → Int32 → zx_Y → Option (Int32 × zx_Y)) : Nat → Int32 → Int32 → zx_Y → Option (Int32 × zx_Y)
  | 0, _, _, _ => none
  | q + 1, w5, w6, M => (if (8 : Int32) ≤ w6 then (kk w5 w6 M) else (zi w6 8 fun k1 => (zl (zx_up M (24, r40, 0, 0) k1 (-5)) fun M1 => (lg_X3_takeRow_18_2 x1 r40 kk q w5 (w6 + 1) M1))))
set_option maxRecDepth 100000 in
set_option maxHeartbeats 4000000 in
theorem rl_X3_takeRow_18_2 {X : zx_X} {d n : Nat} {x1 : Int32} {r40 : Nat} {kk : Int32 → Int32 → zx_Y → Option (Int32 × zx_Y)} {rv : Int32} {rM : zx_Y} {g2 : Option zx_V} (hk : ∀ (w5 : Int32) (w6 : Int32) (M : zx_Y) (e7 : Option zx_V), kk w5 w6 M = some (rv, rM) → zx_E X (d + 0) zc_X3_takeRow (90, [some (.inr (some (22, 0, 0, 0))), some (.inr none), g2, some (.inl x1), some (.inr (some (24, r40, 0, 0))), some (.inl w5), some (.inl w6), e7], [], (zx_lay M, n)) (some (.inl rv), (zx_lay rM, n))) : ∀ (q : Nat) (g7 : Option zx_V) (w5 : Int32) (w6 : Int32) (M : zx_Y), lg_X3_takeRow_18_2 x1 r40 kk q w5 w6 M = some (rv, rM) → zx_E X (d + 0) zc_X3_takeRow (18, [some (.inr (some (22, 0, 0, 0))), some (.inr none), g2, some (.inl x1), some (.inr (some (24, r40, 0, 0))), some (.inl w5), some (.inl w6), g7], [], (zx_lay M, n)) (some (.inl rv), (zx_lay rM, n))
  | 0, g7, w5, w6, M, h => by
    rw [lg_X3_takeRow_18_2.eq_1] at h
    cases h
  | q + 1, g7, w5, w6, M, h => by
    rw [lg_X3_takeRow_18_2.eq_2] at h
    refine zx_E.go 2 (s' := (22, [some (.inr (some (22, 0, 0, 0))), some (.inr none), g2, some (.inl x1), some (.inr (some (24, r40, 0, 0))), some (.inl w5), some (.inl w6), g7], [.inl 8, .inl w6], (zx_lay M, n))) rfl ?_
    refine zx_E.brh (c := (8 : Int32) ≤ w6) (s1 := (90, [some (.inr (some (22, 0, 0, 0))), some (.inr none), g2, some (.inl x1), some (.inr (some (24, r40, 0, 0))), some (.inl w5), some (.inl w6), g7], [], (zx_lay M, n))) (s2 := (25, [some (.inr (some (22, 0, 0, 0))), some (.inr none), g2, some (.inl x1), some (.inr (some (24, r40, 0, 0))), some (.inl w5), some (.inl w6), g7], [], (zx_lay M, n))) h (zx_ic_ge rfl) (fun _ h => ?_) (fun _ h => ?_)
    · exact hk _ _ _ _ h
    · refine zx_E.go 7 (s' := (58, [some (.inr (some (22, 0, 0, 0))), some (.inr none), g2, some (.inl x1), some (.inr (some (24, r40, 0, 0))), some (.inl w5), some (.inl w6), some (.inl 0)], [.inl 0, .inl w6, .inr (some (24, r40, 0, 0))], (zx_lay M, n))) rfl ?_
      refine zx_E.bt (c := ((0 : Int32) = 0 : Prop)) (s1 := (73, [some (.inr (some (22, 0, 0, 0))), some (.inr none), g2, some (.inl x1), some (.inr (some (24, r40, 0, 0))), some (.inl w5), some (.inl w6), some (.inl 0)], [.inl w6, .inr (some (24, r40, 0, 0))], (zx_lay M, n))) (s2 := (61, [some (.inr (some (22, 0, 0, 0))), some (.inr none), g2, some (.inl x1), some (.inr (some (24, r40, 0, 0))), some (.inl w5), some (.inl w6), some (.inl 0)], [.inl w6, .inr (some (24, r40, 0, 0))], (zx_lay M, n))) (zx_if_eq rfl) (by decide) ?_
      refine zx_E.go 1 (s' := (75, [some (.inr (some (22, 0, 0, 0))), some (.inr none), g2, some (.inl x1), some (.inr (some (24, r40, 0, 0))), some (.inl w5), some (.inl w6), some (.inl 0)], [.inl (-5), .inl w6, .inr (some (24, r40, 0, 0))], (zx_lay M, n))) rfl ?_
      refine zx_E.ix h (fun k1 hx_k1 hl_k1 h => ?_)
      refine zx_E.ia h rfl rfl hx_k1 hl_k1 (fun M1 h => ?_)
      show zx_E _ _ _ (76, [some (.inr (some (22, 0, 0, 0))), some (.inr none), g2, some (.inl x1), some (.inr (some (24, r40, 0, 0))), some (.inl w5), some (.inl w6), some (.inl 0)], [], (zx_lay M1, n)) _
      refine zx_E.go 1 (s' := (78, [some (.inr (some (22, 0, 0, 0))), some (.inr none), g2, some (.inl x1), some (.inr (some (24, r40, 0, 0))), some (.inl w5), some (.inl w6), some (.inl 0)], [.inl 0], (zx_lay M1, n))) rfl ?_
      refine zx_E.bt (c := ((0 : Int32) = 0 : Prop)) (s1 := (84, [some (.inr (some (22, 0, 0, 0))), some (.inr none), g2, some (.inl x1), some (.inr (some (24, r40, 0, 0))), some (.inl w5), some (.inl w6), some (.inl 0)], [], (zx_lay M1, n))) (s2 := (81, [some (.inr (some (22, 0, 0, 0))), some (.inr none), g2, some (.inl x1), some (.inr (some (24, r40, 0, 0))), some (.inl w5), some (.inl w6), some (.inl 0)], [], (zx_lay M1, n))) (zx_if_eq rfl) (by decide) ?_
      refine zx_E.go 2 (s' := (18, [some (.inr (some (22, 0, 0, 0))), some (.inr none), g2, some (.inl x1), some (.inr (some (24, r40, 0, 0))), some (.inl w5), some (.inl (w6 + 1)), some (.inl 0)], [], (zx_lay M1, n))) rfl ?_
      exact rl_X3_takeRow_18_2 hk q _ w5 (w6 + 1) M1 h
def g_X3_takeRow_n (M : zx_Y) (x0 : Int32) (x1 : Int32) : Option (Int32 × zx_Y) := (zi ((2 * x0) + x1) 20 fun k1 => (lg_X3_takeRow_18_2 x1 k1 (fun v1 v2 M1 => (some (v1, M1))) 1000 0 0 M))
set_option maxRecDepth 100000 in
set_option maxHeartbeats 4000000 in
theorem r_X3_takeRow_n {X : zx_X} {d n : Nat} {M : zx_Y} {x0 : Int32} {x1 : Int32} {rv : Int32} {rM : zx_Y} (h : g_X3_takeRow_n M x0 x1 = some (rv, rM)) : zx_run X (d + 1) 53 [.inr (some (22, 0, 0, 0)), .inr none, .inl x0, .inl x1] (zx_lay M, n) (some (.inl rv), (zx_lay rM, n)) := by
  refine zx_run_of zc_X3_takeRow [some (.inr (some (22, 0, 0, 0))), some (.inr none), some (.inl x0), some (.inl x1), none, none, none, none] rfl rfl ?_
  unfold g_X3_takeRow_n at h
  refine zx_E.go 4 (s' := (6, [some (.inr (some (22, 0, 0, 0))), some (.inr none), some (.inl x0), some (.inl x1), none, none, none, none], [.inl x0, .inl 2, .inr (some (23, 0, 0, 0))], (zx_lay M, n))) rfl ?_
  refine zx_E.go 3 (s' := (9, [some (.inr (some (22, 0, 0, 0))), some (.inr none), some (.inl x0), some (.inl x1), none, none, none, none], [.inl ((2 * x0) + x1), .inr (some (23, 0, 0, 0))], (zx_lay M, n))) rfl ?_
  refine zx_E.ix h (fun k1 hx_k1 hl_k1 h => ?_)
  refine zx_E.aald (k := k1) (h := (23, 0, 0, 0)) (h' := (24, k1, 0, 0)) rfl rfl hx_k1 hl_k1 rfl ?_
  show zx_E _ _ _ (10, [some (.inr (some (22, 0, 0, 0))), some (.inr none), some (.inl x0), some (.inl x1), none, none, none, none], [.inr (some (24, k1, 0, 0))], (zx_lay M, n)) _
  refine zx_E.go 5 (s' := (18, [some (.inr (some (22, 0, 0, 0))), some (.inr none), some (.inl x0), some (.inl x1), some (.inr (some (24, k1, 0, 0))), some (.inl 0), some (.inl 0), none], [], (zx_lay M, n))) rfl ?_
  refine rl_X3_takeRow_18_2 (fun v1 v2 M1 e1 h => ?_) 1000 _ 0 0 M h
  refine zx_E.go 1 (s' := (92, [some (.inr (some (22, 0, 0, 0))), some (.inr none), some (.inl x0), some (.inl x1), some (.inr (some (24, k1, 0, 0))), some (.inl v1), some (.inl v2), e1], [.inl v1], (zx_lay M1, n))) rfl ?_
  exact zx_E.ri h rfl (fun h => absurd h (by decide))
def lg_X3_make_23 (l : Nat) (kk : Int32 → Int32 → zx_Y → Option (Int32 × zx_Y)) : Nat → Int32 → Int32 → zx_Y → Option (Int32 × zx_Y)
  | 0, _, _, _ => none
  | q + 1, w4, w5, M => (if (10 : Int32) ≤ w5 then (kk w4 w5 M) else (zt M l w5 (fun k1 => (zv (g_X3_takeRow M l k1 w5 0) fun v1 M1 => (zv (g_X3_takeRow M1 l k1 w5 1) fun v2 M2 => (lg_X3_make_23 l kk q (w4 + (v1 + v2)) (w5 + 1) M2)))) (zv (g_X3_takeRow_n M w5 0) fun v3 M3 => (zv (g_X3_takeRow_n M3 w5 1) fun v4 M4 => (lg_X3_make_23 l kk q (w4 + (v3 + v4)) (w5 + 1) M4)))))
set_option maxRecDepth 100000 in
set_option maxHeartbeats 4000000 in
theorem rl_X3_make_23 {X : zx_X} {d n : Nat} {l : Nat} {kk : Int32 → Int32 → zx_Y → Option (Int32 × zx_Y)} {rv : Int32} {rM : zx_Y} {g2 : Option zx_V} {g3 : Option zx_V} (hk : ∀ (w4 : Int32) (w5 : Int32) (M : zx_Y) (e6 : Option zx_V), kk w4 w5 M = some (rv, rM) → zx_E X (d + 1) zc_X3_make (68, [some (.inr (some (22, 0, 0, 0))), some (.inr (some (1, l, 0, 0))), g2, g3, some (.inl w4), some (.inl w5), e6], [], (zx_lay M, n)) (some (.inl rv), (zx_lay rM, n))) : ∀ (q : Nat) (g6 : Option zx_V) (w4 : Int32) (w5 : Int32) (M : zx_Y), lg_X3_make_23 l kk q w4 w5 M = some (rv, rM) → zx_E X (d + 1) zc_X3_make (23, [some (.inr (some (22, 0, 0, 0))), some (.inr (some (1, l, 0, 0))), g2, g3, some (.inl w4), some (.inl w5), g6], [], (zx_lay M, n)) (some (.inl rv), (zx_lay rM, n))
  | 0, g6, w4, w5, M, h => by
    rw [lg_X3_make_23.eq_1] at h
    cases h
  | q + 1, g6, w4, w5, M, h => by
    rw [lg_X3_make_23.eq_2] at h
    refine zx_E.go 2 (s' := (27, [some (.inr (some (22, 0, 0, 0))), some (.inr (some (1, l, 0, 0))), g2, g3, some (.inl w4), some (.inl w5), g6], [.inl 10, .inl w5], (zx_lay M, n))) rfl ?_
    refine zx_E.brh (c := (10 : Int32) ≤ w5) (s1 := (68, [some (.inr (some (22, 0, 0, 0))), some (.inr (some (1, l, 0, 0))), g2, g3, some (.inl w4), some (.inl w5), g6], [], (zx_lay M, n))) (s2 := (30, [some (.inr (some (22, 0, 0, 0))), some (.inr (some (1, l, 0, 0))), g2, g3, some (.inl w4), some (.inl w5), g6], [], (zx_lay M, n))) h (zx_ic_ge rfl) (fun _ h => ?_) (fun _ h => ?_)
    · exact hk _ _ _ _ h
    · refine zx_E.go 2 (s' := (33, [some (.inr (some (22, 0, 0, 0))), some (.inr (some (1, l, 0, 0))), g2, g3, some (.inl w4), some (.inl w5), g6], [.inl w5, .inr (some (1, l, 0, 0))], (zx_lay M, n))) rfl ?_
      refine zx_E.tw (y := 18) (as := [.inr (some (1, l, 0, 0)), .inl w5]) (rest := []) h rfl (fun hq => zx_run_up (by omega) (r_X2_trainWith_1 (d := d) hq)) (fun hq => zx_run_up (by omega) (r_X2_trainWith_0 (d := d) hq)) (fun k1 _ h => ?_) (fun h => ?_)
      · show zx_E _ _ _ (36, [some (.inr (some (22, 0, 0, 0))), some (.inr (some (1, l, 0, 0))), g2, g3, some (.inl w4), some (.inl w5), g6], [.inr (some (7, l, k1, 0))], (zx_lay M, n)) _
        refine zx_E.go 6 (s' := (46, [some (.inr (some (22, 0, 0, 0))), some (.inr (some (1, l, 0, 0))), g2, g3, some (.inl w4), some (.inl w5), some (.inr (some (7, l, k1, 0)))], [.inl 0, .inl w5, .inr (some (7, l, k1, 0)), .inr (some (22, 0, 0, 0)), .inl w4], (zx_lay M, n))) rfl ?_
        refine zx_E.cv (y := 53) (as := [.inr (some (22, 0, 0, 0)), .inr (some (7, l, k1, 0)), .inl w5, .inl 0]) (rest := [.inl w4]) h rfl (fun _ _ hv => zx_run_up (by omega) (r_X3_takeRow (d := d) hv)) (fun v1 M1 h => ?_)
        show zx_E _ _ _ (49, [some (.inr (some (22, 0, 0, 0))), some (.inr (some (1, l, 0, 0))), g2, g3, some (.inl w4), some (.inl w5), some (.inr (some (7, l, k1, 0)))], [.inl v1, .inl w4], (zx_lay M1, n)) _
        refine zx_E.go 4 (s' := (55, [some (.inr (some (22, 0, 0, 0))), some (.inr (some (1, l, 0, 0))), g2, g3, some (.inl w4), some (.inl w5), some (.inr (some (7, l, k1, 0)))], [.inl 1, .inl w5, .inr (some (7, l, k1, 0)), .inr (some (22, 0, 0, 0)), .inl v1, .inl w4], (zx_lay M1, n))) rfl ?_
        refine zx_E.cv (y := 53) (as := [.inr (some (22, 0, 0, 0)), .inr (some (7, l, k1, 0)), .inl w5, .inl 1]) (rest := [.inl v1, .inl w4]) h rfl (fun _ _ hv => zx_run_up (by omega) (r_X3_takeRow (d := d) hv)) (fun v2 M2 h => ?_)
        show zx_E _ _ _ (58, [some (.inr (some (22, 0, 0, 0))), some (.inr (some (1, l, 0, 0))), g2, g3, some (.inl w4), some (.inl w5), some (.inr (some (7, l, k1, 0)))], [.inl v2, .inl v1, .inl w4], (zx_lay M2, n)) _
        refine zx_E.go 5 (s' := (23, [some (.inr (some (22, 0, 0, 0))), some (.inr (some (1, l, 0, 0))), g2, g3, some (.inl (w4 + (v1 + v2))), some (.inl (w5 + 1)), some (.inr (some (7, l, k1, 0)))], [], (zx_lay M2, n))) rfl ?_
        exact rl_X3_make_23 hk q _ (w4 + (v1 + v2)) (w5 + 1) M2 h
      · show zx_E _ _ _ (36, [some (.inr (some (22, 0, 0, 0))), some (.inr (some (1, l, 0, 0))), g2, g3, some (.inl w4), some (.inl w5), g6], [.inr none], (zx_lay M, n)) _
        refine zx_E.go 6 (s' := (46, [some (.inr (some (22, 0, 0, 0))), some (.inr (some (1, l, 0, 0))), g2, g3, some (.inl w4), some (.inl w5), some (.inr none)], [.inl 0, .inl w5, .inr none, .inr (some (22, 0, 0, 0)), .inl w4], (zx_lay M, n))) rfl ?_
        refine zx_E.cv (y := 53) (as := [.inr (some (22, 0, 0, 0)), .inr none, .inl w5, .inl 0]) (rest := [.inl w4]) h rfl (fun _ _ hv => zx_run_up (by omega) (r_X3_takeRow_n (d := d) hv)) (fun v3 M3 h => ?_)
        show zx_E _ _ _ (49, [some (.inr (some (22, 0, 0, 0))), some (.inr (some (1, l, 0, 0))), g2, g3, some (.inl w4), some (.inl w5), some (.inr none)], [.inl v3, .inl w4], (zx_lay M3, n)) _
        refine zx_E.go 4 (s' := (55, [some (.inr (some (22, 0, 0, 0))), some (.inr (some (1, l, 0, 0))), g2, g3, some (.inl w4), some (.inl w5), some (.inr none)], [.inl 1, .inl w5, .inr none, .inr (some (22, 0, 0, 0)), .inl v3, .inl w4], (zx_lay M3, n))) rfl ?_
        refine zx_E.cv (y := 53) (as := [.inr (some (22, 0, 0, 0)), .inr none, .inl w5, .inl 1]) (rest := [.inl v3, .inl w4]) h rfl (fun _ _ hv => zx_run_up (by omega) (r_X3_takeRow_n (d := d) hv)) (fun v4 M4 h => ?_)
        show zx_E _ _ _ (58, [some (.inr (some (22, 0, 0, 0))), some (.inr (some (1, l, 0, 0))), g2, g3, some (.inl w4), some (.inl w5), some (.inr none)], [.inl v4, .inl v3, .inl w4], (zx_lay M4, n)) _
        refine zx_E.go 5 (s' := (23, [some (.inr (some (22, 0, 0, 0))), some (.inr (some (1, l, 0, 0))), g2, g3, some (.inl (w4 + (v3 + v4))), some (.inl (w5 + 1)), some (.inr none)], [], (zx_lay M4, n))) rfl ?_
        exact rl_X3_make_23 hk q _ (w4 + (v3 + v4)) (w5 + 1) M4 h
def g_X3_make (M : zx_Y) (l : Nat) (x0 : Int32) (x1 : Int32) : Option (Int32 × zx_Y) := (zl (zx_up M (22, 0, 0, 0) 0 1) fun M1 => (zl (zx_up M1 (22, 0, 0, 0) 1 x0) fun M2 => (zl (zx_up M2 (22, 0, 0, 0) 2 (x0 + x1)) fun M3 => (lg_X3_make_23 l (fun v1 v2 M4 => (some (v1, M4))) 1000 0 0 M3))))
set_option maxRecDepth 100000 in
set_option maxHeartbeats 4000000 in
theorem r_X3_make {X : zx_X} {d n : Nat} {M : zx_Y} {l : Nat} {x0 : Int32} {x1 : Int32} {rv : Int32} {rM : zx_Y} (h : g_X3_make M l x0 x1 = some (rv, rM)) : zx_run X (d + 2) 52 [.inr (some (22, 0, 0, 0)), .inr (some (1, l, 0, 0)), .inl x0, .inl x1] (zx_lay M, n) (some (.inl rv), (zx_lay rM, n)) := by
  refine zx_run_of zc_X3_make [some (.inr (some (22, 0, 0, 0))), some (.inr (some (1, l, 0, 0))), some (.inl x0), some (.inl x1), none, none, none] rfl rfl ?_
  unfold g_X3_make at h
  refine zx_E.go 2 (s' := (2, [some (.inr (some (22, 0, 0, 0))), some (.inr (some (1, l, 0, 0))), some (.inl x0), some (.inl x1), none, none, none], [.inl 1, .inr (some (22, 0, 0, 0))], (zx_lay M, n))) rfl ?_
  refine zx_E.pu h rfl rfl (fun _ => Or.inr rfl) (fun M1 h => ?_)
  show zx_E _ _ _ (5, [some (.inr (some (22, 0, 0, 0))), some (.inr (some (1, l, 0, 0))), some (.inl x0), some (.inl x1), none, none, none], [], (zx_lay M1, n)) _
  refine zx_E.go 2 (s' := (7, [some (.inr (some (22, 0, 0, 0))), some (.inr (some (1, l, 0, 0))), some (.inl x0), some (.inl x1), none, none, none], [.inl x0, .inr (some (22, 0, 0, 0))], (zx_lay M1, n))) rfl ?_
  refine zx_E.pu h rfl rfl (fun h => absurd h (by decide)) (fun M2 h => ?_)
  show zx_E _ _ _ (10, [some (.inr (some (22, 0, 0, 0))), some (.inr (some (1, l, 0, 0))), some (.inl x0), some (.inl x1), none, none, none], [], (zx_lay M2, n)) _
  refine zx_E.go 4 (s' := (14, [some (.inr (some (22, 0, 0, 0))), some (.inr (some (1, l, 0, 0))), some (.inl x0), some (.inl x1), none, none, none], [.inl (x0 + x1), .inr (some (22, 0, 0, 0))], (zx_lay M2, n))) rfl ?_
  refine zx_E.pu h rfl rfl (fun h => absurd h (by decide)) (fun M3 h => ?_)
  show zx_E _ _ _ (17, [some (.inr (some (22, 0, 0, 0))), some (.inr (some (1, l, 0, 0))), some (.inl x0), some (.inl x1), none, none, none], [], (zx_lay M3, n)) _
  refine zx_E.go 4 (s' := (23, [some (.inr (some (22, 0, 0, 0))), some (.inr (some (1, l, 0, 0))), some (.inl x0), some (.inl x1), some (.inl 0), some (.inl 0), none], [], (zx_lay M3, n))) rfl ?_
  refine rl_X3_make_23 (fun v1 v2 M4 e1 h => ?_) 1000 _ 0 0 M3 h
  refine zx_E.go 1 (s' := (70, [some (.inr (some (22, 0, 0, 0))), some (.inr (some (1, l, 0, 0))), some (.inl x0), some (.inl x1), some (.inl v1), some (.inl v2), e1], [.inl v1], (zx_lay M4, n))) rfl ?_
  exact zx_E.ri h rfl (fun h => absurd h (by decide))
def g_X10_plan (M : zx_Y) (x0 : Int32) : Option (Int32 × zx_Y) := (zb (g_X2_exists M 0) fun v1 => (if v1 = 0 then (some ((-3), M)) else (zb (g_X10_isMinutes M x0) fun v2 => (if v2 = 0 then (some ((-2), M)) else (zm (g_X2_copyFrom M 2 0) fun M1 => (zm (g_X2_advance M1 2 x0) fun M2 => (zv (g_X3_make M2 2 (M2 (1, 0, 0, 0) 0) x0) fun v3 M3 => (some (v3, M3)))))))))
set_option maxRecDepth 100000 in
set_option maxHeartbeats 4000000 in
theorem r_X10_plan {X : zx_X} {d n : Nat} {M : zx_Y} {x0 : Int32} {rv : Int32} {rM : zx_Y} (h : g_X10_plan M x0 = some (rv, rM)) : zx_run X (d + 7) 106 [.inr (some (0, 0, 0, 0)), .inl x0] (zx_lay M, n) (some (.inl rv), (zx_lay rM, n)) := by
  refine zx_run_of zc_X10_plan [some (.inr (some (0, 0, 0, 0))), some (.inl x0)] rfl rfl ?_
  unfold g_X10_plan at h
  refine zx_E.go 2 (s' := (4, [some (.inr (some (0, 0, 0, 0))), some (.inl x0)], [.inr (some (1, 0, 0, 0))], (zx_lay M, n))) rfl ?_
  refine zx_E.cb (y := 15) (as := [.inr (some (1, 0, 0, 0))]) (rest := []) h rfl (fun _ hv => zx_run_up (by omega) (r_X2_exists (d := d) hv)) (fun v1 h => ?_)
  show zx_E _ _ _ (7, [some (.inr (some (0, 0, 0, 0))), some (.inl x0)], [.inl v1], (zx_lay M, n)) _
  refine zx_E.brh (c := v1 = 0) (s1 := (10, [some (.inr (some (0, 0, 0, 0))), some (.inl x0)], [], (zx_lay M, n))) (s2 := (13, [some (.inr (some (0, 0, 0, 0))), some (.inl x0)], [], (zx_lay M, n))) h (zx_if_ne rfl) (fun _ h => ?_) (fun _ h => ?_)
  · refine zx_E.go 1 (s' := (12, [some (.inr (some (0, 0, 0, 0))), some (.inl x0)], [.inl (-3)], (zx_lay M, n))) rfl ?_
    exact zx_E.ri h rfl (fun h => absurd h (by decide))
  · refine zx_E.go 1 (s' := (14, [some (.inr (some (0, 0, 0, 0))), some (.inl x0)], [.inl x0], (zx_lay M, n))) rfl ?_
    refine zx_E.cb (y := 117) (as := [.inl x0]) (rest := []) h rfl (fun _ hv => zx_run_up (by omega) (r_X10_isMinutes (d := d) hv)) (fun v2 h => ?_)
    show zx_E _ _ _ (17, [some (.inr (some (0, 0, 0, 0))), some (.inl x0)], [.inl v2], (zx_lay M, n)) _
    refine zx_E.brh (c := v2 = 0) (s1 := (20, [some (.inr (some (0, 0, 0, 0))), some (.inl x0)], [], (zx_lay M, n))) (s2 := (23, [some (.inr (some (0, 0, 0, 0))), some (.inl x0)], [], (zx_lay M, n))) h (zx_if_ne rfl) (fun _ h => ?_) (fun _ h => ?_)
    · refine zx_E.go 1 (s' := (22, [some (.inr (some (0, 0, 0, 0))), some (.inl x0)], [.inl (-2)], (zx_lay M, n))) rfl ?_
      exact zx_E.ri h rfl (fun h => absurd h (by decide))
    · refine zx_E.go 4 (s' := (31, [some (.inr (some (0, 0, 0, 0))), some (.inl x0)], [.inr (some (1, 0, 0, 0)), .inr (some (1, 2, 0, 0))], (zx_lay M, n))) rfl ?_
      refine zx_E.cm (y := 14) (as := [.inr (some (1, 2, 0, 0)), .inr (some (1, 0, 0, 0))]) (rest := []) h rfl (fun _ hv => zx_run_up (by omega) (r_X2_copyFrom (d := d) hv)) (fun M1 h => ?_)
      show zx_E _ _ _ (34, [some (.inr (some (0, 0, 0, 0))), some (.inl x0)], [], (zx_lay M1, n)) _
      refine zx_E.go 3 (s' := (39, [some (.inr (some (0, 0, 0, 0))), some (.inl x0)], [.inl x0, .inr (some (1, 2, 0, 0))], (zx_lay M1, n))) rfl ?_
      refine zx_E.cm (y := 20) (as := [.inr (some (1, 2, 0, 0)), .inl x0]) (rest := []) h rfl (fun _ hv => zx_run_up (by omega) (r_X2_advance (d := d) hv)) (fun M2 h => ?_)
      show zx_E _ _ _ (42, [some (.inr (some (0, 0, 0, 0))), some (.inl x0)], [], (zx_lay M2, n)) _
      refine zx_E.go 8 (s' := (58, [some (.inr (some (0, 0, 0, 0))), some (.inl x0)], [.inl x0, .inl (M2 (1, 0, 0, 0) 0), .inr (some (1, 2, 0, 0)), .inr (some (22, 0, 0, 0))], (zx_lay M2, n))) rfl ?_
      refine zx_E.cv (y := 52) (as := [.inr (some (22, 0, 0, 0)), .inr (some (1, 2, 0, 0)), .inl (M2 (1, 0, 0, 0) 0), .inl x0]) (rest := []) h rfl (fun _ _ hv => zx_run_up (by omega) (r_X3_make (d := d) hv)) (fun v3 M3 h => ?_)
      show zx_E _ _ _ (61, [some (.inr (some (0, 0, 0, 0))), some (.inl x0)], [.inl v3], (zx_lay M3, n)) _
      exact zx_E.ri h rfl (fun h => absurd h (by decide))
def lg_X11_tryMinutes_13 (x0 : Int32) (kk : Int32 → zx_Y → Option zx_Y) : Nat → Int32 → zx_Y → Option zx_Y
  | 0, _, _ => none
  | q + 1, w2, M => (if x0 ≤ w2 then (kk w2 M) else (zm (g_X11_minute M) fun M1 => (lg_X11_tryMinutes_13 x0 kk q (w2 + 1) M1)))
set_option maxRecDepth 100000 in
set_option maxHeartbeats 4000000 in
theorem rl_X11_tryMinutes_13 {X : zx_X} {d n : Nat} {x0 : Int32} {kk : Int32 → zx_Y → Option zx_Y} {rM : zx_Y} (hk : ∀ (w2 : Int32) (M : zx_Y), kk w2 M = some rM → zx_E X (d + 8) zc_X11_tryMinutes (28, [some (.inr (some (25, 0, 0, 0))), some (.inl x0), some (.inl w2)], [], (zx_lay M, n)) (none, (zx_lay rM, n))) : ∀ (q : Nat) (w2 : Int32) (M : zx_Y), lg_X11_tryMinutes_13 x0 kk q w2 M = some rM → zx_E X (d + 8) zc_X11_tryMinutes (13, [some (.inr (some (25, 0, 0, 0))), some (.inl x0), some (.inl w2)], [], (zx_lay M, n)) (none, (zx_lay rM, n))
  | 0, w2, M, h => by
    rw [lg_X11_tryMinutes_13.eq_1] at h
    cases h
  | q + 1, w2, M, h => by
    rw [lg_X11_tryMinutes_13.eq_2] at h
    refine zx_E.go 2 (s' := (15, [some (.inr (some (25, 0, 0, 0))), some (.inl x0), some (.inl w2)], [.inl x0, .inl w2], (zx_lay M, n))) rfl ?_
    refine zx_E.brh (c := x0 ≤ w2) (s1 := (28, [some (.inr (some (25, 0, 0, 0))), some (.inl x0), some (.inl w2)], [], (zx_lay M, n))) (s2 := (18, [some (.inr (some (25, 0, 0, 0))), some (.inl x0), some (.inl w2)], [], (zx_lay M, n))) h (zx_ic_ge rfl) (fun _ h => ?_) (fun _ h => ?_)
    · exact hk _ _ h
    · refine zx_E.go 1 (s' := (19, [some (.inr (some (25, 0, 0, 0))), some (.inl x0), some (.inl w2)], [.inr (some (25, 0, 0, 0))], (zx_lay M, n))) rfl ?_
      refine zx_E.cm (y := 149) (as := [.inr (some (25, 0, 0, 0))]) (rest := []) h rfl (fun _ hv => zx_run_up (by omega) (r_X11_minute (d := d) hv)) (fun M1 h => ?_)
      show zx_E _ _ _ (22, [some (.inr (some (25, 0, 0, 0))), some (.inl x0), some (.inl w2)], [], (zx_lay M1, n)) _
      refine zx_E.go 2 (s' := (13, [some (.inr (some (25, 0, 0, 0))), some (.inl x0), some (.inl (w2 + 1))], [], (zx_lay M1, n))) rfl ?_
      exact rl_X11_tryMinutes_13 hk q (w2 + 1) M1 h
def g_X11_tryMinutes (M : zx_Y) (x0 : Int32) : Option zx_Y := (zl (zy_ck 26 31 640 M) fun M1 => (lg_X11_tryMinutes_13 x0 (fun v1 M2 => (some M2)) 1000 0 M1))
set_option maxRecDepth 100000 in
set_option maxHeartbeats 4000000 in
theorem r_X11_tryMinutes {X : zx_X} {d n : Nat} {M : zx_Y} {x0 : Int32} {rM : zx_Y} (h : g_X11_tryMinutes M x0 = some rM) : zx_run X (d + 9) 183 [.inr (some (25, 0, 0, 0)), .inl x0] (zx_lay M, n) (none, (zx_lay rM, n)) := by
  refine zx_run_of zc_X11_tryMinutes [some (.inr (some (25, 0, 0, 0))), some (.inl x0), none] rfl rfl ?_
  unfold g_X11_tryMinutes at h
  refine zx_E.go 4 (s' := (8, [some (.inr (some (25, 0, 0, 0))), some (.inl x0), none], [.inr (some (31, 0, 0, 0)), .inr (some (26, 0, 0, 0))], (zx_lay M, n))) rfl ?_
  refine zx_E.cl (y := 171) (as := [.inr (some (26, 0, 0, 0)), .inr (some (31, 0, 0, 0))]) (rest := []) h rfl (zx_run_up (by omega) (r_copy (d := d) (by decide) (by decide) (by decide))) (fun M1 h => ?_)
  show zx_E _ _ _ (11, [some (.inr (some (25, 0, 0, 0))), some (.inl x0), none], [], (zx_lay M1, n)) _
  refine zx_E.go 2 (s' := (13, [some (.inr (some (25, 0, 0, 0))), some (.inl x0), some (.inl 0)], [], (zx_lay M1, n))) rfl ?_
  refine rl_X11_tryMinutes_13 (fun v1 M2 h => ?_) 1000  0 M1 h
  exact zx_E.r0 h rfl
def g_X11_happened (M : zx_Y) (x0 : Int32) (x1 : Int32) : Option Int32 := (zb (g_X11_at M x0 (17 + x1)) fun v1 => (some v1))
set_option maxRecDepth 100000 in
set_option maxHeartbeats 4000000 in
theorem r_X11_happened {X : zx_X} {d n : Nat} {M : zx_Y} {x0 : Int32} {x1 : Int32} {rv : Int32} (h : g_X11_happened M x0 x1 = some rv) : zx_run X (d + 2) 184 [.inr (some (25, 0, 0, 0)), .inl x0, .inl x1] (zx_lay M, n) (some (.inl rv), (zx_lay M, n)) := by
  refine zx_run_of zc_X11_happened [some (.inr (some (25, 0, 0, 0))), some (.inl x0), some (.inl x1)] rfl rfl ?_
  unfold g_X11_happened at h
  refine zx_E.go 5 (s' := (6, [some (.inr (some (25, 0, 0, 0))), some (.inl x0), some (.inl x1)], [.inl (17 + x1), .inl x0, .inr (some (25, 0, 0, 0))], (zx_lay M, n))) rfl ?_
  refine zx_E.cb (y := 125) (as := [.inr (some (25, 0, 0, 0)), .inl x0, .inl (17 + x1)]) (rest := []) h rfl (fun _ hv => zx_run_up (by omega) (r_X11_at (d := d) hv)) (fun v1 h => ?_)
  show zx_E _ _ _ (9, [some (.inr (some (25, 0, 0, 0))), some (.inl x0), some (.inl x1)], [.inl v1], (zx_lay M, n)) _
  exact zx_E.rp h rfl (fun h => absurd h (by decide))
def lg_X11_plan_58 (x0 : Int32) (p2 : Int32) (p4 : Int32) (kk : Int32 → Int32 → zx_Y → Option (Int32 × zx_Y)) : Nat → Int32 → Int32 → zx_Y → Option (Int32 × zx_Y)
  | 0, _, _, _ => none
  | q + 1, w3, w5, M => (if (16 : Int32) ≤ w5 then (kk w3 w5 M) else (zb (g_X11_happened M p4 w5) fun v1 => (if v1 ≤ p2 then (zi ((477 + (16 * p4)) + w5) 640 fun k1 => (zl (zx_up M (31, 0, 0, 0) k1 (-5)) fun M1 => (lg_X11_plan_58 x0 p2 p4 kk q (w3 + 0) (w5 + 1) M1))) else (zb (g_X11_happened M p4 w5) fun v2 => (zi ((477 + (16 * p4)) + w5) 640 fun k2 => (zl (zx_up M (31, 0, 0, 0) k2 v2) fun M2 => (if v2 = (-5) then (lg_X11_plan_58 x0 p2 p4 kk q (w3 + 0) (w5 + 1) M2) else (lg_X11_plan_58 x0 p2 p4 kk q (w3 + 1) (w5 + 1) M2))))))))
set_option maxRecDepth 100000 in
set_option maxHeartbeats 4000000 in
theorem rl_X11_plan_58 {X : zx_X} {d n : Nat} {x0 : Int32} {p2 : Int32} {p4 : Int32} {kk : Int32 → Int32 → zx_Y → Option (Int32 × zx_Y)} {rv : Int32} {rM : zx_Y} (hk : ∀ (w3 : Int32) (w5 : Int32) (M : zx_Y) (e6 : Option zx_V), kk w3 w5 M = some (rv, rM) → zx_E X (d + 9) zc_X11_plan (132, [some (.inr (some (25, 0, 0, 0))), some (.inl x0), some (.inl p2), some (.inl w3), some (.inl p4), some (.inl w5), e6], [], (zx_lay M, n)) (some (.inl rv), (zx_lay rM, n))) : ∀ (q : Nat) (g6 : Option zx_V) (w3 : Int32) (w5 : Int32) (M : zx_Y), lg_X11_plan_58 x0 p2 p4 kk q w3 w5 M = some (rv, rM) → zx_E X (d + 9) zc_X11_plan (58, [some (.inr (some (25, 0, 0, 0))), some (.inl x0), some (.inl p2), some (.inl w3), some (.inl p4), some (.inl w5), g6], [], (zx_lay M, n)) (some (.inl rv), (zx_lay rM, n))
  | 0, g6, w3, w5, M, h => by
    rw [lg_X11_plan_58.eq_1] at h
    cases h
  | q + 1, g6, w3, w5, M, h => by
    rw [lg_X11_plan_58.eq_2] at h
    refine zx_E.go 2 (s' := (62, [some (.inr (some (25, 0, 0, 0))), some (.inl x0), some (.inl p2), some (.inl w3), some (.inl p4), some (.inl w5), g6], [.inl 16, .inl w5], (zx_lay M, n))) rfl ?_
    refine zx_E.brh (c := (16 : Int32) ≤ w5) (s1 := (132, [some (.inr (some (25, 0, 0, 0))), some (.inl x0), some (.inl p2), some (.inl w3), some (.inl p4), some (.inl w5), g6], [], (zx_lay M, n))) (s2 := (65, [some (.inr (some (25, 0, 0, 0))), some (.inl x0), some (.inl p2), some (.inl w3), some (.inl p4), some (.inl w5), g6], [], (zx_lay M, n))) h (zx_ic_ge rfl) (fun _ h => ?_) (fun _ h => ?_)
    · exact hk _ _ _ _ h
    · refine zx_E.go 3 (s' := (70, [some (.inr (some (25, 0, 0, 0))), some (.inl x0), some (.inl p2), some (.inl w3), some (.inl p4), some (.inl w5), g6], [.inl w5, .inl p4, .inr (some (25, 0, 0, 0))], (zx_lay M, n))) rfl ?_
      refine zx_E.cb (y := 184) (as := [.inr (some (25, 0, 0, 0)), .inl p4, .inl w5]) (rest := []) h rfl (fun _ hv => zx_run_up (by omega) (r_X11_happened (d := d) hv)) (fun v1 h => ?_)
      show zx_E _ _ _ (73, [some (.inr (some (25, 0, 0, 0))), some (.inl x0), some (.inl p2), some (.inl w3), some (.inl p4), some (.inl w5), g6], [.inl v1], (zx_lay M, n)) _
      refine zx_E.go 1 (s' := (74, [some (.inr (some (25, 0, 0, 0))), some (.inl x0), some (.inl p2), some (.inl w3), some (.inl p4), some (.inl w5), g6], [.inl p2, .inl v1], (zx_lay M, n))) rfl ?_
      refine zx_E.brh (c := v1 ≤ p2) (s1 := (88, [some (.inr (some (25, 0, 0, 0))), some (.inl x0), some (.inl p2), some (.inl w3), some (.inl p4), some (.inl w5), g6], [], (zx_lay M, n))) (s2 := (77, [some (.inr (some (25, 0, 0, 0))), some (.inl x0), some (.inl p2), some (.inl w3), some (.inl p4), some (.inl w5), g6], [], (zx_lay M, n))) h (zx_ic_le rfl) (fun _ h => ?_) (fun _ h => ?_)
      · refine zx_E.go 7 (s' := (103, [some (.inr (some (25, 0, 0, 0))), some (.inl x0), some (.inl p2), some (.inl w3), some (.inl p4), some (.inl w5), some (.inl (-5))], [.inl p4, .inl 16, .inl 477, .inr (some (31, 0, 0, 0))], (zx_lay M, n))) rfl ?_
        refine zx_E.go 5 (s' := (110, [some (.inr (some (25, 0, 0, 0))), some (.inl x0), some (.inl p2), some (.inl w3), some (.inl p4), some (.inl w5), some (.inl (-5))], [.inl (-5), .inl ((477 + (16 * p4)) + w5), .inr (some (31, 0, 0, 0))], (zx_lay M, n))) rfl ?_
        refine zx_E.ix h (fun k1 hx_k1 hl_k1 h => ?_)
        refine zx_E.ia h rfl rfl hx_k1 hl_k1 (fun M1 h => ?_)
        show zx_E _ _ _ (111, [some (.inr (some (25, 0, 0, 0))), some (.inl x0), some (.inl p2), some (.inl w3), some (.inl p4), some (.inl w5), some (.inl (-5))], [], (zx_lay M1, n)) _
        refine zx_E.go 3 (s' := (116, [some (.inr (some (25, 0, 0, 0))), some (.inl x0), some (.inl p2), some (.inl w3), some (.inl p4), some (.inl w5), some (.inl (-5))], [.inl (-5), .inl (-5), .inl w3], (zx_lay M1, n))) rfl ?_
        refine zx_E.bt (c := (((-5) : Int32) = (-5) : Prop)) (s1 := (119, [some (.inr (some (25, 0, 0, 0))), some (.inl x0), some (.inl p2), some (.inl w3), some (.inl p4), some (.inl w5), some (.inl (-5))], [.inl w3], (zx_lay M1, n))) (s2 := (123, [some (.inr (some (25, 0, 0, 0))), some (.inl x0), some (.inl p2), some (.inl w3), some (.inl p4), some (.inl w5), some (.inl (-5))], [.inl w3], (zx_lay M1, n))) (zx_ic_ne rfl) (by decide) ?_
        refine zx_E.go 6 (s' := (58, [some (.inr (some (25, 0, 0, 0))), some (.inl x0), some (.inl p2), some (.inl (w3 + 0)), some (.inl p4), some (.inl (w5 + 1)), some (.inl (-5))], [], (zx_lay M1, n))) rfl ?_
        exact rl_X11_plan_58 hk q _ (w3 + 0) (w5 + 1) M1 h
      · refine zx_E.go 3 (s' := (82, [some (.inr (some (25, 0, 0, 0))), some (.inl x0), some (.inl p2), some (.inl w3), some (.inl p4), some (.inl w5), g6], [.inl w5, .inl p4, .inr (some (25, 0, 0, 0))], (zx_lay M, n))) rfl ?_
        refine zx_E.cb (y := 184) (as := [.inr (some (25, 0, 0, 0)), .inl p4, .inl w5]) (rest := []) h rfl (fun _ hv => zx_run_up (by omega) (r_X11_happened (d := d) hv)) (fun v2 h => ?_)
        show zx_E _ _ _ (85, [some (.inr (some (25, 0, 0, 0))), some (.inl x0), some (.inl p2), some (.inl w3), some (.inl p4), some (.inl w5), g6], [.inl v2], (zx_lay M, n)) _
        refine zx_E.go 7 (s' := (103, [some (.inr (some (25, 0, 0, 0))), some (.inl x0), some (.inl p2), some (.inl w3), some (.inl p4), some (.inl w5), some (.inl v2)], [.inl p4, .inl 16, .inl 477, .inr (some (31, 0, 0, 0))], (zx_lay M, n))) rfl ?_
        refine zx_E.go 5 (s' := (110, [some (.inr (some (25, 0, 0, 0))), some (.inl x0), some (.inl p2), some (.inl w3), some (.inl p4), some (.inl w5), some (.inl v2)], [.inl v2, .inl ((477 + (16 * p4)) + w5), .inr (some (31, 0, 0, 0))], (zx_lay M, n))) rfl ?_
        refine zx_E.ix h (fun k2 hx_k2 hl_k2 h => ?_)
        refine zx_E.ia h rfl rfl hx_k2 hl_k2 (fun M2 h => ?_)
        show zx_E _ _ _ (111, [some (.inr (some (25, 0, 0, 0))), some (.inl x0), some (.inl p2), some (.inl w3), some (.inl p4), some (.inl w5), some (.inl v2)], [], (zx_lay M2, n)) _
        refine zx_E.go 3 (s' := (116, [some (.inr (some (25, 0, 0, 0))), some (.inl x0), some (.inl p2), some (.inl w3), some (.inl p4), some (.inl w5), some (.inl v2)], [.inl (-5), .inl v2, .inl w3], (zx_lay M2, n))) rfl ?_
        refine zx_E.brh (c := v2 = (-5)) (s1 := (119, [some (.inr (some (25, 0, 0, 0))), some (.inl x0), some (.inl p2), some (.inl w3), some (.inl p4), some (.inl w5), some (.inl v2)], [.inl w3], (zx_lay M2, n))) (s2 := (123, [some (.inr (some (25, 0, 0, 0))), some (.inl x0), some (.inl p2), some (.inl w3), some (.inl p4), some (.inl w5), some (.inl v2)], [.inl w3], (zx_lay M2, n))) h (zx_ic_ne rfl) (fun _ h => ?_) (fun _ h => ?_)
        · refine zx_E.go 6 (s' := (58, [some (.inr (some (25, 0, 0, 0))), some (.inl x0), some (.inl p2), some (.inl (w3 + 0)), some (.inl p4), some (.inl (w5 + 1)), some (.inl v2)], [], (zx_lay M2, n))) rfl ?_
          exact rl_X11_plan_58 hk q _ (w3 + 0) (w5 + 1) M2 h
        · refine zx_E.go 5 (s' := (58, [some (.inr (some (25, 0, 0, 0))), some (.inl x0), some (.inl p2), some (.inl (w3 + 1)), some (.inl p4), some (.inl (w5 + 1)), some (.inl v2)], [], (zx_lay M2, n))) rfl ?_
          exact rl_X11_plan_58 hk q _ (w3 + 1) (w5 + 1) M2 h
def lg_X11_plan_43 (x0 : Int32) (p2 : Int32) (kk : Int32 → Int32 → zx_Y → Option (Int32 × zx_Y)) : Nat → Int32 → Int32 → zx_Y → Option (Int32 × zx_Y)
  | 0, _, _, _ => none
  | q + 1, w3, w4, M => (if (M (26, 0, 0, 0) 27) ≤ w4 then (kk w3 w4 M) else (lg_X11_plan_58 x0 p2 w4 (fun v1 v2 M1 => (lg_X11_plan_43 x0 p2 kk q v1 (w4 + 1) M1)) 1000 w3 0 M))
set_option maxRecDepth 100000 in
set_option maxHeartbeats 4000000 in
theorem rl_X11_plan_43 {X : zx_X} {d n : Nat} {x0 : Int32} {p2 : Int32} {kk : Int32 → Int32 → zx_Y → Option (Int32 × zx_Y)} {rv : Int32} {rM : zx_Y} (hk : ∀ (w3 : Int32) (w4 : Int32) (M : zx_Y) (e5 : Option zx_V) (e6 : Option zx_V), kk w3 w4 M = some (rv, rM) → zx_E X (d + 9) zc_X11_plan (138, [some (.inr (some (25, 0, 0, 0))), some (.inl x0), some (.inl p2), some (.inl w3), some (.inl w4), e5, e6], [], (zx_lay M, n)) (some (.inl rv), (zx_lay rM, n))) : ∀ (q : Nat) (g5 : Option zx_V) (g6 : Option zx_V) (w3 : Int32) (w4 : Int32) (M : zx_Y), lg_X11_plan_43 x0 p2 kk q w3 w4 M = some (rv, rM) → zx_E X (d + 9) zc_X11_plan (43, [some (.inr (some (25, 0, 0, 0))), some (.inl x0), some (.inl p2), some (.inl w3), some (.inl w4), g5, g6], [], (zx_lay M, n)) (some (.inl rv), (zx_lay rM, n))
  | 0, g5, g6, w3, w4, M, h => by
    rw [lg_X11_plan_43.eq_1] at h
    cases h
  | q + 1, g5, g6, w3, w4, M, h => by
    rw [lg_X11_plan_43.eq_2] at h
    refine zx_E.go 4 (s' := (51, [some (.inr (some (25, 0, 0, 0))), some (.inl x0), some (.inl p2), some (.inl w3), some (.inl w4), g5, g6], [.inl 27, .inr (some (26, 0, 0, 0)), .inl w4], (zx_lay M, n))) rfl ?_
    refine zx_E.iald (k := 27) (h := (26, 0, 0, 0)) rfl rfl rfl (by decide) ?_
    show zx_E _ _ _ (52, [some (.inr (some (25, 0, 0, 0))), some (.inl x0), some (.inl p2), some (.inl w3), some (.inl w4), g5, g6], [.inl (M (26, 0, 0, 0) 27), .inl w4], (zx_lay M, n)) _
    refine zx_E.brh (c := (M (26, 0, 0, 0) 27) ≤ w4) (s1 := (138, [some (.inr (some (25, 0, 0, 0))), some (.inl x0), some (.inl p2), some (.inl w3), some (.inl w4), g5, g6], [], (zx_lay M, n))) (s2 := (55, [some (.inr (some (25, 0, 0, 0))), some (.inl x0), some (.inl p2), some (.inl w3), some (.inl w4), g5, g6], [], (zx_lay M, n))) h (zx_ic_ge rfl) (fun _ h => ?_) (fun _ h => ?_)
    · exact hk _ _ _ _ _ h
    · refine zx_E.go 2 (s' := (58, [some (.inr (some (25, 0, 0, 0))), some (.inl x0), some (.inl p2), some (.inl w3), some (.inl w4), some (.inl 0), g6], [], (zx_lay M, n))) rfl ?_
      refine rl_X11_plan_58 (fun v1 v2 M1 e1 h => ?_) 1000 _ w3 0 M h
      refine zx_E.go 2 (s' := (43, [some (.inr (some (25, 0, 0, 0))), some (.inl x0), some (.inl p2), some (.inl v1), some (.inl (w4 + 1)), some (.inl v2), e1], [], (zx_lay M1, n))) rfl ?_
      exact rl_X11_plan_43 hk q _ _ v1 (w4 + 1) M1 h
def g_X11_plan (M : zx_Y) (x0 : Int32) : Option (Int32 × zx_Y) := (if (M (26, 0, 0, 0) 1) = 0 then (some ((-3), M)) else (zb (g_X11_isIn M x0 1 500) fun v1 => (if v1 = 0 then (some ((-2), M)) else (zm (g_X11_tryMinutes M x0) fun M1 => (lg_X11_plan_43 x0 (M (26, 0, 0, 0) 0) (fun v2 v3 M2 => (zl (zy_ck 31 26 640 M2) fun M3 => (zl (zx_up M3 (26, 0, 0, 0) 475 (M (26, 0, 0, 0) 0)) fun M4 => (zl (zx_up M4 (26, 0, 0, 0) 476 ((M (26, 0, 0, 0) 0) + x0)) fun M5 => (some (v2, M5)))))) 1000 0 0 M1)))))
set_option maxRecDepth 100000 in
set_option maxHeartbeats 4000000 in
theorem r_X11_plan {X : zx_X} {d n : Nat} {M : zx_Y} {x0 : Int32} {rv : Int32} {rM : zx_Y} (h : g_X11_plan M x0 = some (rv, rM)) : zx_run X (d + 10) 185 [.inr (some (25, 0, 0, 0)), .inl x0] (zx_lay M, n) (some (.inl rv), (zx_lay rM, n)) := by
  refine zx_run_of zc_X11_plan [some (.inr (some (25, 0, 0, 0))), some (.inl x0), none, none, none, none, none] rfl rfl ?_
  unfold g_X11_plan at h
  refine zx_E.go 3 (s' := (5, [some (.inr (some (25, 0, 0, 0))), some (.inl x0), none, none, none, none, none], [.inl 1, .inr (some (26, 0, 0, 0))], (zx_lay M, n))) rfl ?_
  refine zx_E.iald (k := 1) (h := (26, 0, 0, 0)) rfl rfl rfl (by decide) ?_
  show zx_E _ _ _ (6, [some (.inr (some (25, 0, 0, 0))), some (.inl x0), none, none, none, none, none], [.inl (M (26, 0, 0, 0) 1)], (zx_lay M, n)) _
  refine zx_E.brh (c := (M (26, 0, 0, 0) 1) = 0) (s1 := (9, [some (.inr (some (25, 0, 0, 0))), some (.inl x0), none, none, none, none, none], [], (zx_lay M, n))) (s2 := (12, [some (.inr (some (25, 0, 0, 0))), some (.inl x0), none, none, none, none, none], [], (zx_lay M, n))) h (zx_if_ne rfl) (fun _ h => ?_) (fun _ h => ?_)
  · refine zx_E.go 1 (s' := (11, [some (.inr (some (25, 0, 0, 0))), some (.inl x0), none, none, none, none, none], [.inl (-3)], (zx_lay M, n))) rfl ?_
    exact zx_E.ri h rfl (fun h => absurd h (by decide))
  · refine zx_E.go 3 (s' := (17, [some (.inr (some (25, 0, 0, 0))), some (.inl x0), none, none, none, none, none], [.inl 500, .inl 1, .inl x0], (zx_lay M, n))) rfl ?_
    refine zx_E.cb (y := 121) (as := [.inl x0, .inl 1, .inl 500]) (rest := []) h rfl (fun _ hv => zx_run_up (by omega) (r_X11_isIn (d := d) hv)) (fun v1 h => ?_)
    show zx_E _ _ _ (20, [some (.inr (some (25, 0, 0, 0))), some (.inl x0), none, none, none, none, none], [.inl v1], (zx_lay M, n)) _
    refine zx_E.brh (c := v1 = 0) (s1 := (23, [some (.inr (some (25, 0, 0, 0))), some (.inl x0), none, none, none, none, none], [], (zx_lay M, n))) (s2 := (26, [some (.inr (some (25, 0, 0, 0))), some (.inl x0), none, none, none, none, none], [], (zx_lay M, n))) h (zx_if_ne rfl) (fun _ h => ?_) (fun _ h => ?_)
    · refine zx_E.go 1 (s' := (25, [some (.inr (some (25, 0, 0, 0))), some (.inl x0), none, none, none, none, none], [.inl (-2)], (zx_lay M, n))) rfl ?_
      exact zx_E.ri h rfl (fun h => absurd h (by decide))
    · refine zx_E.go 3 (s' := (31, [some (.inr (some (25, 0, 0, 0))), some (.inl x0), none, none, none, none, none], [.inl 0, .inr (some (26, 0, 0, 0))], (zx_lay M, n))) rfl ?_
      refine zx_E.iald (k := 0) (h := (26, 0, 0, 0)) rfl rfl rfl (by decide) ?_
      show zx_E _ _ _ (32, [some (.inr (some (25, 0, 0, 0))), some (.inl x0), none, none, none, none, none], [.inl (M (26, 0, 0, 0) 0)], (zx_lay M, n)) _
      refine zx_E.go 5 (s' := (37, [some (.inr (some (25, 0, 0, 0))), some (.inl x0), some (.inl (M (26, 0, 0, 0) 0)), some (.inl 0), none, none, none], [.inl x0, .inr (some (25, 0, 0, 0))], (zx_lay M, n))) rfl ?_
      refine zx_E.cm (y := 183) (as := [.inr (some (25, 0, 0, 0)), .inl x0]) (rest := []) h rfl (fun _ hv => zx_run_up (by omega) (r_X11_tryMinutes (d := d) hv)) (fun M1 h => ?_)
      show zx_E _ _ _ (40, [some (.inr (some (25, 0, 0, 0))), some (.inl x0), some (.inl (M (26, 0, 0, 0) 0)), some (.inl 0), none, none, none], [], (zx_lay M1, n)) _
      refine zx_E.go 2 (s' := (43, [some (.inr (some (25, 0, 0, 0))), some (.inl x0), some (.inl (M (26, 0, 0, 0) 0)), some (.inl 0), some (.inl 0), none, none], [], (zx_lay M1, n))) rfl ?_
      refine rl_X11_plan_43 (fun v2 v3 M2 e1 e2 h => ?_) 1000 _ _ 0 0 M1 h
      refine zx_E.go 4 (s' := (146, [some (.inr (some (25, 0, 0, 0))), some (.inl x0), some (.inl (M (26, 0, 0, 0) 0)), some (.inl v2), some (.inl v3), e1, e2], [.inr (some (26, 0, 0, 0)), .inr (some (31, 0, 0, 0))], (zx_lay M2, n))) rfl ?_
      refine zx_E.cl (y := 171) (as := [.inr (some (31, 0, 0, 0)), .inr (some (26, 0, 0, 0))]) (rest := []) h rfl (zx_run_up (by omega) (r_copy (d := d) (by decide) (by decide) (by decide))) (fun M3 h => ?_)
      show zx_E _ _ _ (149, [some (.inr (some (25, 0, 0, 0))), some (.inl x0), some (.inl (M (26, 0, 0, 0) 0)), some (.inl v2), some (.inl v3), e1, e2], [], (zx_lay M3, n)) _
      refine zx_E.go 4 (s' := (157, [some (.inr (some (25, 0, 0, 0))), some (.inl x0), some (.inl (M (26, 0, 0, 0) 0)), some (.inl v2), some (.inl v3), e1, e2], [.inl (M (26, 0, 0, 0) 0), .inl 475, .inr (some (26, 0, 0, 0))], (zx_lay M3, n))) rfl ?_
      refine zx_E.ia h rfl rfl rfl (by decide) (fun M4 h => ?_)
      show zx_E _ _ _ (158, [some (.inr (some (25, 0, 0, 0))), some (.inl x0), some (.inl (M (26, 0, 0, 0) 0)), some (.inl v2), some (.inl v3), e1, e2], [], (zx_lay M4, n)) _
      refine zx_E.go 5 (s' := (167, [some (.inr (some (25, 0, 0, 0))), some (.inl x0), some (.inl (M (26, 0, 0, 0) 0)), some (.inl v2), some (.inl v3), e1, e2], [.inl x0, .inl (M (26, 0, 0, 0) 0), .inl 476, .inr (some (26, 0, 0, 0))], (zx_lay M4, n))) rfl ?_
      refine zx_E.go 1 (s' := (168, [some (.inr (some (25, 0, 0, 0))), some (.inl x0), some (.inl (M (26, 0, 0, 0) 0)), some (.inl v2), some (.inl v3), e1, e2], [.inl ((M (26, 0, 0, 0) 0) + x0), .inl 476, .inr (some (26, 0, 0, 0))], (zx_lay M4, n))) rfl ?_
      refine zx_E.ia h rfl rfl rfl (by decide) (fun M5 h => ?_)
      show zx_E _ _ _ (169, [some (.inr (some (25, 0, 0, 0))), some (.inl x0), some (.inl (M (26, 0, 0, 0) 0)), some (.inl v2), some (.inl v3), e1, e2], [], (zx_lay M5, n)) _
      refine zx_E.go 1 (s' := (170, [some (.inr (some (25, 0, 0, 0))), some (.inl x0), some (.inl (M (26, 0, 0, 0) 0)), some (.inl v2), some (.inl v3), e1, e2], [.inl v2], (zx_lay M5, n))) rfl ?_
      exact zx_E.ri h rfl (fun h => absurd h (by decide))
def g_X10_isKind (M : zx_Y) (x0 : Int32) : Option Int32 := (if x0 = 0 then (some 1) else (if x0 = 1 then (some 1) else (some 0)))
set_option maxRecDepth 100000 in
set_option maxHeartbeats 4000000 in
theorem r_X10_isKind {X : zx_X} {d n : Nat} {M : zx_Y} {x0 : Int32} {rv : Int32} (h : g_X10_isKind M x0 = some rv) : zx_run X (d + 1) 118 [.inl x0] (zx_lay M, n) (some (.inl rv), (zx_lay M, n)) := by
  refine zx_run_of zc_X10_isKind [some (.inl x0)] rfl rfl ?_
  unfold g_X10_isKind at h
  refine zx_E.go 1 (s' := (1, [some (.inl x0)], [.inl x0], (zx_lay M, n))) rfl ?_
  refine zx_E.brh (c := x0 = 0) (s1 := (9, [some (.inl x0)], [], (zx_lay M, n))) (s2 := (4, [some (.inl x0)], [], (zx_lay M, n))) h (zx_if_eq rfl) (fun _ h => ?_) (fun _ h => ?_)
  · refine zx_E.go 2 (s' := (14, [some (.inl x0)], [.inl 1], (zx_lay M, n))) rfl ?_
    exact zx_E.rp h rfl (fun _ => Or.inr rfl)
  · refine zx_E.go 2 (s' := (6, [some (.inl x0)], [.inl 1, .inl x0], (zx_lay M, n))) rfl ?_
    refine zx_E.brh (c := x0 = 1) (s1 := (9, [some (.inl x0)], [], (zx_lay M, n))) (s2 := (13, [some (.inl x0)], [], (zx_lay M, n))) h (zx_ic_ne rfl) (fun _ h => ?_) (fun _ h => ?_)
    · refine zx_E.go 2 (s' := (14, [some (.inl x0)], [.inl 1], (zx_lay M, n))) rfl ?_
      exact zx_E.rp h rfl (fun _ => Or.inr rfl)
    · refine zx_E.go 1 (s' := (14, [some (.inl x0)], [.inl 0], (zx_lay M, n))) rfl ?_
      exact zx_E.rp h rfl (fun _ => Or.inl rfl)
def g_X3_minuteFor (M : zx_Y) (x0 : Int32) (x1 : Int32) (x2 : Int32) : Option Int32 := (if (M (22, 0, 0, 0) 0) = 0 then (some (-5)) else (zi ((2 * x0) + x1) 20 fun k1 => (zi x2 8 fun k2 => (some (M (24, k1, 0, 0) k2)))))
set_option maxRecDepth 100000 in
set_option maxHeartbeats 4000000 in
theorem r_X3_minuteFor {X : zx_X} {d n : Nat} {M : zx_Y} {x0 : Int32} {x1 : Int32} {x2 : Int32} {rv : Int32} (h : g_X3_minuteFor M x0 x1 x2 = some rv) : zx_run X (d + 1) 54 [.inr (some (22, 0, 0, 0)), .inl x0, .inl x1, .inl x2] (zx_lay M, n) (some (.inl rv), (zx_lay M, n)) := by
  refine zx_run_of zc_X3_minuteFor [some (.inr (some (22, 0, 0, 0))), some (.inl x0), some (.inl x1), some (.inl x2)] rfl rfl ?_
  unfold g_X3_minuteFor at h
  refine zx_E.go 2 (s' := (4, [some (.inr (some (22, 0, 0, 0))), some (.inl x0), some (.inl x1), some (.inl x2)], [.inl (M (22, 0, 0, 0) 0)], (zx_lay M, n))) rfl ?_
  refine zx_E.brh (c := (M (22, 0, 0, 0) 0) = 0) (s1 := (22, [some (.inr (some (22, 0, 0, 0))), some (.inl x0), some (.inl x1), some (.inl x2)], [], (zx_lay M, n))) (s2 := (7, [some (.inr (some (22, 0, 0, 0))), some (.inl x0), some (.inl x1), some (.inl x2)], [], (zx_lay M, n))) h (zx_if_eq rfl) (fun _ h => ?_) (fun _ h => ?_)
  · refine zx_E.go 1 (s' := (24, [some (.inr (some (22, 0, 0, 0))), some (.inl x0), some (.inl x1), some (.inl x2)], [.inl (-5)], (zx_lay M, n))) rfl ?_
    exact zx_E.rp h rfl (fun h => absurd h (by decide))
  · refine zx_E.go 4 (s' := (13, [some (.inr (some (22, 0, 0, 0))), some (.inl x0), some (.inl x1), some (.inl x2)], [.inl x0, .inl 2, .inr (some (23, 0, 0, 0))], (zx_lay M, n))) rfl ?_
    refine zx_E.go 3 (s' := (16, [some (.inr (some (22, 0, 0, 0))), some (.inl x0), some (.inl x1), some (.inl x2)], [.inl ((2 * x0) + x1), .inr (some (23, 0, 0, 0))], (zx_lay M, n))) rfl ?_
    refine zx_E.ix h (fun k1 hx_k1 hl_k1 h => ?_)
    refine zx_E.aald (k := k1) (h := (23, 0, 0, 0)) (h' := (24, k1, 0, 0)) rfl rfl hx_k1 hl_k1 rfl ?_
    show zx_E _ _ _ (17, [some (.inr (some (22, 0, 0, 0))), some (.inl x0), some (.inl x1), some (.inl x2)], [.inr (some (24, k1, 0, 0))], (zx_lay M, n)) _
    refine zx_E.go 1 (s' := (18, [some (.inr (some (22, 0, 0, 0))), some (.inl x0), some (.inl x1), some (.inl x2)], [.inl x2, .inr (some (24, k1, 0, 0))], (zx_lay M, n))) rfl ?_
    refine zx_E.ix h (fun k2 hx_k2 hl_k2 h => ?_)
    refine zx_E.iald (k := k2) (h := (24, k1, 0, 0)) rfl rfl hx_k2 hl_k2 ?_
    show zx_E _ _ _ (19, [some (.inr (some (22, 0, 0, 0))), some (.inl x0), some (.inl x1), some (.inl x2)], [.inl (M (24, k1, 0, 0) k2)], (zx_lay M, n)) _
    refine zx_E.go 1 (s' := (24, [some (.inr (some (22, 0, 0, 0))), some (.inl x0), some (.inl x1), some (.inl x2)], [.inl (M (24, k1, 0, 0) k2)], (zx_lay M, n))) rfl ?_
    exact zx_E.rp h rfl (fun h => absurd h (by decide))
def g_X10_timetable (M : zx_Y) (x0 : Int32) (x1 : Int32) (x2 : Int32) : Option Int32 := (zt M 0 x0 (fun k1 => (zb (g_X2_hasStation M 0 x1) fun v1 => (if v1 = 0 then (some (-1)) else (zb (g_X10_isKind M x2) fun v2 => (if v2 = 0 then (some (-1)) else (zi x2 2 fun k2 => (zi x1 8 fun k3 => (if (M (13, 0, k1, k2) k3) = (-5) then (zb (g_X3_minuteFor M x0 x2 x1) fun v3 => (some v3)) else (some (M (13, 0, k1, k2) k3)))))))))) (some (-1)))
set_option maxRecDepth 100000 in
set_option maxHeartbeats 4000000 in
theorem r_X10_timetable {X : zx_X} {d n : Nat} {M : zx_Y} {x0 : Int32} {x1 : Int32} {x2 : Int32} {rv : Int32} (h : g_X10_timetable M x0 x1 x2 = some rv) : zx_run X (d + 2) 107 [.inr (some (0, 0, 0, 0)), .inl x0, .inl x1, .inl x2] (zx_lay M, n) (some (.inl rv), (zx_lay M, n)) := by
  refine zx_run_of zc_X10_timetable [some (.inr (some (0, 0, 0, 0))), some (.inl x0), some (.inl x1), some (.inl x2), none, none] rfl rfl ?_
  unfold g_X10_timetable at h
  refine zx_E.go 3 (s' := (5, [some (.inr (some (0, 0, 0, 0))), some (.inl x0), some (.inl x1), some (.inl x2), none, none], [.inl x0, .inr (some (1, 0, 0, 0))], (zx_lay M, n))) rfl ?_
  refine zx_E.tw (y := 18) (as := [.inr (some (1, 0, 0, 0)), .inl x0]) (rest := []) h rfl (fun hq => zx_run_up (by omega) (r_X2_trainWith_1 (d := d) hq)) (fun hq => zx_run_up (by omega) (r_X2_trainWith_0 (d := d) hq)) (fun k1 _ h => ?_) (fun h => ?_)
  · show zx_E _ _ _ (8, [some (.inr (some (0, 0, 0, 0))), some (.inl x0), some (.inl x1), some (.inl x2), none, none], [.inr (some (7, 0, k1, 0))], (zx_lay M, n)) _
    refine zx_E.go 6 (s' := (20, [some (.inr (some (0, 0, 0, 0))), some (.inl x0), some (.inl x1), some (.inl x2), some (.inr (some (7, 0, k1, 0))), none], [.inl x1, .inr (some (1, 0, 0, 0))], (zx_lay M, n))) rfl ?_
    refine zx_E.cb (y := 16) (as := [.inr (some (1, 0, 0, 0)), .inl x1]) (rest := []) h rfl (fun _ hv => zx_run_up (by omega) (r_X2_hasStation (d := d) hv)) (fun v1 h => ?_)
    show zx_E _ _ _ (23, [some (.inr (some (0, 0, 0, 0))), some (.inl x0), some (.inl x1), some (.inl x2), some (.inr (some (7, 0, k1, 0))), none], [.inl v1], (zx_lay M, n)) _
    refine zx_E.brh (c := v1 = 0) (s1 := (33, [some (.inr (some (0, 0, 0, 0))), some (.inl x0), some (.inl x1), some (.inl x2), some (.inr (some (7, 0, k1, 0))), none], [], (zx_lay M, n))) (s2 := (26, [some (.inr (some (0, 0, 0, 0))), some (.inl x0), some (.inl x1), some (.inl x2), some (.inr (some (7, 0, k1, 0))), none], [], (zx_lay M, n))) h (zx_if_eq rfl) (fun _ h => ?_) (fun _ h => ?_)
    · refine zx_E.go 1 (s' := (34, [some (.inr (some (0, 0, 0, 0))), some (.inl x0), some (.inl x1), some (.inl x2), some (.inr (some (7, 0, k1, 0))), none], [.inl (-1)], (zx_lay M, n))) rfl ?_
      exact zx_E.rp h rfl (fun h => absurd h (by decide))
    · refine zx_E.go 1 (s' := (27, [some (.inr (some (0, 0, 0, 0))), some (.inl x0), some (.inl x1), some (.inl x2), some (.inr (some (7, 0, k1, 0))), none], [.inl x2], (zx_lay M, n))) rfl ?_
      refine zx_E.cb (y := 118) (as := [.inl x2]) (rest := []) h rfl (fun _ hv => zx_run_up (by omega) (r_X10_isKind (d := d) hv)) (fun v2 h => ?_)
      show zx_E _ _ _ (30, [some (.inr (some (0, 0, 0, 0))), some (.inl x0), some (.inl x1), some (.inl x2), some (.inr (some (7, 0, k1, 0))), none], [.inl v2], (zx_lay M, n)) _
      refine zx_E.brh (c := v2 = 0) (s1 := (33, [some (.inr (some (0, 0, 0, 0))), some (.inl x0), some (.inl x1), some (.inl x2), some (.inr (some (7, 0, k1, 0))), none], [], (zx_lay M, n))) (s2 := (35, [some (.inr (some (0, 0, 0, 0))), some (.inl x0), some (.inl x1), some (.inl x2), some (.inr (some (7, 0, k1, 0))), none], [], (zx_lay M, n))) h (zx_if_ne rfl) (fun _ h => ?_) (fun _ h => ?_)
      · refine zx_E.go 1 (s' := (34, [some (.inr (some (0, 0, 0, 0))), some (.inl x0), some (.inl x1), some (.inl x2), some (.inr (some (7, 0, k1, 0))), none], [.inl (-1)], (zx_lay M, n))) rfl ?_
        exact zx_E.rp h rfl (fun h => absurd h (by decide))
      · refine zx_E.go 3 (s' := (41, [some (.inr (some (0, 0, 0, 0))), some (.inl x0), some (.inl x1), some (.inl x2), some (.inr (some (7, 0, k1, 0))), none], [.inl x2, .inr (some (12, 0, k1, 0))], (zx_lay M, n))) rfl ?_
        refine zx_E.ix h (fun k2 hx_k2 hl_k2 h => ?_)
        refine zx_E.aald (k := k2) (h := (12, 0, k1, 0)) (h' := (13, 0, k1, k2)) rfl rfl hx_k2 hl_k2 rfl ?_
        show zx_E _ _ _ (42, [some (.inr (some (0, 0, 0, 0))), some (.inl x0), some (.inl x1), some (.inl x2), some (.inr (some (7, 0, k1, 0))), none], [.inr (some (13, 0, k1, k2))], (zx_lay M, n)) _
        refine zx_E.go 1 (s' := (43, [some (.inr (some (0, 0, 0, 0))), some (.inl x0), some (.inl x1), some (.inl x2), some (.inr (some (7, 0, k1, 0))), none], [.inl x1, .inr (some (13, 0, k1, k2))], (zx_lay M, n))) rfl ?_
        refine zx_E.ix h (fun k3 hx_k3 hl_k3 h => ?_)
        refine zx_E.iald (k := k3) (h := (13, 0, k1, k2)) rfl rfl hx_k3 hl_k3 ?_
        show zx_E _ _ _ (44, [some (.inr (some (0, 0, 0, 0))), some (.inl x0), some (.inl x1), some (.inl x2), some (.inr (some (7, 0, k1, 0))), none], [.inl (M (13, 0, k1, k2) k3)], (zx_lay M, n)) _
        refine zx_E.go 3 (s' := (50, [some (.inr (some (0, 0, 0, 0))), some (.inl x0), some (.inl x1), some (.inl x2), some (.inr (some (7, 0, k1, 0))), some (.inl (M (13, 0, k1, k2) k3))], [.inl (-5), .inl (M (13, 0, k1, k2) k3)], (zx_lay M, n))) rfl ?_
        refine zx_E.brh (c := (M (13, 0, k1, k2) k3) = (-5)) (s1 := (58, [some (.inr (some (0, 0, 0, 0))), some (.inl x0), some (.inl x1), some (.inl x2), some (.inr (some (7, 0, k1, 0))), some (.inl (M (13, 0, k1, k2) k3))], [], (zx_lay M, n))) (s2 := (53, [some (.inr (some (0, 0, 0, 0))), some (.inl x0), some (.inl x1), some (.inl x2), some (.inr (some (7, 0, k1, 0))), some (.inl (M (13, 0, k1, k2) k3))], [], (zx_lay M, n))) h (zx_ic_eq rfl) (fun _ h => ?_) (fun _ h => ?_)
        · refine zx_E.go 5 (s' := (65, [some (.inr (some (0, 0, 0, 0))), some (.inl x0), some (.inl x1), some (.inl x2), some (.inr (some (7, 0, k1, 0))), some (.inl (M (13, 0, k1, k2) k3))], [.inl x1, .inl x2, .inl x0, .inr (some (22, 0, 0, 0))], (zx_lay M, n))) rfl ?_
          refine zx_E.cb (y := 54) (as := [.inr (some (22, 0, 0, 0)), .inl x0, .inl x2, .inl x1]) (rest := []) h rfl (fun _ hv => zx_run_up (by omega) (r_X3_minuteFor (d := d) hv)) (fun v3 h => ?_)
          show zx_E _ _ _ (68, [some (.inr (some (0, 0, 0, 0))), some (.inl x0), some (.inl x1), some (.inl x2), some (.inr (some (7, 0, k1, 0))), some (.inl (M (13, 0, k1, k2) k3))], [.inl v3], (zx_lay M, n)) _
          exact zx_E.rp h rfl (fun h => absurd h (by decide))
        · refine zx_E.go 2 (s' := (68, [some (.inr (some (0, 0, 0, 0))), some (.inl x0), some (.inl x1), some (.inl x2), some (.inr (some (7, 0, k1, 0))), some (.inl (M (13, 0, k1, k2) k3))], [.inl (M (13, 0, k1, k2) k3)], (zx_lay M, n))) rfl ?_
          exact zx_E.rp h rfl (fun h => absurd h (by decide))
  · show zx_E _ _ _ (8, [some (.inr (some (0, 0, 0, 0))), some (.inl x0), some (.inl x1), some (.inl x2), none, none], [.inr none], (zx_lay M, n)) _
    refine zx_E.go 4 (s' := (34, [some (.inr (some (0, 0, 0, 0))), some (.inl x0), some (.inl x1), some (.inl x2), some (.inr none), none], [.inl (-1)], (zx_lay M, n))) rfl ?_
    exact zx_E.rp h rfl (fun h => absurd h (by decide))
def g_X11_timetable (M : zx_Y) (x0 : Int32) (x1 : Int32) (x2 : Int32) : Option Int32 := (zb (g_X11_isTrain M x0) fun v1 => (if v1 = 0 then (some (-1)) else (zb (g_X11_isStation M x1) fun v2 => (if v2 = 0 then (some (-1)) else (zb (g_X11_isIn M x2 0 1) fun v3 => (if v3 = 0 then (some (-1)) else (zb (g_X11_happened M x0 ((8 * x2) + x1)) fun v4 => (if v4 = (-5) then (if (M (26, 0, 0, 0) 476) ≤ 0 then (some (-5)) else (zi ((477 + (16 * x0)) + ((8 * x2) + x1)) 640 fun k1 => (some (M (26, 0, 0, 0) k1)))) else (zb (g_X11_happened M x0 ((8 * x2) + x1)) fun v5 => (some v5))))))))))
set_option maxRecDepth 100000 in
set_option maxHeartbeats 4000000 in
theorem r_X11_timetable {X : zx_X} {d n : Nat} {M : zx_Y} {x0 : Int32} {x1 : Int32} {x2 : Int32} {rv : Int32} (h : g_X11_timetable M x0 x1 x2 = some rv) : zx_run X (d + 3) 186 [.inr (some (25, 0, 0, 0)), .inl x0, .inl x1, .inl x2] (zx_lay M, n) (some (.inl rv), (zx_lay M, n)) := by
  refine zx_run_of zc_X11_timetable [some (.inr (some (25, 0, 0, 0))), some (.inl x0), some (.inl x1), some (.inl x2), none] rfl rfl ?_
  unfold g_X11_timetable at h
  refine zx_E.go 2 (s' := (2, [some (.inr (some (25, 0, 0, 0))), some (.inl x0), some (.inl x1), some (.inl x2), none], [.inl x0, .inr (some (25, 0, 0, 0))], (zx_lay M, n))) rfl ?_
  refine zx_E.cb (y := 124) (as := [.inr (some (25, 0, 0, 0)), .inl x0]) (rest := []) h rfl (fun _ hv => zx_run_up (by omega) (r_X11_isTrain (d := d) hv)) (fun v1 h => ?_)
  show zx_E _ _ _ (5, [some (.inr (some (25, 0, 0, 0))), some (.inl x0), some (.inl x1), some (.inl x2), none], [.inl v1], (zx_lay M, n)) _
  refine zx_E.brh (c := v1 = 0) (s1 := (25, [some (.inr (some (25, 0, 0, 0))), some (.inl x0), some (.inl x1), some (.inl x2), none], [], (zx_lay M, n))) (s2 := (8, [some (.inr (some (25, 0, 0, 0))), some (.inl x0), some (.inl x1), some (.inl x2), none], [], (zx_lay M, n))) h (zx_if_eq rfl) (fun _ h => ?_) (fun _ h => ?_)
  · refine zx_E.go 1 (s' := (26, [some (.inr (some (25, 0, 0, 0))), some (.inl x0), some (.inl x1), some (.inl x2), none], [.inl (-1)], (zx_lay M, n))) rfl ?_
    exact zx_E.rp h rfl (fun h => absurd h (by decide))
  · refine zx_E.go 2 (s' := (10, [some (.inr (some (25, 0, 0, 0))), some (.inl x0), some (.inl x1), some (.inl x2), none], [.inl x1, .inr (some (25, 0, 0, 0))], (zx_lay M, n))) rfl ?_
    refine zx_E.cb (y := 122) (as := [.inr (some (25, 0, 0, 0)), .inl x1]) (rest := []) h rfl (fun _ hv => zx_run_up (by omega) (r_X11_isStation (d := d) hv)) (fun v2 h => ?_)
    show zx_E _ _ _ (13, [some (.inr (some (25, 0, 0, 0))), some (.inl x0), some (.inl x1), some (.inl x2), none], [.inl v2], (zx_lay M, n)) _
    refine zx_E.brh (c := v2 = 0) (s1 := (25, [some (.inr (some (25, 0, 0, 0))), some (.inl x0), some (.inl x1), some (.inl x2), none], [], (zx_lay M, n))) (s2 := (16, [some (.inr (some (25, 0, 0, 0))), some (.inl x0), some (.inl x1), some (.inl x2), none], [], (zx_lay M, n))) h (zx_if_eq rfl) (fun _ h => ?_) (fun _ h => ?_)
    · refine zx_E.go 1 (s' := (26, [some (.inr (some (25, 0, 0, 0))), some (.inl x0), some (.inl x1), some (.inl x2), none], [.inl (-1)], (zx_lay M, n))) rfl ?_
      exact zx_E.rp h rfl (fun h => absurd h (by decide))
    · refine zx_E.go 3 (s' := (19, [some (.inr (some (25, 0, 0, 0))), some (.inl x0), some (.inl x1), some (.inl x2), none], [.inl 1, .inl 0, .inl x2], (zx_lay M, n))) rfl ?_
      refine zx_E.cb (y := 121) (as := [.inl x2, .inl 0, .inl 1]) (rest := []) h rfl (fun _ hv => zx_run_up (by omega) (r_X11_isIn (d := d) hv)) (fun v3 h => ?_)
      show zx_E _ _ _ (22, [some (.inr (some (25, 0, 0, 0))), some (.inl x0), some (.inl x1), some (.inl x2), none], [.inl v3], (zx_lay M, n)) _
      refine zx_E.brh (c := v3 = 0) (s1 := (25, [some (.inr (some (25, 0, 0, 0))), some (.inl x0), some (.inl x1), some (.inl x2), none], [], (zx_lay M, n))) (s2 := (27, [some (.inr (some (25, 0, 0, 0))), some (.inl x0), some (.inl x1), some (.inl x2), none], [], (zx_lay M, n))) h (zx_if_ne rfl) (fun _ h => ?_) (fun _ h => ?_)
      · refine zx_E.go 1 (s' := (26, [some (.inr (some (25, 0, 0, 0))), some (.inl x0), some (.inl x1), some (.inl x2), none], [.inl (-1)], (zx_lay M, n))) rfl ?_
        exact zx_E.rp h rfl (fun h => absurd h (by decide))
      · refine zx_E.go 9 (s' := (39, [some (.inr (some (25, 0, 0, 0))), some (.inl x0), some (.inl x1), some (.inl x2), some (.inl ((8 * x2) + x1))], [.inl ((8 * x2) + x1), .inl x0, .inr (some (25, 0, 0, 0))], (zx_lay M, n))) rfl ?_
        refine zx_E.cb (y := 184) (as := [.inr (some (25, 0, 0, 0)), .inl x0, .inl ((8 * x2) + x1)]) (rest := []) h rfl (fun _ hv => zx_run_up (by omega) (r_X11_happened (d := d) hv)) (fun v4 h => ?_)
        show zx_E _ _ _ (42, [some (.inr (some (25, 0, 0, 0))), some (.inl x0), some (.inl x1), some (.inl x2), some (.inl ((8 * x2) + x1))], [.inl v4], (zx_lay M, n)) _
        refine zx_E.go 1 (s' := (44, [some (.inr (some (25, 0, 0, 0))), some (.inl x0), some (.inl x1), some (.inl x2), some (.inl ((8 * x2) + x1))], [.inl (-5), .inl v4], (zx_lay M, n))) rfl ?_
        refine zx_E.brh (c := v4 = (-5)) (s1 := (57, [some (.inr (some (25, 0, 0, 0))), some (.inl x0), some (.inl x1), some (.inl x2), some (.inl ((8 * x2) + x1))], [], (zx_lay M, n))) (s2 := (47, [some (.inr (some (25, 0, 0, 0))), some (.inl x0), some (.inl x1), some (.inl x2), some (.inl ((8 * x2) + x1))], [], (zx_lay M, n))) h (zx_ic_eq rfl) (fun _ h => ?_) (fun _ h => ?_)
        · refine zx_E.go 3 (s' := (64, [some (.inr (some (25, 0, 0, 0))), some (.inl x0), some (.inl x1), some (.inl x2), some (.inl ((8 * x2) + x1))], [.inl 476, .inr (some (26, 0, 0, 0))], (zx_lay M, n))) rfl ?_
          refine zx_E.iald (k := 476) (h := (26, 0, 0, 0)) rfl rfl rfl (by decide) ?_
          show zx_E _ _ _ (65, [some (.inr (some (25, 0, 0, 0))), some (.inl x0), some (.inl x1), some (.inl x2), some (.inl ((8 * x2) + x1))], [.inl (M (26, 0, 0, 0) 476)], (zx_lay M, n)) _
          refine zx_E.brh (c := (M (26, 0, 0, 0) 476) ≤ 0) (s1 := (87, [some (.inr (some (25, 0, 0, 0))), some (.inl x0), some (.inl x1), some (.inl x2), some (.inl ((8 * x2) + x1))], [], (zx_lay M, n))) (s2 := (68, [some (.inr (some (25, 0, 0, 0))), some (.inl x0), some (.inl x1), some (.inl x2), some (.inl ((8 * x2) + x1))], [], (zx_lay M, n))) h (zx_if_le rfl) (fun _ h => ?_) (fun _ h => ?_)
          · refine zx_E.go 1 (s' := (89, [some (.inr (some (25, 0, 0, 0))), some (.inl x0), some (.inl x1), some (.inl x2), some (.inl ((8 * x2) + x1))], [.inl (-5)], (zx_lay M, n))) rfl ?_
            exact zx_E.rp h rfl (fun h => absurd h (by decide))
          · refine zx_E.go 5 (s' := (78, [some (.inr (some (25, 0, 0, 0))), some (.inl x0), some (.inl x1), some (.inl x2), some (.inl ((8 * x2) + x1))], [.inl x0, .inl 16, .inl 477, .inr (some (26, 0, 0, 0))], (zx_lay M, n))) rfl ?_
            refine zx_E.go 4 (s' := (83, [some (.inr (some (25, 0, 0, 0))), some (.inl x0), some (.inl x1), some (.inl x2), some (.inl ((8 * x2) + x1))], [.inl ((477 + (16 * x0)) + ((8 * x2) + x1)), .inr (some (26, 0, 0, 0))], (zx_lay M, n))) rfl ?_
            refine zx_E.ix h (fun k1 hx_k1 hl_k1 h => ?_)
            refine zx_E.iald (k := k1) (h := (26, 0, 0, 0)) rfl rfl hx_k1 hl_k1 ?_
            show zx_E _ _ _ (84, [some (.inr (some (25, 0, 0, 0))), some (.inl x0), some (.inl x1), some (.inl x2), some (.inl ((8 * x2) + x1))], [.inl (M (26, 0, 0, 0) k1)], (zx_lay M, n)) _
            refine zx_E.go 1 (s' := (89, [some (.inr (some (25, 0, 0, 0))), some (.inl x0), some (.inl x1), some (.inl x2), some (.inl ((8 * x2) + x1))], [.inl (M (26, 0, 0, 0) k1)], (zx_lay M, n))) rfl ?_
            exact zx_E.rp h rfl (fun h => absurd h (by decide))
        · refine zx_E.go 3 (s' := (51, [some (.inr (some (25, 0, 0, 0))), some (.inl x0), some (.inl x1), some (.inl x2), some (.inl ((8 * x2) + x1))], [.inl ((8 * x2) + x1), .inl x0, .inr (some (25, 0, 0, 0))], (zx_lay M, n))) rfl ?_
          refine zx_E.cb (y := 184) (as := [.inr (some (25, 0, 0, 0)), .inl x0, .inl ((8 * x2) + x1)]) (rest := []) h rfl (fun _ hv => zx_run_up (by omega) (r_X11_happened (d := d) hv)) (fun v5 h => ?_)
          show zx_E _ _ _ (54, [some (.inr (some (25, 0, 0, 0))), some (.inl x0), some (.inl x1), some (.inl x2), some (.inl ((8 * x2) + x1))], [.inl v5], (zx_lay M, n)) _
          refine zx_E.go 1 (s' := (89, [some (.inr (some (25, 0, 0, 0))), some (.inl x0), some (.inl x1), some (.inl x2), some (.inl ((8 * x2) + x1))], [.inl v5], (zx_lay M, n))) rfl ?_
          exact zx_E.rp h rfl (fun h => absurd h (by decide))
def g_X3_deviates (M : zx_Y) (x0 : Int32) (x1 : Int32) (x2 : Int32) : Option Int32 := (if x0 = (-5) then (if x1 ≤ (M (22, 0, 0, 0) 1) then (some 0) else (if (M (22, 0, 0, 0) 2) < x1 then (some 0) else (if x0 = x1 then (some 0) else (some 1)))) else (if x2 < x0 then (if x1 ≤ (M (22, 0, 0, 0) 1) then (some 0) else (if (M (22, 0, 0, 0) 2) < x1 then (some 0) else (if x0 = x1 then (some 0) else (some 1)))) else (if x1 ≤ (M (22, 0, 0, 0) 1) then (if x0 = x1 then (some 0) else (some 1)) else (if (M (22, 0, 0, 0) 2) < x1 then (if x0 = x1 then (some 0) else (some 1)) else (if x0 = x1 then (some 0) else (some 1))))))
set_option maxRecDepth 100000 in
set_option maxHeartbeats 4000000 in
theorem r_X3_deviates {X : zx_X} {d n : Nat} {M : zx_Y} {x0 : Int32} {x1 : Int32} {x2 : Int32} {rv : Int32} (h : g_X3_deviates M x0 x1 x2 = some rv) : zx_run X (d + 1) 56 [.inr (some (22, 0, 0, 0)), .inl x0, .inl x1, .inl x2] (zx_lay M, n) (some (.inl rv), (zx_lay M, n)) := by
  refine zx_run_of zc_X3_deviates [some (.inr (some (22, 0, 0, 0))), some (.inl x0), some (.inl x1), some (.inl x2), none, none] rfl rfl ?_
  unfold g_X3_deviates at h
  refine zx_E.go 2 (s' := (3, [some (.inr (some (22, 0, 0, 0))), some (.inl x0), some (.inl x1), some (.inl x2), none, none], [.inl (-5), .inl x0], (zx_lay M, n))) rfl ?_
  refine zx_E.brh (c := x0 = (-5)) (s1 := (15, [some (.inr (some (22, 0, 0, 0))), some (.inl x0), some (.inl x1), some (.inl x2), none, none], [], (zx_lay M, n))) (s2 := (6, [some (.inr (some (22, 0, 0, 0))), some (.inl x0), some (.inl x1), some (.inl x2), none, none], [], (zx_lay M, n))) h (zx_ic_eq rfl) (fun _ h => ?_) (fun _ h => ?_)
  · refine zx_E.go 5 (s' := (23, [some (.inr (some (22, 0, 0, 0))), some (.inl x0), some (.inl x1), some (.inl x2), some (.inl 0), none], [.inl (M (22, 0, 0, 0) 1), .inl x1], (zx_lay M, n))) rfl ?_
    refine zx_E.brh (c := x1 ≤ (M (22, 0, 0, 0) 1)) (s1 := (38, [some (.inr (some (22, 0, 0, 0))), some (.inl x0), some (.inl x1), some (.inl x2), some (.inl 0), none], [], (zx_lay M, n))) (s2 := (26, [some (.inr (some (22, 0, 0, 0))), some (.inl x0), some (.inl x1), some (.inl x2), some (.inl 0), none], [], (zx_lay M, n))) h (zx_ic_le rfl) (fun _ h => ?_) (fun _ h => ?_)
    · refine zx_E.go 3 (s' := (43, [some (.inr (some (22, 0, 0, 0))), some (.inl x0), some (.inl x1), some (.inl x2), some (.inl 0), some (.inl 0)], [.inl 0], (zx_lay M, n))) rfl ?_
      refine zx_E.bt (c := ((0 : Int32) = 0 : Prop)) (s1 := (46, [some (.inr (some (22, 0, 0, 0))), some (.inl x0), some (.inl x1), some (.inl x2), some (.inl 0), some (.inl 0)], [], (zx_lay M, n))) (s2 := (51, [some (.inr (some (22, 0, 0, 0))), some (.inl x0), some (.inl x1), some (.inl x2), some (.inl 0), some (.inl 0)], [], (zx_lay M, n))) (zx_if_ne rfl) (by decide) ?_
      refine zx_E.go 1 (s' := (48, [some (.inr (some (22, 0, 0, 0))), some (.inl x0), some (.inl x1), some (.inl x2), some (.inl 0), some (.inl 0)], [.inl 0], (zx_lay M, n))) rfl ?_
      refine zx_E.bt (c := ((0 : Int32) = 0 : Prop)) (s1 := (60, [some (.inr (some (22, 0, 0, 0))), some (.inl x0), some (.inl x1), some (.inl x2), some (.inl 0), some (.inl 0)], [], (zx_lay M, n))) (s2 := (51, [some (.inr (some (22, 0, 0, 0))), some (.inl x0), some (.inl x1), some (.inl x2), some (.inl 0), some (.inl 0)], [], (zx_lay M, n))) (zx_if_eq rfl) (by decide) ?_
      refine zx_E.go 1 (s' := (61, [some (.inr (some (22, 0, 0, 0))), some (.inl x0), some (.inl x1), some (.inl x2), some (.inl 0), some (.inl 0)], [.inl 0], (zx_lay M, n))) rfl ?_
      exact zx_E.rp h rfl (fun _ => Or.inl rfl)
    · refine zx_E.go 3 (s' := (31, [some (.inr (some (22, 0, 0, 0))), some (.inl x0), some (.inl x1), some (.inl x2), some (.inl 0), none], [.inl (M (22, 0, 0, 0) 2), .inl x1], (zx_lay M, n))) rfl ?_
      refine zx_E.brh (c := (M (22, 0, 0, 0) 2) < x1) (s1 := (38, [some (.inr (some (22, 0, 0, 0))), some (.inl x0), some (.inl x1), some (.inl x2), some (.inl 0), none], [], (zx_lay M, n))) (s2 := (34, [some (.inr (some (22, 0, 0, 0))), some (.inl x0), some (.inl x1), some (.inl x2), some (.inl 0), none], [], (zx_lay M, n))) h (zx_ic_gt rfl) (fun _ h => ?_) (fun _ h => ?_)
      · refine zx_E.go 3 (s' := (43, [some (.inr (some (22, 0, 0, 0))), some (.inl x0), some (.inl x1), some (.inl x2), some (.inl 0), some (.inl 0)], [.inl 0], (zx_lay M, n))) rfl ?_
        refine zx_E.bt (c := ((0 : Int32) = 0 : Prop)) (s1 := (46, [some (.inr (some (22, 0, 0, 0))), some (.inl x0), some (.inl x1), some (.inl x2), some (.inl 0), some (.inl 0)], [], (zx_lay M, n))) (s2 := (51, [some (.inr (some (22, 0, 0, 0))), some (.inl x0), some (.inl x1), some (.inl x2), some (.inl 0), some (.inl 0)], [], (zx_lay M, n))) (zx_if_ne rfl) (by decide) ?_
        refine zx_E.go 1 (s' := (48, [some (.inr (some (22, 0, 0, 0))), some (.inl x0), some (.inl x1), some (.inl x2), some (.inl 0), some (.inl 0)], [.inl 0], (zx_lay M, n))) rfl ?_
        refine zx_E.bt (c := ((0 : Int32) = 0 : Prop)) (s1 := (60, [some (.inr (some (22, 0, 0, 0))), some (.inl x0), some (.inl x1), some (.inl x2), some (.inl 0), some (.inl 0)], [], (zx_lay M, n))) (s2 := (51, [some (.inr (some (22, 0, 0, 0))), some (.inl x0), some (.inl x1), some (.inl x2), some (.inl 0), some (.inl 0)], [], (zx_lay M, n))) (zx_if_eq rfl) (by decide) ?_
        refine zx_E.go 1 (s' := (61, [some (.inr (some (22, 0, 0, 0))), some (.inl x0), some (.inl x1), some (.inl x2), some (.inl 0), some (.inl 0)], [.inl 0], (zx_lay M, n))) rfl ?_
        exact zx_E.rp h rfl (fun _ => Or.inl rfl)
      · refine zx_E.go 4 (s' := (43, [some (.inr (some (22, 0, 0, 0))), some (.inl x0), some (.inl x1), some (.inl x2), some (.inl 0), some (.inl 1)], [.inl 0], (zx_lay M, n))) rfl ?_
        refine zx_E.bt (c := ((0 : Int32) = 0 : Prop)) (s1 := (46, [some (.inr (some (22, 0, 0, 0))), some (.inl x0), some (.inl x1), some (.inl x2), some (.inl 0), some (.inl 1)], [], (zx_lay M, n))) (s2 := (51, [some (.inr (some (22, 0, 0, 0))), some (.inl x0), some (.inl x1), some (.inl x2), some (.inl 0), some (.inl 1)], [], (zx_lay M, n))) (zx_if_ne rfl) (by decide) ?_
        refine zx_E.go 1 (s' := (48, [some (.inr (some (22, 0, 0, 0))), some (.inl x0), some (.inl x1), some (.inl x2), some (.inl 0), some (.inl 1)], [.inl 1], (zx_lay M, n))) rfl ?_
        refine zx_E.bf (c := ((1 : Int32) = 0 : Prop)) (s1 := (60, [some (.inr (some (22, 0, 0, 0))), some (.inl x0), some (.inl x1), some (.inl x2), some (.inl 0), some (.inl 1)], [], (zx_lay M, n))) (s2 := (51, [some (.inr (some (22, 0, 0, 0))), some (.inl x0), some (.inl x1), some (.inl x2), some (.inl 0), some (.inl 1)], [], (zx_lay M, n))) (zx_if_eq rfl) (by decide) ?_
        refine zx_E.go 2 (s' := (53, [some (.inr (some (22, 0, 0, 0))), some (.inl x0), some (.inl x1), some (.inl x2), some (.inl 0), some (.inl 1)], [.inl x1, .inl x0], (zx_lay M, n))) rfl ?_
        refine zx_E.brh (c := x0 = x1) (s1 := (60, [some (.inr (some (22, 0, 0, 0))), some (.inl x0), some (.inl x1), some (.inl x2), some (.inl 0), some (.inl 1)], [], (zx_lay M, n))) (s2 := (56, [some (.inr (some (22, 0, 0, 0))), some (.inl x0), some (.inl x1), some (.inl x2), some (.inl 0), some (.inl 1)], [], (zx_lay M, n))) h (zx_ic_eq rfl) (fun _ h => ?_) (fun _ h => ?_)
        · refine zx_E.go 1 (s' := (61, [some (.inr (some (22, 0, 0, 0))), some (.inl x0), some (.inl x1), some (.inl x2), some (.inl 0), some (.inl 1)], [.inl 0], (zx_lay M, n))) rfl ?_
          exact zx_E.rp h rfl (fun _ => Or.inl rfl)
        · refine zx_E.go 2 (s' := (61, [some (.inr (some (22, 0, 0, 0))), some (.inl x0), some (.inl x1), some (.inl x2), some (.inl 0), some (.inl 1)], [.inl 1], (zx_lay M, n))) rfl ?_
          exact zx_E.rp h rfl (fun _ => Or.inr rfl)
  · refine zx_E.go 2 (s' := (8, [some (.inr (some (22, 0, 0, 0))), some (.inl x0), some (.inl x1), some (.inl x2), none, none], [.inl x2, .inl x0], (zx_lay M, n))) rfl ?_
    refine zx_E.brh (c := x2 < x0) (s1 := (15, [some (.inr (some (22, 0, 0, 0))), some (.inl x0), some (.inl x1), some (.inl x2), none, none], [], (zx_lay M, n))) (s2 := (11, [some (.inr (some (22, 0, 0, 0))), some (.inl x0), some (.inl x1), some (.inl x2), none, none], [], (zx_lay M, n))) h (zx_ic_gt rfl) (fun _ h => ?_) (fun _ h => ?_)
    · refine zx_E.go 5 (s' := (23, [some (.inr (some (22, 0, 0, 0))), some (.inl x0), some (.inl x1), some (.inl x2), some (.inl 0), none], [.inl (M (22, 0, 0, 0) 1), .inl x1], (zx_lay M, n))) rfl ?_
      refine zx_E.brh (c := x1 ≤ (M (22, 0, 0, 0) 1)) (s1 := (38, [some (.inr (some (22, 0, 0, 0))), some (.inl x0), some (.inl x1), some (.inl x2), some (.inl 0), none], [], (zx_lay M, n))) (s2 := (26, [some (.inr (some (22, 0, 0, 0))), some (.inl x0), some (.inl x1), some (.inl x2), some (.inl 0), none], [], (zx_lay M, n))) h (zx_ic_le rfl) (fun _ h => ?_) (fun _ h => ?_)
      · refine zx_E.go 3 (s' := (43, [some (.inr (some (22, 0, 0, 0))), some (.inl x0), some (.inl x1), some (.inl x2), some (.inl 0), some (.inl 0)], [.inl 0], (zx_lay M, n))) rfl ?_
        refine zx_E.bt (c := ((0 : Int32) = 0 : Prop)) (s1 := (46, [some (.inr (some (22, 0, 0, 0))), some (.inl x0), some (.inl x1), some (.inl x2), some (.inl 0), some (.inl 0)], [], (zx_lay M, n))) (s2 := (51, [some (.inr (some (22, 0, 0, 0))), some (.inl x0), some (.inl x1), some (.inl x2), some (.inl 0), some (.inl 0)], [], (zx_lay M, n))) (zx_if_ne rfl) (by decide) ?_
        refine zx_E.go 1 (s' := (48, [some (.inr (some (22, 0, 0, 0))), some (.inl x0), some (.inl x1), some (.inl x2), some (.inl 0), some (.inl 0)], [.inl 0], (zx_lay M, n))) rfl ?_
        refine zx_E.bt (c := ((0 : Int32) = 0 : Prop)) (s1 := (60, [some (.inr (some (22, 0, 0, 0))), some (.inl x0), some (.inl x1), some (.inl x2), some (.inl 0), some (.inl 0)], [], (zx_lay M, n))) (s2 := (51, [some (.inr (some (22, 0, 0, 0))), some (.inl x0), some (.inl x1), some (.inl x2), some (.inl 0), some (.inl 0)], [], (zx_lay M, n))) (zx_if_eq rfl) (by decide) ?_
        refine zx_E.go 1 (s' := (61, [some (.inr (some (22, 0, 0, 0))), some (.inl x0), some (.inl x1), some (.inl x2), some (.inl 0), some (.inl 0)], [.inl 0], (zx_lay M, n))) rfl ?_
        exact zx_E.rp h rfl (fun _ => Or.inl rfl)
      · refine zx_E.go 3 (s' := (31, [some (.inr (some (22, 0, 0, 0))), some (.inl x0), some (.inl x1), some (.inl x2), some (.inl 0), none], [.inl (M (22, 0, 0, 0) 2), .inl x1], (zx_lay M, n))) rfl ?_
        refine zx_E.brh (c := (M (22, 0, 0, 0) 2) < x1) (s1 := (38, [some (.inr (some (22, 0, 0, 0))), some (.inl x0), some (.inl x1), some (.inl x2), some (.inl 0), none], [], (zx_lay M, n))) (s2 := (34, [some (.inr (some (22, 0, 0, 0))), some (.inl x0), some (.inl x1), some (.inl x2), some (.inl 0), none], [], (zx_lay M, n))) h (zx_ic_gt rfl) (fun _ h => ?_) (fun _ h => ?_)
        · refine zx_E.go 3 (s' := (43, [some (.inr (some (22, 0, 0, 0))), some (.inl x0), some (.inl x1), some (.inl x2), some (.inl 0), some (.inl 0)], [.inl 0], (zx_lay M, n))) rfl ?_
          refine zx_E.bt (c := ((0 : Int32) = 0 : Prop)) (s1 := (46, [some (.inr (some (22, 0, 0, 0))), some (.inl x0), some (.inl x1), some (.inl x2), some (.inl 0), some (.inl 0)], [], (zx_lay M, n))) (s2 := (51, [some (.inr (some (22, 0, 0, 0))), some (.inl x0), some (.inl x1), some (.inl x2), some (.inl 0), some (.inl 0)], [], (zx_lay M, n))) (zx_if_ne rfl) (by decide) ?_
          refine zx_E.go 1 (s' := (48, [some (.inr (some (22, 0, 0, 0))), some (.inl x0), some (.inl x1), some (.inl x2), some (.inl 0), some (.inl 0)], [.inl 0], (zx_lay M, n))) rfl ?_
          refine zx_E.bt (c := ((0 : Int32) = 0 : Prop)) (s1 := (60, [some (.inr (some (22, 0, 0, 0))), some (.inl x0), some (.inl x1), some (.inl x2), some (.inl 0), some (.inl 0)], [], (zx_lay M, n))) (s2 := (51, [some (.inr (some (22, 0, 0, 0))), some (.inl x0), some (.inl x1), some (.inl x2), some (.inl 0), some (.inl 0)], [], (zx_lay M, n))) (zx_if_eq rfl) (by decide) ?_
          refine zx_E.go 1 (s' := (61, [some (.inr (some (22, 0, 0, 0))), some (.inl x0), some (.inl x1), some (.inl x2), some (.inl 0), some (.inl 0)], [.inl 0], (zx_lay M, n))) rfl ?_
          exact zx_E.rp h rfl (fun _ => Or.inl rfl)
        · refine zx_E.go 4 (s' := (43, [some (.inr (some (22, 0, 0, 0))), some (.inl x0), some (.inl x1), some (.inl x2), some (.inl 0), some (.inl 1)], [.inl 0], (zx_lay M, n))) rfl ?_
          refine zx_E.bt (c := ((0 : Int32) = 0 : Prop)) (s1 := (46, [some (.inr (some (22, 0, 0, 0))), some (.inl x0), some (.inl x1), some (.inl x2), some (.inl 0), some (.inl 1)], [], (zx_lay M, n))) (s2 := (51, [some (.inr (some (22, 0, 0, 0))), some (.inl x0), some (.inl x1), some (.inl x2), some (.inl 0), some (.inl 1)], [], (zx_lay M, n))) (zx_if_ne rfl) (by decide) ?_
          refine zx_E.go 1 (s' := (48, [some (.inr (some (22, 0, 0, 0))), some (.inl x0), some (.inl x1), some (.inl x2), some (.inl 0), some (.inl 1)], [.inl 1], (zx_lay M, n))) rfl ?_
          refine zx_E.bf (c := ((1 : Int32) = 0 : Prop)) (s1 := (60, [some (.inr (some (22, 0, 0, 0))), some (.inl x0), some (.inl x1), some (.inl x2), some (.inl 0), some (.inl 1)], [], (zx_lay M, n))) (s2 := (51, [some (.inr (some (22, 0, 0, 0))), some (.inl x0), some (.inl x1), some (.inl x2), some (.inl 0), some (.inl 1)], [], (zx_lay M, n))) (zx_if_eq rfl) (by decide) ?_
          refine zx_E.go 2 (s' := (53, [some (.inr (some (22, 0, 0, 0))), some (.inl x0), some (.inl x1), some (.inl x2), some (.inl 0), some (.inl 1)], [.inl x1, .inl x0], (zx_lay M, n))) rfl ?_
          refine zx_E.brh (c := x0 = x1) (s1 := (60, [some (.inr (some (22, 0, 0, 0))), some (.inl x0), some (.inl x1), some (.inl x2), some (.inl 0), some (.inl 1)], [], (zx_lay M, n))) (s2 := (56, [some (.inr (some (22, 0, 0, 0))), some (.inl x0), some (.inl x1), some (.inl x2), some (.inl 0), some (.inl 1)], [], (zx_lay M, n))) h (zx_ic_eq rfl) (fun _ h => ?_) (fun _ h => ?_)
          · refine zx_E.go 1 (s' := (61, [some (.inr (some (22, 0, 0, 0))), some (.inl x0), some (.inl x1), some (.inl x2), some (.inl 0), some (.inl 1)], [.inl 0], (zx_lay M, n))) rfl ?_
            exact zx_E.rp h rfl (fun _ => Or.inl rfl)
          · refine zx_E.go 2 (s' := (61, [some (.inr (some (22, 0, 0, 0))), some (.inl x0), some (.inl x1), some (.inl x2), some (.inl 0), some (.inl 1)], [.inl 1], (zx_lay M, n))) rfl ?_
            exact zx_E.rp h rfl (fun _ => Or.inr rfl)
    · refine zx_E.go 6 (s' := (23, [some (.inr (some (22, 0, 0, 0))), some (.inl x0), some (.inl x1), some (.inl x2), some (.inl 1), none], [.inl (M (22, 0, 0, 0) 1), .inl x1], (zx_lay M, n))) rfl ?_
      refine zx_E.brh (c := x1 ≤ (M (22, 0, 0, 0) 1)) (s1 := (38, [some (.inr (some (22, 0, 0, 0))), some (.inl x0), some (.inl x1), some (.inl x2), some (.inl 1), none], [], (zx_lay M, n))) (s2 := (26, [some (.inr (some (22, 0, 0, 0))), some (.inl x0), some (.inl x1), some (.inl x2), some (.inl 1), none], [], (zx_lay M, n))) h (zx_ic_le rfl) (fun _ h => ?_) (fun _ h => ?_)
      · refine zx_E.go 3 (s' := (43, [some (.inr (some (22, 0, 0, 0))), some (.inl x0), some (.inl x1), some (.inl x2), some (.inl 1), some (.inl 0)], [.inl 1], (zx_lay M, n))) rfl ?_
        refine zx_E.bf (c := ((1 : Int32) = 0 : Prop)) (s1 := (46, [some (.inr (some (22, 0, 0, 0))), some (.inl x0), some (.inl x1), some (.inl x2), some (.inl 1), some (.inl 0)], [], (zx_lay M, n))) (s2 := (51, [some (.inr (some (22, 0, 0, 0))), some (.inl x0), some (.inl x1), some (.inl x2), some (.inl 1), some (.inl 0)], [], (zx_lay M, n))) (zx_if_ne rfl) (by decide) ?_
        refine zx_E.go 2 (s' := (53, [some (.inr (some (22, 0, 0, 0))), some (.inl x0), some (.inl x1), some (.inl x2), some (.inl 1), some (.inl 0)], [.inl x1, .inl x0], (zx_lay M, n))) rfl ?_
        refine zx_E.brh (c := x0 = x1) (s1 := (60, [some (.inr (some (22, 0, 0, 0))), some (.inl x0), some (.inl x1), some (.inl x2), some (.inl 1), some (.inl 0)], [], (zx_lay M, n))) (s2 := (56, [some (.inr (some (22, 0, 0, 0))), some (.inl x0), some (.inl x1), some (.inl x2), some (.inl 1), some (.inl 0)], [], (zx_lay M, n))) h (zx_ic_eq rfl) (fun _ h => ?_) (fun _ h => ?_)
        · refine zx_E.go 1 (s' := (61, [some (.inr (some (22, 0, 0, 0))), some (.inl x0), some (.inl x1), some (.inl x2), some (.inl 1), some (.inl 0)], [.inl 0], (zx_lay M, n))) rfl ?_
          exact zx_E.rp h rfl (fun _ => Or.inl rfl)
        · refine zx_E.go 2 (s' := (61, [some (.inr (some (22, 0, 0, 0))), some (.inl x0), some (.inl x1), some (.inl x2), some (.inl 1), some (.inl 0)], [.inl 1], (zx_lay M, n))) rfl ?_
          exact zx_E.rp h rfl (fun _ => Or.inr rfl)
      · refine zx_E.go 3 (s' := (31, [some (.inr (some (22, 0, 0, 0))), some (.inl x0), some (.inl x1), some (.inl x2), some (.inl 1), none], [.inl (M (22, 0, 0, 0) 2), .inl x1], (zx_lay M, n))) rfl ?_
        refine zx_E.brh (c := (M (22, 0, 0, 0) 2) < x1) (s1 := (38, [some (.inr (some (22, 0, 0, 0))), some (.inl x0), some (.inl x1), some (.inl x2), some (.inl 1), none], [], (zx_lay M, n))) (s2 := (34, [some (.inr (some (22, 0, 0, 0))), some (.inl x0), some (.inl x1), some (.inl x2), some (.inl 1), none], [], (zx_lay M, n))) h (zx_ic_gt rfl) (fun _ h => ?_) (fun _ h => ?_)
        · refine zx_E.go 3 (s' := (43, [some (.inr (some (22, 0, 0, 0))), some (.inl x0), some (.inl x1), some (.inl x2), some (.inl 1), some (.inl 0)], [.inl 1], (zx_lay M, n))) rfl ?_
          refine zx_E.bf (c := ((1 : Int32) = 0 : Prop)) (s1 := (46, [some (.inr (some (22, 0, 0, 0))), some (.inl x0), some (.inl x1), some (.inl x2), some (.inl 1), some (.inl 0)], [], (zx_lay M, n))) (s2 := (51, [some (.inr (some (22, 0, 0, 0))), some (.inl x0), some (.inl x1), some (.inl x2), some (.inl 1), some (.inl 0)], [], (zx_lay M, n))) (zx_if_ne rfl) (by decide) ?_
          refine zx_E.go 2 (s' := (53, [some (.inr (some (22, 0, 0, 0))), some (.inl x0), some (.inl x1), some (.inl x2), some (.inl 1), some (.inl 0)], [.inl x1, .inl x0], (zx_lay M, n))) rfl ?_
          refine zx_E.brh (c := x0 = x1) (s1 := (60, [some (.inr (some (22, 0, 0, 0))), some (.inl x0), some (.inl x1), some (.inl x2), some (.inl 1), some (.inl 0)], [], (zx_lay M, n))) (s2 := (56, [some (.inr (some (22, 0, 0, 0))), some (.inl x0), some (.inl x1), some (.inl x2), some (.inl 1), some (.inl 0)], [], (zx_lay M, n))) h (zx_ic_eq rfl) (fun _ h => ?_) (fun _ h => ?_)
          · refine zx_E.go 1 (s' := (61, [some (.inr (some (22, 0, 0, 0))), some (.inl x0), some (.inl x1), some (.inl x2), some (.inl 1), some (.inl 0)], [.inl 0], (zx_lay M, n))) rfl ?_
            exact zx_E.rp h rfl (fun _ => Or.inl rfl)
          · refine zx_E.go 2 (s' := (61, [some (.inr (some (22, 0, 0, 0))), some (.inl x0), some (.inl x1), some (.inl x2), some (.inl 1), some (.inl 0)], [.inl 1], (zx_lay M, n))) rfl ?_
            exact zx_E.rp h rfl (fun _ => Or.inr rfl)
        · refine zx_E.go 4 (s' := (43, [some (.inr (some (22, 0, 0, 0))), some (.inl x0), some (.inl x1), some (.inl x2), some (.inl 1), some (.inl 1)], [.inl 1], (zx_lay M, n))) rfl ?_
          refine zx_E.bf (c := ((1 : Int32) = 0 : Prop)) (s1 := (46, [some (.inr (some (22, 0, 0, 0))), some (.inl x0), some (.inl x1), some (.inl x2), some (.inl 1), some (.inl 1)], [], (zx_lay M, n))) (s2 := (51, [some (.inr (some (22, 0, 0, 0))), some (.inl x0), some (.inl x1), some (.inl x2), some (.inl 1), some (.inl 1)], [], (zx_lay M, n))) (zx_if_ne rfl) (by decide) ?_
          refine zx_E.go 2 (s' := (53, [some (.inr (some (22, 0, 0, 0))), some (.inl x0), some (.inl x1), some (.inl x2), some (.inl 1), some (.inl 1)], [.inl x1, .inl x0], (zx_lay M, n))) rfl ?_
          refine zx_E.brh (c := x0 = x1) (s1 := (60, [some (.inr (some (22, 0, 0, 0))), some (.inl x0), some (.inl x1), some (.inl x2), some (.inl 1), some (.inl 1)], [], (zx_lay M, n))) (s2 := (56, [some (.inr (some (22, 0, 0, 0))), some (.inl x0), some (.inl x1), some (.inl x2), some (.inl 1), some (.inl 1)], [], (zx_lay M, n))) h (zx_ic_eq rfl) (fun _ h => ?_) (fun _ h => ?_)
          · refine zx_E.go 1 (s' := (61, [some (.inr (some (22, 0, 0, 0))), some (.inl x0), some (.inl x1), some (.inl x2), some (.inl 1), some (.inl 1)], [.inl 0], (zx_lay M, n))) rfl ?_
            exact zx_E.rp h rfl (fun _ => Or.inl rfl)
          · refine zx_E.go 2 (s' := (61, [some (.inr (some (22, 0, 0, 0))), some (.inl x0), some (.inl x1), some (.inl x2), some (.inl 1), some (.inl 1)], [.inl 1], (zx_lay M, n))) rfl ?_
            exact zx_E.rp h rfl (fun _ => Or.inr rfl)
def lg_X3_deviations_15 (M : zx_Y) (l : Nat) (p3 : Int32) (kk : Int32 → Int32 → Option Int32) : Nat → Int32 → Int32 → Option Int32
  | 0, _, _ => none
  | q + 1, w2, w4 => (if (8 : Int32) ≤ w4 then (kk w2 w4) else (zi p3 10 fun k1 => (zi ((2 * p3) + 0) 20 fun k2 => (zi w4 8 fun k3 => (zi w4 8 fun k4 => (zb (g_X3_deviates M (M (24, k2, 0, 0) k3) (M (13, l, k1, 0) k4) (M (1, l, 0, 0) 0)) fun v1 => (if v1 = 0 then (zi ((2 * p3) + 1) 20 fun k5 => (zi w4 8 fun k6 => (zi w4 8 fun k7 => (zb (g_X3_deviates M (M (24, k5, 0, 0) k6) (M (13, l, k1, 1) k7) (M (1, l, 0, 0) 0)) fun v2 => (if v2 = 0 then (lg_X3_deviations_15 M l p3 kk q w2 (w4 + 1)) else (lg_X3_deviations_15 M l p3 kk q (w2 + 1) (w4 + 1))))))) else (zi ((2 * p3) + 1) 20 fun k8 => (zi w4 8 fun k9 => (zi w4 8 fun k10 => (zb (g_X3_deviates M (M (24, k8, 0, 0) k9) (M (13, l, k1, 1) k10) (M (1, l, 0, 0) 0)) fun v3 => (if v3 = 0 then (lg_X3_deviations_15 M l p3 kk q (w2 + 1) (w4 + 1)) else (lg_X3_deviations_15 M l p3 kk q ((w2 + 1) + 1) (w4 + 1))))))))))))))
set_option maxRecDepth 100000 in
set_option maxHeartbeats 4000000 in
theorem rl_X3_deviations_15 {X : zx_X} {d n : Nat} {M : zx_Y} {l : Nat} {p3 : Int32} {kk : Int32 → Int32 → Option Int32} {rv : Int32} (hk : ∀ (w2 : Int32) (w4 : Int32) (e5 : Option zx_V), kk w2 w4 = some rv → zx_E X (d + 1) zc_X3_deviations (110, [some (.inr (some (22, 0, 0, 0))), some (.inr (some (1, l, 0, 0))), some (.inl w2), some (.inl p3), some (.inl w4), e5], [], (zx_lay M, n)) (some (.inl rv), (zx_lay M, n))) : ∀ (q : Nat) (g5 : Option zx_V) (w2 : Int32) (w4 : Int32), lg_X3_deviations_15 M l p3 kk q w2 w4 = some rv → zx_E X (d + 1) zc_X3_deviations (15, [some (.inr (some (22, 0, 0, 0))), some (.inr (some (1, l, 0, 0))), some (.inl w2), some (.inl p3), some (.inl w4), g5], [], (zx_lay M, n)) (some (.inl rv), (zx_lay M, n))
  | 0, g5, w2, w4, h => by
    rw [lg_X3_deviations_15.eq_1] at h
    cases h
  | q + 1, g5, w2, w4, h => by
    rw [lg_X3_deviations_15.eq_2] at h
    refine zx_E.go 2 (s' := (19, [some (.inr (some (22, 0, 0, 0))), some (.inr (some (1, l, 0, 0))), some (.inl w2), some (.inl p3), some (.inl w4), g5], [.inl 8, .inl w4], (zx_lay M, n))) rfl ?_
    refine zx_E.brh (c := (8 : Int32) ≤ w4) (s1 := (110, [some (.inr (some (22, 0, 0, 0))), some (.inr (some (1, l, 0, 0))), some (.inl w2), some (.inl p3), some (.inl w4), g5], [], (zx_lay M, n))) (s2 := (22, [some (.inr (some (22, 0, 0, 0))), some (.inr (some (1, l, 0, 0))), some (.inl w2), some (.inl p3), some (.inl w4), g5], [], (zx_lay M, n))) h (zx_ic_ge rfl) (fun _ h => ?_) (fun _ h => ?_)
    · exact hk _ _ _ h
    · refine zx_E.go 3 (s' := (27, [some (.inr (some (22, 0, 0, 0))), some (.inr (some (1, l, 0, 0))), some (.inl w2), some (.inl p3), some (.inl w4), g5], [.inl p3, .inr (some (6, l, 0, 0))], (zx_lay M, n))) rfl ?_
      refine zx_E.ix h (fun k1 hx_k1 hl_k1 h => ?_)
      refine zx_E.aald (k := k1) (h := (6, l, 0, 0)) (h' := (7, l, k1, 0)) rfl rfl hx_k1 hl_k1 rfl ?_
      show zx_E _ _ _ (28, [some (.inr (some (22, 0, 0, 0))), some (.inr (some (1, l, 0, 0))), some (.inl w2), some (.inl p3), some (.inl w4), g5], [.inr (some (7, l, k1, 0))], (zx_lay M, n)) _
      refine zx_E.go 6 (s' := (37, [some (.inr (some (22, 0, 0, 0))), some (.inr (some (1, l, 0, 0))), some (.inl w2), some (.inl p3), some (.inl w4), some (.inr (some (7, l, k1, 0)))], [.inl p3, .inl 2, .inr (some (23, 0, 0, 0)), .inr (some (22, 0, 0, 0))], (zx_lay M, n))) rfl ?_
      refine zx_E.go 3 (s' := (40, [some (.inr (some (22, 0, 0, 0))), some (.inr (some (1, l, 0, 0))), some (.inl w2), some (.inl p3), some (.inl w4), some (.inr (some (7, l, k1, 0)))], [.inl ((2 * p3) + 0), .inr (some (23, 0, 0, 0)), .inr (some (22, 0, 0, 0))], (zx_lay M, n))) rfl ?_
      refine zx_E.ix h (fun k2 hx_k2 hl_k2 h => ?_)
      refine zx_E.aald (k := k2) (h := (23, 0, 0, 0)) (h' := (24, k2, 0, 0)) rfl rfl hx_k2 hl_k2 rfl ?_
      show zx_E _ _ _ (41, [some (.inr (some (22, 0, 0, 0))), some (.inr (some (1, l, 0, 0))), some (.inl w2), some (.inl p3), some (.inl w4), some (.inr (some (7, l, k1, 0)))], [.inr (some (24, k2, 0, 0)), .inr (some (22, 0, 0, 0))], (zx_lay M, n)) _
      refine zx_E.go 1 (s' := (43, [some (.inr (some (22, 0, 0, 0))), some (.inr (some (1, l, 0, 0))), some (.inl w2), some (.inl p3), some (.inl w4), some (.inr (some (7, l, k1, 0)))], [.inl w4, .inr (some (24, k2, 0, 0)), .inr (some (22, 0, 0, 0))], (zx_lay M, n))) rfl ?_
      refine zx_E.ix h (fun k3 hx_k3 hl_k3 h => ?_)
      refine zx_E.iald (k := k3) (h := (24, k2, 0, 0)) rfl rfl hx_k3 hl_k3 ?_
      show zx_E _ _ _ (44, [some (.inr (some (22, 0, 0, 0))), some (.inr (some (1, l, 0, 0))), some (.inl w2), some (.inl p3), some (.inl w4), some (.inr (some (7, l, k1, 0)))], [.inl (M (24, k2, 0, 0) k3), .inr (some (22, 0, 0, 0))], (zx_lay M, n)) _
      refine zx_E.go 3 (s' := (50, [some (.inr (some (22, 0, 0, 0))), some (.inr (some (1, l, 0, 0))), some (.inl w2), some (.inl p3), some (.inl w4), some (.inr (some (7, l, k1, 0)))], [.inl 0, .inr (some (12, l, k1, 0)), .inl (M (24, k2, 0, 0) k3), .inr (some (22, 0, 0, 0))], (zx_lay M, n))) rfl ?_
      refine zx_E.aald (k := 0) (h := (12, l, k1, 0)) (h' := (13, l, k1, 0)) rfl rfl rfl (by decide) rfl ?_
      show zx_E _ _ _ (51, [some (.inr (some (22, 0, 0, 0))), some (.inr (some (1, l, 0, 0))), some (.inl w2), some (.inl p3), some (.inl w4), some (.inr (some (7, l, k1, 0)))], [.inr (some (13, l, k1, 0)), .inl (M (24, k2, 0, 0) k3), .inr (some (22, 0, 0, 0))], (zx_lay M, n)) _
      refine zx_E.go 1 (s' := (53, [some (.inr (some (22, 0, 0, 0))), some (.inr (some (1, l, 0, 0))), some (.inl w2), some (.inl p3), some (.inl w4), some (.inr (some (7, l, k1, 0)))], [.inl w4, .inr (some (13, l, k1, 0)), .inl (M (24, k2, 0, 0) k3), .inr (some (22, 0, 0, 0))], (zx_lay M, n))) rfl ?_
      refine zx_E.ix h (fun k4 hx_k4 hl_k4 h => ?_)
      refine zx_E.iald (k := k4) (h := (13, l, k1, 0)) rfl rfl hx_k4 hl_k4 ?_
      show zx_E _ _ _ (54, [some (.inr (some (22, 0, 0, 0))), some (.inr (some (1, l, 0, 0))), some (.inl w2), some (.inl p3), some (.inl w4), some (.inr (some (7, l, k1, 0)))], [.inl (M (13, l, k1, 0) k4), .inl (M (24, k2, 0, 0) k3), .inr (some (22, 0, 0, 0))], (zx_lay M, n)) _
      refine zx_E.go 2 (s' := (58, [some (.inr (some (22, 0, 0, 0))), some (.inr (some (1, l, 0, 0))), some (.inl w2), some (.inl p3), some (.inl w4), some (.inr (some (7, l, k1, 0)))], [.inl (M (1, l, 0, 0) 0), .inl (M (13, l, k1, 0) k4), .inl (M (24, k2, 0, 0) k3), .inr (some (22, 0, 0, 0))], (zx_lay M, n))) rfl ?_
      refine zx_E.cb (y := 56) (as := [.inr (some (22, 0, 0, 0)), .inl (M (24, k2, 0, 0) k3), .inl (M (13, l, k1, 0) k4), .inl (M (1, l, 0, 0) 0)]) (rest := []) h rfl (fun _ hv => zx_run_up (by omega) (r_X3_deviates (d := d) hv)) (fun v1 h => ?_)
      show zx_E _ _ _ (61, [some (.inr (some (22, 0, 0, 0))), some (.inr (some (1, l, 0, 0))), some (.inl w2), some (.inl p3), some (.inl w4), some (.inr (some (7, l, k1, 0)))], [.inl v1], (zx_lay M, n)) _
      refine zx_E.brh (c := v1 = 0) (s1 := (67, [some (.inr (some (22, 0, 0, 0))), some (.inr (some (1, l, 0, 0))), some (.inl w2), some (.inl p3), some (.inl w4), some (.inr (some (7, l, k1, 0)))], [], (zx_lay M, n))) (s2 := (64, [some (.inr (some (22, 0, 0, 0))), some (.inr (some (1, l, 0, 0))), some (.inl w2), some (.inl p3), some (.inl w4), some (.inr (some (7, l, k1, 0)))], [], (zx_lay M, n))) h (zx_if_eq rfl) (fun _ h => ?_) (fun _ h => ?_)
      · refine zx_E.go 5 (s' := (74, [some (.inr (some (22, 0, 0, 0))), some (.inr (some (1, l, 0, 0))), some (.inl w2), some (.inl p3), some (.inl w4), some (.inr (some (7, l, k1, 0)))], [.inl p3, .inl 2, .inr (some (23, 0, 0, 0)), .inr (some (22, 0, 0, 0))], (zx_lay M, n))) rfl ?_
        refine zx_E.go 3 (s' := (77, [some (.inr (some (22, 0, 0, 0))), some (.inr (some (1, l, 0, 0))), some (.inl w2), some (.inl p3), some (.inl w4), some (.inr (some (7, l, k1, 0)))], [.inl ((2 * p3) + 1), .inr (some (23, 0, 0, 0)), .inr (some (22, 0, 0, 0))], (zx_lay M, n))) rfl ?_
        refine zx_E.ix h (fun k5 hx_k5 hl_k5 h => ?_)
        refine zx_E.aald (k := k5) (h := (23, 0, 0, 0)) (h' := (24, k5, 0, 0)) rfl rfl hx_k5 hl_k5 rfl ?_
        show zx_E _ _ _ (78, [some (.inr (some (22, 0, 0, 0))), some (.inr (some (1, l, 0, 0))), some (.inl w2), some (.inl p3), some (.inl w4), some (.inr (some (7, l, k1, 0)))], [.inr (some (24, k5, 0, 0)), .inr (some (22, 0, 0, 0))], (zx_lay M, n)) _
        refine zx_E.go 1 (s' := (80, [some (.inr (some (22, 0, 0, 0))), some (.inr (some (1, l, 0, 0))), some (.inl w2), some (.inl p3), some (.inl w4), some (.inr (some (7, l, k1, 0)))], [.inl w4, .inr (some (24, k5, 0, 0)), .inr (some (22, 0, 0, 0))], (zx_lay M, n))) rfl ?_
        refine zx_E.ix h (fun k6 hx_k6 hl_k6 h => ?_)
        refine zx_E.iald (k := k6) (h := (24, k5, 0, 0)) rfl rfl hx_k6 hl_k6 ?_
        show zx_E _ _ _ (81, [some (.inr (some (22, 0, 0, 0))), some (.inr (some (1, l, 0, 0))), some (.inl w2), some (.inl p3), some (.inl w4), some (.inr (some (7, l, k1, 0)))], [.inl (M (24, k5, 0, 0) k6), .inr (some (22, 0, 0, 0))], (zx_lay M, n)) _
        refine zx_E.go 3 (s' := (87, [some (.inr (some (22, 0, 0, 0))), some (.inr (some (1, l, 0, 0))), some (.inl w2), some (.inl p3), some (.inl w4), some (.inr (some (7, l, k1, 0)))], [.inl 1, .inr (some (12, l, k1, 0)), .inl (M (24, k5, 0, 0) k6), .inr (some (22, 0, 0, 0))], (zx_lay M, n))) rfl ?_
        refine zx_E.aald (k := 1) (h := (12, l, k1, 0)) (h' := (13, l, k1, 1)) rfl rfl rfl (by decide) rfl ?_
        show zx_E _ _ _ (88, [some (.inr (some (22, 0, 0, 0))), some (.inr (some (1, l, 0, 0))), some (.inl w2), some (.inl p3), some (.inl w4), some (.inr (some (7, l, k1, 0)))], [.inr (some (13, l, k1, 1)), .inl (M (24, k5, 0, 0) k6), .inr (some (22, 0, 0, 0))], (zx_lay M, n)) _
        refine zx_E.go 1 (s' := (90, [some (.inr (some (22, 0, 0, 0))), some (.inr (some (1, l, 0, 0))), some (.inl w2), some (.inl p3), some (.inl w4), some (.inr (some (7, l, k1, 0)))], [.inl w4, .inr (some (13, l, k1, 1)), .inl (M (24, k5, 0, 0) k6), .inr (some (22, 0, 0, 0))], (zx_lay M, n))) rfl ?_
        refine zx_E.ix h (fun k7 hx_k7 hl_k7 h => ?_)
        refine zx_E.iald (k := k7) (h := (13, l, k1, 1)) rfl rfl hx_k7 hl_k7 ?_
        show zx_E _ _ _ (91, [some (.inr (some (22, 0, 0, 0))), some (.inr (some (1, l, 0, 0))), some (.inl w2), some (.inl p3), some (.inl w4), some (.inr (some (7, l, k1, 0)))], [.inl (M (13, l, k1, 1) k7), .inl (M (24, k5, 0, 0) k6), .inr (some (22, 0, 0, 0))], (zx_lay M, n)) _
        refine zx_E.go 2 (s' := (95, [some (.inr (some (22, 0, 0, 0))), some (.inr (some (1, l, 0, 0))), some (.inl w2), some (.inl p3), some (.inl w4), some (.inr (some (7, l, k1, 0)))], [.inl (M (1, l, 0, 0) 0), .inl (M (13, l, k1, 1) k7), .inl (M (24, k5, 0, 0) k6), .inr (some (22, 0, 0, 0))], (zx_lay M, n))) rfl ?_
        refine zx_E.cb (y := 56) (as := [.inr (some (22, 0, 0, 0)), .inl (M (24, k5, 0, 0) k6), .inl (M (13, l, k1, 1) k7), .inl (M (1, l, 0, 0) 0)]) (rest := []) h rfl (fun _ hv => zx_run_up (by omega) (r_X3_deviates (d := d) hv)) (fun v2 h => ?_)
        show zx_E _ _ _ (98, [some (.inr (some (22, 0, 0, 0))), some (.inr (some (1, l, 0, 0))), some (.inl w2), some (.inl p3), some (.inl w4), some (.inr (some (7, l, k1, 0)))], [.inl v2], (zx_lay M, n)) _
        refine zx_E.brh (c := v2 = 0) (s1 := (104, [some (.inr (some (22, 0, 0, 0))), some (.inr (some (1, l, 0, 0))), some (.inl w2), some (.inl p3), some (.inl w4), some (.inr (some (7, l, k1, 0)))], [], (zx_lay M, n))) (s2 := (101, [some (.inr (some (22, 0, 0, 0))), some (.inr (some (1, l, 0, 0))), some (.inl w2), some (.inl p3), some (.inl w4), some (.inr (some (7, l, k1, 0)))], [], (zx_lay M, n))) h (zx_if_eq rfl) (fun _ h => ?_) (fun _ h => ?_)
        · refine zx_E.go 2 (s' := (15, [some (.inr (some (22, 0, 0, 0))), some (.inr (some (1, l, 0, 0))), some (.inl w2), some (.inl p3), some (.inl (w4 + 1)), some (.inr (some (7, l, k1, 0)))], [], (zx_lay M, n))) rfl ?_
          exact rl_X3_deviations_15 hk q _ w2 (w4 + 1) h
        · refine zx_E.go 3 (s' := (15, [some (.inr (some (22, 0, 0, 0))), some (.inr (some (1, l, 0, 0))), some (.inl (w2 + 1)), some (.inl p3), some (.inl (w4 + 1)), some (.inr (some (7, l, k1, 0)))], [], (zx_lay M, n))) rfl ?_
          exact rl_X3_deviations_15 hk q _ (w2 + 1) (w4 + 1) h
      · refine zx_E.go 6 (s' := (74, [some (.inr (some (22, 0, 0, 0))), some (.inr (some (1, l, 0, 0))), some (.inl (w2 + 1)), some (.inl p3), some (.inl w4), some (.inr (some (7, l, k1, 0)))], [.inl p3, .inl 2, .inr (some (23, 0, 0, 0)), .inr (some (22, 0, 0, 0))], (zx_lay M, n))) rfl ?_
        refine zx_E.go 3 (s' := (77, [some (.inr (some (22, 0, 0, 0))), some (.inr (some (1, l, 0, 0))), some (.inl (w2 + 1)), some (.inl p3), some (.inl w4), some (.inr (some (7, l, k1, 0)))], [.inl ((2 * p3) + 1), .inr (some (23, 0, 0, 0)), .inr (some (22, 0, 0, 0))], (zx_lay M, n))) rfl ?_
        refine zx_E.ix h (fun k8 hx_k8 hl_k8 h => ?_)
        refine zx_E.aald (k := k8) (h := (23, 0, 0, 0)) (h' := (24, k8, 0, 0)) rfl rfl hx_k8 hl_k8 rfl ?_
        show zx_E _ _ _ (78, [some (.inr (some (22, 0, 0, 0))), some (.inr (some (1, l, 0, 0))), some (.inl (w2 + 1)), some (.inl p3), some (.inl w4), some (.inr (some (7, l, k1, 0)))], [.inr (some (24, k8, 0, 0)), .inr (some (22, 0, 0, 0))], (zx_lay M, n)) _
        refine zx_E.go 1 (s' := (80, [some (.inr (some (22, 0, 0, 0))), some (.inr (some (1, l, 0, 0))), some (.inl (w2 + 1)), some (.inl p3), some (.inl w4), some (.inr (some (7, l, k1, 0)))], [.inl w4, .inr (some (24, k8, 0, 0)), .inr (some (22, 0, 0, 0))], (zx_lay M, n))) rfl ?_
        refine zx_E.ix h (fun k9 hx_k9 hl_k9 h => ?_)
        refine zx_E.iald (k := k9) (h := (24, k8, 0, 0)) rfl rfl hx_k9 hl_k9 ?_
        show zx_E _ _ _ (81, [some (.inr (some (22, 0, 0, 0))), some (.inr (some (1, l, 0, 0))), some (.inl (w2 + 1)), some (.inl p3), some (.inl w4), some (.inr (some (7, l, k1, 0)))], [.inl (M (24, k8, 0, 0) k9), .inr (some (22, 0, 0, 0))], (zx_lay M, n)) _
        refine zx_E.go 3 (s' := (87, [some (.inr (some (22, 0, 0, 0))), some (.inr (some (1, l, 0, 0))), some (.inl (w2 + 1)), some (.inl p3), some (.inl w4), some (.inr (some (7, l, k1, 0)))], [.inl 1, .inr (some (12, l, k1, 0)), .inl (M (24, k8, 0, 0) k9), .inr (some (22, 0, 0, 0))], (zx_lay M, n))) rfl ?_
        refine zx_E.aald (k := 1) (h := (12, l, k1, 0)) (h' := (13, l, k1, 1)) rfl rfl rfl (by decide) rfl ?_
        show zx_E _ _ _ (88, [some (.inr (some (22, 0, 0, 0))), some (.inr (some (1, l, 0, 0))), some (.inl (w2 + 1)), some (.inl p3), some (.inl w4), some (.inr (some (7, l, k1, 0)))], [.inr (some (13, l, k1, 1)), .inl (M (24, k8, 0, 0) k9), .inr (some (22, 0, 0, 0))], (zx_lay M, n)) _
        refine zx_E.go 1 (s' := (90, [some (.inr (some (22, 0, 0, 0))), some (.inr (some (1, l, 0, 0))), some (.inl (w2 + 1)), some (.inl p3), some (.inl w4), some (.inr (some (7, l, k1, 0)))], [.inl w4, .inr (some (13, l, k1, 1)), .inl (M (24, k8, 0, 0) k9), .inr (some (22, 0, 0, 0))], (zx_lay M, n))) rfl ?_
        refine zx_E.ix h (fun k10 hx_k10 hl_k10 h => ?_)
        refine zx_E.iald (k := k10) (h := (13, l, k1, 1)) rfl rfl hx_k10 hl_k10 ?_
        show zx_E _ _ _ (91, [some (.inr (some (22, 0, 0, 0))), some (.inr (some (1, l, 0, 0))), some (.inl (w2 + 1)), some (.inl p3), some (.inl w4), some (.inr (some (7, l, k1, 0)))], [.inl (M (13, l, k1, 1) k10), .inl (M (24, k8, 0, 0) k9), .inr (some (22, 0, 0, 0))], (zx_lay M, n)) _
        refine zx_E.go 2 (s' := (95, [some (.inr (some (22, 0, 0, 0))), some (.inr (some (1, l, 0, 0))), some (.inl (w2 + 1)), some (.inl p3), some (.inl w4), some (.inr (some (7, l, k1, 0)))], [.inl (M (1, l, 0, 0) 0), .inl (M (13, l, k1, 1) k10), .inl (M (24, k8, 0, 0) k9), .inr (some (22, 0, 0, 0))], (zx_lay M, n))) rfl ?_
        refine zx_E.cb (y := 56) (as := [.inr (some (22, 0, 0, 0)), .inl (M (24, k8, 0, 0) k9), .inl (M (13, l, k1, 1) k10), .inl (M (1, l, 0, 0) 0)]) (rest := []) h rfl (fun _ hv => zx_run_up (by omega) (r_X3_deviates (d := d) hv)) (fun v3 h => ?_)
        show zx_E _ _ _ (98, [some (.inr (some (22, 0, 0, 0))), some (.inr (some (1, l, 0, 0))), some (.inl (w2 + 1)), some (.inl p3), some (.inl w4), some (.inr (some (7, l, k1, 0)))], [.inl v3], (zx_lay M, n)) _
        refine zx_E.brh (c := v3 = 0) (s1 := (104, [some (.inr (some (22, 0, 0, 0))), some (.inr (some (1, l, 0, 0))), some (.inl (w2 + 1)), some (.inl p3), some (.inl w4), some (.inr (some (7, l, k1, 0)))], [], (zx_lay M, n))) (s2 := (101, [some (.inr (some (22, 0, 0, 0))), some (.inr (some (1, l, 0, 0))), some (.inl (w2 + 1)), some (.inl p3), some (.inl w4), some (.inr (some (7, l, k1, 0)))], [], (zx_lay M, n))) h (zx_if_eq rfl) (fun _ h => ?_) (fun _ h => ?_)
        · refine zx_E.go 2 (s' := (15, [some (.inr (some (22, 0, 0, 0))), some (.inr (some (1, l, 0, 0))), some (.inl (w2 + 1)), some (.inl p3), some (.inl (w4 + 1)), some (.inr (some (7, l, k1, 0)))], [], (zx_lay M, n))) rfl ?_
          exact rl_X3_deviations_15 hk q _ (w2 + 1) (w4 + 1) h
        · refine zx_E.go 3 (s' := (15, [some (.inr (some (22, 0, 0, 0))), some (.inr (some (1, l, 0, 0))), some (.inl ((w2 + 1) + 1)), some (.inl p3), some (.inl (w4 + 1)), some (.inr (some (7, l, k1, 0)))], [], (zx_lay M, n))) rfl ?_
          exact rl_X3_deviations_15 hk q _ ((w2 + 1) + 1) (w4 + 1) h
def lg_X3_deviations_4 (M : zx_Y) (l : Nat) (kk : Int32 → Int32 → Option Int32) : Nat → Int32 → Int32 → Option Int32
  | 0, _, _ => none
  | q + 1, w2, w3 => (if (M (1, l, 0, 0) 4) ≤ w3 then (kk w2 w3) else (lg_X3_deviations_15 M l w3 (fun v1 v2 => (lg_X3_deviations_4 M l kk q v1 (w3 + 1))) 1000 w2 0))
set_option maxRecDepth 100000 in
set_option maxHeartbeats 4000000 in
theorem rl_X3_deviations_4 {X : zx_X} {d n : Nat} {M : zx_Y} {l : Nat} {kk : Int32 → Int32 → Option Int32} {rv : Int32} (hk : ∀ (w2 : Int32) (w3 : Int32) (e4 : Option zx_V) (e5 : Option zx_V), kk w2 w3 = some rv → zx_E X (d + 1) zc_X3_deviations (116, [some (.inr (some (22, 0, 0, 0))), some (.inr (some (1, l, 0, 0))), some (.inl w2), some (.inl w3), e4, e5], [], (zx_lay M, n)) (some (.inl rv), (zx_lay M, n))) : ∀ (q : Nat) (g4 : Option zx_V) (g5 : Option zx_V) (w2 : Int32) (w3 : Int32), lg_X3_deviations_4 M l kk q w2 w3 = some rv → zx_E X (d + 1) zc_X3_deviations (4, [some (.inr (some (22, 0, 0, 0))), some (.inr (some (1, l, 0, 0))), some (.inl w2), some (.inl w3), g4, g5], [], (zx_lay M, n)) (some (.inl rv), (zx_lay M, n))
  | 0, g4, g5, w2, w3, h => by
    rw [lg_X3_deviations_4.eq_1] at h
    cases h
  | q + 1, g4, g5, w2, w3, h => by
    rw [lg_X3_deviations_4.eq_2] at h
    refine zx_E.go 3 (s' := (9, [some (.inr (some (22, 0, 0, 0))), some (.inr (some (1, l, 0, 0))), some (.inl w2), some (.inl w3), g4, g5], [.inl (M (1, l, 0, 0) 4), .inl w3], (zx_lay M, n))) rfl ?_
    refine zx_E.brh (c := (M (1, l, 0, 0) 4) ≤ w3) (s1 := (116, [some (.inr (some (22, 0, 0, 0))), some (.inr (some (1, l, 0, 0))), some (.inl w2), some (.inl w3), g4, g5], [], (zx_lay M, n))) (s2 := (12, [some (.inr (some (22, 0, 0, 0))), some (.inr (some (1, l, 0, 0))), some (.inl w2), some (.inl w3), g4, g5], [], (zx_lay M, n))) h (zx_ic_ge rfl) (fun _ h => ?_) (fun _ h => ?_)
    · exact hk _ _ _ _ h
    · refine zx_E.go 2 (s' := (15, [some (.inr (some (22, 0, 0, 0))), some (.inr (some (1, l, 0, 0))), some (.inl w2), some (.inl w3), some (.inl 0), g5], [], (zx_lay M, n))) rfl ?_
      refine rl_X3_deviations_15 (fun v1 v2 e1 h => ?_) 1000 _ w2 0  h
      refine zx_E.go 2 (s' := (4, [some (.inr (some (22, 0, 0, 0))), some (.inr (some (1, l, 0, 0))), some (.inl v1), some (.inl (w3 + 1)), some (.inl v2), e1], [], (zx_lay M, n))) rfl ?_
      exact rl_X3_deviations_4 hk q _ _ v1 (w3 + 1) h
def g_X3_deviations (M : zx_Y) (l : Nat) : Option Int32 := (lg_X3_deviations_4 M l (fun v1 v2 => (some v1)) 1000 0 0)
set_option maxRecDepth 100000 in
set_option maxHeartbeats 4000000 in
theorem r_X3_deviations {X : zx_X} {d n : Nat} {M : zx_Y} {l : Nat} {rv : Int32} (h : g_X3_deviations M l = some rv) : zx_run X (d + 2) 55 [.inr (some (22, 0, 0, 0)), .inr (some (1, l, 0, 0))] (zx_lay M, n) (some (.inl rv), (zx_lay M, n)) := by
  refine zx_run_of zc_X3_deviations [some (.inr (some (22, 0, 0, 0))), some (.inr (some (1, l, 0, 0))), none, none, none, none] rfl rfl ?_
  unfold g_X3_deviations at h
  refine zx_E.go 4 (s' := (4, [some (.inr (some (22, 0, 0, 0))), some (.inr (some (1, l, 0, 0))), some (.inl 0), some (.inl 0), none, none], [], (zx_lay M, n))) rfl ?_
  refine rl_X3_deviations_4 (fun v1 v2 e1 e2 h => ?_) 1000 _ _ 0 0  h
  refine zx_E.go 1 (s' := (117, [some (.inr (some (22, 0, 0, 0))), some (.inr (some (1, l, 0, 0))), some (.inl v1), some (.inl v2), e1, e2], [.inl v1], (zx_lay M, n))) rfl ?_
  exact zx_E.rp h rfl (fun h => absurd h (by decide))
def g_X10_drift (M : zx_Y) : Option Int32 := (if (M (22, 0, 0, 0) 0) = 0 then (some (-5)) else (zb (g_X3_deviations M 0) fun v1 => (some v1)))
set_option maxRecDepth 100000 in
set_option maxHeartbeats 4000000 in
theorem r_X10_drift {X : zx_X} {d n : Nat} {M : zx_Y} {rv : Int32} (h : g_X10_drift M = some rv) : zx_run X (d + 3) 108 [.inr (some (0, 0, 0, 0))] (zx_lay M, n) (some (.inl rv), (zx_lay M, n)) := by
  refine zx_run_of zc_X10_drift [some (.inr (some (0, 0, 0, 0)))] rfl rfl ?_
  unfold g_X10_drift at h
  refine zx_E.go 3 (s' := (7, [some (.inr (some (0, 0, 0, 0)))], [.inl (M (22, 0, 0, 0) 0)], (zx_lay M, n))) rfl ?_
  refine zx_E.brh (c := (M (22, 0, 0, 0) 0) = 0) (s1 := (24, [some (.inr (some (0, 0, 0, 0)))], [], (zx_lay M, n))) (s2 := (10, [some (.inr (some (0, 0, 0, 0)))], [], (zx_lay M, n))) h (zx_if_eq rfl) (fun _ h => ?_) (fun _ h => ?_)
  · refine zx_E.go 1 (s' := (26, [some (.inr (some (0, 0, 0, 0)))], [.inl (-5)], (zx_lay M, n))) rfl ?_
    exact zx_E.rp h rfl (fun h => absurd h (by decide))
  · refine zx_E.go 4 (s' := (18, [some (.inr (some (0, 0, 0, 0)))], [.inr (some (1, 0, 0, 0)), .inr (some (22, 0, 0, 0))], (zx_lay M, n))) rfl ?_
    refine zx_E.cb (y := 55) (as := [.inr (some (22, 0, 0, 0)), .inr (some (1, 0, 0, 0))]) (rest := []) h rfl (fun _ hv => zx_run_up (by omega) (r_X3_deviations (d := d) hv)) (fun v1 h => ?_)
    show zx_E _ _ _ (21, [some (.inr (some (0, 0, 0, 0)))], [.inl v1], (zx_lay M, n)) _
    refine zx_E.go 1 (s' := (26, [some (.inr (some (0, 0, 0, 0)))], [.inl v1], (zx_lay M, n))) rfl ?_
    exact zx_E.rp h rfl (fun h => absurd h (by decide))
def lg_X11_drift_50 (M : zx_Y) (p1 : Int32) (p3 : Int32) (kk : Int32 → Int32 → Option Int32) : Nat → Int32 → Int32 → Option Int32
  | 0, _, _ => none
  | q + 1, w2, w4 => (if (16 : Int32) ≤ w4 then (kk w2 w4) else (zi ((477 + (16 * p3)) + w4) 640 fun k1 => (zb (g_X11_happened M p3 w4) fun v1 => (if (M (26, 0, 0, 0) k1) = (-5) then (if v1 ≤ (M (26, 0, 0, 0) 475) then (lg_X11_drift_50 M p1 p3 kk q (w2 + 0) (w4 + 1)) else (if p1 < v1 then (lg_X11_drift_50 M p1 p3 kk q (w2 + 0) (w4 + 1)) else (if v1 = (M (26, 0, 0, 0) k1) then (lg_X11_drift_50 M p1 p3 kk q (w2 + 0) (w4 + 1)) else (lg_X11_drift_50 M p1 p3 kk q (w2 + 1) (w4 + 1))))) else (if p1 < (M (26, 0, 0, 0) k1) then (if v1 ≤ (M (26, 0, 0, 0) 475) then (lg_X11_drift_50 M p1 p3 kk q (w2 + 0) (w4 + 1)) else (if p1 < v1 then (lg_X11_drift_50 M p1 p3 kk q (w2 + 0) (w4 + 1)) else (if v1 = (M (26, 0, 0, 0) k1) then (lg_X11_drift_50 M p1 p3 kk q (w2 + 0) (w4 + 1)) else (lg_X11_drift_50 M p1 p3 kk q (w2 + 1) (w4 + 1))))) else (if v1 = (M (26, 0, 0, 0) k1) then (if v1 ≤ (M (26, 0, 0, 0) 475) then (lg_X11_drift_50 M p1 p3 kk q (w2 + 0) (w4 + 1)) else (if p1 < v1 then (lg_X11_drift_50 M p1 p3 kk q (w2 + 0) (w4 + 1)) else (if v1 = (M (26, 0, 0, 0) k1) then (lg_X11_drift_50 M p1 p3 kk q (w2 + 0) (w4 + 1)) else (lg_X11_drift_50 M p1 p3 kk q (w2 + 1) (w4 + 1))))) else (if v1 ≤ (M (26, 0, 0, 0) 475) then (lg_X11_drift_50 M p1 p3 kk q (w2 + 1) (w4 + 1)) else (if p1 < v1 then (lg_X11_drift_50 M p1 p3 kk q (w2 + 1) (w4 + 1)) else (if v1 = (M (26, 0, 0, 0) k1) then (lg_X11_drift_50 M p1 p3 kk q (w2 + 1) (w4 + 1)) else (lg_X11_drift_50 M p1 p3 kk q (w2 + 1) (w4 + 1)))))))))))
set_option maxRecDepth 100000 in
set_option maxHeartbeats 4000000 in
theorem rl_X11_drift_50 {X : zx_X} {d n : Nat} {M : zx_Y} {p1 : Int32} {p3 : Int32} {kk : Int32 → Int32 → Option Int32} {rv : Int32} (hk : ∀ (w2 : Int32) (w4 : Int32) (e5 : Option zx_V) (e6 : Option zx_V) (e7 : Option zx_V) (e8 : Option zx_V), kk w2 w4 = some rv → zx_E X (d + 2) zc_X11_drift (168, [some (.inr (some (25, 0, 0, 0))), some (.inl p1), some (.inl w2), some (.inl p3), some (.inl w4), e5, e6, e7, e8], [], (zx_lay M, n)) (some (.inl rv), (zx_lay M, n))) : ∀ (q : Nat) (g5 : Option zx_V) (g6 : Option zx_V) (g7 : Option zx_V) (g8 : Option zx_V) (w2 : Int32) (w4 : Int32), lg_X11_drift_50 M p1 p3 kk q w2 w4 = some rv → zx_E X (d + 2) zc_X11_drift (50, [some (.inr (some (25, 0, 0, 0))), some (.inl p1), some (.inl w2), some (.inl p3), some (.inl w4), g5, g6, g7, g8], [], (zx_lay M, n)) (some (.inl rv), (zx_lay M, n))
  | 0, g5, g6, g7, g8, w2, w4, h => by
    rw [lg_X11_drift_50.eq_1] at h
    cases h
  | q + 1, g5, g6, g7, g8, w2, w4, h => by
    rw [lg_X11_drift_50.eq_2] at h
    refine zx_E.go 2 (s' := (54, [some (.inr (some (25, 0, 0, 0))), some (.inl p1), some (.inl w2), some (.inl p3), some (.inl w4), g5, g6, g7, g8], [.inl 16, .inl w4], (zx_lay M, n))) rfl ?_
    refine zx_E.brh (c := (16 : Int32) ≤ w4) (s1 := (168, [some (.inr (some (25, 0, 0, 0))), some (.inl p1), some (.inl w2), some (.inl p3), some (.inl w4), g5, g6, g7, g8], [], (zx_lay M, n))) (s2 := (57, [some (.inr (some (25, 0, 0, 0))), some (.inl p1), some (.inl w2), some (.inl p3), some (.inl w4), g5, g6, g7, g8], [], (zx_lay M, n))) h (zx_ic_ge rfl) (fun _ h => ?_) (fun _ h => ?_)
    · exact hk _ _ _ _ _ _ h
    · refine zx_E.go 5 (s' := (67, [some (.inr (some (25, 0, 0, 0))), some (.inl p1), some (.inl w2), some (.inl p3), some (.inl w4), g5, g6, g7, g8], [.inl p3, .inl 16, .inl 477, .inr (some (26, 0, 0, 0))], (zx_lay M, n))) rfl ?_
      refine zx_E.go 4 (s' := (72, [some (.inr (some (25, 0, 0, 0))), some (.inl p1), some (.inl w2), some (.inl p3), some (.inl w4), g5, g6, g7, g8], [.inl ((477 + (16 * p3)) + w4), .inr (some (26, 0, 0, 0))], (zx_lay M, n))) rfl ?_
      refine zx_E.ix h (fun k1 hx_k1 hl_k1 h => ?_)
      refine zx_E.iald (k := k1) (h := (26, 0, 0, 0)) rfl rfl hx_k1 hl_k1 ?_
      show zx_E _ _ _ (73, [some (.inr (some (25, 0, 0, 0))), some (.inl p1), some (.inl w2), some (.inl p3), some (.inl w4), g5, g6, g7, g8], [.inl (M (26, 0, 0, 0) k1)], (zx_lay M, n)) _
      refine zx_E.go 4 (s' := (79, [some (.inr (some (25, 0, 0, 0))), some (.inl p1), some (.inl w2), some (.inl p3), some (.inl w4), some (.inl (M (26, 0, 0, 0) k1)), g6, g7, g8], [.inl w4, .inl p3, .inr (some (25, 0, 0, 0))], (zx_lay M, n))) rfl ?_
      refine zx_E.cb (y := 184) (as := [.inr (some (25, 0, 0, 0)), .inl p3, .inl w4]) (rest := []) h rfl (fun _ hv => zx_run_up (by omega) (r_X11_happened (d := d) hv)) (fun v1 h => ?_)
      show zx_E _ _ _ (82, [some (.inr (some (25, 0, 0, 0))), some (.inl p1), some (.inl w2), some (.inl p3), some (.inl w4), some (.inl (M (26, 0, 0, 0) k1)), g6, g7, g8], [.inl v1], (zx_lay M, n)) _
      refine zx_E.go 3 (s' := (88, [some (.inr (some (25, 0, 0, 0))), some (.inl p1), some (.inl w2), some (.inl p3), some (.inl w4), some (.inl (M (26, 0, 0, 0) k1)), some (.inl v1), g7, g8], [.inl (-5), .inl (M (26, 0, 0, 0) k1)], (zx_lay M, n))) rfl ?_
      refine zx_E.brh (c := (M (26, 0, 0, 0) k1) = (-5)) (s1 := (108, [some (.inr (some (25, 0, 0, 0))), some (.inl p1), some (.inl w2), some (.inl p3), some (.inl w4), some (.inl (M (26, 0, 0, 0) k1)), some (.inl v1), g7, g8], [], (zx_lay M, n))) (s2 := (91, [some (.inr (some (25, 0, 0, 0))), some (.inl p1), some (.inl w2), some (.inl p3), some (.inl w4), some (.inl (M (26, 0, 0, 0) k1)), some (.inl v1), g7, g8], [], (zx_lay M, n))) h (zx_ic_eq rfl) (fun _ h => ?_) (fun _ h => ?_)
      · refine zx_E.go 6 (s' := (120, [some (.inr (some (25, 0, 0, 0))), some (.inl p1), some (.inl w2), some (.inl p3), some (.inl w4), some (.inl (M (26, 0, 0, 0) k1)), some (.inl v1), some (.inl 0), g8], [.inl 475, .inr (some (26, 0, 0, 0)), .inl v1], (zx_lay M, n))) rfl ?_
        refine zx_E.iald (k := 475) (h := (26, 0, 0, 0)) rfl rfl rfl (by decide) ?_
        show zx_E _ _ _ (121, [some (.inr (some (25, 0, 0, 0))), some (.inl p1), some (.inl w2), some (.inl p3), some (.inl w4), some (.inl (M (26, 0, 0, 0) k1)), some (.inl v1), some (.inl 0), g8], [.inl (M (26, 0, 0, 0) 475), .inl v1], (zx_lay M, n)) _
        refine zx_E.brh (c := v1 ≤ (M (26, 0, 0, 0) 475)) (s1 := (141, [some (.inr (some (25, 0, 0, 0))), some (.inl p1), some (.inl w2), some (.inl p3), some (.inl w4), some (.inl (M (26, 0, 0, 0) k1)), some (.inl v1), some (.inl 0), g8], [], (zx_lay M, n))) (s2 := (124, [some (.inr (some (25, 0, 0, 0))), some (.inl p1), some (.inl w2), some (.inl p3), some (.inl w4), some (.inl (M (26, 0, 0, 0) k1)), some (.inl v1), some (.inl 0), g8], [], (zx_lay M, n))) h (zx_ic_le rfl) (fun _ h => ?_) (fun _ h => ?_)
        · refine zx_E.go 4 (s' := (147, [some (.inr (some (25, 0, 0, 0))), some (.inl p1), some (.inl w2), some (.inl p3), some (.inl w4), some (.inl (M (26, 0, 0, 0) k1)), some (.inl v1), some (.inl 0), some (.inl 0)], [.inl 0, .inl w2], (zx_lay M, n))) rfl ?_
          refine zx_E.bt (c := ((0 : Int32) = 0 : Prop)) (s1 := (150, [some (.inr (some (25, 0, 0, 0))), some (.inl p1), some (.inl w2), some (.inl p3), some (.inl w4), some (.inl (M (26, 0, 0, 0) k1)), some (.inl v1), some (.inl 0), some (.inl 0)], [.inl w2], (zx_lay M, n))) (s2 := (155, [some (.inr (some (25, 0, 0, 0))), some (.inl p1), some (.inl w2), some (.inl p3), some (.inl w4), some (.inl (M (26, 0, 0, 0) k1)), some (.inl v1), some (.inl 0), some (.inl 0)], [.inl w2], (zx_lay M, n))) (zx_if_ne rfl) (by decide) ?_
          refine zx_E.go 1 (s' := (152, [some (.inr (some (25, 0, 0, 0))), some (.inl p1), some (.inl w2), some (.inl p3), some (.inl w4), some (.inl (M (26, 0, 0, 0) k1)), some (.inl v1), some (.inl 0), some (.inl 0)], [.inl 0, .inl w2], (zx_lay M, n))) rfl ?_
          refine zx_E.bt (c := ((0 : Int32) = 0 : Prop)) (s1 := (159, [some (.inr (some (25, 0, 0, 0))), some (.inl p1), some (.inl w2), some (.inl p3), some (.inl w4), some (.inl (M (26, 0, 0, 0) k1)), some (.inl v1), some (.inl 0), some (.inl 0)], [.inl w2], (zx_lay M, n))) (s2 := (155, [some (.inr (some (25, 0, 0, 0))), some (.inl p1), some (.inl w2), some (.inl p3), some (.inl w4), some (.inl (M (26, 0, 0, 0) k1)), some (.inl v1), some (.inl 0), some (.inl 0)], [.inl w2], (zx_lay M, n))) (zx_if_eq rfl) (by decide) ?_
          refine zx_E.go 5 (s' := (50, [some (.inr (some (25, 0, 0, 0))), some (.inl p1), some (.inl (w2 + 0)), some (.inl p3), some (.inl (w4 + 1)), some (.inl (M (26, 0, 0, 0) k1)), some (.inl v1), some (.inl 0), some (.inl 0)], [], (zx_lay M, n))) rfl ?_
          exact rl_X11_drift_50 hk q _ _ _ _ (w2 + 0) (w4 + 1) h
        · refine zx_E.go 2 (s' := (127, [some (.inr (some (25, 0, 0, 0))), some (.inl p1), some (.inl w2), some (.inl p3), some (.inl w4), some (.inl (M (26, 0, 0, 0) k1)), some (.inl v1), some (.inl 0), g8], [.inl p1, .inl v1], (zx_lay M, n))) rfl ?_
          refine zx_E.brh (c := p1 < v1) (s1 := (141, [some (.inr (some (25, 0, 0, 0))), some (.inl p1), some (.inl w2), some (.inl p3), some (.inl w4), some (.inl (M (26, 0, 0, 0) k1)), some (.inl v1), some (.inl 0), g8], [], (zx_lay M, n))) (s2 := (130, [some (.inr (some (25, 0, 0, 0))), some (.inl p1), some (.inl w2), some (.inl p3), some (.inl w4), some (.inl (M (26, 0, 0, 0) k1)), some (.inl v1), some (.inl 0), g8], [], (zx_lay M, n))) h (zx_ic_gt rfl) (fun _ h => ?_) (fun _ h => ?_)
          · refine zx_E.go 4 (s' := (147, [some (.inr (some (25, 0, 0, 0))), some (.inl p1), some (.inl w2), some (.inl p3), some (.inl w4), some (.inl (M (26, 0, 0, 0) k1)), some (.inl v1), some (.inl 0), some (.inl 0)], [.inl 0, .inl w2], (zx_lay M, n))) rfl ?_
            refine zx_E.bt (c := ((0 : Int32) = 0 : Prop)) (s1 := (150, [some (.inr (some (25, 0, 0, 0))), some (.inl p1), some (.inl w2), some (.inl p3), some (.inl w4), some (.inl (M (26, 0, 0, 0) k1)), some (.inl v1), some (.inl 0), some (.inl 0)], [.inl w2], (zx_lay M, n))) (s2 := (155, [some (.inr (some (25, 0, 0, 0))), some (.inl p1), some (.inl w2), some (.inl p3), some (.inl w4), some (.inl (M (26, 0, 0, 0) k1)), some (.inl v1), some (.inl 0), some (.inl 0)], [.inl w2], (zx_lay M, n))) (zx_if_ne rfl) (by decide) ?_
            refine zx_E.go 1 (s' := (152, [some (.inr (some (25, 0, 0, 0))), some (.inl p1), some (.inl w2), some (.inl p3), some (.inl w4), some (.inl (M (26, 0, 0, 0) k1)), some (.inl v1), some (.inl 0), some (.inl 0)], [.inl 0, .inl w2], (zx_lay M, n))) rfl ?_
            refine zx_E.bt (c := ((0 : Int32) = 0 : Prop)) (s1 := (159, [some (.inr (some (25, 0, 0, 0))), some (.inl p1), some (.inl w2), some (.inl p3), some (.inl w4), some (.inl (M (26, 0, 0, 0) k1)), some (.inl v1), some (.inl 0), some (.inl 0)], [.inl w2], (zx_lay M, n))) (s2 := (155, [some (.inr (some (25, 0, 0, 0))), some (.inl p1), some (.inl w2), some (.inl p3), some (.inl w4), some (.inl (M (26, 0, 0, 0) k1)), some (.inl v1), some (.inl 0), some (.inl 0)], [.inl w2], (zx_lay M, n))) (zx_if_eq rfl) (by decide) ?_
            refine zx_E.go 5 (s' := (50, [some (.inr (some (25, 0, 0, 0))), some (.inl p1), some (.inl (w2 + 0)), some (.inl p3), some (.inl (w4 + 1)), some (.inl (M (26, 0, 0, 0) k1)), some (.inl v1), some (.inl 0), some (.inl 0)], [], (zx_lay M, n))) rfl ?_
            exact rl_X11_drift_50 hk q _ _ _ _ (w2 + 0) (w4 + 1) h
          · refine zx_E.go 2 (s' := (134, [some (.inr (some (25, 0, 0, 0))), some (.inl p1), some (.inl w2), some (.inl p3), some (.inl w4), some (.inl (M (26, 0, 0, 0) k1)), some (.inl v1), some (.inl 0), g8], [.inl (M (26, 0, 0, 0) k1), .inl v1], (zx_lay M, n))) rfl ?_
            refine zx_E.brh (c := v1 = (M (26, 0, 0, 0) k1)) (s1 := (141, [some (.inr (some (25, 0, 0, 0))), some (.inl p1), some (.inl w2), some (.inl p3), some (.inl w4), some (.inl (M (26, 0, 0, 0) k1)), some (.inl v1), some (.inl 0), g8], [], (zx_lay M, n))) (s2 := (137, [some (.inr (some (25, 0, 0, 0))), some (.inl p1), some (.inl w2), some (.inl p3), some (.inl w4), some (.inl (M (26, 0, 0, 0) k1)), some (.inl v1), some (.inl 0), g8], [], (zx_lay M, n))) h (zx_ic_eq rfl) (fun _ h => ?_) (fun _ h => ?_)
            · refine zx_E.go 4 (s' := (147, [some (.inr (some (25, 0, 0, 0))), some (.inl p1), some (.inl w2), some (.inl p3), some (.inl w4), some (.inl (M (26, 0, 0, 0) k1)), some (.inl v1), some (.inl 0), some (.inl 0)], [.inl 0, .inl w2], (zx_lay M, n))) rfl ?_
              refine zx_E.bt (c := ((0 : Int32) = 0 : Prop)) (s1 := (150, [some (.inr (some (25, 0, 0, 0))), some (.inl p1), some (.inl w2), some (.inl p3), some (.inl w4), some (.inl (M (26, 0, 0, 0) k1)), some (.inl v1), some (.inl 0), some (.inl 0)], [.inl w2], (zx_lay M, n))) (s2 := (155, [some (.inr (some (25, 0, 0, 0))), some (.inl p1), some (.inl w2), some (.inl p3), some (.inl w4), some (.inl (M (26, 0, 0, 0) k1)), some (.inl v1), some (.inl 0), some (.inl 0)], [.inl w2], (zx_lay M, n))) (zx_if_ne rfl) (by decide) ?_
              refine zx_E.go 1 (s' := (152, [some (.inr (some (25, 0, 0, 0))), some (.inl p1), some (.inl w2), some (.inl p3), some (.inl w4), some (.inl (M (26, 0, 0, 0) k1)), some (.inl v1), some (.inl 0), some (.inl 0)], [.inl 0, .inl w2], (zx_lay M, n))) rfl ?_
              refine zx_E.bt (c := ((0 : Int32) = 0 : Prop)) (s1 := (159, [some (.inr (some (25, 0, 0, 0))), some (.inl p1), some (.inl w2), some (.inl p3), some (.inl w4), some (.inl (M (26, 0, 0, 0) k1)), some (.inl v1), some (.inl 0), some (.inl 0)], [.inl w2], (zx_lay M, n))) (s2 := (155, [some (.inr (some (25, 0, 0, 0))), some (.inl p1), some (.inl w2), some (.inl p3), some (.inl w4), some (.inl (M (26, 0, 0, 0) k1)), some (.inl v1), some (.inl 0), some (.inl 0)], [.inl w2], (zx_lay M, n))) (zx_if_eq rfl) (by decide) ?_
              refine zx_E.go 5 (s' := (50, [some (.inr (some (25, 0, 0, 0))), some (.inl p1), some (.inl (w2 + 0)), some (.inl p3), some (.inl (w4 + 1)), some (.inl (M (26, 0, 0, 0) k1)), some (.inl v1), some (.inl 0), some (.inl 0)], [], (zx_lay M, n))) rfl ?_
              exact rl_X11_drift_50 hk q _ _ _ _ (w2 + 0) (w4 + 1) h
            · refine zx_E.go 5 (s' := (147, [some (.inr (some (25, 0, 0, 0))), some (.inl p1), some (.inl w2), some (.inl p3), some (.inl w4), some (.inl (M (26, 0, 0, 0) k1)), some (.inl v1), some (.inl 0), some (.inl 1)], [.inl 0, .inl w2], (zx_lay M, n))) rfl ?_
              refine zx_E.bt (c := ((0 : Int32) = 0 : Prop)) (s1 := (150, [some (.inr (some (25, 0, 0, 0))), some (.inl p1), some (.inl w2), some (.inl p3), some (.inl w4), some (.inl (M (26, 0, 0, 0) k1)), some (.inl v1), some (.inl 0), some (.inl 1)], [.inl w2], (zx_lay M, n))) (s2 := (155, [some (.inr (some (25, 0, 0, 0))), some (.inl p1), some (.inl w2), some (.inl p3), some (.inl w4), some (.inl (M (26, 0, 0, 0) k1)), some (.inl v1), some (.inl 0), some (.inl 1)], [.inl w2], (zx_lay M, n))) (zx_if_ne rfl) (by decide) ?_
              refine zx_E.go 1 (s' := (152, [some (.inr (some (25, 0, 0, 0))), some (.inl p1), some (.inl w2), some (.inl p3), some (.inl w4), some (.inl (M (26, 0, 0, 0) k1)), some (.inl v1), some (.inl 0), some (.inl 1)], [.inl 1, .inl w2], (zx_lay M, n))) rfl ?_
              refine zx_E.bf (c := ((1 : Int32) = 0 : Prop)) (s1 := (159, [some (.inr (some (25, 0, 0, 0))), some (.inl p1), some (.inl w2), some (.inl p3), some (.inl w4), some (.inl (M (26, 0, 0, 0) k1)), some (.inl v1), some (.inl 0), some (.inl 1)], [.inl w2], (zx_lay M, n))) (s2 := (155, [some (.inr (some (25, 0, 0, 0))), some (.inl p1), some (.inl w2), some (.inl p3), some (.inl w4), some (.inl (M (26, 0, 0, 0) k1)), some (.inl v1), some (.inl 0), some (.inl 1)], [.inl w2], (zx_lay M, n))) (zx_if_eq rfl) (by decide) ?_
              refine zx_E.go 6 (s' := (50, [some (.inr (some (25, 0, 0, 0))), some (.inl p1), some (.inl (w2 + 1)), some (.inl p3), some (.inl (w4 + 1)), some (.inl (M (26, 0, 0, 0) k1)), some (.inl v1), some (.inl 0), some (.inl 1)], [], (zx_lay M, n))) rfl ?_
              exact rl_X11_drift_50 hk q _ _ _ _ (w2 + 1) (w4 + 1) h
      · refine zx_E.go 2 (s' := (94, [some (.inr (some (25, 0, 0, 0))), some (.inl p1), some (.inl w2), some (.inl p3), some (.inl w4), some (.inl (M (26, 0, 0, 0) k1)), some (.inl v1), g7, g8], [.inl p1, .inl (M (26, 0, 0, 0) k1)], (zx_lay M, n))) rfl ?_
        refine zx_E.brh (c := p1 < (M (26, 0, 0, 0) k1)) (s1 := (108, [some (.inr (some (25, 0, 0, 0))), some (.inl p1), some (.inl w2), some (.inl p3), some (.inl w4), some (.inl (M (26, 0, 0, 0) k1)), some (.inl v1), g7, g8], [], (zx_lay M, n))) (s2 := (97, [some (.inr (some (25, 0, 0, 0))), some (.inl p1), some (.inl w2), some (.inl p3), some (.inl w4), some (.inl (M (26, 0, 0, 0) k1)), some (.inl v1), g7, g8], [], (zx_lay M, n))) h (zx_ic_gt rfl) (fun _ h => ?_) (fun _ h => ?_)
        · refine zx_E.go 6 (s' := (120, [some (.inr (some (25, 0, 0, 0))), some (.inl p1), some (.inl w2), some (.inl p3), some (.inl w4), some (.inl (M (26, 0, 0, 0) k1)), some (.inl v1), some (.inl 0), g8], [.inl 475, .inr (some (26, 0, 0, 0)), .inl v1], (zx_lay M, n))) rfl ?_
          refine zx_E.iald (k := 475) (h := (26, 0, 0, 0)) rfl rfl rfl (by decide) ?_
          show zx_E _ _ _ (121, [some (.inr (some (25, 0, 0, 0))), some (.inl p1), some (.inl w2), some (.inl p3), some (.inl w4), some (.inl (M (26, 0, 0, 0) k1)), some (.inl v1), some (.inl 0), g8], [.inl (M (26, 0, 0, 0) 475), .inl v1], (zx_lay M, n)) _
          refine zx_E.brh (c := v1 ≤ (M (26, 0, 0, 0) 475)) (s1 := (141, [some (.inr (some (25, 0, 0, 0))), some (.inl p1), some (.inl w2), some (.inl p3), some (.inl w4), some (.inl (M (26, 0, 0, 0) k1)), some (.inl v1), some (.inl 0), g8], [], (zx_lay M, n))) (s2 := (124, [some (.inr (some (25, 0, 0, 0))), some (.inl p1), some (.inl w2), some (.inl p3), some (.inl w4), some (.inl (M (26, 0, 0, 0) k1)), some (.inl v1), some (.inl 0), g8], [], (zx_lay M, n))) h (zx_ic_le rfl) (fun _ h => ?_) (fun _ h => ?_)
          · refine zx_E.go 4 (s' := (147, [some (.inr (some (25, 0, 0, 0))), some (.inl p1), some (.inl w2), some (.inl p3), some (.inl w4), some (.inl (M (26, 0, 0, 0) k1)), some (.inl v1), some (.inl 0), some (.inl 0)], [.inl 0, .inl w2], (zx_lay M, n))) rfl ?_
            refine zx_E.bt (c := ((0 : Int32) = 0 : Prop)) (s1 := (150, [some (.inr (some (25, 0, 0, 0))), some (.inl p1), some (.inl w2), some (.inl p3), some (.inl w4), some (.inl (M (26, 0, 0, 0) k1)), some (.inl v1), some (.inl 0), some (.inl 0)], [.inl w2], (zx_lay M, n))) (s2 := (155, [some (.inr (some (25, 0, 0, 0))), some (.inl p1), some (.inl w2), some (.inl p3), some (.inl w4), some (.inl (M (26, 0, 0, 0) k1)), some (.inl v1), some (.inl 0), some (.inl 0)], [.inl w2], (zx_lay M, n))) (zx_if_ne rfl) (by decide) ?_
            refine zx_E.go 1 (s' := (152, [some (.inr (some (25, 0, 0, 0))), some (.inl p1), some (.inl w2), some (.inl p3), some (.inl w4), some (.inl (M (26, 0, 0, 0) k1)), some (.inl v1), some (.inl 0), some (.inl 0)], [.inl 0, .inl w2], (zx_lay M, n))) rfl ?_
            refine zx_E.bt (c := ((0 : Int32) = 0 : Prop)) (s1 := (159, [some (.inr (some (25, 0, 0, 0))), some (.inl p1), some (.inl w2), some (.inl p3), some (.inl w4), some (.inl (M (26, 0, 0, 0) k1)), some (.inl v1), some (.inl 0), some (.inl 0)], [.inl w2], (zx_lay M, n))) (s2 := (155, [some (.inr (some (25, 0, 0, 0))), some (.inl p1), some (.inl w2), some (.inl p3), some (.inl w4), some (.inl (M (26, 0, 0, 0) k1)), some (.inl v1), some (.inl 0), some (.inl 0)], [.inl w2], (zx_lay M, n))) (zx_if_eq rfl) (by decide) ?_
            refine zx_E.go 5 (s' := (50, [some (.inr (some (25, 0, 0, 0))), some (.inl p1), some (.inl (w2 + 0)), some (.inl p3), some (.inl (w4 + 1)), some (.inl (M (26, 0, 0, 0) k1)), some (.inl v1), some (.inl 0), some (.inl 0)], [], (zx_lay M, n))) rfl ?_
            exact rl_X11_drift_50 hk q _ _ _ _ (w2 + 0) (w4 + 1) h
          · refine zx_E.go 2 (s' := (127, [some (.inr (some (25, 0, 0, 0))), some (.inl p1), some (.inl w2), some (.inl p3), some (.inl w4), some (.inl (M (26, 0, 0, 0) k1)), some (.inl v1), some (.inl 0), g8], [.inl p1, .inl v1], (zx_lay M, n))) rfl ?_
            refine zx_E.brh (c := p1 < v1) (s1 := (141, [some (.inr (some (25, 0, 0, 0))), some (.inl p1), some (.inl w2), some (.inl p3), some (.inl w4), some (.inl (M (26, 0, 0, 0) k1)), some (.inl v1), some (.inl 0), g8], [], (zx_lay M, n))) (s2 := (130, [some (.inr (some (25, 0, 0, 0))), some (.inl p1), some (.inl w2), some (.inl p3), some (.inl w4), some (.inl (M (26, 0, 0, 0) k1)), some (.inl v1), some (.inl 0), g8], [], (zx_lay M, n))) h (zx_ic_gt rfl) (fun _ h => ?_) (fun _ h => ?_)
            · refine zx_E.go 4 (s' := (147, [some (.inr (some (25, 0, 0, 0))), some (.inl p1), some (.inl w2), some (.inl p3), some (.inl w4), some (.inl (M (26, 0, 0, 0) k1)), some (.inl v1), some (.inl 0), some (.inl 0)], [.inl 0, .inl w2], (zx_lay M, n))) rfl ?_
              refine zx_E.bt (c := ((0 : Int32) = 0 : Prop)) (s1 := (150, [some (.inr (some (25, 0, 0, 0))), some (.inl p1), some (.inl w2), some (.inl p3), some (.inl w4), some (.inl (M (26, 0, 0, 0) k1)), some (.inl v1), some (.inl 0), some (.inl 0)], [.inl w2], (zx_lay M, n))) (s2 := (155, [some (.inr (some (25, 0, 0, 0))), some (.inl p1), some (.inl w2), some (.inl p3), some (.inl w4), some (.inl (M (26, 0, 0, 0) k1)), some (.inl v1), some (.inl 0), some (.inl 0)], [.inl w2], (zx_lay M, n))) (zx_if_ne rfl) (by decide) ?_
              refine zx_E.go 1 (s' := (152, [some (.inr (some (25, 0, 0, 0))), some (.inl p1), some (.inl w2), some (.inl p3), some (.inl w4), some (.inl (M (26, 0, 0, 0) k1)), some (.inl v1), some (.inl 0), some (.inl 0)], [.inl 0, .inl w2], (zx_lay M, n))) rfl ?_
              refine zx_E.bt (c := ((0 : Int32) = 0 : Prop)) (s1 := (159, [some (.inr (some (25, 0, 0, 0))), some (.inl p1), some (.inl w2), some (.inl p3), some (.inl w4), some (.inl (M (26, 0, 0, 0) k1)), some (.inl v1), some (.inl 0), some (.inl 0)], [.inl w2], (zx_lay M, n))) (s2 := (155, [some (.inr (some (25, 0, 0, 0))), some (.inl p1), some (.inl w2), some (.inl p3), some (.inl w4), some (.inl (M (26, 0, 0, 0) k1)), some (.inl v1), some (.inl 0), some (.inl 0)], [.inl w2], (zx_lay M, n))) (zx_if_eq rfl) (by decide) ?_
              refine zx_E.go 5 (s' := (50, [some (.inr (some (25, 0, 0, 0))), some (.inl p1), some (.inl (w2 + 0)), some (.inl p3), some (.inl (w4 + 1)), some (.inl (M (26, 0, 0, 0) k1)), some (.inl v1), some (.inl 0), some (.inl 0)], [], (zx_lay M, n))) rfl ?_
              exact rl_X11_drift_50 hk q _ _ _ _ (w2 + 0) (w4 + 1) h
            · refine zx_E.go 2 (s' := (134, [some (.inr (some (25, 0, 0, 0))), some (.inl p1), some (.inl w2), some (.inl p3), some (.inl w4), some (.inl (M (26, 0, 0, 0) k1)), some (.inl v1), some (.inl 0), g8], [.inl (M (26, 0, 0, 0) k1), .inl v1], (zx_lay M, n))) rfl ?_
              refine zx_E.brh (c := v1 = (M (26, 0, 0, 0) k1)) (s1 := (141, [some (.inr (some (25, 0, 0, 0))), some (.inl p1), some (.inl w2), some (.inl p3), some (.inl w4), some (.inl (M (26, 0, 0, 0) k1)), some (.inl v1), some (.inl 0), g8], [], (zx_lay M, n))) (s2 := (137, [some (.inr (some (25, 0, 0, 0))), some (.inl p1), some (.inl w2), some (.inl p3), some (.inl w4), some (.inl (M (26, 0, 0, 0) k1)), some (.inl v1), some (.inl 0), g8], [], (zx_lay M, n))) h (zx_ic_eq rfl) (fun _ h => ?_) (fun _ h => ?_)
              · refine zx_E.go 4 (s' := (147, [some (.inr (some (25, 0, 0, 0))), some (.inl p1), some (.inl w2), some (.inl p3), some (.inl w4), some (.inl (M (26, 0, 0, 0) k1)), some (.inl v1), some (.inl 0), some (.inl 0)], [.inl 0, .inl w2], (zx_lay M, n))) rfl ?_
                refine zx_E.bt (c := ((0 : Int32) = 0 : Prop)) (s1 := (150, [some (.inr (some (25, 0, 0, 0))), some (.inl p1), some (.inl w2), some (.inl p3), some (.inl w4), some (.inl (M (26, 0, 0, 0) k1)), some (.inl v1), some (.inl 0), some (.inl 0)], [.inl w2], (zx_lay M, n))) (s2 := (155, [some (.inr (some (25, 0, 0, 0))), some (.inl p1), some (.inl w2), some (.inl p3), some (.inl w4), some (.inl (M (26, 0, 0, 0) k1)), some (.inl v1), some (.inl 0), some (.inl 0)], [.inl w2], (zx_lay M, n))) (zx_if_ne rfl) (by decide) ?_
                refine zx_E.go 1 (s' := (152, [some (.inr (some (25, 0, 0, 0))), some (.inl p1), some (.inl w2), some (.inl p3), some (.inl w4), some (.inl (M (26, 0, 0, 0) k1)), some (.inl v1), some (.inl 0), some (.inl 0)], [.inl 0, .inl w2], (zx_lay M, n))) rfl ?_
                refine zx_E.bt (c := ((0 : Int32) = 0 : Prop)) (s1 := (159, [some (.inr (some (25, 0, 0, 0))), some (.inl p1), some (.inl w2), some (.inl p3), some (.inl w4), some (.inl (M (26, 0, 0, 0) k1)), some (.inl v1), some (.inl 0), some (.inl 0)], [.inl w2], (zx_lay M, n))) (s2 := (155, [some (.inr (some (25, 0, 0, 0))), some (.inl p1), some (.inl w2), some (.inl p3), some (.inl w4), some (.inl (M (26, 0, 0, 0) k1)), some (.inl v1), some (.inl 0), some (.inl 0)], [.inl w2], (zx_lay M, n))) (zx_if_eq rfl) (by decide) ?_
                refine zx_E.go 5 (s' := (50, [some (.inr (some (25, 0, 0, 0))), some (.inl p1), some (.inl (w2 + 0)), some (.inl p3), some (.inl (w4 + 1)), some (.inl (M (26, 0, 0, 0) k1)), some (.inl v1), some (.inl 0), some (.inl 0)], [], (zx_lay M, n))) rfl ?_
                exact rl_X11_drift_50 hk q _ _ _ _ (w2 + 0) (w4 + 1) h
              · refine zx_E.go 5 (s' := (147, [some (.inr (some (25, 0, 0, 0))), some (.inl p1), some (.inl w2), some (.inl p3), some (.inl w4), some (.inl (M (26, 0, 0, 0) k1)), some (.inl v1), some (.inl 0), some (.inl 1)], [.inl 0, .inl w2], (zx_lay M, n))) rfl ?_
                refine zx_E.bt (c := ((0 : Int32) = 0 : Prop)) (s1 := (150, [some (.inr (some (25, 0, 0, 0))), some (.inl p1), some (.inl w2), some (.inl p3), some (.inl w4), some (.inl (M (26, 0, 0, 0) k1)), some (.inl v1), some (.inl 0), some (.inl 1)], [.inl w2], (zx_lay M, n))) (s2 := (155, [some (.inr (some (25, 0, 0, 0))), some (.inl p1), some (.inl w2), some (.inl p3), some (.inl w4), some (.inl (M (26, 0, 0, 0) k1)), some (.inl v1), some (.inl 0), some (.inl 1)], [.inl w2], (zx_lay M, n))) (zx_if_ne rfl) (by decide) ?_
                refine zx_E.go 1 (s' := (152, [some (.inr (some (25, 0, 0, 0))), some (.inl p1), some (.inl w2), some (.inl p3), some (.inl w4), some (.inl (M (26, 0, 0, 0) k1)), some (.inl v1), some (.inl 0), some (.inl 1)], [.inl 1, .inl w2], (zx_lay M, n))) rfl ?_
                refine zx_E.bf (c := ((1 : Int32) = 0 : Prop)) (s1 := (159, [some (.inr (some (25, 0, 0, 0))), some (.inl p1), some (.inl w2), some (.inl p3), some (.inl w4), some (.inl (M (26, 0, 0, 0) k1)), some (.inl v1), some (.inl 0), some (.inl 1)], [.inl w2], (zx_lay M, n))) (s2 := (155, [some (.inr (some (25, 0, 0, 0))), some (.inl p1), some (.inl w2), some (.inl p3), some (.inl w4), some (.inl (M (26, 0, 0, 0) k1)), some (.inl v1), some (.inl 0), some (.inl 1)], [.inl w2], (zx_lay M, n))) (zx_if_eq rfl) (by decide) ?_
                refine zx_E.go 6 (s' := (50, [some (.inr (some (25, 0, 0, 0))), some (.inl p1), some (.inl (w2 + 1)), some (.inl p3), some (.inl (w4 + 1)), some (.inl (M (26, 0, 0, 0) k1)), some (.inl v1), some (.inl 0), some (.inl 1)], [], (zx_lay M, n))) rfl ?_
                exact rl_X11_drift_50 hk q _ _ _ _ (w2 + 1) (w4 + 1) h
        · refine zx_E.go 2 (s' := (101, [some (.inr (some (25, 0, 0, 0))), some (.inl p1), some (.inl w2), some (.inl p3), some (.inl w4), some (.inl (M (26, 0, 0, 0) k1)), some (.inl v1), g7, g8], [.inl (M (26, 0, 0, 0) k1), .inl v1], (zx_lay M, n))) rfl ?_
          refine zx_E.brh (c := v1 = (M (26, 0, 0, 0) k1)) (s1 := (108, [some (.inr (some (25, 0, 0, 0))), some (.inl p1), some (.inl w2), some (.inl p3), some (.inl w4), some (.inl (M (26, 0, 0, 0) k1)), some (.inl v1), g7, g8], [], (zx_lay M, n))) (s2 := (104, [some (.inr (some (25, 0, 0, 0))), some (.inl p1), some (.inl w2), some (.inl p3), some (.inl w4), some (.inl (M (26, 0, 0, 0) k1)), some (.inl v1), g7, g8], [], (zx_lay M, n))) h (zx_ic_eq rfl) (fun _ h => ?_) (fun _ h => ?_)
          · refine zx_E.go 6 (s' := (120, [some (.inr (some (25, 0, 0, 0))), some (.inl p1), some (.inl w2), some (.inl p3), some (.inl w4), some (.inl (M (26, 0, 0, 0) k1)), some (.inl v1), some (.inl 0), g8], [.inl 475, .inr (some (26, 0, 0, 0)), .inl v1], (zx_lay M, n))) rfl ?_
            refine zx_E.iald (k := 475) (h := (26, 0, 0, 0)) rfl rfl rfl (by decide) ?_
            show zx_E _ _ _ (121, [some (.inr (some (25, 0, 0, 0))), some (.inl p1), some (.inl w2), some (.inl p3), some (.inl w4), some (.inl (M (26, 0, 0, 0) k1)), some (.inl v1), some (.inl 0), g8], [.inl (M (26, 0, 0, 0) 475), .inl v1], (zx_lay M, n)) _
            refine zx_E.brh (c := v1 ≤ (M (26, 0, 0, 0) 475)) (s1 := (141, [some (.inr (some (25, 0, 0, 0))), some (.inl p1), some (.inl w2), some (.inl p3), some (.inl w4), some (.inl (M (26, 0, 0, 0) k1)), some (.inl v1), some (.inl 0), g8], [], (zx_lay M, n))) (s2 := (124, [some (.inr (some (25, 0, 0, 0))), some (.inl p1), some (.inl w2), some (.inl p3), some (.inl w4), some (.inl (M (26, 0, 0, 0) k1)), some (.inl v1), some (.inl 0), g8], [], (zx_lay M, n))) h (zx_ic_le rfl) (fun _ h => ?_) (fun _ h => ?_)
            · refine zx_E.go 4 (s' := (147, [some (.inr (some (25, 0, 0, 0))), some (.inl p1), some (.inl w2), some (.inl p3), some (.inl w4), some (.inl (M (26, 0, 0, 0) k1)), some (.inl v1), some (.inl 0), some (.inl 0)], [.inl 0, .inl w2], (zx_lay M, n))) rfl ?_
              refine zx_E.bt (c := ((0 : Int32) = 0 : Prop)) (s1 := (150, [some (.inr (some (25, 0, 0, 0))), some (.inl p1), some (.inl w2), some (.inl p3), some (.inl w4), some (.inl (M (26, 0, 0, 0) k1)), some (.inl v1), some (.inl 0), some (.inl 0)], [.inl w2], (zx_lay M, n))) (s2 := (155, [some (.inr (some (25, 0, 0, 0))), some (.inl p1), some (.inl w2), some (.inl p3), some (.inl w4), some (.inl (M (26, 0, 0, 0) k1)), some (.inl v1), some (.inl 0), some (.inl 0)], [.inl w2], (zx_lay M, n))) (zx_if_ne rfl) (by decide) ?_
              refine zx_E.go 1 (s' := (152, [some (.inr (some (25, 0, 0, 0))), some (.inl p1), some (.inl w2), some (.inl p3), some (.inl w4), some (.inl (M (26, 0, 0, 0) k1)), some (.inl v1), some (.inl 0), some (.inl 0)], [.inl 0, .inl w2], (zx_lay M, n))) rfl ?_
              refine zx_E.bt (c := ((0 : Int32) = 0 : Prop)) (s1 := (159, [some (.inr (some (25, 0, 0, 0))), some (.inl p1), some (.inl w2), some (.inl p3), some (.inl w4), some (.inl (M (26, 0, 0, 0) k1)), some (.inl v1), some (.inl 0), some (.inl 0)], [.inl w2], (zx_lay M, n))) (s2 := (155, [some (.inr (some (25, 0, 0, 0))), some (.inl p1), some (.inl w2), some (.inl p3), some (.inl w4), some (.inl (M (26, 0, 0, 0) k1)), some (.inl v1), some (.inl 0), some (.inl 0)], [.inl w2], (zx_lay M, n))) (zx_if_eq rfl) (by decide) ?_
              refine zx_E.go 5 (s' := (50, [some (.inr (some (25, 0, 0, 0))), some (.inl p1), some (.inl (w2 + 0)), some (.inl p3), some (.inl (w4 + 1)), some (.inl (M (26, 0, 0, 0) k1)), some (.inl v1), some (.inl 0), some (.inl 0)], [], (zx_lay M, n))) rfl ?_
              exact rl_X11_drift_50 hk q _ _ _ _ (w2 + 0) (w4 + 1) h
            · refine zx_E.go 2 (s' := (127, [some (.inr (some (25, 0, 0, 0))), some (.inl p1), some (.inl w2), some (.inl p3), some (.inl w4), some (.inl (M (26, 0, 0, 0) k1)), some (.inl v1), some (.inl 0), g8], [.inl p1, .inl v1], (zx_lay M, n))) rfl ?_
              refine zx_E.brh (c := p1 < v1) (s1 := (141, [some (.inr (some (25, 0, 0, 0))), some (.inl p1), some (.inl w2), some (.inl p3), some (.inl w4), some (.inl (M (26, 0, 0, 0) k1)), some (.inl v1), some (.inl 0), g8], [], (zx_lay M, n))) (s2 := (130, [some (.inr (some (25, 0, 0, 0))), some (.inl p1), some (.inl w2), some (.inl p3), some (.inl w4), some (.inl (M (26, 0, 0, 0) k1)), some (.inl v1), some (.inl 0), g8], [], (zx_lay M, n))) h (zx_ic_gt rfl) (fun _ h => ?_) (fun _ h => ?_)
              · refine zx_E.go 4 (s' := (147, [some (.inr (some (25, 0, 0, 0))), some (.inl p1), some (.inl w2), some (.inl p3), some (.inl w4), some (.inl (M (26, 0, 0, 0) k1)), some (.inl v1), some (.inl 0), some (.inl 0)], [.inl 0, .inl w2], (zx_lay M, n))) rfl ?_
                refine zx_E.bt (c := ((0 : Int32) = 0 : Prop)) (s1 := (150, [some (.inr (some (25, 0, 0, 0))), some (.inl p1), some (.inl w2), some (.inl p3), some (.inl w4), some (.inl (M (26, 0, 0, 0) k1)), some (.inl v1), some (.inl 0), some (.inl 0)], [.inl w2], (zx_lay M, n))) (s2 := (155, [some (.inr (some (25, 0, 0, 0))), some (.inl p1), some (.inl w2), some (.inl p3), some (.inl w4), some (.inl (M (26, 0, 0, 0) k1)), some (.inl v1), some (.inl 0), some (.inl 0)], [.inl w2], (zx_lay M, n))) (zx_if_ne rfl) (by decide) ?_
                refine zx_E.go 1 (s' := (152, [some (.inr (some (25, 0, 0, 0))), some (.inl p1), some (.inl w2), some (.inl p3), some (.inl w4), some (.inl (M (26, 0, 0, 0) k1)), some (.inl v1), some (.inl 0), some (.inl 0)], [.inl 0, .inl w2], (zx_lay M, n))) rfl ?_
                refine zx_E.bt (c := ((0 : Int32) = 0 : Prop)) (s1 := (159, [some (.inr (some (25, 0, 0, 0))), some (.inl p1), some (.inl w2), some (.inl p3), some (.inl w4), some (.inl (M (26, 0, 0, 0) k1)), some (.inl v1), some (.inl 0), some (.inl 0)], [.inl w2], (zx_lay M, n))) (s2 := (155, [some (.inr (some (25, 0, 0, 0))), some (.inl p1), some (.inl w2), some (.inl p3), some (.inl w4), some (.inl (M (26, 0, 0, 0) k1)), some (.inl v1), some (.inl 0), some (.inl 0)], [.inl w2], (zx_lay M, n))) (zx_if_eq rfl) (by decide) ?_
                refine zx_E.go 5 (s' := (50, [some (.inr (some (25, 0, 0, 0))), some (.inl p1), some (.inl (w2 + 0)), some (.inl p3), some (.inl (w4 + 1)), some (.inl (M (26, 0, 0, 0) k1)), some (.inl v1), some (.inl 0), some (.inl 0)], [], (zx_lay M, n))) rfl ?_
                exact rl_X11_drift_50 hk q _ _ _ _ (w2 + 0) (w4 + 1) h
              · refine zx_E.go 2 (s' := (134, [some (.inr (some (25, 0, 0, 0))), some (.inl p1), some (.inl w2), some (.inl p3), some (.inl w4), some (.inl (M (26, 0, 0, 0) k1)), some (.inl v1), some (.inl 0), g8], [.inl (M (26, 0, 0, 0) k1), .inl v1], (zx_lay M, n))) rfl ?_
                refine zx_E.brh (c := v1 = (M (26, 0, 0, 0) k1)) (s1 := (141, [some (.inr (some (25, 0, 0, 0))), some (.inl p1), some (.inl w2), some (.inl p3), some (.inl w4), some (.inl (M (26, 0, 0, 0) k1)), some (.inl v1), some (.inl 0), g8], [], (zx_lay M, n))) (s2 := (137, [some (.inr (some (25, 0, 0, 0))), some (.inl p1), some (.inl w2), some (.inl p3), some (.inl w4), some (.inl (M (26, 0, 0, 0) k1)), some (.inl v1), some (.inl 0), g8], [], (zx_lay M, n))) h (zx_ic_eq rfl) (fun _ h => ?_) (fun _ h => ?_)
                · refine zx_E.go 4 (s' := (147, [some (.inr (some (25, 0, 0, 0))), some (.inl p1), some (.inl w2), some (.inl p3), some (.inl w4), some (.inl (M (26, 0, 0, 0) k1)), some (.inl v1), some (.inl 0), some (.inl 0)], [.inl 0, .inl w2], (zx_lay M, n))) rfl ?_
                  refine zx_E.bt (c := ((0 : Int32) = 0 : Prop)) (s1 := (150, [some (.inr (some (25, 0, 0, 0))), some (.inl p1), some (.inl w2), some (.inl p3), some (.inl w4), some (.inl (M (26, 0, 0, 0) k1)), some (.inl v1), some (.inl 0), some (.inl 0)], [.inl w2], (zx_lay M, n))) (s2 := (155, [some (.inr (some (25, 0, 0, 0))), some (.inl p1), some (.inl w2), some (.inl p3), some (.inl w4), some (.inl (M (26, 0, 0, 0) k1)), some (.inl v1), some (.inl 0), some (.inl 0)], [.inl w2], (zx_lay M, n))) (zx_if_ne rfl) (by decide) ?_
                  refine zx_E.go 1 (s' := (152, [some (.inr (some (25, 0, 0, 0))), some (.inl p1), some (.inl w2), some (.inl p3), some (.inl w4), some (.inl (M (26, 0, 0, 0) k1)), some (.inl v1), some (.inl 0), some (.inl 0)], [.inl 0, .inl w2], (zx_lay M, n))) rfl ?_
                  refine zx_E.bt (c := ((0 : Int32) = 0 : Prop)) (s1 := (159, [some (.inr (some (25, 0, 0, 0))), some (.inl p1), some (.inl w2), some (.inl p3), some (.inl w4), some (.inl (M (26, 0, 0, 0) k1)), some (.inl v1), some (.inl 0), some (.inl 0)], [.inl w2], (zx_lay M, n))) (s2 := (155, [some (.inr (some (25, 0, 0, 0))), some (.inl p1), some (.inl w2), some (.inl p3), some (.inl w4), some (.inl (M (26, 0, 0, 0) k1)), some (.inl v1), some (.inl 0), some (.inl 0)], [.inl w2], (zx_lay M, n))) (zx_if_eq rfl) (by decide) ?_
                  refine zx_E.go 5 (s' := (50, [some (.inr (some (25, 0, 0, 0))), some (.inl p1), some (.inl (w2 + 0)), some (.inl p3), some (.inl (w4 + 1)), some (.inl (M (26, 0, 0, 0) k1)), some (.inl v1), some (.inl 0), some (.inl 0)], [], (zx_lay M, n))) rfl ?_
                  exact rl_X11_drift_50 hk q _ _ _ _ (w2 + 0) (w4 + 1) h
                · refine zx_E.go 5 (s' := (147, [some (.inr (some (25, 0, 0, 0))), some (.inl p1), some (.inl w2), some (.inl p3), some (.inl w4), some (.inl (M (26, 0, 0, 0) k1)), some (.inl v1), some (.inl 0), some (.inl 1)], [.inl 0, .inl w2], (zx_lay M, n))) rfl ?_
                  refine zx_E.bt (c := ((0 : Int32) = 0 : Prop)) (s1 := (150, [some (.inr (some (25, 0, 0, 0))), some (.inl p1), some (.inl w2), some (.inl p3), some (.inl w4), some (.inl (M (26, 0, 0, 0) k1)), some (.inl v1), some (.inl 0), some (.inl 1)], [.inl w2], (zx_lay M, n))) (s2 := (155, [some (.inr (some (25, 0, 0, 0))), some (.inl p1), some (.inl w2), some (.inl p3), some (.inl w4), some (.inl (M (26, 0, 0, 0) k1)), some (.inl v1), some (.inl 0), some (.inl 1)], [.inl w2], (zx_lay M, n))) (zx_if_ne rfl) (by decide) ?_
                  refine zx_E.go 1 (s' := (152, [some (.inr (some (25, 0, 0, 0))), some (.inl p1), some (.inl w2), some (.inl p3), some (.inl w4), some (.inl (M (26, 0, 0, 0) k1)), some (.inl v1), some (.inl 0), some (.inl 1)], [.inl 1, .inl w2], (zx_lay M, n))) rfl ?_
                  refine zx_E.bf (c := ((1 : Int32) = 0 : Prop)) (s1 := (159, [some (.inr (some (25, 0, 0, 0))), some (.inl p1), some (.inl w2), some (.inl p3), some (.inl w4), some (.inl (M (26, 0, 0, 0) k1)), some (.inl v1), some (.inl 0), some (.inl 1)], [.inl w2], (zx_lay M, n))) (s2 := (155, [some (.inr (some (25, 0, 0, 0))), some (.inl p1), some (.inl w2), some (.inl p3), some (.inl w4), some (.inl (M (26, 0, 0, 0) k1)), some (.inl v1), some (.inl 0), some (.inl 1)], [.inl w2], (zx_lay M, n))) (zx_if_eq rfl) (by decide) ?_
                  refine zx_E.go 6 (s' := (50, [some (.inr (some (25, 0, 0, 0))), some (.inl p1), some (.inl (w2 + 1)), some (.inl p3), some (.inl (w4 + 1)), some (.inl (M (26, 0, 0, 0) k1)), some (.inl v1), some (.inl 0), some (.inl 1)], [], (zx_lay M, n))) rfl ?_
                  exact rl_X11_drift_50 hk q _ _ _ _ (w2 + 1) (w4 + 1) h
          · refine zx_E.go 7 (s' := (120, [some (.inr (some (25, 0, 0, 0))), some (.inl p1), some (.inl w2), some (.inl p3), some (.inl w4), some (.inl (M (26, 0, 0, 0) k1)), some (.inl v1), some (.inl 1), g8], [.inl 475, .inr (some (26, 0, 0, 0)), .inl v1], (zx_lay M, n))) rfl ?_
            refine zx_E.iald (k := 475) (h := (26, 0, 0, 0)) rfl rfl rfl (by decide) ?_
            show zx_E _ _ _ (121, [some (.inr (some (25, 0, 0, 0))), some (.inl p1), some (.inl w2), some (.inl p3), some (.inl w4), some (.inl (M (26, 0, 0, 0) k1)), some (.inl v1), some (.inl 1), g8], [.inl (M (26, 0, 0, 0) 475), .inl v1], (zx_lay M, n)) _
            refine zx_E.brh (c := v1 ≤ (M (26, 0, 0, 0) 475)) (s1 := (141, [some (.inr (some (25, 0, 0, 0))), some (.inl p1), some (.inl w2), some (.inl p3), some (.inl w4), some (.inl (M (26, 0, 0, 0) k1)), some (.inl v1), some (.inl 1), g8], [], (zx_lay M, n))) (s2 := (124, [some (.inr (some (25, 0, 0, 0))), some (.inl p1), some (.inl w2), some (.inl p3), some (.inl w4), some (.inl (M (26, 0, 0, 0) k1)), some (.inl v1), some (.inl 1), g8], [], (zx_lay M, n))) h (zx_ic_le rfl) (fun _ h => ?_) (fun _ h => ?_)
            · refine zx_E.go 4 (s' := (147, [some (.inr (some (25, 0, 0, 0))), some (.inl p1), some (.inl w2), some (.inl p3), some (.inl w4), some (.inl (M (26, 0, 0, 0) k1)), some (.inl v1), some (.inl 1), some (.inl 0)], [.inl 1, .inl w2], (zx_lay M, n))) rfl ?_
              refine zx_E.bf (c := ((1 : Int32) = 0 : Prop)) (s1 := (150, [some (.inr (some (25, 0, 0, 0))), some (.inl p1), some (.inl w2), some (.inl p3), some (.inl w4), some (.inl (M (26, 0, 0, 0) k1)), some (.inl v1), some (.inl 1), some (.inl 0)], [.inl w2], (zx_lay M, n))) (s2 := (155, [some (.inr (some (25, 0, 0, 0))), some (.inl p1), some (.inl w2), some (.inl p3), some (.inl w4), some (.inl (M (26, 0, 0, 0) k1)), some (.inl v1), some (.inl 1), some (.inl 0)], [.inl w2], (zx_lay M, n))) (zx_if_ne rfl) (by decide) ?_
              refine zx_E.go 6 (s' := (50, [some (.inr (some (25, 0, 0, 0))), some (.inl p1), some (.inl (w2 + 1)), some (.inl p3), some (.inl (w4 + 1)), some (.inl (M (26, 0, 0, 0) k1)), some (.inl v1), some (.inl 1), some (.inl 0)], [], (zx_lay M, n))) rfl ?_
              exact rl_X11_drift_50 hk q _ _ _ _ (w2 + 1) (w4 + 1) h
            · refine zx_E.go 2 (s' := (127, [some (.inr (some (25, 0, 0, 0))), some (.inl p1), some (.inl w2), some (.inl p3), some (.inl w4), some (.inl (M (26, 0, 0, 0) k1)), some (.inl v1), some (.inl 1), g8], [.inl p1, .inl v1], (zx_lay M, n))) rfl ?_
              refine zx_E.brh (c := p1 < v1) (s1 := (141, [some (.inr (some (25, 0, 0, 0))), some (.inl p1), some (.inl w2), some (.inl p3), some (.inl w4), some (.inl (M (26, 0, 0, 0) k1)), some (.inl v1), some (.inl 1), g8], [], (zx_lay M, n))) (s2 := (130, [some (.inr (some (25, 0, 0, 0))), some (.inl p1), some (.inl w2), some (.inl p3), some (.inl w4), some (.inl (M (26, 0, 0, 0) k1)), some (.inl v1), some (.inl 1), g8], [], (zx_lay M, n))) h (zx_ic_gt rfl) (fun _ h => ?_) (fun _ h => ?_)
              · refine zx_E.go 4 (s' := (147, [some (.inr (some (25, 0, 0, 0))), some (.inl p1), some (.inl w2), some (.inl p3), some (.inl w4), some (.inl (M (26, 0, 0, 0) k1)), some (.inl v1), some (.inl 1), some (.inl 0)], [.inl 1, .inl w2], (zx_lay M, n))) rfl ?_
                refine zx_E.bf (c := ((1 : Int32) = 0 : Prop)) (s1 := (150, [some (.inr (some (25, 0, 0, 0))), some (.inl p1), some (.inl w2), some (.inl p3), some (.inl w4), some (.inl (M (26, 0, 0, 0) k1)), some (.inl v1), some (.inl 1), some (.inl 0)], [.inl w2], (zx_lay M, n))) (s2 := (155, [some (.inr (some (25, 0, 0, 0))), some (.inl p1), some (.inl w2), some (.inl p3), some (.inl w4), some (.inl (M (26, 0, 0, 0) k1)), some (.inl v1), some (.inl 1), some (.inl 0)], [.inl w2], (zx_lay M, n))) (zx_if_ne rfl) (by decide) ?_
                refine zx_E.go 6 (s' := (50, [some (.inr (some (25, 0, 0, 0))), some (.inl p1), some (.inl (w2 + 1)), some (.inl p3), some (.inl (w4 + 1)), some (.inl (M (26, 0, 0, 0) k1)), some (.inl v1), some (.inl 1), some (.inl 0)], [], (zx_lay M, n))) rfl ?_
                exact rl_X11_drift_50 hk q _ _ _ _ (w2 + 1) (w4 + 1) h
              · refine zx_E.go 2 (s' := (134, [some (.inr (some (25, 0, 0, 0))), some (.inl p1), some (.inl w2), some (.inl p3), some (.inl w4), some (.inl (M (26, 0, 0, 0) k1)), some (.inl v1), some (.inl 1), g8], [.inl (M (26, 0, 0, 0) k1), .inl v1], (zx_lay M, n))) rfl ?_
                refine zx_E.brh (c := v1 = (M (26, 0, 0, 0) k1)) (s1 := (141, [some (.inr (some (25, 0, 0, 0))), some (.inl p1), some (.inl w2), some (.inl p3), some (.inl w4), some (.inl (M (26, 0, 0, 0) k1)), some (.inl v1), some (.inl 1), g8], [], (zx_lay M, n))) (s2 := (137, [some (.inr (some (25, 0, 0, 0))), some (.inl p1), some (.inl w2), some (.inl p3), some (.inl w4), some (.inl (M (26, 0, 0, 0) k1)), some (.inl v1), some (.inl 1), g8], [], (zx_lay M, n))) h (zx_ic_eq rfl) (fun _ h => ?_) (fun _ h => ?_)
                · refine zx_E.go 4 (s' := (147, [some (.inr (some (25, 0, 0, 0))), some (.inl p1), some (.inl w2), some (.inl p3), some (.inl w4), some (.inl (M (26, 0, 0, 0) k1)), some (.inl v1), some (.inl 1), some (.inl 0)], [.inl 1, .inl w2], (zx_lay M, n))) rfl ?_
                  refine zx_E.bf (c := ((1 : Int32) = 0 : Prop)) (s1 := (150, [some (.inr (some (25, 0, 0, 0))), some (.inl p1), some (.inl w2), some (.inl p3), some (.inl w4), some (.inl (M (26, 0, 0, 0) k1)), some (.inl v1), some (.inl 1), some (.inl 0)], [.inl w2], (zx_lay M, n))) (s2 := (155, [some (.inr (some (25, 0, 0, 0))), some (.inl p1), some (.inl w2), some (.inl p3), some (.inl w4), some (.inl (M (26, 0, 0, 0) k1)), some (.inl v1), some (.inl 1), some (.inl 0)], [.inl w2], (zx_lay M, n))) (zx_if_ne rfl) (by decide) ?_
                  refine zx_E.go 6 (s' := (50, [some (.inr (some (25, 0, 0, 0))), some (.inl p1), some (.inl (w2 + 1)), some (.inl p3), some (.inl (w4 + 1)), some (.inl (M (26, 0, 0, 0) k1)), some (.inl v1), some (.inl 1), some (.inl 0)], [], (zx_lay M, n))) rfl ?_
                  exact rl_X11_drift_50 hk q _ _ _ _ (w2 + 1) (w4 + 1) h
                · refine zx_E.go 5 (s' := (147, [some (.inr (some (25, 0, 0, 0))), some (.inl p1), some (.inl w2), some (.inl p3), some (.inl w4), some (.inl (M (26, 0, 0, 0) k1)), some (.inl v1), some (.inl 1), some (.inl 1)], [.inl 1, .inl w2], (zx_lay M, n))) rfl ?_
                  refine zx_E.bf (c := ((1 : Int32) = 0 : Prop)) (s1 := (150, [some (.inr (some (25, 0, 0, 0))), some (.inl p1), some (.inl w2), some (.inl p3), some (.inl w4), some (.inl (M (26, 0, 0, 0) k1)), some (.inl v1), some (.inl 1), some (.inl 1)], [.inl w2], (zx_lay M, n))) (s2 := (155, [some (.inr (some (25, 0, 0, 0))), some (.inl p1), some (.inl w2), some (.inl p3), some (.inl w4), some (.inl (M (26, 0, 0, 0) k1)), some (.inl v1), some (.inl 1), some (.inl 1)], [.inl w2], (zx_lay M, n))) (zx_if_ne rfl) (by decide) ?_
                  refine zx_E.go 6 (s' := (50, [some (.inr (some (25, 0, 0, 0))), some (.inl p1), some (.inl (w2 + 1)), some (.inl p3), some (.inl (w4 + 1)), some (.inl (M (26, 0, 0, 0) k1)), some (.inl v1), some (.inl 1), some (.inl 1)], [], (zx_lay M, n))) rfl ?_
                  exact rl_X11_drift_50 hk q _ _ _ _ (w2 + 1) (w4 + 1) h
def lg_X11_drift_36 (M : zx_Y) (p1 : Int32) (kk : Int32 → Int32 → Option Int32) : Nat → Int32 → Int32 → Option Int32
  | 0, _, _ => none
  | q + 1, w2, w3 => (if (M (26, 0, 0, 0) 27) ≤ w3 then (kk w2 w3) else (lg_X11_drift_50 M p1 w3 (fun v1 v2 => (lg_X11_drift_36 M p1 kk q v1 (w3 + 1))) 1000 w2 0))
set_option maxRecDepth 100000 in
set_option maxHeartbeats 4000000 in
theorem rl_X11_drift_36 {X : zx_X} {d n : Nat} {M : zx_Y} {p1 : Int32} {kk : Int32 → Int32 → Option Int32} {rv : Int32} (hk : ∀ (w2 : Int32) (w3 : Int32) (e4 : Option zx_V) (e5 : Option zx_V) (e6 : Option zx_V) (e7 : Option zx_V) (e8 : Option zx_V), kk w2 w3 = some rv → zx_E X (d + 2) zc_X11_drift (174, [some (.inr (some (25, 0, 0, 0))), some (.inl p1), some (.inl w2), some (.inl w3), e4, e5, e6, e7, e8], [], (zx_lay M, n)) (some (.inl rv), (zx_lay M, n))) : ∀ (q : Nat) (g4 : Option zx_V) (g5 : Option zx_V) (g6 : Option zx_V) (g7 : Option zx_V) (g8 : Option zx_V) (w2 : Int32) (w3 : Int32), lg_X11_drift_36 M p1 kk q w2 w3 = some rv → zx_E X (d + 2) zc_X11_drift (36, [some (.inr (some (25, 0, 0, 0))), some (.inl p1), some (.inl w2), some (.inl w3), g4, g5, g6, g7, g8], [], (zx_lay M, n)) (some (.inl rv), (zx_lay M, n))
  | 0, g4, g5, g6, g7, g8, w2, w3, h => by
    rw [lg_X11_drift_36.eq_1] at h
    cases h
  | q + 1, g4, g5, g6, g7, g8, w2, w3, h => by
    rw [lg_X11_drift_36.eq_2] at h
    refine zx_E.go 4 (s' := (43, [some (.inr (some (25, 0, 0, 0))), some (.inl p1), some (.inl w2), some (.inl w3), g4, g5, g6, g7, g8], [.inl 27, .inr (some (26, 0, 0, 0)), .inl w3], (zx_lay M, n))) rfl ?_
    refine zx_E.iald (k := 27) (h := (26, 0, 0, 0)) rfl rfl rfl (by decide) ?_
    show zx_E _ _ _ (44, [some (.inr (some (25, 0, 0, 0))), some (.inl p1), some (.inl w2), some (.inl w3), g4, g5, g6, g7, g8], [.inl (M (26, 0, 0, 0) 27), .inl w3], (zx_lay M, n)) _
    refine zx_E.brh (c := (M (26, 0, 0, 0) 27) ≤ w3) (s1 := (174, [some (.inr (some (25, 0, 0, 0))), some (.inl p1), some (.inl w2), some (.inl w3), g4, g5, g6, g7, g8], [], (zx_lay M, n))) (s2 := (47, [some (.inr (some (25, 0, 0, 0))), some (.inl p1), some (.inl w2), some (.inl w3), g4, g5, g6, g7, g8], [], (zx_lay M, n))) h (zx_ic_ge rfl) (fun _ h => ?_) (fun _ h => ?_)
    · exact hk _ _ _ _ _ _ _ h
    · refine zx_E.go 2 (s' := (50, [some (.inr (some (25, 0, 0, 0))), some (.inl p1), some (.inl w2), some (.inl w3), some (.inl 0), g5, g6, g7, g8], [], (zx_lay M, n))) rfl ?_
      refine rl_X11_drift_50 (fun v1 v2 e1 e2 e3 e4 h => ?_) 1000 _ _ _ _ w2 0  h
      refine zx_E.go 2 (s' := (36, [some (.inr (some (25, 0, 0, 0))), some (.inl p1), some (.inl v1), some (.inl (w3 + 1)), some (.inl v2), e1, e2, e3, e4], [], (zx_lay M, n))) rfl ?_
      exact rl_X11_drift_36 hk q _ _ _ _ _ v1 (w3 + 1) h
def g_X11_drift (M : zx_Y) : Option Int32 := (if (M (26, 0, 0, 0) 476) = 0 then (some (-5)) else (lg_X11_drift_36 M (zmin (M (26, 0, 0, 0) 0) (M (26, 0, 0, 0) 476)) (fun v1 v2 => (some v1)) 1000 0 0))
set_option maxRecDepth 100000 in
set_option maxHeartbeats 4000000 in
theorem r_X11_drift {X : zx_X} {d n : Nat} {M : zx_Y} {rv : Int32} (h : g_X11_drift M = some rv) : zx_run X (d + 3) 187 [.inr (some (25, 0, 0, 0))] (zx_lay M, n) (some (.inl rv), (zx_lay M, n)) := by
  refine zx_run_of zc_X11_drift [some (.inr (some (25, 0, 0, 0))), none, none, none, none, none, none, none, none] rfl rfl ?_
  unfold g_X11_drift at h
  refine zx_E.go 3 (s' := (7, [some (.inr (some (25, 0, 0, 0))), none, none, none, none, none, none, none, none], [.inl 476, .inr (some (26, 0, 0, 0))], (zx_lay M, n))) rfl ?_
  refine zx_E.iald (k := 476) (h := (26, 0, 0, 0)) rfl rfl rfl (by decide) ?_
  show zx_E _ _ _ (8, [some (.inr (some (25, 0, 0, 0))), none, none, none, none, none, none, none, none], [.inl (M (26, 0, 0, 0) 476)], (zx_lay M, n)) _
  refine zx_E.brh (c := (M (26, 0, 0, 0) 476) = 0) (s1 := (11, [some (.inr (some (25, 0, 0, 0))), none, none, none, none, none, none, none, none], [], (zx_lay M, n))) (s2 := (14, [some (.inr (some (25, 0, 0, 0))), none, none, none, none, none, none, none, none], [], (zx_lay M, n))) h (zx_if_ne rfl) (fun _ h => ?_) (fun _ h => ?_)
  · refine zx_E.go 1 (s' := (13, [some (.inr (some (25, 0, 0, 0))), none, none, none, none, none, none, none, none], [.inl (-5)], (zx_lay M, n))) rfl ?_
    exact zx_E.rp h rfl (fun h => absurd h (by decide))
  · refine zx_E.go 3 (s' := (19, [some (.inr (some (25, 0, 0, 0))), none, none, none, none, none, none, none, none], [.inl 0, .inr (some (26, 0, 0, 0))], (zx_lay M, n))) rfl ?_
    refine zx_E.iald (k := 0) (h := (26, 0, 0, 0)) rfl rfl rfl (by decide) ?_
    show zx_E _ _ _ (20, [some (.inr (some (25, 0, 0, 0))), none, none, none, none, none, none, none, none], [.inl (M (26, 0, 0, 0) 0)], (zx_lay M, n)) _
    refine zx_E.go 3 (s' := (27, [some (.inr (some (25, 0, 0, 0))), none, none, none, none, none, none, none, none], [.inl 476, .inr (some (26, 0, 0, 0)), .inl (M (26, 0, 0, 0) 0)], (zx_lay M, n))) rfl ?_
    refine zx_E.iald (k := 476) (h := (26, 0, 0, 0)) rfl rfl rfl (by decide) ?_
    show zx_E _ _ _ (28, [some (.inr (some (25, 0, 0, 0))), none, none, none, none, none, none, none, none], [.inl (M (26, 0, 0, 0) 476), .inl (M (26, 0, 0, 0) 0)], (zx_lay M, n)) _
    refine zx_E.go 6 (s' := (36, [some (.inr (some (25, 0, 0, 0))), some (.inl (zmin (M (26, 0, 0, 0) 0) (M (26, 0, 0, 0) 476))), some (.inl 0), some (.inl 0), none, none, none, none, none], [], (zx_lay M, n))) rfl ?_
    refine rl_X11_drift_36 (fun v1 v2 e1 e2 e3 e4 e5 h => ?_) 1000 _ _ _ _ _ 0 0  h
    refine zx_E.go 1 (s' := (175, [some (.inr (some (25, 0, 0, 0))), some (.inl (zmin (M (26, 0, 0, 0) 0) (M (26, 0, 0, 0) 476))), some (.inl v1), some (.inl v2), e1, e2, e3, e4, e5], [.inl v1], (zx_lay M, n))) rfl ?_
    exact zx_E.rp h rfl (fun h => absurd h (by decide))
def lg_X2_trainsThatAre_4 (M : zx_Y) (l : Nat) (x0 : Int32) (kk : Int32 → Int32 → Option Int32) : Nat → Int32 → Int32 → Option Int32
  | 0, _, _ => none
  | q + 1, w2, w3 => (if (M (1, l, 0, 0) 4) ≤ w3 then (kk w2 w3) else (zi w3 10 fun k1 => (if (M (7, l, k1, 0) 1) = x0 then (lg_X2_trainsThatAre_4 M l x0 kk q (w2 + 1) (w3 + 1)) else (lg_X2_trainsThatAre_4 M l x0 kk q w2 (w3 + 1)))))
set_option maxRecDepth 100000 in
set_option maxHeartbeats 4000000 in
theorem rl_X2_trainsThatAre_4 {X : zx_X} {d n : Nat} {M : zx_Y} {l : Nat} {x0 : Int32} {kk : Int32 → Int32 → Option Int32} {rv : Int32} (hk : ∀ (w2 : Int32) (w3 : Int32), kk w2 w3 = some rv → zx_E X (d + 0) zc_X2_trainsThatAre (34, [some (.inr (some (1, l, 0, 0))), some (.inl x0), some (.inl w2), some (.inl w3)], [], (zx_lay M, n)) (some (.inl rv), (zx_lay M, n))) : ∀ (q : Nat) (w2 : Int32) (w3 : Int32), lg_X2_trainsThatAre_4 M l x0 kk q w2 w3 = some rv → zx_E X (d + 0) zc_X2_trainsThatAre (4, [some (.inr (some (1, l, 0, 0))), some (.inl x0), some (.inl w2), some (.inl w3)], [], (zx_lay M, n)) (some (.inl rv), (zx_lay M, n))
  | 0, w2, w3, h => by
    rw [lg_X2_trainsThatAre_4.eq_1] at h
    cases h
  | q + 1, w2, w3, h => by
    rw [lg_X2_trainsThatAre_4.eq_2] at h
    refine zx_E.go 3 (s' := (9, [some (.inr (some (1, l, 0, 0))), some (.inl x0), some (.inl w2), some (.inl w3)], [.inl (M (1, l, 0, 0) 4), .inl w3], (zx_lay M, n))) rfl ?_
    refine zx_E.brh (c := (M (1, l, 0, 0) 4) ≤ w3) (s1 := (34, [some (.inr (some (1, l, 0, 0))), some (.inl x0), some (.inl w2), some (.inl w3)], [], (zx_lay M, n))) (s2 := (12, [some (.inr (some (1, l, 0, 0))), some (.inl x0), some (.inl w2), some (.inl w3)], [], (zx_lay M, n))) h (zx_ic_ge rfl) (fun _ h => ?_) (fun _ h => ?_)
    · exact hk _ _ h
    · refine zx_E.go 3 (s' := (17, [some (.inr (some (1, l, 0, 0))), some (.inl x0), some (.inl w2), some (.inl w3)], [.inl w3, .inr (some (6, l, 0, 0))], (zx_lay M, n))) rfl ?_
      refine zx_E.ix h (fun k1 hx_k1 hl_k1 h => ?_)
      refine zx_E.aald (k := k1) (h := (6, l, 0, 0)) (h' := (7, l, k1, 0)) rfl rfl hx_k1 hl_k1 rfl ?_
      show zx_E _ _ _ (18, [some (.inr (some (1, l, 0, 0))), some (.inl x0), some (.inl w2), some (.inl w3)], [.inr (some (7, l, k1, 0))], (zx_lay M, n)) _
      refine zx_E.go 2 (s' := (22, [some (.inr (some (1, l, 0, 0))), some (.inl x0), some (.inl w2), some (.inl w3)], [.inl x0, .inl (M (7, l, k1, 0) 1)], (zx_lay M, n))) rfl ?_
      refine zx_E.brh (c := (M (7, l, k1, 0) 1) = x0) (s1 := (25, [some (.inr (some (1, l, 0, 0))), some (.inl x0), some (.inl w2), some (.inl w3)], [], (zx_lay M, n))) (s2 := (28, [some (.inr (some (1, l, 0, 0))), some (.inl x0), some (.inl w2), some (.inl w3)], [], (zx_lay M, n))) h (zx_ic_ne rfl) (fun _ h => ?_) (fun _ h => ?_)
      · refine zx_E.go 3 (s' := (4, [some (.inr (some (1, l, 0, 0))), some (.inl x0), some (.inl (w2 + 1)), some (.inl (w3 + 1))], [], (zx_lay M, n))) rfl ?_
        exact rl_X2_trainsThatAre_4 hk q (w2 + 1) (w3 + 1) h
      · refine zx_E.go 2 (s' := (4, [some (.inr (some (1, l, 0, 0))), some (.inl x0), some (.inl w2), some (.inl (w3 + 1))], [], (zx_lay M, n))) rfl ?_
        exact rl_X2_trainsThatAre_4 hk q w2 (w3 + 1) h
def g_X2_trainsThatAre (M : zx_Y) (l : Nat) (x0 : Int32) : Option Int32 := (lg_X2_trainsThatAre_4 M l x0 (fun v1 v2 => (some v1)) 1000 0 0)
set_option maxRecDepth 100000 in
set_option maxHeartbeats 4000000 in
theorem r_X2_trainsThatAre {X : zx_X} {d n : Nat} {M : zx_Y} {l : Nat} {x0 : Int32} {rv : Int32} (h : g_X2_trainsThatAre M l x0 = some rv) : zx_run X (d + 1) 40 [.inr (some (1, l, 0, 0)), .inl x0] (zx_lay M, n) (some (.inl rv), (zx_lay M, n)) := by
  refine zx_run_of zc_X2_trainsThatAre [some (.inr (some (1, l, 0, 0))), some (.inl x0), none, none] rfl rfl ?_
  unfold g_X2_trainsThatAre at h
  refine zx_E.go 4 (s' := (4, [some (.inr (some (1, l, 0, 0))), some (.inl x0), some (.inl 0), some (.inl 0)], [], (zx_lay M, n))) rfl ?_
  refine rl_X2_trainsThatAre_4 (fun v1 v2 h => ?_) 1000  0 0  h
  refine zx_E.go 1 (s' := (35, [some (.inr (some (1, l, 0, 0))), some (.inl x0), some (.inl v1), some (.inl v2)], [.inl v1], (zx_lay M, n))) rfl ?_
  exact zx_E.rp h rfl (fun h => absurd h (by decide))
def lg_X2_allWaiting_4 (M : zx_Y) (l : Nat) (kk : Int32 → Int32 → Option Int32) : Nat → Int32 → Int32 → Option Int32
  | 0, _, _ => none
  | q + 1, w1, w2 => (if (M (1, l, 0, 0) 4) ≤ w2 then (kk w1 w2) else (zi w2 10 fun k1 => (lg_X2_allWaiting_4 M l kk q (w1 + (M (11, l, k1, 0) 1)) (w2 + 1))))
set_option maxRecDepth 100000 in
set_option maxHeartbeats 4000000 in
theorem rl_X2_allWaiting_4 {X : zx_X} {d n : Nat} {M : zx_Y} {l : Nat} {kk : Int32 → Int32 → Option Int32} {rv : Int32} (hk : ∀ (w1 : Int32) (w2 : Int32), kk w1 w2 = some rv → zx_E X (d + 0) zc_X2_allWaiting (32, [some (.inr (some (1, l, 0, 0))), some (.inl w1), some (.inl w2)], [], (zx_lay M, n)) (some (.inl rv), (zx_lay M, n))) : ∀ (q : Nat) (w1 : Int32) (w2 : Int32), lg_X2_allWaiting_4 M l kk q w1 w2 = some rv → zx_E X (d + 0) zc_X2_allWaiting (4, [some (.inr (some (1, l, 0, 0))), some (.inl w1), some (.inl w2)], [], (zx_lay M, n)) (some (.inl rv), (zx_lay M, n))
  | 0, w1, w2, h => by
    rw [lg_X2_allWaiting_4.eq_1] at h
    cases h
  | q + 1, w1, w2, h => by
    rw [lg_X2_allWaiting_4.eq_2] at h
    refine zx_E.go 3 (s' := (9, [some (.inr (some (1, l, 0, 0))), some (.inl w1), some (.inl w2)], [.inl (M (1, l, 0, 0) 4), .inl w2], (zx_lay M, n))) rfl ?_
    refine zx_E.brh (c := (M (1, l, 0, 0) 4) ≤ w2) (s1 := (32, [some (.inr (some (1, l, 0, 0))), some (.inl w1), some (.inl w2)], [], (zx_lay M, n))) (s2 := (12, [some (.inr (some (1, l, 0, 0))), some (.inl w1), some (.inl w2)], [], (zx_lay M, n))) h (zx_ic_ge rfl) (fun _ h => ?_) (fun _ h => ?_)
    · exact hk _ _ h
    · refine zx_E.go 4 (s' := (18, [some (.inr (some (1, l, 0, 0))), some (.inl w1), some (.inl w2)], [.inl w2, .inr (some (6, l, 0, 0)), .inl w1], (zx_lay M, n))) rfl ?_
      refine zx_E.ix h (fun k1 hx_k1 hl_k1 h => ?_)
      refine zx_E.aald (k := k1) (h := (6, l, 0, 0)) (h' := (7, l, k1, 0)) rfl rfl hx_k1 hl_k1 rfl ?_
      show zx_E _ _ _ (19, [some (.inr (some (1, l, 0, 0))), some (.inl w1), some (.inl w2)], [.inr (some (7, l, k1, 0)), .inl w1], (zx_lay M, n)) _
      refine zx_E.go 2 (s' := (23, [some (.inr (some (1, l, 0, 0))), some (.inl w1), some (.inl w2)], [.inl 1, .inr (some (11, l, k1, 0)), .inl w1], (zx_lay M, n))) rfl ?_
      refine zx_E.iald (k := 1) (h := (11, l, k1, 0)) rfl rfl rfl (by decide) ?_
      show zx_E _ _ _ (24, [some (.inr (some (1, l, 0, 0))), some (.inl w1), some (.inl w2)], [.inl (M (11, l, k1, 0) 1), .inl w1], (zx_lay M, n)) _
      refine zx_E.go 4 (s' := (4, [some (.inr (some (1, l, 0, 0))), some (.inl (w1 + (M (11, l, k1, 0) 1))), some (.inl (w2 + 1))], [], (zx_lay M, n))) rfl ?_
      exact rl_X2_allWaiting_4 hk q (w1 + (M (11, l, k1, 0) 1)) (w2 + 1) h
def g_X2_allWaiting (M : zx_Y) (l : Nat) : Option Int32 := (lg_X2_allWaiting_4 M l (fun v1 v2 => (some v1)) 1000 0 0)
set_option maxRecDepth 100000 in
set_option maxHeartbeats 4000000 in
theorem r_X2_allWaiting {X : zx_X} {d n : Nat} {M : zx_Y} {l : Nat} {rv : Int32} (h : g_X2_allWaiting M l = some rv) : zx_run X (d + 1) 42 [.inr (some (1, l, 0, 0))] (zx_lay M, n) (some (.inl rv), (zx_lay M, n)) := by
  refine zx_run_of zc_X2_allWaiting [some (.inr (some (1, l, 0, 0))), none, none] rfl rfl ?_
  unfold g_X2_allWaiting at h
  refine zx_E.go 4 (s' := (4, [some (.inr (some (1, l, 0, 0))), some (.inl 0), some (.inl 0)], [], (zx_lay M, n))) rfl ?_
  refine rl_X2_allWaiting_4 (fun v1 v2 h => ?_) 1000  0 0  h
  refine zx_E.go 1 (s' := (33, [some (.inr (some (1, l, 0, 0))), some (.inl v1), some (.inl v2)], [.inl v1], (zx_lay M, n))) rfl ?_
  exact zx_E.rp h rfl (fun h => absurd h (by decide))
def lg_X2_isQuiet_2 (M : zx_Y) (l : Nat) (kk : Int32 → Option Int32) : Nat → Int32 → Option Int32
  | 0, _ => none
  | q + 1, w1 => (if (M (1, l, 0, 0) 4) ≤ w1 then (kk w1) else (zi w1 10 fun k1 => (if (M (7, l, k1, 0) 1) = 2 then (some 0) else (if (M (7, l, k1, 0) 1) = 3 then (some 0) else (if (M (7, l, k1, 0) 1) = 0 then (if (M (1, l, 0, 0) 0) < (M (7, l, k1, 0) 5) then (some 0) else (zb (g_X2_hasFreeTrack M l (M (7, l, k1, 0) 2)) fun v1 => (if v1 = 0 then (if (M (7, l, k1, 0) 1) = 1 then (zb (g_X2_obstacleOf M l k1) fun v2 => (if v2 = 8 then (some 0) else (zb (g_X2_isCrewAlone M l k1 v2) fun v3 => (if v3 = 0 then (lg_X2_isQuiet_2 M l kk q (w1 + 1)) else (some 0))))) else (lg_X2_isQuiet_2 M l kk q (w1 + 1))) else (some 0)))) else (if (M (7, l, k1, 0) 1) = 1 then (zb (g_X2_obstacleOf M l k1) fun v4 => (if v4 = 8 then (some 0) else (zb (g_X2_isCrewAlone M l k1 v4) fun v5 => (if v5 = 0 then (lg_X2_isQuiet_2 M l kk q (w1 + 1)) else (some 0))))) else (lg_X2_isQuiet_2 M l kk q (w1 + 1))))))))
set_option maxRecDepth 100000 in
set_option maxHeartbeats 4000000 in
theorem rl_X2_isQuiet_2 {X : zx_X} {d n : Nat} {M : zx_Y} {l : Nat} {kk : Int32 → Option Int32} {rv : Int32} (hk : ∀ (w1 : Int32) (e2 : Option zx_V) (e3 : Option zx_V), kk w1 = some rv → zx_E X (d + 4) zc_X2_isQuiet (106, [some (.inr (some (1, l, 0, 0))), some (.inl w1), e2, e3], [], (zx_lay M, n)) (some (.inl rv), (zx_lay M, n))) : ∀ (q : Nat) (g2 : Option zx_V) (g3 : Option zx_V) (w1 : Int32), lg_X2_isQuiet_2 M l kk q w1 = some rv → zx_E X (d + 4) zc_X2_isQuiet (2, [some (.inr (some (1, l, 0, 0))), some (.inl w1), g2, g3], [], (zx_lay M, n)) (some (.inl rv), (zx_lay M, n))
  | 0, g2, g3, w1, h => by
    rw [lg_X2_isQuiet_2.eq_1] at h
    cases h
  | q + 1, g2, g3, w1, h => by
    rw [lg_X2_isQuiet_2.eq_2] at h
    refine zx_E.go 3 (s' := (7, [some (.inr (some (1, l, 0, 0))), some (.inl w1), g2, g3], [.inl (M (1, l, 0, 0) 4), .inl w1], (zx_lay M, n))) rfl ?_
    refine zx_E.brh (c := (M (1, l, 0, 0) 4) ≤ w1) (s1 := (106, [some (.inr (some (1, l, 0, 0))), some (.inl w1), g2, g3], [], (zx_lay M, n))) (s2 := (10, [some (.inr (some (1, l, 0, 0))), some (.inl w1), g2, g3], [], (zx_lay M, n))) h (zx_ic_ge rfl) (fun _ h => ?_) (fun _ h => ?_)
    · exact hk _ _ _ h
    · refine zx_E.go 3 (s' := (15, [some (.inr (some (1, l, 0, 0))), some (.inl w1), g2, g3], [.inl w1, .inr (some (6, l, 0, 0))], (zx_lay M, n))) rfl ?_
      refine zx_E.ix h (fun k1 hx_k1 hl_k1 h => ?_)
      refine zx_E.aald (k := k1) (h := (6, l, 0, 0)) (h' := (7, l, k1, 0)) rfl rfl hx_k1 hl_k1 rfl ?_
      show zx_E _ _ _ (16, [some (.inr (some (1, l, 0, 0))), some (.inl w1), g2, g3], [.inr (some (7, l, k1, 0))], (zx_lay M, n)) _
      refine zx_E.go 4 (s' := (22, [some (.inr (some (1, l, 0, 0))), some (.inl w1), some (.inr (some (7, l, k1, 0))), g3], [.inl 2, .inl (M (7, l, k1, 0) 1)], (zx_lay M, n))) rfl ?_
      refine zx_E.brh (c := (M (7, l, k1, 0) 1) = 2) (s1 := (33, [some (.inr (some (1, l, 0, 0))), some (.inl w1), some (.inr (some (7, l, k1, 0))), g3], [], (zx_lay M, n))) (s2 := (25, [some (.inr (some (1, l, 0, 0))), some (.inl w1), some (.inr (some (7, l, k1, 0))), g3], [], (zx_lay M, n))) h (zx_ic_eq rfl) (fun _ h => ?_) (fun _ h => ?_)
      · refine zx_E.go 1 (s' := (34, [some (.inr (some (1, l, 0, 0))), some (.inl w1), some (.inr (some (7, l, k1, 0))), g3], [.inl 0], (zx_lay M, n))) rfl ?_
        exact zx_E.rp h rfl (fun _ => Or.inl rfl)
      · refine zx_E.go 3 (s' := (30, [some (.inr (some (1, l, 0, 0))), some (.inl w1), some (.inr (some (7, l, k1, 0))), g3], [.inl 3, .inl (M (7, l, k1, 0) 1)], (zx_lay M, n))) rfl ?_
        refine zx_E.brh (c := (M (7, l, k1, 0) 1) = 3) (s1 := (33, [some (.inr (some (1, l, 0, 0))), some (.inl w1), some (.inr (some (7, l, k1, 0))), g3], [], (zx_lay M, n))) (s2 := (35, [some (.inr (some (1, l, 0, 0))), some (.inl w1), some (.inr (some (7, l, k1, 0))), g3], [], (zx_lay M, n))) h (zx_ic_ne rfl) (fun _ h => ?_) (fun _ h => ?_)
        · refine zx_E.go 1 (s' := (34, [some (.inr (some (1, l, 0, 0))), some (.inl w1), some (.inr (some (7, l, k1, 0))), g3], [.inl 0], (zx_lay M, n))) rfl ?_
          exact zx_E.rp h rfl (fun _ => Or.inl rfl)
        · refine zx_E.go 2 (s' := (39, [some (.inr (some (1, l, 0, 0))), some (.inl w1), some (.inr (some (7, l, k1, 0))), g3], [.inl (M (7, l, k1, 0) 1)], (zx_lay M, n))) rfl ?_
          refine zx_E.brh (c := (M (7, l, k1, 0) 1) = 0) (s1 := (42, [some (.inr (some (1, l, 0, 0))), some (.inl w1), some (.inr (some (7, l, k1, 0))), g3], [], (zx_lay M, n))) (s2 := (66, [some (.inr (some (1, l, 0, 0))), some (.inl w1), some (.inr (some (7, l, k1, 0))), g3], [], (zx_lay M, n))) h (zx_if_ne rfl) (fun _ h => ?_) (fun _ h => ?_)
          · refine zx_E.go 4 (s' := (50, [some (.inr (some (1, l, 0, 0))), some (.inl w1), some (.inr (some (7, l, k1, 0))), g3], [.inl (M (1, l, 0, 0) 0), .inl (M (7, l, k1, 0) 5)], (zx_lay M, n))) rfl ?_
            refine zx_E.brh (c := (M (1, l, 0, 0) 0) < (M (7, l, k1, 0) 5)) (s1 := (64, [some (.inr (some (1, l, 0, 0))), some (.inl w1), some (.inr (some (7, l, k1, 0))), g3], [], (zx_lay M, n))) (s2 := (53, [some (.inr (some (1, l, 0, 0))), some (.inl w1), some (.inr (some (7, l, k1, 0))), g3], [], (zx_lay M, n))) h (zx_ic_gt rfl) (fun _ h => ?_) (fun _ h => ?_)
            · refine zx_E.go 1 (s' := (65, [some (.inr (some (1, l, 0, 0))), some (.inl w1), some (.inr (some (7, l, k1, 0))), g3], [.inl 0], (zx_lay M, n))) rfl ?_
              exact zx_E.rp h rfl (fun _ => Or.inl rfl)
            · refine zx_E.go 3 (s' := (58, [some (.inr (some (1, l, 0, 0))), some (.inl w1), some (.inr (some (7, l, k1, 0))), g3], [.inl (M (7, l, k1, 0) 2), .inr (some (1, l, 0, 0))], (zx_lay M, n))) rfl ?_
              refine zx_E.cb (y := 38) (as := [.inr (some (1, l, 0, 0)), .inl (M (7, l, k1, 0) 2)]) (rest := []) h rfl (fun _ hv => zx_run_up (by omega) (r_X2_hasFreeTrack (d := d) hv)) (fun v1 h => ?_)
              show zx_E _ _ _ (61, [some (.inr (some (1, l, 0, 0))), some (.inl w1), some (.inr (some (7, l, k1, 0))), g3], [.inl v1], (zx_lay M, n)) _
              refine zx_E.brh (c := v1 = 0) (s1 := (66, [some (.inr (some (1, l, 0, 0))), some (.inl w1), some (.inr (some (7, l, k1, 0))), g3], [], (zx_lay M, n))) (s2 := (64, [some (.inr (some (1, l, 0, 0))), some (.inl w1), some (.inr (some (7, l, k1, 0))), g3], [], (zx_lay M, n))) h (zx_if_eq rfl) (fun _ h => ?_) (fun _ h => ?_)
              · refine zx_E.go 3 (s' := (71, [some (.inr (some (1, l, 0, 0))), some (.inl w1), some (.inr (some (7, l, k1, 0))), g3], [.inl 1, .inl (M (7, l, k1, 0) 1)], (zx_lay M, n))) rfl ?_
                refine zx_E.brh (c := (M (7, l, k1, 0) 1) = 1) (s1 := (77, [some (.inr (some (1, l, 0, 0))), some (.inl w1), some (.inr (some (7, l, k1, 0))), g3], [], (zx_lay M, n))) (s2 := (74, [some (.inr (some (1, l, 0, 0))), some (.inl w1), some (.inr (some (7, l, k1, 0))), g3], [], (zx_lay M, n))) h (zx_ic_eq rfl) (fun _ h => ?_) (fun _ h => ?_)
                · refine zx_E.go 2 (s' := (79, [some (.inr (some (1, l, 0, 0))), some (.inl w1), some (.inr (some (7, l, k1, 0))), g3], [.inr (some (7, l, k1, 0)), .inr (some (1, l, 0, 0))], (zx_lay M, n))) rfl ?_
                  refine zx_E.cb (y := 31) (as := [.inr (some (1, l, 0, 0)), .inr (some (7, l, k1, 0))]) (rest := []) h rfl (fun _ hv => zx_run_up (by omega) (r_X2_obstacleOf (d := d) hv)) (fun v2 h => ?_)
                  show zx_E _ _ _ (82, [some (.inr (some (1, l, 0, 0))), some (.inl w1), some (.inr (some (7, l, k1, 0))), g3], [.inl v2], (zx_lay M, n)) _
                  refine zx_E.go 3 (s' := (86, [some (.inr (some (1, l, 0, 0))), some (.inl w1), some (.inr (some (7, l, k1, 0))), some (.inl v2)], [.inl 8, .inl v2], (zx_lay M, n))) rfl ?_
                  refine zx_E.brh (c := v2 = 8) (s1 := (98, [some (.inr (some (1, l, 0, 0))), some (.inl w1), some (.inr (some (7, l, k1, 0))), some (.inl v2)], [], (zx_lay M, n))) (s2 := (89, [some (.inr (some (1, l, 0, 0))), some (.inl w1), some (.inr (some (7, l, k1, 0))), some (.inl v2)], [], (zx_lay M, n))) h (zx_ic_eq rfl) (fun _ h => ?_) (fun _ h => ?_)
                  · refine zx_E.go 1 (s' := (99, [some (.inr (some (1, l, 0, 0))), some (.inl w1), some (.inr (some (7, l, k1, 0))), some (.inl v2)], [.inl 0], (zx_lay M, n))) rfl ?_
                    exact zx_E.rp h rfl (fun _ => Or.inl rfl)
                  · refine zx_E.go 3 (s' := (92, [some (.inr (some (1, l, 0, 0))), some (.inl w1), some (.inr (some (7, l, k1, 0))), some (.inl v2)], [.inl v2, .inr (some (7, l, k1, 0)), .inr (some (1, l, 0, 0))], (zx_lay M, n))) rfl ?_
                    refine zx_E.cb (y := 32) (as := [.inr (some (1, l, 0, 0)), .inr (some (7, l, k1, 0)), .inl v2]) (rest := []) h rfl (fun _ hv => zx_run_up (by omega) (r_X2_isCrewAlone (d := d) hv)) (fun v3 h => ?_)
                    show zx_E _ _ _ (95, [some (.inr (some (1, l, 0, 0))), some (.inl w1), some (.inr (some (7, l, k1, 0))), some (.inl v2)], [.inl v3], (zx_lay M, n)) _
                    refine zx_E.brh (c := v3 = 0) (s1 := (100, [some (.inr (some (1, l, 0, 0))), some (.inl w1), some (.inr (some (7, l, k1, 0))), some (.inl v2)], [], (zx_lay M, n))) (s2 := (98, [some (.inr (some (1, l, 0, 0))), some (.inl w1), some (.inr (some (7, l, k1, 0))), some (.inl v2)], [], (zx_lay M, n))) h (zx_if_eq rfl) (fun _ h => ?_) (fun _ h => ?_)
                    · refine zx_E.go 2 (s' := (2, [some (.inr (some (1, l, 0, 0))), some (.inl (w1 + 1)), some (.inr (some (7, l, k1, 0))), some (.inl v2)], [], (zx_lay M, n))) rfl ?_
                      exact rl_X2_isQuiet_2 hk q _ _ (w1 + 1) h
                    · refine zx_E.go 1 (s' := (99, [some (.inr (some (1, l, 0, 0))), some (.inl w1), some (.inr (some (7, l, k1, 0))), some (.inl v2)], [.inl 0], (zx_lay M, n))) rfl ?_
                      exact zx_E.rp h rfl (fun _ => Or.inl rfl)
                · refine zx_E.go 3 (s' := (2, [some (.inr (some (1, l, 0, 0))), some (.inl (w1 + 1)), some (.inr (some (7, l, k1, 0))), g3], [], (zx_lay M, n))) rfl ?_
                  exact rl_X2_isQuiet_2 hk q _ _ (w1 + 1) h
              · refine zx_E.go 1 (s' := (65, [some (.inr (some (1, l, 0, 0))), some (.inl w1), some (.inr (some (7, l, k1, 0))), g3], [.inl 0], (zx_lay M, n))) rfl ?_
                exact zx_E.rp h rfl (fun _ => Or.inl rfl)
          · refine zx_E.go 3 (s' := (71, [some (.inr (some (1, l, 0, 0))), some (.inl w1), some (.inr (some (7, l, k1, 0))), g3], [.inl 1, .inl (M (7, l, k1, 0) 1)], (zx_lay M, n))) rfl ?_
            refine zx_E.brh (c := (M (7, l, k1, 0) 1) = 1) (s1 := (77, [some (.inr (some (1, l, 0, 0))), some (.inl w1), some (.inr (some (7, l, k1, 0))), g3], [], (zx_lay M, n))) (s2 := (74, [some (.inr (some (1, l, 0, 0))), some (.inl w1), some (.inr (some (7, l, k1, 0))), g3], [], (zx_lay M, n))) h (zx_ic_eq rfl) (fun _ h => ?_) (fun _ h => ?_)
            · refine zx_E.go 2 (s' := (79, [some (.inr (some (1, l, 0, 0))), some (.inl w1), some (.inr (some (7, l, k1, 0))), g3], [.inr (some (7, l, k1, 0)), .inr (some (1, l, 0, 0))], (zx_lay M, n))) rfl ?_
              refine zx_E.cb (y := 31) (as := [.inr (some (1, l, 0, 0)), .inr (some (7, l, k1, 0))]) (rest := []) h rfl (fun _ hv => zx_run_up (by omega) (r_X2_obstacleOf (d := d) hv)) (fun v4 h => ?_)
              show zx_E _ _ _ (82, [some (.inr (some (1, l, 0, 0))), some (.inl w1), some (.inr (some (7, l, k1, 0))), g3], [.inl v4], (zx_lay M, n)) _
              refine zx_E.go 3 (s' := (86, [some (.inr (some (1, l, 0, 0))), some (.inl w1), some (.inr (some (7, l, k1, 0))), some (.inl v4)], [.inl 8, .inl v4], (zx_lay M, n))) rfl ?_
              refine zx_E.brh (c := v4 = 8) (s1 := (98, [some (.inr (some (1, l, 0, 0))), some (.inl w1), some (.inr (some (7, l, k1, 0))), some (.inl v4)], [], (zx_lay M, n))) (s2 := (89, [some (.inr (some (1, l, 0, 0))), some (.inl w1), some (.inr (some (7, l, k1, 0))), some (.inl v4)], [], (zx_lay M, n))) h (zx_ic_eq rfl) (fun _ h => ?_) (fun _ h => ?_)
              · refine zx_E.go 1 (s' := (99, [some (.inr (some (1, l, 0, 0))), some (.inl w1), some (.inr (some (7, l, k1, 0))), some (.inl v4)], [.inl 0], (zx_lay M, n))) rfl ?_
                exact zx_E.rp h rfl (fun _ => Or.inl rfl)
              · refine zx_E.go 3 (s' := (92, [some (.inr (some (1, l, 0, 0))), some (.inl w1), some (.inr (some (7, l, k1, 0))), some (.inl v4)], [.inl v4, .inr (some (7, l, k1, 0)), .inr (some (1, l, 0, 0))], (zx_lay M, n))) rfl ?_
                refine zx_E.cb (y := 32) (as := [.inr (some (1, l, 0, 0)), .inr (some (7, l, k1, 0)), .inl v4]) (rest := []) h rfl (fun _ hv => zx_run_up (by omega) (r_X2_isCrewAlone (d := d) hv)) (fun v5 h => ?_)
                show zx_E _ _ _ (95, [some (.inr (some (1, l, 0, 0))), some (.inl w1), some (.inr (some (7, l, k1, 0))), some (.inl v4)], [.inl v5], (zx_lay M, n)) _
                refine zx_E.brh (c := v5 = 0) (s1 := (100, [some (.inr (some (1, l, 0, 0))), some (.inl w1), some (.inr (some (7, l, k1, 0))), some (.inl v4)], [], (zx_lay M, n))) (s2 := (98, [some (.inr (some (1, l, 0, 0))), some (.inl w1), some (.inr (some (7, l, k1, 0))), some (.inl v4)], [], (zx_lay M, n))) h (zx_if_eq rfl) (fun _ h => ?_) (fun _ h => ?_)
                · refine zx_E.go 2 (s' := (2, [some (.inr (some (1, l, 0, 0))), some (.inl (w1 + 1)), some (.inr (some (7, l, k1, 0))), some (.inl v4)], [], (zx_lay M, n))) rfl ?_
                  exact rl_X2_isQuiet_2 hk q _ _ (w1 + 1) h
                · refine zx_E.go 1 (s' := (99, [some (.inr (some (1, l, 0, 0))), some (.inl w1), some (.inr (some (7, l, k1, 0))), some (.inl v4)], [.inl 0], (zx_lay M, n))) rfl ?_
                  exact zx_E.rp h rfl (fun _ => Or.inl rfl)
            · refine zx_E.go 3 (s' := (2, [some (.inr (some (1, l, 0, 0))), some (.inl (w1 + 1)), some (.inr (some (7, l, k1, 0))), g3], [], (zx_lay M, n))) rfl ?_
              exact rl_X2_isQuiet_2 hk q _ _ (w1 + 1) h
def g_X2_isQuiet (M : zx_Y) (l : Nat) : Option Int32 := (lg_X2_isQuiet_2 M l (fun v1 => (some 1)) 1000 0)
set_option maxRecDepth 100000 in
set_option maxHeartbeats 4000000 in
theorem r_X2_isQuiet {X : zx_X} {d n : Nat} {M : zx_Y} {l : Nat} {rv : Int32} (h : g_X2_isQuiet M l = some rv) : zx_run X (d + 5) 43 [.inr (some (1, l, 0, 0))] (zx_lay M, n) (some (.inl rv), (zx_lay M, n)) := by
  refine zx_run_of zc_X2_isQuiet [some (.inr (some (1, l, 0, 0))), none, none, none] rfl rfl ?_
  unfold g_X2_isQuiet at h
  refine zx_E.go 2 (s' := (2, [some (.inr (some (1, l, 0, 0))), some (.inl 0), none, none], [], (zx_lay M, n))) rfl ?_
  refine rl_X2_isQuiet_2 (fun v1 e1 e2 h => ?_) 1000 _ _ 0  h
  refine zx_E.go 1 (s' := (107, [some (.inr (some (1, l, 0, 0))), some (.inl v1), e1, e2], [.inl 1], (zx_lay M, n))) rfl ?_
  exact zx_E.rp h rfl (fun _ => Or.inr rfl)
def g_X10_ahead (M : zx_Y) (x0 : Int32) (x1 : Int32) : Option (Int32 × zx_Y) := (zb (g_X2_exists M 0) fun v1 => (if v1 = 0 then (some ((-3), M)) else (zb (g_X10_isMinutes M x0) fun v2 => (if v2 = 0 then (some ((-2), M)) else (if x1 < 0 then (some ((-1), M)) else (if x1 ≤ 3 then (zm (g_X2_copyFrom M 2 0) fun M1 => (zm (g_X2_advance M1 2 x0) fun M2 => (if x1 = 0 then (zb (g_X2_trainsThatAre M2 2 4) fun v3 => (some (v3, M2))) else (if x1 = 1 then (zb (g_X2_trainsThatAre M2 2 2) fun v4 => (some (v4, M2))) else (if x1 = 2 then (zb (g_X2_allWaiting M2 2) fun v5 => (some (v5, M2))) else (zb (g_X2_isQuiet M2 2) fun v6 => (if v6 = 0 then (some (0, M2)) else (some (1, M2))))))))) else (some ((-1), M))))))))
set_option maxRecDepth 100000 in
set_option maxHeartbeats 4000000 in
theorem r_X10_ahead {X : zx_X} {d n : Nat} {M : zx_Y} {x0 : Int32} {x1 : Int32} {rv : Int32} {rM : zx_Y} (h : g_X10_ahead M x0 x1 = some (rv, rM)) : zx_run X (d + 7) 109 [.inr (some (0, 0, 0, 0)), .inl x0, .inl x1] (zx_lay M, n) (some (.inl rv), (zx_lay rM, n)) := by
  refine zx_run_of zc_X10_ahead [some (.inr (some (0, 0, 0, 0))), some (.inl x0), some (.inl x1)] rfl rfl ?_
  unfold g_X10_ahead at h
  refine zx_E.go 2 (s' := (4, [some (.inr (some (0, 0, 0, 0))), some (.inl x0), some (.inl x1)], [.inr (some (1, 0, 0, 0))], (zx_lay M, n))) rfl ?_
  refine zx_E.cb (y := 15) (as := [.inr (some (1, 0, 0, 0))]) (rest := []) h rfl (fun _ hv => zx_run_up (by omega) (r_X2_exists (d := d) hv)) (fun v1 h => ?_)
  show zx_E _ _ _ (7, [some (.inr (some (0, 0, 0, 0))), some (.inl x0), some (.inl x1)], [.inl v1], (zx_lay M, n)) _
  refine zx_E.brh (c := v1 = 0) (s1 := (10, [some (.inr (some (0, 0, 0, 0))), some (.inl x0), some (.inl x1)], [], (zx_lay M, n))) (s2 := (13, [some (.inr (some (0, 0, 0, 0))), some (.inl x0), some (.inl x1)], [], (zx_lay M, n))) h (zx_if_ne rfl) (fun _ h => ?_) (fun _ h => ?_)
  · refine zx_E.go 1 (s' := (12, [some (.inr (some (0, 0, 0, 0))), some (.inl x0), some (.inl x1)], [.inl (-3)], (zx_lay M, n))) rfl ?_
    exact zx_E.ri h rfl (fun h => absurd h (by decide))
  · refine zx_E.go 1 (s' := (14, [some (.inr (some (0, 0, 0, 0))), some (.inl x0), some (.inl x1)], [.inl x0], (zx_lay M, n))) rfl ?_
    refine zx_E.cb (y := 117) (as := [.inl x0]) (rest := []) h rfl (fun _ hv => zx_run_up (by omega) (r_X10_isMinutes (d := d) hv)) (fun v2 h => ?_)
    show zx_E _ _ _ (17, [some (.inr (some (0, 0, 0, 0))), some (.inl x0), some (.inl x1)], [.inl v2], (zx_lay M, n)) _
    refine zx_E.brh (c := v2 = 0) (s1 := (20, [some (.inr (some (0, 0, 0, 0))), some (.inl x0), some (.inl x1)], [], (zx_lay M, n))) (s2 := (23, [some (.inr (some (0, 0, 0, 0))), some (.inl x0), some (.inl x1)], [], (zx_lay M, n))) h (zx_if_ne rfl) (fun _ h => ?_) (fun _ h => ?_)
    · refine zx_E.go 1 (s' := (22, [some (.inr (some (0, 0, 0, 0))), some (.inl x0), some (.inl x1)], [.inl (-2)], (zx_lay M, n))) rfl ?_
      exact zx_E.ri h rfl (fun h => absurd h (by decide))
    · refine zx_E.go 1 (s' := (24, [some (.inr (some (0, 0, 0, 0))), some (.inl x0), some (.inl x1)], [.inl x1], (zx_lay M, n))) rfl ?_
      refine zx_E.brh (c := x1 < 0) (s1 := (32, [some (.inr (some (0, 0, 0, 0))), some (.inl x0), some (.inl x1)], [], (zx_lay M, n))) (s2 := (27, [some (.inr (some (0, 0, 0, 0))), some (.inl x0), some (.inl x1)], [], (zx_lay M, n))) h (zx_if_lt rfl) (fun _ h => ?_) (fun _ h => ?_)
      · refine zx_E.go 1 (s' := (33, [some (.inr (some (0, 0, 0, 0))), some (.inl x0), some (.inl x1)], [.inl (-1)], (zx_lay M, n))) rfl ?_
        exact zx_E.ri h rfl (fun h => absurd h (by decide))
      · refine zx_E.go 2 (s' := (29, [some (.inr (some (0, 0, 0, 0))), some (.inl x0), some (.inl x1)], [.inl 3, .inl x1], (zx_lay M, n))) rfl ?_
        refine zx_E.brh (c := x1 ≤ 3) (s1 := (34, [some (.inr (some (0, 0, 0, 0))), some (.inl x0), some (.inl x1)], [], (zx_lay M, n))) (s2 := (32, [some (.inr (some (0, 0, 0, 0))), some (.inl x0), some (.inl x1)], [], (zx_lay M, n))) h (zx_ic_le rfl) (fun _ h => ?_) (fun _ h => ?_)
        · refine zx_E.go 4 (s' := (42, [some (.inr (some (0, 0, 0, 0))), some (.inl x0), some (.inl x1)], [.inr (some (1, 0, 0, 0)), .inr (some (1, 2, 0, 0))], (zx_lay M, n))) rfl ?_
          refine zx_E.cm (y := 14) (as := [.inr (some (1, 2, 0, 0)), .inr (some (1, 0, 0, 0))]) (rest := []) h rfl (fun _ hv => zx_run_up (by omega) (r_X2_copyFrom (d := d) hv)) (fun M1 h => ?_)
          show zx_E _ _ _ (45, [some (.inr (some (0, 0, 0, 0))), some (.inl x0), some (.inl x1)], [], (zx_lay M1, n)) _
          refine zx_E.go 3 (s' := (50, [some (.inr (some (0, 0, 0, 0))), some (.inl x0), some (.inl x1)], [.inl x0, .inr (some (1, 2, 0, 0))], (zx_lay M1, n))) rfl ?_
          refine zx_E.cm (y := 20) (as := [.inr (some (1, 2, 0, 0)), .inl x0]) (rest := []) h rfl (fun _ hv => zx_run_up (by omega) (r_X2_advance (d := d) hv)) (fun M2 h => ?_)
          show zx_E _ _ _ (53, [some (.inr (some (0, 0, 0, 0))), some (.inl x0), some (.inl x1)], [], (zx_lay M2, n)) _
          refine zx_E.go 1 (s' := (54, [some (.inr (some (0, 0, 0, 0))), some (.inl x0), some (.inl x1)], [.inl x1], (zx_lay M2, n))) rfl ?_
          refine zx_E.one (s' := (zx_pick x1 0 [80, 89, 98] 106, [some (.inr (some (0, 0, 0, 0))), some (.inl x0), some (.inl x1)], [], (zx_lay M2, n))) rfl ?_
          refine zx_E.pickh (k' := 1) h (by decide) (fun _ h => ?_) (fun _ h => ?_)
          · refine zx_E.go 3 (s' := (85, [some (.inr (some (0, 0, 0, 0))), some (.inl x0), some (.inl x1)], [.inl 4, .inr (some (1, 2, 0, 0))], (zx_lay M2, n))) rfl ?_
            refine zx_E.cb (y := 40) (as := [.inr (some (1, 2, 0, 0)), .inl 4]) (rest := []) h rfl (fun _ hv => zx_run_up (by omega) (r_X2_trainsThatAre (d := d) hv)) (fun v3 h => ?_)
            show zx_E _ _ _ (88, [some (.inr (some (0, 0, 0, 0))), some (.inl x0), some (.inl x1)], [.inl v3], (zx_lay M2, n)) _
            exact zx_E.ri h rfl (fun h => absurd h (by decide))
          · refine zx_E.pickh (k' := 2) h (by decide) (fun _ h => ?_) (fun _ h => ?_)
            · refine zx_E.go 3 (s' := (94, [some (.inr (some (0, 0, 0, 0))), some (.inl x0), some (.inl x1)], [.inl 2, .inr (some (1, 2, 0, 0))], (zx_lay M2, n))) rfl ?_
              refine zx_E.cb (y := 40) (as := [.inr (some (1, 2, 0, 0)), .inl 2]) (rest := []) h rfl (fun _ hv => zx_run_up (by omega) (r_X2_trainsThatAre (d := d) hv)) (fun v4 h => ?_)
              show zx_E _ _ _ (97, [some (.inr (some (0, 0, 0, 0))), some (.inl x0), some (.inl x1)], [.inl v4], (zx_lay M2, n)) _
              exact zx_E.ri h rfl (fun h => absurd h (by decide))
            · refine zx_E.pickh (k' := 3) h (by decide) (fun _ h => ?_) (fun _ h => ?_)
              · refine zx_E.go 2 (s' := (102, [some (.inr (some (0, 0, 0, 0))), some (.inl x0), some (.inl x1)], [.inr (some (1, 2, 0, 0))], (zx_lay M2, n))) rfl ?_
                refine zx_E.cb (y := 42) (as := [.inr (some (1, 2, 0, 0))]) (rest := []) h rfl (fun _ hv => zx_run_up (by omega) (r_X2_allWaiting (d := d) hv)) (fun v5 h => ?_)
                show zx_E _ _ _ (105, [some (.inr (some (0, 0, 0, 0))), some (.inl x0), some (.inl x1)], [.inl v5], (zx_lay M2, n)) _
                exact zx_E.ri h rfl (fun h => absurd h (by decide))
              · show zx_E _ _ _ (106, [some (.inr (some (0, 0, 0, 0))), some (.inl x0), some (.inl x1)], [], (zx_lay M2, n)) _
                refine zx_E.go 2 (s' := (110, [some (.inr (some (0, 0, 0, 0))), some (.inl x0), some (.inl x1)], [.inr (some (1, 2, 0, 0))], (zx_lay M2, n))) rfl ?_
                refine zx_E.cb (y := 43) (as := [.inr (some (1, 2, 0, 0))]) (rest := []) h rfl (fun _ hv => zx_run_up (by omega) (r_X2_isQuiet (d := d) hv)) (fun v6 h => ?_)
                show zx_E _ _ _ (113, [some (.inr (some (0, 0, 0, 0))), some (.inl x0), some (.inl x1)], [.inl v6], (zx_lay M2, n)) _
                refine zx_E.brh (c := v6 = 0) (s1 := (120, [some (.inr (some (0, 0, 0, 0))), some (.inl x0), some (.inl x1)], [], (zx_lay M2, n))) (s2 := (116, [some (.inr (some (0, 0, 0, 0))), some (.inl x0), some (.inl x1)], [], (zx_lay M2, n))) h (zx_if_eq rfl) (fun _ h => ?_) (fun _ h => ?_)
                · refine zx_E.go 1 (s' := (121, [some (.inr (some (0, 0, 0, 0))), some (.inl x0), some (.inl x1)], [.inl 0], (zx_lay M2, n))) rfl ?_
                  exact zx_E.ri h rfl (fun h => absurd h (by decide))
                · refine zx_E.go 2 (s' := (121, [some (.inr (some (0, 0, 0, 0))), some (.inl x0), some (.inl x1)], [.inl 1], (zx_lay M2, n))) rfl ?_
                  exact zx_E.ri h rfl (fun h => absurd h (by decide))
        · refine zx_E.go 1 (s' := (33, [some (.inr (some (0, 0, 0, 0))), some (.inl x0), some (.inl x1)], [.inl (-1)], (zx_lay M, n))) rfl ?_
          exact zx_E.ri h rfl (fun h => absurd h (by decide))
def lg_X11_ahead_47 (M : zx_Y) (x1 : Int32) (kk : Int32 → Int32 → Option (Int32 × zx_Y)) : Nat → Int32 → Int32 → Option (Int32 × zx_Y)
  | 0, _, _ => none
  | q + 1, w3, w4 => (if (M (26, 0, 0, 0) 27) ≤ w4 then (kk w3 w4) else (zb (g_X11_at M w4 16) fun v1 => (lg_X11_ahead_47 M x1 kk q (w3 + v1) (w4 + 1))))
set_option maxRecDepth 100000 in
set_option maxHeartbeats 4000000 in
theorem rl_X11_ahead_47 {X : zx_X} {d n : Nat} {M : zx_Y} {x1 : Int32} {kk : Int32 → Int32 → Option (Int32 × zx_Y)} {rv : Int32} {rM : zx_Y} {g1 : Option zx_V} (hk : ∀ (w3 : Int32) (w4 : Int32), kk w3 w4 = some (rv, rM) → zx_E X (d + 9) zc_X11_ahead (76, [some (.inr (some (25, 0, 0, 0))), g1, some (.inl x1), some (.inl w3), some (.inl w4)], [], (zx_lay M, n)) (some (.inl rv), (zx_lay rM, n))) : ∀ (q : Nat) (w3 : Int32) (w4 : Int32), lg_X11_ahead_47 M x1 kk q w3 w4 = some (rv, rM) → zx_E X (d + 9) zc_X11_ahead (47, [some (.inr (some (25, 0, 0, 0))), g1, some (.inl x1), some (.inl w3), some (.inl w4)], [], (zx_lay M, n)) (some (.inl rv), (zx_lay rM, n))
  | 0, w3, w4, h => by
    rw [lg_X11_ahead_47.eq_1] at h
    cases h
  | q + 1, w3, w4, h => by
    rw [lg_X11_ahead_47.eq_2] at h
    refine zx_E.go 4 (s' := (55, [some (.inr (some (25, 0, 0, 0))), g1, some (.inl x1), some (.inl w3), some (.inl w4)], [.inl 27, .inr (some (26, 0, 0, 0)), .inl w4], (zx_lay M, n))) rfl ?_
    refine zx_E.iald (k := 27) (h := (26, 0, 0, 0)) rfl rfl rfl (by decide) ?_
    show zx_E _ _ _ (56, [some (.inr (some (25, 0, 0, 0))), g1, some (.inl x1), some (.inl w3), some (.inl w4)], [.inl (M (26, 0, 0, 0) 27), .inl w4], (zx_lay M, n)) _
    refine zx_E.brh (c := (M (26, 0, 0, 0) 27) ≤ w4) (s1 := (76, [some (.inr (some (25, 0, 0, 0))), g1, some (.inl x1), some (.inl w3), some (.inl w4)], [], (zx_lay M, n))) (s2 := (59, [some (.inr (some (25, 0, 0, 0))), g1, some (.inl x1), some (.inl w3), some (.inl w4)], [], (zx_lay M, n))) h (zx_ic_ge rfl) (fun _ h => ?_) (fun _ h => ?_)
    · exact hk _ _ h
    · refine zx_E.go 4 (s' := (65, [some (.inr (some (25, 0, 0, 0))), g1, some (.inl x1), some (.inl w3), some (.inl w4)], [.inl 16, .inl w4, .inr (some (25, 0, 0, 0)), .inl w3], (zx_lay M, n))) rfl ?_
      refine zx_E.cb (y := 125) (as := [.inr (some (25, 0, 0, 0)), .inl w4, .inl 16]) (rest := [.inl w3]) h rfl (fun _ hv => zx_run_up (by omega) (r_X11_at (d := d) hv)) (fun v1 h => ?_)
      show zx_E _ _ _ (68, [some (.inr (some (25, 0, 0, 0))), g1, some (.inl x1), some (.inl w3), some (.inl w4)], [.inl v1, .inl w3], (zx_lay M, n)) _
      refine zx_E.go 4 (s' := (47, [some (.inr (some (25, 0, 0, 0))), g1, some (.inl x1), some (.inl (w3 + v1)), some (.inl (w4 + 1))], [], (zx_lay M, n))) rfl ?_
      exact rl_X11_ahead_47 hk q (w3 + v1) (w4 + 1) h
def lg_X11_counted_4 (M : zx_Y) (x0 : Int32) (kk : Int32 → Int32 → Option Int32) : Nat → Int32 → Int32 → Option Int32
  | 0, _, _ => none
  | q + 1, w2, w3 => (if (M (26, 0, 0, 0) 27) ≤ w3 then (kk w2 w3) else (zb (g_X11_at M w3 0) fun v1 => (if v1 = x0 then (lg_X11_counted_4 M x0 kk q (w2 + 1) (w3 + 1)) else (lg_X11_counted_4 M x0 kk q (w2 + 0) (w3 + 1)))))
set_option maxRecDepth 100000 in
set_option maxHeartbeats 4000000 in
theorem rl_X11_counted_4 {X : zx_X} {d n : Nat} {M : zx_Y} {x0 : Int32} {kk : Int32 → Int32 → Option Int32} {rv : Int32} (hk : ∀ (w2 : Int32) (w3 : Int32), kk w2 w3 = some rv → zx_E X (d + 1) zc_X11_counted (39, [some (.inr (some (25, 0, 0, 0))), some (.inl x0), some (.inl w2), some (.inl w3)], [], (zx_lay M, n)) (some (.inl rv), (zx_lay M, n))) : ∀ (q : Nat) (w2 : Int32) (w3 : Int32), lg_X11_counted_4 M x0 kk q w2 w3 = some rv → zx_E X (d + 1) zc_X11_counted (4, [some (.inr (some (25, 0, 0, 0))), some (.inl x0), some (.inl w2), some (.inl w3)], [], (zx_lay M, n)) (some (.inl rv), (zx_lay M, n))
  | 0, w2, w3, h => by
    rw [lg_X11_counted_4.eq_1] at h
    cases h
  | q + 1, w2, w3, h => by
    rw [lg_X11_counted_4.eq_2] at h
    refine zx_E.go 4 (s' := (11, [some (.inr (some (25, 0, 0, 0))), some (.inl x0), some (.inl w2), some (.inl w3)], [.inl 27, .inr (some (26, 0, 0, 0)), .inl w3], (zx_lay M, n))) rfl ?_
    refine zx_E.iald (k := 27) (h := (26, 0, 0, 0)) rfl rfl rfl (by decide) ?_
    show zx_E _ _ _ (12, [some (.inr (some (25, 0, 0, 0))), some (.inl x0), some (.inl w2), some (.inl w3)], [.inl (M (26, 0, 0, 0) 27), .inl w3], (zx_lay M, n)) _
    refine zx_E.brh (c := (M (26, 0, 0, 0) 27) ≤ w3) (s1 := (39, [some (.inr (some (25, 0, 0, 0))), some (.inl x0), some (.inl w2), some (.inl w3)], [], (zx_lay M, n))) (s2 := (15, [some (.inr (some (25, 0, 0, 0))), some (.inl x0), some (.inl w2), some (.inl w3)], [], (zx_lay M, n))) h (zx_ic_ge rfl) (fun _ h => ?_) (fun _ h => ?_)
    · exact hk _ _ h
    · refine zx_E.go 4 (s' := (19, [some (.inr (some (25, 0, 0, 0))), some (.inl x0), some (.inl w2), some (.inl w3)], [.inl 0, .inl w3, .inr (some (25, 0, 0, 0)), .inl w2], (zx_lay M, n))) rfl ?_
      refine zx_E.cb (y := 125) (as := [.inr (some (25, 0, 0, 0)), .inl w3, .inl 0]) (rest := [.inl w2]) h rfl (fun _ hv => zx_run_up (by omega) (r_X11_at (d := d) hv)) (fun v1 h => ?_)
      show zx_E _ _ _ (22, [some (.inr (some (25, 0, 0, 0))), some (.inl x0), some (.inl w2), some (.inl w3)], [.inl v1, .inl w2], (zx_lay M, n)) _
      refine zx_E.go 1 (s' := (23, [some (.inr (some (25, 0, 0, 0))), some (.inl x0), some (.inl w2), some (.inl w3)], [.inl x0, .inl v1, .inl w2], (zx_lay M, n))) rfl ?_
      refine zx_E.brh (c := v1 = x0) (s1 := (26, [some (.inr (some (25, 0, 0, 0))), some (.inl x0), some (.inl w2), some (.inl w3)], [.inl w2], (zx_lay M, n))) (s2 := (30, [some (.inr (some (25, 0, 0, 0))), some (.inl x0), some (.inl w2), some (.inl w3)], [.inl w2], (zx_lay M, n))) h (zx_ic_ne rfl) (fun _ h => ?_) (fun _ h => ?_)
      · refine zx_E.go 6 (s' := (4, [some (.inr (some (25, 0, 0, 0))), some (.inl x0), some (.inl (w2 + 1)), some (.inl (w3 + 1))], [], (zx_lay M, n))) rfl ?_
        exact rl_X11_counted_4 hk q (w2 + 1) (w3 + 1) h
      · refine zx_E.go 5 (s' := (4, [some (.inr (some (25, 0, 0, 0))), some (.inl x0), some (.inl (w2 + 0)), some (.inl (w3 + 1))], [], (zx_lay M, n))) rfl ?_
        exact rl_X11_counted_4 hk q (w2 + 0) (w3 + 1) h
def g_X11_counted (M : zx_Y) (x0 : Int32) : Option Int32 := (lg_X11_counted_4 M x0 (fun v1 v2 => (some v1)) 1000 0 0)
set_option maxRecDepth 100000 in
set_option maxHeartbeats 4000000 in
theorem r_X11_counted {X : zx_X} {d n : Nat} {M : zx_Y} {x0 : Int32} {rv : Int32} (h : g_X11_counted M x0 = some rv) : zx_run X (d + 2) 188 [.inr (some (25, 0, 0, 0)), .inl x0] (zx_lay M, n) (some (.inl rv), (zx_lay M, n)) := by
  refine zx_run_of zc_X11_counted [some (.inr (some (25, 0, 0, 0))), some (.inl x0), none, none] rfl rfl ?_
  unfold g_X11_counted at h
  refine zx_E.go 4 (s' := (4, [some (.inr (some (25, 0, 0, 0))), some (.inl x0), some (.inl 0), some (.inl 0)], [], (zx_lay M, n))) rfl ?_
  refine rl_X11_counted_4 (fun v1 v2 h => ?_) 1000  0 0  h
  refine zx_E.go 1 (s' := (40, [some (.inr (some (25, 0, 0, 0))), some (.inl x0), some (.inl v1), some (.inl v2)], [.inl v1], (zx_lay M, n))) rfl ?_
  exact zx_E.rp h rfl (fun h => absurd h (by decide))
def lg_X11_isStill_24 (M : zx_Y) (kk : Int32 → Int32 → Option Int32) : Nat → Int32 → Int32 → Option Int32
  | 0, _, _ => none
  | q + 1, w1, w2 => (if (M (26, 0, 0, 0) 27) ≤ w2 then (kk w1 w2) else (zb (g_X11_at M w2 0) fun v1 => (if v1 = 0 then (zb (g_X11_at M w2 4) fun v2 => (if (M (26, 0, 0, 0) 0) < v2 then (zb (g_X11_at M w2 0) fun v3 => (if v3 = 1 then (zb (g_X11_isWayFree M w2) fun v4 => (if v4 = 0 then (if w1 = 0 then (lg_X11_isStill_24 M kk q 0 (w2 + 1)) else (lg_X11_isStill_24 M kk q 0 (w2 + 1))) else (zb (g_X11_minutesFor M w2) fun v5 => (zb (g_X11_at M w2 6) fun v6 => (if v6 < v5 then (if w1 = 0 then (lg_X11_isStill_24 M kk q 0 (w2 + 1)) else (lg_X11_isStill_24 M kk q 0 (w2 + 1))) else (if w1 = 0 then (lg_X11_isStill_24 M kk q 0 (w2 + 1)) else (lg_X11_isStill_24 M kk q 0 (w2 + 1)))))))) else (if w1 = 0 then (lg_X11_isStill_24 M kk q 0 (w2 + 1)) else (lg_X11_isStill_24 M kk q 0 (w2 + 1))))) else (zb (g_X11_at M w2 1) fun v7 => (zb (g_X11_hasTrack M v7) fun v8 => (if v8 = 0 then (zb (g_X11_at M w2 0) fun v9 => (if v9 = 1 then (zb (g_X11_isWayFree M w2) fun v10 => (if v10 = 0 then (if w1 = 0 then (lg_X11_isStill_24 M kk q 0 (w2 + 1)) else (zb (g_X11_mayRun M w2) fun v11 => (if v11 = 0 then (lg_X11_isStill_24 M kk q 1 (w2 + 1)) else (lg_X11_isStill_24 M kk q 0 (w2 + 1))))) else (zb (g_X11_minutesFor M w2) fun v12 => (zb (g_X11_at M w2 6) fun v13 => (if v13 < v12 then (if w1 = 0 then (lg_X11_isStill_24 M kk q 0 (w2 + 1)) else (zb (g_X11_mayRun M w2) fun v14 => (if v14 = 0 then (lg_X11_isStill_24 M kk q 1 (w2 + 1)) else (lg_X11_isStill_24 M kk q 0 (w2 + 1))))) else (if w1 = 0 then (lg_X11_isStill_24 M kk q 0 (w2 + 1)) else (lg_X11_isStill_24 M kk q 0 (w2 + 1)))))))) else (if w1 = 0 then (lg_X11_isStill_24 M kk q 0 (w2 + 1)) else (zb (g_X11_mayRun M w2) fun v15 => (if v15 = 0 then (lg_X11_isStill_24 M kk q 1 (w2 + 1)) else (lg_X11_isStill_24 M kk q 0 (w2 + 1))))))) else (zb (g_X11_at M w2 0) fun v16 => (if v16 = 1 then (zb (g_X11_isWayFree M w2) fun v17 => (if v17 = 0 then (if w1 = 0 then (lg_X11_isStill_24 M kk q 0 (w2 + 1)) else (lg_X11_isStill_24 M kk q 0 (w2 + 1))) else (zb (g_X11_minutesFor M w2) fun v18 => (zb (g_X11_at M w2 6) fun v19 => (if v19 < v18 then (if w1 = 0 then (lg_X11_isStill_24 M kk q 0 (w2 + 1)) else (lg_X11_isStill_24 M kk q 0 (w2 + 1))) else (if w1 = 0 then (lg_X11_isStill_24 M kk q 0 (w2 + 1)) else (lg_X11_isStill_24 M kk q 0 (w2 + 1)))))))) else (if w1 = 0 then (lg_X11_isStill_24 M kk q 0 (w2 + 1)) else (lg_X11_isStill_24 M kk q 0 (w2 + 1)))))))))) else (zb (g_X11_at M w2 0) fun v20 => (if v20 = 1 then (zb (g_X11_isWayFree M w2) fun v21 => (if v21 = 0 then (if w1 = 0 then (lg_X11_isStill_24 M kk q 0 (w2 + 1)) else (zb (g_X11_mayRun M w2) fun v22 => (if v22 = 0 then (lg_X11_isStill_24 M kk q 1 (w2 + 1)) else (lg_X11_isStill_24 M kk q 0 (w2 + 1))))) else (zb (g_X11_minutesFor M w2) fun v23 => (zb (g_X11_at M w2 6) fun v24 => (if v24 < v23 then (if w1 = 0 then (lg_X11_isStill_24 M kk q 0 (w2 + 1)) else (zb (g_X11_mayRun M w2) fun v25 => (if v25 = 0 then (lg_X11_isStill_24 M kk q 1 (w2 + 1)) else (lg_X11_isStill_24 M kk q 0 (w2 + 1))))) else (if w1 = 0 then (lg_X11_isStill_24 M kk q 0 (w2 + 1)) else (lg_X11_isStill_24 M kk q 0 (w2 + 1)))))))) else (if w1 = 0 then (lg_X11_isStill_24 M kk q 0 (w2 + 1)) else (zb (g_X11_mayRun M w2) fun v26 => (if v26 = 0 then (lg_X11_isStill_24 M kk q 1 (w2 + 1)) else (lg_X11_isStill_24 M kk q 0 (w2 + 1))))))))))
set_option maxRecDepth 100000 in
set_option maxHeartbeats 4000000 in
theorem rl_X11_isStill_24 {X : zx_X} {d n : Nat} {M : zx_Y} {kk : Int32 → Int32 → Option Int32} {rv : Int32} (hk : ∀ (w1 : Int32) (w2 : Int32) (e3 : Option zx_V) (e4 : Option zx_V), kk w1 w2 = some rv → zx_E X (d + 7) zc_X11_isStill (151, [some (.inr (some (25, 0, 0, 0))), some (.inl w1), some (.inl w2), e3, e4], [], (zx_lay M, n)) (some (.inl rv), (zx_lay M, n))) : ∀ (q : Nat) (g3 : Option zx_V) (g4 : Option zx_V) (w1 : Int32) (w2 : Int32), lg_X11_isStill_24 M kk q w1 w2 = some rv → zx_E X (d + 7) zc_X11_isStill (24, [some (.inr (some (25, 0, 0, 0))), some (.inl w1), some (.inl w2), g3, g4], [], (zx_lay M, n)) (some (.inl rv), (zx_lay M, n))
  | 0, g3, g4, w1, w2, h => by
    rw [lg_X11_isStill_24.eq_1] at h
    cases h
  | q + 1, g3, g4, w1, w2, h => by
    rw [lg_X11_isStill_24.eq_2] at h
    refine zx_E.go 4 (s' := (31, [some (.inr (some (25, 0, 0, 0))), some (.inl w1), some (.inl w2), g3, g4], [.inl 27, .inr (some (26, 0, 0, 0)), .inl w2], (zx_lay M, n))) rfl ?_
    refine zx_E.iald (k := 27) (h := (26, 0, 0, 0)) rfl rfl rfl (by decide) ?_
    show zx_E _ _ _ (32, [some (.inr (some (25, 0, 0, 0))), some (.inl w1), some (.inl w2), g3, g4], [.inl (M (26, 0, 0, 0) 27), .inl w2], (zx_lay M, n)) _
    refine zx_E.brh (c := (M (26, 0, 0, 0) 27) ≤ w2) (s1 := (151, [some (.inr (some (25, 0, 0, 0))), some (.inl w1), some (.inl w2), g3, g4], [], (zx_lay M, n))) (s2 := (35, [some (.inr (some (25, 0, 0, 0))), some (.inl w1), some (.inl w2), g3, g4], [], (zx_lay M, n))) h (zx_ic_ge rfl) (fun _ h => ?_) (fun _ h => ?_)
    · exact hk _ _ _ _ h
    · refine zx_E.go 3 (s' := (38, [some (.inr (some (25, 0, 0, 0))), some (.inl w1), some (.inl w2), g3, g4], [.inl 0, .inl w2, .inr (some (25, 0, 0, 0))], (zx_lay M, n))) rfl ?_
      refine zx_E.cb (y := 125) (as := [.inr (some (25, 0, 0, 0)), .inl w2, .inl 0]) (rest := []) h rfl (fun _ hv => zx_run_up (by omega) (r_X11_at (d := d) hv)) (fun v1 h => ?_)
      show zx_E _ _ _ (41, [some (.inr (some (25, 0, 0, 0))), some (.inl w1), some (.inl w2), g3, g4], [.inl v1], (zx_lay M, n)) _
      refine zx_E.brh (c := v1 = 0) (s1 := (44, [some (.inr (some (25, 0, 0, 0))), some (.inl w1), some (.inl w2), g3, g4], [], (zx_lay M, n))) (s2 := (72, [some (.inr (some (25, 0, 0, 0))), some (.inl w1), some (.inl w2), g3, g4], [], (zx_lay M, n))) h (zx_if_ne rfl) (fun _ h => ?_) (fun _ h => ?_)
      · refine zx_E.go 3 (s' := (47, [some (.inr (some (25, 0, 0, 0))), some (.inl w1), some (.inl w2), g3, g4], [.inl 4, .inl w2, .inr (some (25, 0, 0, 0))], (zx_lay M, n))) rfl ?_
        refine zx_E.cb (y := 125) (as := [.inr (some (25, 0, 0, 0)), .inl w2, .inl 4]) (rest := []) h rfl (fun _ hv => zx_run_up (by omega) (r_X11_at (d := d) hv)) (fun v2 h => ?_)
        show zx_E _ _ _ (50, [some (.inr (some (25, 0, 0, 0))), some (.inl w1), some (.inl w2), g3, g4], [.inl v2], (zx_lay M, n)) _
        refine zx_E.go 3 (s' := (55, [some (.inr (some (25, 0, 0, 0))), some (.inl w1), some (.inl w2), g3, g4], [.inl 0, .inr (some (26, 0, 0, 0)), .inl v2], (zx_lay M, n))) rfl ?_
        refine zx_E.iald (k := 0) (h := (26, 0, 0, 0)) rfl rfl rfl (by decide) ?_
        show zx_E _ _ _ (56, [some (.inr (some (25, 0, 0, 0))), some (.inl w1), some (.inl w2), g3, g4], [.inl (M (26, 0, 0, 0) 0), .inl v2], (zx_lay M, n)) _
        refine zx_E.brh (c := (M (26, 0, 0, 0) 0) < v2) (s1 := (76, [some (.inr (some (25, 0, 0, 0))), some (.inl w1), some (.inl w2), g3, g4], [], (zx_lay M, n))) (s2 := (59, [some (.inr (some (25, 0, 0, 0))), some (.inl w1), some (.inl w2), g3, g4], [], (zx_lay M, n))) h (zx_ic_gt rfl) (fun _ h => ?_) (fun _ h => ?_)
        · refine zx_E.go 5 (s' := (81, [some (.inr (some (25, 0, 0, 0))), some (.inl w1), some (.inl w2), some (.inl 0), g4], [.inl 0, .inl w2, .inr (some (25, 0, 0, 0))], (zx_lay M, n))) rfl ?_
          refine zx_E.cb (y := 125) (as := [.inr (some (25, 0, 0, 0)), .inl w2, .inl 0]) (rest := []) h rfl (fun _ hv => zx_run_up (by omega) (r_X11_at (d := d) hv)) (fun v3 h => ?_)
          show zx_E _ _ _ (84, [some (.inr (some (25, 0, 0, 0))), some (.inl w1), some (.inl w2), some (.inl 0), g4], [.inl v3], (zx_lay M, n)) _
          refine zx_E.go 1 (s' := (85, [some (.inr (some (25, 0, 0, 0))), some (.inl w1), some (.inl w2), some (.inl 0), g4], [.inl 1, .inl v3], (zx_lay M, n))) rfl ?_
          refine zx_E.brh (c := v3 = 1) (s1 := (88, [some (.inr (some (25, 0, 0, 0))), some (.inl w1), some (.inl w2), some (.inl 0), g4], [], (zx_lay M, n))) (s2 := (115, [some (.inr (some (25, 0, 0, 0))), some (.inl w1), some (.inl w2), some (.inl 0), g4], [], (zx_lay M, n))) h (zx_ic_ne rfl) (fun _ h => ?_) (fun _ h => ?_)
          · refine zx_E.go 2 (s' := (90, [some (.inr (some (25, 0, 0, 0))), some (.inl w1), some (.inl w2), some (.inl 0), g4], [.inl w2, .inr (some (25, 0, 0, 0))], (zx_lay M, n))) rfl ?_
            refine zx_E.cb (y := 137) (as := [.inr (some (25, 0, 0, 0)), .inl w2]) (rest := []) h rfl (fun _ hv => zx_run_up (by omega) (r_X11_isWayFree (d := d) hv)) (fun v4 h => ?_)
            show zx_E _ _ _ (93, [some (.inr (some (25, 0, 0, 0))), some (.inl w1), some (.inl w2), some (.inl 0), g4], [.inl v4], (zx_lay M, n)) _
            refine zx_E.brh (c := v4 = 0) (s1 := (115, [some (.inr (some (25, 0, 0, 0))), some (.inl w1), some (.inl w2), some (.inl 0), g4], [], (zx_lay M, n))) (s2 := (96, [some (.inr (some (25, 0, 0, 0))), some (.inl w1), some (.inl w2), some (.inl 0), g4], [], (zx_lay M, n))) h (zx_if_eq rfl) (fun _ h => ?_) (fun _ h => ?_)
            · refine zx_E.go 3 (s' := (119, [some (.inr (some (25, 0, 0, 0))), some (.inl w1), some (.inl w2), some (.inl 0), some (.inl 0)], [.inl w1], (zx_lay M, n))) rfl ?_
              refine zx_E.brh (c := w1 = 0) (s1 := (143, [some (.inr (some (25, 0, 0, 0))), some (.inl w1), some (.inl w2), some (.inl 0), some (.inl 0)], [], (zx_lay M, n))) (s2 := (122, [some (.inr (some (25, 0, 0, 0))), some (.inl w1), some (.inl w2), some (.inl 0), some (.inl 0)], [], (zx_lay M, n))) h (zx_if_eq rfl) (fun _ h => ?_) (fun _ h => ?_)
              · refine zx_E.go 4 (s' := (24, [some (.inr (some (25, 0, 0, 0))), some (.inl 0), some (.inl (w2 + 1)), some (.inl 0), some (.inl 0)], [], (zx_lay M, n))) rfl ?_
                exact rl_X11_isStill_24 hk q _ _ 0 (w2 + 1) h
              · refine zx_E.go 1 (s' := (123, [some (.inr (some (25, 0, 0, 0))), some (.inl w1), some (.inl w2), some (.inl 0), some (.inl 0)], [.inl 0], (zx_lay M, n))) rfl ?_
                refine zx_E.bt (c := ((0 : Int32) = 0 : Prop)) (s1 := (143, [some (.inr (some (25, 0, 0, 0))), some (.inl w1), some (.inl w2), some (.inl 0), some (.inl 0)], [], (zx_lay M, n))) (s2 := (126, [some (.inr (some (25, 0, 0, 0))), some (.inl w1), some (.inl w2), some (.inl 0), some (.inl 0)], [], (zx_lay M, n))) (zx_if_eq rfl) (by decide) ?_
                refine zx_E.go 4 (s' := (24, [some (.inr (some (25, 0, 0, 0))), some (.inl 0), some (.inl (w2 + 1)), some (.inl 0), some (.inl 0)], [], (zx_lay M, n))) rfl ?_
                exact rl_X11_isStill_24 hk q _ _ 0 (w2 + 1) h
            · refine zx_E.go 2 (s' := (98, [some (.inr (some (25, 0, 0, 0))), some (.inl w1), some (.inl w2), some (.inl 0), g4], [.inl w2, .inr (some (25, 0, 0, 0))], (zx_lay M, n))) rfl ?_
              refine zx_E.cb (y := 136) (as := [.inr (some (25, 0, 0, 0)), .inl w2]) (rest := []) h rfl (fun _ hv => zx_run_up (by omega) (r_X11_minutesFor (d := d) hv)) (fun v5 h => ?_)
              show zx_E _ _ _ (101, [some (.inr (some (25, 0, 0, 0))), some (.inl w1), some (.inl w2), some (.inl 0), g4], [.inl v5], (zx_lay M, n)) _
              refine zx_E.go 3 (s' := (105, [some (.inr (some (25, 0, 0, 0))), some (.inl w1), some (.inl w2), some (.inl 0), g4], [.inl 6, .inl w2, .inr (some (25, 0, 0, 0)), .inl v5], (zx_lay M, n))) rfl ?_
              refine zx_E.cb (y := 125) (as := [.inr (some (25, 0, 0, 0)), .inl w2, .inl 6]) (rest := [.inl v5]) h rfl (fun _ hv => zx_run_up (by omega) (r_X11_at (d := d) hv)) (fun v6 h => ?_)
              show zx_E _ _ _ (108, [some (.inr (some (25, 0, 0, 0))), some (.inl w1), some (.inl w2), some (.inl 0), g4], [.inl v6, .inl v5], (zx_lay M, n)) _
              refine zx_E.brh (c := v6 < v5) (s1 := (115, [some (.inr (some (25, 0, 0, 0))), some (.inl w1), some (.inl w2), some (.inl 0), g4], [], (zx_lay M, n))) (s2 := (111, [some (.inr (some (25, 0, 0, 0))), some (.inl w1), some (.inl w2), some (.inl 0), g4], [], (zx_lay M, n))) h (zx_ic_gt rfl) (fun _ h => ?_) (fun _ h => ?_)
              · refine zx_E.go 3 (s' := (119, [some (.inr (some (25, 0, 0, 0))), some (.inl w1), some (.inl w2), some (.inl 0), some (.inl 0)], [.inl w1], (zx_lay M, n))) rfl ?_
                refine zx_E.brh (c := w1 = 0) (s1 := (143, [some (.inr (some (25, 0, 0, 0))), some (.inl w1), some (.inl w2), some (.inl 0), some (.inl 0)], [], (zx_lay M, n))) (s2 := (122, [some (.inr (some (25, 0, 0, 0))), some (.inl w1), some (.inl w2), some (.inl 0), some (.inl 0)], [], (zx_lay M, n))) h (zx_if_eq rfl) (fun _ h => ?_) (fun _ h => ?_)
                · refine zx_E.go 4 (s' := (24, [some (.inr (some (25, 0, 0, 0))), some (.inl 0), some (.inl (w2 + 1)), some (.inl 0), some (.inl 0)], [], (zx_lay M, n))) rfl ?_
                  exact rl_X11_isStill_24 hk q _ _ 0 (w2 + 1) h
                · refine zx_E.go 1 (s' := (123, [some (.inr (some (25, 0, 0, 0))), some (.inl w1), some (.inl w2), some (.inl 0), some (.inl 0)], [.inl 0], (zx_lay M, n))) rfl ?_
                  refine zx_E.bt (c := ((0 : Int32) = 0 : Prop)) (s1 := (143, [some (.inr (some (25, 0, 0, 0))), some (.inl w1), some (.inl w2), some (.inl 0), some (.inl 0)], [], (zx_lay M, n))) (s2 := (126, [some (.inr (some (25, 0, 0, 0))), some (.inl w1), some (.inl w2), some (.inl 0), some (.inl 0)], [], (zx_lay M, n))) (zx_if_eq rfl) (by decide) ?_
                  refine zx_E.go 4 (s' := (24, [some (.inr (some (25, 0, 0, 0))), some (.inl 0), some (.inl (w2 + 1)), some (.inl 0), some (.inl 0)], [], (zx_lay M, n))) rfl ?_
                  exact rl_X11_isStill_24 hk q _ _ 0 (w2 + 1) h
              · refine zx_E.go 4 (s' := (119, [some (.inr (some (25, 0, 0, 0))), some (.inl w1), some (.inl w2), some (.inl 0), some (.inl 1)], [.inl w1], (zx_lay M, n))) rfl ?_
                refine zx_E.brh (c := w1 = 0) (s1 := (143, [some (.inr (some (25, 0, 0, 0))), some (.inl w1), some (.inl w2), some (.inl 0), some (.inl 1)], [], (zx_lay M, n))) (s2 := (122, [some (.inr (some (25, 0, 0, 0))), some (.inl w1), some (.inl w2), some (.inl 0), some (.inl 1)], [], (zx_lay M, n))) h (zx_if_eq rfl) (fun _ h => ?_) (fun _ h => ?_)
                · refine zx_E.go 4 (s' := (24, [some (.inr (some (25, 0, 0, 0))), some (.inl 0), some (.inl (w2 + 1)), some (.inl 0), some (.inl 1)], [], (zx_lay M, n))) rfl ?_
                  exact rl_X11_isStill_24 hk q _ _ 0 (w2 + 1) h
                · refine zx_E.go 1 (s' := (123, [some (.inr (some (25, 0, 0, 0))), some (.inl w1), some (.inl w2), some (.inl 0), some (.inl 1)], [.inl 0], (zx_lay M, n))) rfl ?_
                  refine zx_E.bt (c := ((0 : Int32) = 0 : Prop)) (s1 := (143, [some (.inr (some (25, 0, 0, 0))), some (.inl w1), some (.inl w2), some (.inl 0), some (.inl 1)], [], (zx_lay M, n))) (s2 := (126, [some (.inr (some (25, 0, 0, 0))), some (.inl w1), some (.inl w2), some (.inl 0), some (.inl 1)], [], (zx_lay M, n))) (zx_if_eq rfl) (by decide) ?_
                  refine zx_E.go 4 (s' := (24, [some (.inr (some (25, 0, 0, 0))), some (.inl 0), some (.inl (w2 + 1)), some (.inl 0), some (.inl 1)], [], (zx_lay M, n))) rfl ?_
                  exact rl_X11_isStill_24 hk q _ _ 0 (w2 + 1) h
          · refine zx_E.go 3 (s' := (119, [some (.inr (some (25, 0, 0, 0))), some (.inl w1), some (.inl w2), some (.inl 0), some (.inl 0)], [.inl w1], (zx_lay M, n))) rfl ?_
            refine zx_E.brh (c := w1 = 0) (s1 := (143, [some (.inr (some (25, 0, 0, 0))), some (.inl w1), some (.inl w2), some (.inl 0), some (.inl 0)], [], (zx_lay M, n))) (s2 := (122, [some (.inr (some (25, 0, 0, 0))), some (.inl w1), some (.inl w2), some (.inl 0), some (.inl 0)], [], (zx_lay M, n))) h (zx_if_eq rfl) (fun _ h => ?_) (fun _ h => ?_)
            · refine zx_E.go 4 (s' := (24, [some (.inr (some (25, 0, 0, 0))), some (.inl 0), some (.inl (w2 + 1)), some (.inl 0), some (.inl 0)], [], (zx_lay M, n))) rfl ?_
              exact rl_X11_isStill_24 hk q _ _ 0 (w2 + 1) h
            · refine zx_E.go 1 (s' := (123, [some (.inr (some (25, 0, 0, 0))), some (.inl w1), some (.inl w2), some (.inl 0), some (.inl 0)], [.inl 0], (zx_lay M, n))) rfl ?_
              refine zx_E.bt (c := ((0 : Int32) = 0 : Prop)) (s1 := (143, [some (.inr (some (25, 0, 0, 0))), some (.inl w1), some (.inl w2), some (.inl 0), some (.inl 0)], [], (zx_lay M, n))) (s2 := (126, [some (.inr (some (25, 0, 0, 0))), some (.inl w1), some (.inl w2), some (.inl 0), some (.inl 0)], [], (zx_lay M, n))) (zx_if_eq rfl) (by decide) ?_
              refine zx_E.go 4 (s' := (24, [some (.inr (some (25, 0, 0, 0))), some (.inl 0), some (.inl (w2 + 1)), some (.inl 0), some (.inl 0)], [], (zx_lay M, n))) rfl ?_
              exact rl_X11_isStill_24 hk q _ _ 0 (w2 + 1) h
        · refine zx_E.go 4 (s' := (63, [some (.inr (some (25, 0, 0, 0))), some (.inl w1), some (.inl w2), g3, g4], [.inl 1, .inl w2, .inr (some (25, 0, 0, 0)), .inr (some (25, 0, 0, 0))], (zx_lay M, n))) rfl ?_
          refine zx_E.cb (y := 125) (as := [.inr (some (25, 0, 0, 0)), .inl w2, .inl 1]) (rest := [.inr (some (25, 0, 0, 0))]) h rfl (fun _ hv => zx_run_up (by omega) (r_X11_at (d := d) hv)) (fun v7 h => ?_)
          show zx_E _ _ _ (66, [some (.inr (some (25, 0, 0, 0))), some (.inl w1), some (.inl w2), g3, g4], [.inl v7, .inr (some (25, 0, 0, 0))], (zx_lay M, n)) _
          refine zx_E.cb (y := 133) (as := [.inr (some (25, 0, 0, 0)), .inl v7]) (rest := []) h rfl (fun _ hv => zx_run_up (by omega) (r_X11_hasTrack (d := d) hv)) (fun v8 h => ?_)
          show zx_E _ _ _ (69, [some (.inr (some (25, 0, 0, 0))), some (.inl w1), some (.inl w2), g3, g4], [.inl v8], (zx_lay M, n)) _
          refine zx_E.brh (c := v8 = 0) (s1 := (72, [some (.inr (some (25, 0, 0, 0))), some (.inl w1), some (.inl w2), g3, g4], [], (zx_lay M, n))) (s2 := (76, [some (.inr (some (25, 0, 0, 0))), some (.inl w1), some (.inl w2), g3, g4], [], (zx_lay M, n))) h (zx_if_ne rfl) (fun _ h => ?_) (fun _ h => ?_)
          · refine zx_E.go 6 (s' := (81, [some (.inr (some (25, 0, 0, 0))), some (.inl w1), some (.inl w2), some (.inl 1), g4], [.inl 0, .inl w2, .inr (some (25, 0, 0, 0))], (zx_lay M, n))) rfl ?_
            refine zx_E.cb (y := 125) (as := [.inr (some (25, 0, 0, 0)), .inl w2, .inl 0]) (rest := []) h rfl (fun _ hv => zx_run_up (by omega) (r_X11_at (d := d) hv)) (fun v9 h => ?_)
            show zx_E _ _ _ (84, [some (.inr (some (25, 0, 0, 0))), some (.inl w1), some (.inl w2), some (.inl 1), g4], [.inl v9], (zx_lay M, n)) _
            refine zx_E.go 1 (s' := (85, [some (.inr (some (25, 0, 0, 0))), some (.inl w1), some (.inl w2), some (.inl 1), g4], [.inl 1, .inl v9], (zx_lay M, n))) rfl ?_
            refine zx_E.brh (c := v9 = 1) (s1 := (88, [some (.inr (some (25, 0, 0, 0))), some (.inl w1), some (.inl w2), some (.inl 1), g4], [], (zx_lay M, n))) (s2 := (115, [some (.inr (some (25, 0, 0, 0))), some (.inl w1), some (.inl w2), some (.inl 1), g4], [], (zx_lay M, n))) h (zx_ic_ne rfl) (fun _ h => ?_) (fun _ h => ?_)
            · refine zx_E.go 2 (s' := (90, [some (.inr (some (25, 0, 0, 0))), some (.inl w1), some (.inl w2), some (.inl 1), g4], [.inl w2, .inr (some (25, 0, 0, 0))], (zx_lay M, n))) rfl ?_
              refine zx_E.cb (y := 137) (as := [.inr (some (25, 0, 0, 0)), .inl w2]) (rest := []) h rfl (fun _ hv => zx_run_up (by omega) (r_X11_isWayFree (d := d) hv)) (fun v10 h => ?_)
              show zx_E _ _ _ (93, [some (.inr (some (25, 0, 0, 0))), some (.inl w1), some (.inl w2), some (.inl 1), g4], [.inl v10], (zx_lay M, n)) _
              refine zx_E.brh (c := v10 = 0) (s1 := (115, [some (.inr (some (25, 0, 0, 0))), some (.inl w1), some (.inl w2), some (.inl 1), g4], [], (zx_lay M, n))) (s2 := (96, [some (.inr (some (25, 0, 0, 0))), some (.inl w1), some (.inl w2), some (.inl 1), g4], [], (zx_lay M, n))) h (zx_if_eq rfl) (fun _ h => ?_) (fun _ h => ?_)
              · refine zx_E.go 3 (s' := (119, [some (.inr (some (25, 0, 0, 0))), some (.inl w1), some (.inl w2), some (.inl 1), some (.inl 0)], [.inl w1], (zx_lay M, n))) rfl ?_
                refine zx_E.brh (c := w1 = 0) (s1 := (143, [some (.inr (some (25, 0, 0, 0))), some (.inl w1), some (.inl w2), some (.inl 1), some (.inl 0)], [], (zx_lay M, n))) (s2 := (122, [some (.inr (some (25, 0, 0, 0))), some (.inl w1), some (.inl w2), some (.inl 1), some (.inl 0)], [], (zx_lay M, n))) h (zx_if_eq rfl) (fun _ h => ?_) (fun _ h => ?_)
                · refine zx_E.go 4 (s' := (24, [some (.inr (some (25, 0, 0, 0))), some (.inl 0), some (.inl (w2 + 1)), some (.inl 1), some (.inl 0)], [], (zx_lay M, n))) rfl ?_
                  exact rl_X11_isStill_24 hk q _ _ 0 (w2 + 1) h
                · refine zx_E.go 1 (s' := (123, [some (.inr (some (25, 0, 0, 0))), some (.inl w1), some (.inl w2), some (.inl 1), some (.inl 0)], [.inl 1], (zx_lay M, n))) rfl ?_
                  refine zx_E.bf (c := ((1 : Int32) = 0 : Prop)) (s1 := (143, [some (.inr (some (25, 0, 0, 0))), some (.inl w1), some (.inl w2), some (.inl 1), some (.inl 0)], [], (zx_lay M, n))) (s2 := (126, [some (.inr (some (25, 0, 0, 0))), some (.inl w1), some (.inl w2), some (.inl 1), some (.inl 0)], [], (zx_lay M, n))) (zx_if_eq rfl) (by decide) ?_
                  refine zx_E.go 1 (s' := (128, [some (.inr (some (25, 0, 0, 0))), some (.inl w1), some (.inl w2), some (.inl 1), some (.inl 0)], [.inl 0], (zx_lay M, n))) rfl ?_
                  refine zx_E.bt (c := ((0 : Int32) = 0 : Prop)) (s1 := (131, [some (.inr (some (25, 0, 0, 0))), some (.inl w1), some (.inl w2), some (.inl 1), some (.inl 0)], [], (zx_lay M, n))) (s2 := (143, [some (.inr (some (25, 0, 0, 0))), some (.inl w1), some (.inl w2), some (.inl 1), some (.inl 0)], [], (zx_lay M, n))) (zx_if_ne rfl) (by decide) ?_
                  refine zx_E.go 2 (s' := (133, [some (.inr (some (25, 0, 0, 0))), some (.inl w1), some (.inl w2), some (.inl 1), some (.inl 0)], [.inl w2, .inr (some (25, 0, 0, 0))], (zx_lay M, n))) rfl ?_
                  refine zx_E.cb (y := 139) (as := [.inr (some (25, 0, 0, 0)), .inl w2]) (rest := []) h rfl (fun _ hv => zx_run_up (by omega) (r_X11_mayRun (d := d) hv)) (fun v11 h => ?_)
                  show zx_E _ _ _ (136, [some (.inr (some (25, 0, 0, 0))), some (.inl w1), some (.inl w2), some (.inl 1), some (.inl 0)], [.inl v11], (zx_lay M, n)) _
                  refine zx_E.brh (c := v11 = 0) (s1 := (139, [some (.inr (some (25, 0, 0, 0))), some (.inl w1), some (.inl w2), some (.inl 1), some (.inl 0)], [], (zx_lay M, n))) (s2 := (143, [some (.inr (some (25, 0, 0, 0))), some (.inl w1), some (.inl w2), some (.inl 1), some (.inl 0)], [], (zx_lay M, n))) h (zx_if_ne rfl) (fun _ h => ?_) (fun _ h => ?_)
                  · refine zx_E.go 5 (s' := (24, [some (.inr (some (25, 0, 0, 0))), some (.inl 1), some (.inl (w2 + 1)), some (.inl 1), some (.inl 0)], [], (zx_lay M, n))) rfl ?_
                    exact rl_X11_isStill_24 hk q _ _ 1 (w2 + 1) h
                  · refine zx_E.go 4 (s' := (24, [some (.inr (some (25, 0, 0, 0))), some (.inl 0), some (.inl (w2 + 1)), some (.inl 1), some (.inl 0)], [], (zx_lay M, n))) rfl ?_
                    exact rl_X11_isStill_24 hk q _ _ 0 (w2 + 1) h
              · refine zx_E.go 2 (s' := (98, [some (.inr (some (25, 0, 0, 0))), some (.inl w1), some (.inl w2), some (.inl 1), g4], [.inl w2, .inr (some (25, 0, 0, 0))], (zx_lay M, n))) rfl ?_
                refine zx_E.cb (y := 136) (as := [.inr (some (25, 0, 0, 0)), .inl w2]) (rest := []) h rfl (fun _ hv => zx_run_up (by omega) (r_X11_minutesFor (d := d) hv)) (fun v12 h => ?_)
                show zx_E _ _ _ (101, [some (.inr (some (25, 0, 0, 0))), some (.inl w1), some (.inl w2), some (.inl 1), g4], [.inl v12], (zx_lay M, n)) _
                refine zx_E.go 3 (s' := (105, [some (.inr (some (25, 0, 0, 0))), some (.inl w1), some (.inl w2), some (.inl 1), g4], [.inl 6, .inl w2, .inr (some (25, 0, 0, 0)), .inl v12], (zx_lay M, n))) rfl ?_
                refine zx_E.cb (y := 125) (as := [.inr (some (25, 0, 0, 0)), .inl w2, .inl 6]) (rest := [.inl v12]) h rfl (fun _ hv => zx_run_up (by omega) (r_X11_at (d := d) hv)) (fun v13 h => ?_)
                show zx_E _ _ _ (108, [some (.inr (some (25, 0, 0, 0))), some (.inl w1), some (.inl w2), some (.inl 1), g4], [.inl v13, .inl v12], (zx_lay M, n)) _
                refine zx_E.brh (c := v13 < v12) (s1 := (115, [some (.inr (some (25, 0, 0, 0))), some (.inl w1), some (.inl w2), some (.inl 1), g4], [], (zx_lay M, n))) (s2 := (111, [some (.inr (some (25, 0, 0, 0))), some (.inl w1), some (.inl w2), some (.inl 1), g4], [], (zx_lay M, n))) h (zx_ic_gt rfl) (fun _ h => ?_) (fun _ h => ?_)
                · refine zx_E.go 3 (s' := (119, [some (.inr (some (25, 0, 0, 0))), some (.inl w1), some (.inl w2), some (.inl 1), some (.inl 0)], [.inl w1], (zx_lay M, n))) rfl ?_
                  refine zx_E.brh (c := w1 = 0) (s1 := (143, [some (.inr (some (25, 0, 0, 0))), some (.inl w1), some (.inl w2), some (.inl 1), some (.inl 0)], [], (zx_lay M, n))) (s2 := (122, [some (.inr (some (25, 0, 0, 0))), some (.inl w1), some (.inl w2), some (.inl 1), some (.inl 0)], [], (zx_lay M, n))) h (zx_if_eq rfl) (fun _ h => ?_) (fun _ h => ?_)
                  · refine zx_E.go 4 (s' := (24, [some (.inr (some (25, 0, 0, 0))), some (.inl 0), some (.inl (w2 + 1)), some (.inl 1), some (.inl 0)], [], (zx_lay M, n))) rfl ?_
                    exact rl_X11_isStill_24 hk q _ _ 0 (w2 + 1) h
                  · refine zx_E.go 1 (s' := (123, [some (.inr (some (25, 0, 0, 0))), some (.inl w1), some (.inl w2), some (.inl 1), some (.inl 0)], [.inl 1], (zx_lay M, n))) rfl ?_
                    refine zx_E.bf (c := ((1 : Int32) = 0 : Prop)) (s1 := (143, [some (.inr (some (25, 0, 0, 0))), some (.inl w1), some (.inl w2), some (.inl 1), some (.inl 0)], [], (zx_lay M, n))) (s2 := (126, [some (.inr (some (25, 0, 0, 0))), some (.inl w1), some (.inl w2), some (.inl 1), some (.inl 0)], [], (zx_lay M, n))) (zx_if_eq rfl) (by decide) ?_
                    refine zx_E.go 1 (s' := (128, [some (.inr (some (25, 0, 0, 0))), some (.inl w1), some (.inl w2), some (.inl 1), some (.inl 0)], [.inl 0], (zx_lay M, n))) rfl ?_
                    refine zx_E.bt (c := ((0 : Int32) = 0 : Prop)) (s1 := (131, [some (.inr (some (25, 0, 0, 0))), some (.inl w1), some (.inl w2), some (.inl 1), some (.inl 0)], [], (zx_lay M, n))) (s2 := (143, [some (.inr (some (25, 0, 0, 0))), some (.inl w1), some (.inl w2), some (.inl 1), some (.inl 0)], [], (zx_lay M, n))) (zx_if_ne rfl) (by decide) ?_
                    refine zx_E.go 2 (s' := (133, [some (.inr (some (25, 0, 0, 0))), some (.inl w1), some (.inl w2), some (.inl 1), some (.inl 0)], [.inl w2, .inr (some (25, 0, 0, 0))], (zx_lay M, n))) rfl ?_
                    refine zx_E.cb (y := 139) (as := [.inr (some (25, 0, 0, 0)), .inl w2]) (rest := []) h rfl (fun _ hv => zx_run_up (by omega) (r_X11_mayRun (d := d) hv)) (fun v14 h => ?_)
                    show zx_E _ _ _ (136, [some (.inr (some (25, 0, 0, 0))), some (.inl w1), some (.inl w2), some (.inl 1), some (.inl 0)], [.inl v14], (zx_lay M, n)) _
                    refine zx_E.brh (c := v14 = 0) (s1 := (139, [some (.inr (some (25, 0, 0, 0))), some (.inl w1), some (.inl w2), some (.inl 1), some (.inl 0)], [], (zx_lay M, n))) (s2 := (143, [some (.inr (some (25, 0, 0, 0))), some (.inl w1), some (.inl w2), some (.inl 1), some (.inl 0)], [], (zx_lay M, n))) h (zx_if_ne rfl) (fun _ h => ?_) (fun _ h => ?_)
                    · refine zx_E.go 5 (s' := (24, [some (.inr (some (25, 0, 0, 0))), some (.inl 1), some (.inl (w2 + 1)), some (.inl 1), some (.inl 0)], [], (zx_lay M, n))) rfl ?_
                      exact rl_X11_isStill_24 hk q _ _ 1 (w2 + 1) h
                    · refine zx_E.go 4 (s' := (24, [some (.inr (some (25, 0, 0, 0))), some (.inl 0), some (.inl (w2 + 1)), some (.inl 1), some (.inl 0)], [], (zx_lay M, n))) rfl ?_
                      exact rl_X11_isStill_24 hk q _ _ 0 (w2 + 1) h
                · refine zx_E.go 4 (s' := (119, [some (.inr (some (25, 0, 0, 0))), some (.inl w1), some (.inl w2), some (.inl 1), some (.inl 1)], [.inl w1], (zx_lay M, n))) rfl ?_
                  refine zx_E.brh (c := w1 = 0) (s1 := (143, [some (.inr (some (25, 0, 0, 0))), some (.inl w1), some (.inl w2), some (.inl 1), some (.inl 1)], [], (zx_lay M, n))) (s2 := (122, [some (.inr (some (25, 0, 0, 0))), some (.inl w1), some (.inl w2), some (.inl 1), some (.inl 1)], [], (zx_lay M, n))) h (zx_if_eq rfl) (fun _ h => ?_) (fun _ h => ?_)
                  · refine zx_E.go 4 (s' := (24, [some (.inr (some (25, 0, 0, 0))), some (.inl 0), some (.inl (w2 + 1)), some (.inl 1), some (.inl 1)], [], (zx_lay M, n))) rfl ?_
                    exact rl_X11_isStill_24 hk q _ _ 0 (w2 + 1) h
                  · refine zx_E.go 1 (s' := (123, [some (.inr (some (25, 0, 0, 0))), some (.inl w1), some (.inl w2), some (.inl 1), some (.inl 1)], [.inl 1], (zx_lay M, n))) rfl ?_
                    refine zx_E.bf (c := ((1 : Int32) = 0 : Prop)) (s1 := (143, [some (.inr (some (25, 0, 0, 0))), some (.inl w1), some (.inl w2), some (.inl 1), some (.inl 1)], [], (zx_lay M, n))) (s2 := (126, [some (.inr (some (25, 0, 0, 0))), some (.inl w1), some (.inl w2), some (.inl 1), some (.inl 1)], [], (zx_lay M, n))) (zx_if_eq rfl) (by decide) ?_
                    refine zx_E.go 1 (s' := (128, [some (.inr (some (25, 0, 0, 0))), some (.inl w1), some (.inl w2), some (.inl 1), some (.inl 1)], [.inl 1], (zx_lay M, n))) rfl ?_
                    refine zx_E.bf (c := ((1 : Int32) = 0 : Prop)) (s1 := (131, [some (.inr (some (25, 0, 0, 0))), some (.inl w1), some (.inl w2), some (.inl 1), some (.inl 1)], [], (zx_lay M, n))) (s2 := (143, [some (.inr (some (25, 0, 0, 0))), some (.inl w1), some (.inl w2), some (.inl 1), some (.inl 1)], [], (zx_lay M, n))) (zx_if_ne rfl) (by decide) ?_
                    refine zx_E.go 4 (s' := (24, [some (.inr (some (25, 0, 0, 0))), some (.inl 0), some (.inl (w2 + 1)), some (.inl 1), some (.inl 1)], [], (zx_lay M, n))) rfl ?_
                    exact rl_X11_isStill_24 hk q _ _ 0 (w2 + 1) h
            · refine zx_E.go 3 (s' := (119, [some (.inr (some (25, 0, 0, 0))), some (.inl w1), some (.inl w2), some (.inl 1), some (.inl 0)], [.inl w1], (zx_lay M, n))) rfl ?_
              refine zx_E.brh (c := w1 = 0) (s1 := (143, [some (.inr (some (25, 0, 0, 0))), some (.inl w1), some (.inl w2), some (.inl 1), some (.inl 0)], [], (zx_lay M, n))) (s2 := (122, [some (.inr (some (25, 0, 0, 0))), some (.inl w1), some (.inl w2), some (.inl 1), some (.inl 0)], [], (zx_lay M, n))) h (zx_if_eq rfl) (fun _ h => ?_) (fun _ h => ?_)
              · refine zx_E.go 4 (s' := (24, [some (.inr (some (25, 0, 0, 0))), some (.inl 0), some (.inl (w2 + 1)), some (.inl 1), some (.inl 0)], [], (zx_lay M, n))) rfl ?_
                exact rl_X11_isStill_24 hk q _ _ 0 (w2 + 1) h
              · refine zx_E.go 1 (s' := (123, [some (.inr (some (25, 0, 0, 0))), some (.inl w1), some (.inl w2), some (.inl 1), some (.inl 0)], [.inl 1], (zx_lay M, n))) rfl ?_
                refine zx_E.bf (c := ((1 : Int32) = 0 : Prop)) (s1 := (143, [some (.inr (some (25, 0, 0, 0))), some (.inl w1), some (.inl w2), some (.inl 1), some (.inl 0)], [], (zx_lay M, n))) (s2 := (126, [some (.inr (some (25, 0, 0, 0))), some (.inl w1), some (.inl w2), some (.inl 1), some (.inl 0)], [], (zx_lay M, n))) (zx_if_eq rfl) (by decide) ?_
                refine zx_E.go 1 (s' := (128, [some (.inr (some (25, 0, 0, 0))), some (.inl w1), some (.inl w2), some (.inl 1), some (.inl 0)], [.inl 0], (zx_lay M, n))) rfl ?_
                refine zx_E.bt (c := ((0 : Int32) = 0 : Prop)) (s1 := (131, [some (.inr (some (25, 0, 0, 0))), some (.inl w1), some (.inl w2), some (.inl 1), some (.inl 0)], [], (zx_lay M, n))) (s2 := (143, [some (.inr (some (25, 0, 0, 0))), some (.inl w1), some (.inl w2), some (.inl 1), some (.inl 0)], [], (zx_lay M, n))) (zx_if_ne rfl) (by decide) ?_
                refine zx_E.go 2 (s' := (133, [some (.inr (some (25, 0, 0, 0))), some (.inl w1), some (.inl w2), some (.inl 1), some (.inl 0)], [.inl w2, .inr (some (25, 0, 0, 0))], (zx_lay M, n))) rfl ?_
                refine zx_E.cb (y := 139) (as := [.inr (some (25, 0, 0, 0)), .inl w2]) (rest := []) h rfl (fun _ hv => zx_run_up (by omega) (r_X11_mayRun (d := d) hv)) (fun v15 h => ?_)
                show zx_E _ _ _ (136, [some (.inr (some (25, 0, 0, 0))), some (.inl w1), some (.inl w2), some (.inl 1), some (.inl 0)], [.inl v15], (zx_lay M, n)) _
                refine zx_E.brh (c := v15 = 0) (s1 := (139, [some (.inr (some (25, 0, 0, 0))), some (.inl w1), some (.inl w2), some (.inl 1), some (.inl 0)], [], (zx_lay M, n))) (s2 := (143, [some (.inr (some (25, 0, 0, 0))), some (.inl w1), some (.inl w2), some (.inl 1), some (.inl 0)], [], (zx_lay M, n))) h (zx_if_ne rfl) (fun _ h => ?_) (fun _ h => ?_)
                · refine zx_E.go 5 (s' := (24, [some (.inr (some (25, 0, 0, 0))), some (.inl 1), some (.inl (w2 + 1)), some (.inl 1), some (.inl 0)], [], (zx_lay M, n))) rfl ?_
                  exact rl_X11_isStill_24 hk q _ _ 1 (w2 + 1) h
                · refine zx_E.go 4 (s' := (24, [some (.inr (some (25, 0, 0, 0))), some (.inl 0), some (.inl (w2 + 1)), some (.inl 1), some (.inl 0)], [], (zx_lay M, n))) rfl ?_
                  exact rl_X11_isStill_24 hk q _ _ 0 (w2 + 1) h
          · refine zx_E.go 5 (s' := (81, [some (.inr (some (25, 0, 0, 0))), some (.inl w1), some (.inl w2), some (.inl 0), g4], [.inl 0, .inl w2, .inr (some (25, 0, 0, 0))], (zx_lay M, n))) rfl ?_
            refine zx_E.cb (y := 125) (as := [.inr (some (25, 0, 0, 0)), .inl w2, .inl 0]) (rest := []) h rfl (fun _ hv => zx_run_up (by omega) (r_X11_at (d := d) hv)) (fun v16 h => ?_)
            show zx_E _ _ _ (84, [some (.inr (some (25, 0, 0, 0))), some (.inl w1), some (.inl w2), some (.inl 0), g4], [.inl v16], (zx_lay M, n)) _
            refine zx_E.go 1 (s' := (85, [some (.inr (some (25, 0, 0, 0))), some (.inl w1), some (.inl w2), some (.inl 0), g4], [.inl 1, .inl v16], (zx_lay M, n))) rfl ?_
            refine zx_E.brh (c := v16 = 1) (s1 := (88, [some (.inr (some (25, 0, 0, 0))), some (.inl w1), some (.inl w2), some (.inl 0), g4], [], (zx_lay M, n))) (s2 := (115, [some (.inr (some (25, 0, 0, 0))), some (.inl w1), some (.inl w2), some (.inl 0), g4], [], (zx_lay M, n))) h (zx_ic_ne rfl) (fun _ h => ?_) (fun _ h => ?_)
            · refine zx_E.go 2 (s' := (90, [some (.inr (some (25, 0, 0, 0))), some (.inl w1), some (.inl w2), some (.inl 0), g4], [.inl w2, .inr (some (25, 0, 0, 0))], (zx_lay M, n))) rfl ?_
              refine zx_E.cb (y := 137) (as := [.inr (some (25, 0, 0, 0)), .inl w2]) (rest := []) h rfl (fun _ hv => zx_run_up (by omega) (r_X11_isWayFree (d := d) hv)) (fun v17 h => ?_)
              show zx_E _ _ _ (93, [some (.inr (some (25, 0, 0, 0))), some (.inl w1), some (.inl w2), some (.inl 0), g4], [.inl v17], (zx_lay M, n)) _
              refine zx_E.brh (c := v17 = 0) (s1 := (115, [some (.inr (some (25, 0, 0, 0))), some (.inl w1), some (.inl w2), some (.inl 0), g4], [], (zx_lay M, n))) (s2 := (96, [some (.inr (some (25, 0, 0, 0))), some (.inl w1), some (.inl w2), some (.inl 0), g4], [], (zx_lay M, n))) h (zx_if_eq rfl) (fun _ h => ?_) (fun _ h => ?_)
              · refine zx_E.go 3 (s' := (119, [some (.inr (some (25, 0, 0, 0))), some (.inl w1), some (.inl w2), some (.inl 0), some (.inl 0)], [.inl w1], (zx_lay M, n))) rfl ?_
                refine zx_E.brh (c := w1 = 0) (s1 := (143, [some (.inr (some (25, 0, 0, 0))), some (.inl w1), some (.inl w2), some (.inl 0), some (.inl 0)], [], (zx_lay M, n))) (s2 := (122, [some (.inr (some (25, 0, 0, 0))), some (.inl w1), some (.inl w2), some (.inl 0), some (.inl 0)], [], (zx_lay M, n))) h (zx_if_eq rfl) (fun _ h => ?_) (fun _ h => ?_)
                · refine zx_E.go 4 (s' := (24, [some (.inr (some (25, 0, 0, 0))), some (.inl 0), some (.inl (w2 + 1)), some (.inl 0), some (.inl 0)], [], (zx_lay M, n))) rfl ?_
                  exact rl_X11_isStill_24 hk q _ _ 0 (w2 + 1) h
                · refine zx_E.go 1 (s' := (123, [some (.inr (some (25, 0, 0, 0))), some (.inl w1), some (.inl w2), some (.inl 0), some (.inl 0)], [.inl 0], (zx_lay M, n))) rfl ?_
                  refine zx_E.bt (c := ((0 : Int32) = 0 : Prop)) (s1 := (143, [some (.inr (some (25, 0, 0, 0))), some (.inl w1), some (.inl w2), some (.inl 0), some (.inl 0)], [], (zx_lay M, n))) (s2 := (126, [some (.inr (some (25, 0, 0, 0))), some (.inl w1), some (.inl w2), some (.inl 0), some (.inl 0)], [], (zx_lay M, n))) (zx_if_eq rfl) (by decide) ?_
                  refine zx_E.go 4 (s' := (24, [some (.inr (some (25, 0, 0, 0))), some (.inl 0), some (.inl (w2 + 1)), some (.inl 0), some (.inl 0)], [], (zx_lay M, n))) rfl ?_
                  exact rl_X11_isStill_24 hk q _ _ 0 (w2 + 1) h
              · refine zx_E.go 2 (s' := (98, [some (.inr (some (25, 0, 0, 0))), some (.inl w1), some (.inl w2), some (.inl 0), g4], [.inl w2, .inr (some (25, 0, 0, 0))], (zx_lay M, n))) rfl ?_
                refine zx_E.cb (y := 136) (as := [.inr (some (25, 0, 0, 0)), .inl w2]) (rest := []) h rfl (fun _ hv => zx_run_up (by omega) (r_X11_minutesFor (d := d) hv)) (fun v18 h => ?_)
                show zx_E _ _ _ (101, [some (.inr (some (25, 0, 0, 0))), some (.inl w1), some (.inl w2), some (.inl 0), g4], [.inl v18], (zx_lay M, n)) _
                refine zx_E.go 3 (s' := (105, [some (.inr (some (25, 0, 0, 0))), some (.inl w1), some (.inl w2), some (.inl 0), g4], [.inl 6, .inl w2, .inr (some (25, 0, 0, 0)), .inl v18], (zx_lay M, n))) rfl ?_
                refine zx_E.cb (y := 125) (as := [.inr (some (25, 0, 0, 0)), .inl w2, .inl 6]) (rest := [.inl v18]) h rfl (fun _ hv => zx_run_up (by omega) (r_X11_at (d := d) hv)) (fun v19 h => ?_)
                show zx_E _ _ _ (108, [some (.inr (some (25, 0, 0, 0))), some (.inl w1), some (.inl w2), some (.inl 0), g4], [.inl v19, .inl v18], (zx_lay M, n)) _
                refine zx_E.brh (c := v19 < v18) (s1 := (115, [some (.inr (some (25, 0, 0, 0))), some (.inl w1), some (.inl w2), some (.inl 0), g4], [], (zx_lay M, n))) (s2 := (111, [some (.inr (some (25, 0, 0, 0))), some (.inl w1), some (.inl w2), some (.inl 0), g4], [], (zx_lay M, n))) h (zx_ic_gt rfl) (fun _ h => ?_) (fun _ h => ?_)
                · refine zx_E.go 3 (s' := (119, [some (.inr (some (25, 0, 0, 0))), some (.inl w1), some (.inl w2), some (.inl 0), some (.inl 0)], [.inl w1], (zx_lay M, n))) rfl ?_
                  refine zx_E.brh (c := w1 = 0) (s1 := (143, [some (.inr (some (25, 0, 0, 0))), some (.inl w1), some (.inl w2), some (.inl 0), some (.inl 0)], [], (zx_lay M, n))) (s2 := (122, [some (.inr (some (25, 0, 0, 0))), some (.inl w1), some (.inl w2), some (.inl 0), some (.inl 0)], [], (zx_lay M, n))) h (zx_if_eq rfl) (fun _ h => ?_) (fun _ h => ?_)
                  · refine zx_E.go 4 (s' := (24, [some (.inr (some (25, 0, 0, 0))), some (.inl 0), some (.inl (w2 + 1)), some (.inl 0), some (.inl 0)], [], (zx_lay M, n))) rfl ?_
                    exact rl_X11_isStill_24 hk q _ _ 0 (w2 + 1) h
                  · refine zx_E.go 1 (s' := (123, [some (.inr (some (25, 0, 0, 0))), some (.inl w1), some (.inl w2), some (.inl 0), some (.inl 0)], [.inl 0], (zx_lay M, n))) rfl ?_
                    refine zx_E.bt (c := ((0 : Int32) = 0 : Prop)) (s1 := (143, [some (.inr (some (25, 0, 0, 0))), some (.inl w1), some (.inl w2), some (.inl 0), some (.inl 0)], [], (zx_lay M, n))) (s2 := (126, [some (.inr (some (25, 0, 0, 0))), some (.inl w1), some (.inl w2), some (.inl 0), some (.inl 0)], [], (zx_lay M, n))) (zx_if_eq rfl) (by decide) ?_
                    refine zx_E.go 4 (s' := (24, [some (.inr (some (25, 0, 0, 0))), some (.inl 0), some (.inl (w2 + 1)), some (.inl 0), some (.inl 0)], [], (zx_lay M, n))) rfl ?_
                    exact rl_X11_isStill_24 hk q _ _ 0 (w2 + 1) h
                · refine zx_E.go 4 (s' := (119, [some (.inr (some (25, 0, 0, 0))), some (.inl w1), some (.inl w2), some (.inl 0), some (.inl 1)], [.inl w1], (zx_lay M, n))) rfl ?_
                  refine zx_E.brh (c := w1 = 0) (s1 := (143, [some (.inr (some (25, 0, 0, 0))), some (.inl w1), some (.inl w2), some (.inl 0), some (.inl 1)], [], (zx_lay M, n))) (s2 := (122, [some (.inr (some (25, 0, 0, 0))), some (.inl w1), some (.inl w2), some (.inl 0), some (.inl 1)], [], (zx_lay M, n))) h (zx_if_eq rfl) (fun _ h => ?_) (fun _ h => ?_)
                  · refine zx_E.go 4 (s' := (24, [some (.inr (some (25, 0, 0, 0))), some (.inl 0), some (.inl (w2 + 1)), some (.inl 0), some (.inl 1)], [], (zx_lay M, n))) rfl ?_
                    exact rl_X11_isStill_24 hk q _ _ 0 (w2 + 1) h
                  · refine zx_E.go 1 (s' := (123, [some (.inr (some (25, 0, 0, 0))), some (.inl w1), some (.inl w2), some (.inl 0), some (.inl 1)], [.inl 0], (zx_lay M, n))) rfl ?_
                    refine zx_E.bt (c := ((0 : Int32) = 0 : Prop)) (s1 := (143, [some (.inr (some (25, 0, 0, 0))), some (.inl w1), some (.inl w2), some (.inl 0), some (.inl 1)], [], (zx_lay M, n))) (s2 := (126, [some (.inr (some (25, 0, 0, 0))), some (.inl w1), some (.inl w2), some (.inl 0), some (.inl 1)], [], (zx_lay M, n))) (zx_if_eq rfl) (by decide) ?_
                    refine zx_E.go 4 (s' := (24, [some (.inr (some (25, 0, 0, 0))), some (.inl 0), some (.inl (w2 + 1)), some (.inl 0), some (.inl 1)], [], (zx_lay M, n))) rfl ?_
                    exact rl_X11_isStill_24 hk q _ _ 0 (w2 + 1) h
            · refine zx_E.go 3 (s' := (119, [some (.inr (some (25, 0, 0, 0))), some (.inl w1), some (.inl w2), some (.inl 0), some (.inl 0)], [.inl w1], (zx_lay M, n))) rfl ?_
              refine zx_E.brh (c := w1 = 0) (s1 := (143, [some (.inr (some (25, 0, 0, 0))), some (.inl w1), some (.inl w2), some (.inl 0), some (.inl 0)], [], (zx_lay M, n))) (s2 := (122, [some (.inr (some (25, 0, 0, 0))), some (.inl w1), some (.inl w2), some (.inl 0), some (.inl 0)], [], (zx_lay M, n))) h (zx_if_eq rfl) (fun _ h => ?_) (fun _ h => ?_)
              · refine zx_E.go 4 (s' := (24, [some (.inr (some (25, 0, 0, 0))), some (.inl 0), some (.inl (w2 + 1)), some (.inl 0), some (.inl 0)], [], (zx_lay M, n))) rfl ?_
                exact rl_X11_isStill_24 hk q _ _ 0 (w2 + 1) h
              · refine zx_E.go 1 (s' := (123, [some (.inr (some (25, 0, 0, 0))), some (.inl w1), some (.inl w2), some (.inl 0), some (.inl 0)], [.inl 0], (zx_lay M, n))) rfl ?_
                refine zx_E.bt (c := ((0 : Int32) = 0 : Prop)) (s1 := (143, [some (.inr (some (25, 0, 0, 0))), some (.inl w1), some (.inl w2), some (.inl 0), some (.inl 0)], [], (zx_lay M, n))) (s2 := (126, [some (.inr (some (25, 0, 0, 0))), some (.inl w1), some (.inl w2), some (.inl 0), some (.inl 0)], [], (zx_lay M, n))) (zx_if_eq rfl) (by decide) ?_
                refine zx_E.go 4 (s' := (24, [some (.inr (some (25, 0, 0, 0))), some (.inl 0), some (.inl (w2 + 1)), some (.inl 0), some (.inl 0)], [], (zx_lay M, n))) rfl ?_
                exact rl_X11_isStill_24 hk q _ _ 0 (w2 + 1) h
      · refine zx_E.go 6 (s' := (81, [some (.inr (some (25, 0, 0, 0))), some (.inl w1), some (.inl w2), some (.inl 1), g4], [.inl 0, .inl w2, .inr (some (25, 0, 0, 0))], (zx_lay M, n))) rfl ?_
        refine zx_E.cb (y := 125) (as := [.inr (some (25, 0, 0, 0)), .inl w2, .inl 0]) (rest := []) h rfl (fun _ hv => zx_run_up (by omega) (r_X11_at (d := d) hv)) (fun v20 h => ?_)
        show zx_E _ _ _ (84, [some (.inr (some (25, 0, 0, 0))), some (.inl w1), some (.inl w2), some (.inl 1), g4], [.inl v20], (zx_lay M, n)) _
        refine zx_E.go 1 (s' := (85, [some (.inr (some (25, 0, 0, 0))), some (.inl w1), some (.inl w2), some (.inl 1), g4], [.inl 1, .inl v20], (zx_lay M, n))) rfl ?_
        refine zx_E.brh (c := v20 = 1) (s1 := (88, [some (.inr (some (25, 0, 0, 0))), some (.inl w1), some (.inl w2), some (.inl 1), g4], [], (zx_lay M, n))) (s2 := (115, [some (.inr (some (25, 0, 0, 0))), some (.inl w1), some (.inl w2), some (.inl 1), g4], [], (zx_lay M, n))) h (zx_ic_ne rfl) (fun _ h => ?_) (fun _ h => ?_)
        · refine zx_E.go 2 (s' := (90, [some (.inr (some (25, 0, 0, 0))), some (.inl w1), some (.inl w2), some (.inl 1), g4], [.inl w2, .inr (some (25, 0, 0, 0))], (zx_lay M, n))) rfl ?_
          refine zx_E.cb (y := 137) (as := [.inr (some (25, 0, 0, 0)), .inl w2]) (rest := []) h rfl (fun _ hv => zx_run_up (by omega) (r_X11_isWayFree (d := d) hv)) (fun v21 h => ?_)
          show zx_E _ _ _ (93, [some (.inr (some (25, 0, 0, 0))), some (.inl w1), some (.inl w2), some (.inl 1), g4], [.inl v21], (zx_lay M, n)) _
          refine zx_E.brh (c := v21 = 0) (s1 := (115, [some (.inr (some (25, 0, 0, 0))), some (.inl w1), some (.inl w2), some (.inl 1), g4], [], (zx_lay M, n))) (s2 := (96, [some (.inr (some (25, 0, 0, 0))), some (.inl w1), some (.inl w2), some (.inl 1), g4], [], (zx_lay M, n))) h (zx_if_eq rfl) (fun _ h => ?_) (fun _ h => ?_)
          · refine zx_E.go 3 (s' := (119, [some (.inr (some (25, 0, 0, 0))), some (.inl w1), some (.inl w2), some (.inl 1), some (.inl 0)], [.inl w1], (zx_lay M, n))) rfl ?_
            refine zx_E.brh (c := w1 = 0) (s1 := (143, [some (.inr (some (25, 0, 0, 0))), some (.inl w1), some (.inl w2), some (.inl 1), some (.inl 0)], [], (zx_lay M, n))) (s2 := (122, [some (.inr (some (25, 0, 0, 0))), some (.inl w1), some (.inl w2), some (.inl 1), some (.inl 0)], [], (zx_lay M, n))) h (zx_if_eq rfl) (fun _ h => ?_) (fun _ h => ?_)
            · refine zx_E.go 4 (s' := (24, [some (.inr (some (25, 0, 0, 0))), some (.inl 0), some (.inl (w2 + 1)), some (.inl 1), some (.inl 0)], [], (zx_lay M, n))) rfl ?_
              exact rl_X11_isStill_24 hk q _ _ 0 (w2 + 1) h
            · refine zx_E.go 1 (s' := (123, [some (.inr (some (25, 0, 0, 0))), some (.inl w1), some (.inl w2), some (.inl 1), some (.inl 0)], [.inl 1], (zx_lay M, n))) rfl ?_
              refine zx_E.bf (c := ((1 : Int32) = 0 : Prop)) (s1 := (143, [some (.inr (some (25, 0, 0, 0))), some (.inl w1), some (.inl w2), some (.inl 1), some (.inl 0)], [], (zx_lay M, n))) (s2 := (126, [some (.inr (some (25, 0, 0, 0))), some (.inl w1), some (.inl w2), some (.inl 1), some (.inl 0)], [], (zx_lay M, n))) (zx_if_eq rfl) (by decide) ?_
              refine zx_E.go 1 (s' := (128, [some (.inr (some (25, 0, 0, 0))), some (.inl w1), some (.inl w2), some (.inl 1), some (.inl 0)], [.inl 0], (zx_lay M, n))) rfl ?_
              refine zx_E.bt (c := ((0 : Int32) = 0 : Prop)) (s1 := (131, [some (.inr (some (25, 0, 0, 0))), some (.inl w1), some (.inl w2), some (.inl 1), some (.inl 0)], [], (zx_lay M, n))) (s2 := (143, [some (.inr (some (25, 0, 0, 0))), some (.inl w1), some (.inl w2), some (.inl 1), some (.inl 0)], [], (zx_lay M, n))) (zx_if_ne rfl) (by decide) ?_
              refine zx_E.go 2 (s' := (133, [some (.inr (some (25, 0, 0, 0))), some (.inl w1), some (.inl w2), some (.inl 1), some (.inl 0)], [.inl w2, .inr (some (25, 0, 0, 0))], (zx_lay M, n))) rfl ?_
              refine zx_E.cb (y := 139) (as := [.inr (some (25, 0, 0, 0)), .inl w2]) (rest := []) h rfl (fun _ hv => zx_run_up (by omega) (r_X11_mayRun (d := d) hv)) (fun v22 h => ?_)
              show zx_E _ _ _ (136, [some (.inr (some (25, 0, 0, 0))), some (.inl w1), some (.inl w2), some (.inl 1), some (.inl 0)], [.inl v22], (zx_lay M, n)) _
              refine zx_E.brh (c := v22 = 0) (s1 := (139, [some (.inr (some (25, 0, 0, 0))), some (.inl w1), some (.inl w2), some (.inl 1), some (.inl 0)], [], (zx_lay M, n))) (s2 := (143, [some (.inr (some (25, 0, 0, 0))), some (.inl w1), some (.inl w2), some (.inl 1), some (.inl 0)], [], (zx_lay M, n))) h (zx_if_ne rfl) (fun _ h => ?_) (fun _ h => ?_)
              · refine zx_E.go 5 (s' := (24, [some (.inr (some (25, 0, 0, 0))), some (.inl 1), some (.inl (w2 + 1)), some (.inl 1), some (.inl 0)], [], (zx_lay M, n))) rfl ?_
                exact rl_X11_isStill_24 hk q _ _ 1 (w2 + 1) h
              · refine zx_E.go 4 (s' := (24, [some (.inr (some (25, 0, 0, 0))), some (.inl 0), some (.inl (w2 + 1)), some (.inl 1), some (.inl 0)], [], (zx_lay M, n))) rfl ?_
                exact rl_X11_isStill_24 hk q _ _ 0 (w2 + 1) h
          · refine zx_E.go 2 (s' := (98, [some (.inr (some (25, 0, 0, 0))), some (.inl w1), some (.inl w2), some (.inl 1), g4], [.inl w2, .inr (some (25, 0, 0, 0))], (zx_lay M, n))) rfl ?_
            refine zx_E.cb (y := 136) (as := [.inr (some (25, 0, 0, 0)), .inl w2]) (rest := []) h rfl (fun _ hv => zx_run_up (by omega) (r_X11_minutesFor (d := d) hv)) (fun v23 h => ?_)
            show zx_E _ _ _ (101, [some (.inr (some (25, 0, 0, 0))), some (.inl w1), some (.inl w2), some (.inl 1), g4], [.inl v23], (zx_lay M, n)) _
            refine zx_E.go 3 (s' := (105, [some (.inr (some (25, 0, 0, 0))), some (.inl w1), some (.inl w2), some (.inl 1), g4], [.inl 6, .inl w2, .inr (some (25, 0, 0, 0)), .inl v23], (zx_lay M, n))) rfl ?_
            refine zx_E.cb (y := 125) (as := [.inr (some (25, 0, 0, 0)), .inl w2, .inl 6]) (rest := [.inl v23]) h rfl (fun _ hv => zx_run_up (by omega) (r_X11_at (d := d) hv)) (fun v24 h => ?_)
            show zx_E _ _ _ (108, [some (.inr (some (25, 0, 0, 0))), some (.inl w1), some (.inl w2), some (.inl 1), g4], [.inl v24, .inl v23], (zx_lay M, n)) _
            refine zx_E.brh (c := v24 < v23) (s1 := (115, [some (.inr (some (25, 0, 0, 0))), some (.inl w1), some (.inl w2), some (.inl 1), g4], [], (zx_lay M, n))) (s2 := (111, [some (.inr (some (25, 0, 0, 0))), some (.inl w1), some (.inl w2), some (.inl 1), g4], [], (zx_lay M, n))) h (zx_ic_gt rfl) (fun _ h => ?_) (fun _ h => ?_)
            · refine zx_E.go 3 (s' := (119, [some (.inr (some (25, 0, 0, 0))), some (.inl w1), some (.inl w2), some (.inl 1), some (.inl 0)], [.inl w1], (zx_lay M, n))) rfl ?_
              refine zx_E.brh (c := w1 = 0) (s1 := (143, [some (.inr (some (25, 0, 0, 0))), some (.inl w1), some (.inl w2), some (.inl 1), some (.inl 0)], [], (zx_lay M, n))) (s2 := (122, [some (.inr (some (25, 0, 0, 0))), some (.inl w1), some (.inl w2), some (.inl 1), some (.inl 0)], [], (zx_lay M, n))) h (zx_if_eq rfl) (fun _ h => ?_) (fun _ h => ?_)
              · refine zx_E.go 4 (s' := (24, [some (.inr (some (25, 0, 0, 0))), some (.inl 0), some (.inl (w2 + 1)), some (.inl 1), some (.inl 0)], [], (zx_lay M, n))) rfl ?_
                exact rl_X11_isStill_24 hk q _ _ 0 (w2 + 1) h
              · refine zx_E.go 1 (s' := (123, [some (.inr (some (25, 0, 0, 0))), some (.inl w1), some (.inl w2), some (.inl 1), some (.inl 0)], [.inl 1], (zx_lay M, n))) rfl ?_
                refine zx_E.bf (c := ((1 : Int32) = 0 : Prop)) (s1 := (143, [some (.inr (some (25, 0, 0, 0))), some (.inl w1), some (.inl w2), some (.inl 1), some (.inl 0)], [], (zx_lay M, n))) (s2 := (126, [some (.inr (some (25, 0, 0, 0))), some (.inl w1), some (.inl w2), some (.inl 1), some (.inl 0)], [], (zx_lay M, n))) (zx_if_eq rfl) (by decide) ?_
                refine zx_E.go 1 (s' := (128, [some (.inr (some (25, 0, 0, 0))), some (.inl w1), some (.inl w2), some (.inl 1), some (.inl 0)], [.inl 0], (zx_lay M, n))) rfl ?_
                refine zx_E.bt (c := ((0 : Int32) = 0 : Prop)) (s1 := (131, [some (.inr (some (25, 0, 0, 0))), some (.inl w1), some (.inl w2), some (.inl 1), some (.inl 0)], [], (zx_lay M, n))) (s2 := (143, [some (.inr (some (25, 0, 0, 0))), some (.inl w1), some (.inl w2), some (.inl 1), some (.inl 0)], [], (zx_lay M, n))) (zx_if_ne rfl) (by decide) ?_
                refine zx_E.go 2 (s' := (133, [some (.inr (some (25, 0, 0, 0))), some (.inl w1), some (.inl w2), some (.inl 1), some (.inl 0)], [.inl w2, .inr (some (25, 0, 0, 0))], (zx_lay M, n))) rfl ?_
                refine zx_E.cb (y := 139) (as := [.inr (some (25, 0, 0, 0)), .inl w2]) (rest := []) h rfl (fun _ hv => zx_run_up (by omega) (r_X11_mayRun (d := d) hv)) (fun v25 h => ?_)
                show zx_E _ _ _ (136, [some (.inr (some (25, 0, 0, 0))), some (.inl w1), some (.inl w2), some (.inl 1), some (.inl 0)], [.inl v25], (zx_lay M, n)) _
                refine zx_E.brh (c := v25 = 0) (s1 := (139, [some (.inr (some (25, 0, 0, 0))), some (.inl w1), some (.inl w2), some (.inl 1), some (.inl 0)], [], (zx_lay M, n))) (s2 := (143, [some (.inr (some (25, 0, 0, 0))), some (.inl w1), some (.inl w2), some (.inl 1), some (.inl 0)], [], (zx_lay M, n))) h (zx_if_ne rfl) (fun _ h => ?_) (fun _ h => ?_)
                · refine zx_E.go 5 (s' := (24, [some (.inr (some (25, 0, 0, 0))), some (.inl 1), some (.inl (w2 + 1)), some (.inl 1), some (.inl 0)], [], (zx_lay M, n))) rfl ?_
                  exact rl_X11_isStill_24 hk q _ _ 1 (w2 + 1) h
                · refine zx_E.go 4 (s' := (24, [some (.inr (some (25, 0, 0, 0))), some (.inl 0), some (.inl (w2 + 1)), some (.inl 1), some (.inl 0)], [], (zx_lay M, n))) rfl ?_
                  exact rl_X11_isStill_24 hk q _ _ 0 (w2 + 1) h
            · refine zx_E.go 4 (s' := (119, [some (.inr (some (25, 0, 0, 0))), some (.inl w1), some (.inl w2), some (.inl 1), some (.inl 1)], [.inl w1], (zx_lay M, n))) rfl ?_
              refine zx_E.brh (c := w1 = 0) (s1 := (143, [some (.inr (some (25, 0, 0, 0))), some (.inl w1), some (.inl w2), some (.inl 1), some (.inl 1)], [], (zx_lay M, n))) (s2 := (122, [some (.inr (some (25, 0, 0, 0))), some (.inl w1), some (.inl w2), some (.inl 1), some (.inl 1)], [], (zx_lay M, n))) h (zx_if_eq rfl) (fun _ h => ?_) (fun _ h => ?_)
              · refine zx_E.go 4 (s' := (24, [some (.inr (some (25, 0, 0, 0))), some (.inl 0), some (.inl (w2 + 1)), some (.inl 1), some (.inl 1)], [], (zx_lay M, n))) rfl ?_
                exact rl_X11_isStill_24 hk q _ _ 0 (w2 + 1) h
              · refine zx_E.go 1 (s' := (123, [some (.inr (some (25, 0, 0, 0))), some (.inl w1), some (.inl w2), some (.inl 1), some (.inl 1)], [.inl 1], (zx_lay M, n))) rfl ?_
                refine zx_E.bf (c := ((1 : Int32) = 0 : Prop)) (s1 := (143, [some (.inr (some (25, 0, 0, 0))), some (.inl w1), some (.inl w2), some (.inl 1), some (.inl 1)], [], (zx_lay M, n))) (s2 := (126, [some (.inr (some (25, 0, 0, 0))), some (.inl w1), some (.inl w2), some (.inl 1), some (.inl 1)], [], (zx_lay M, n))) (zx_if_eq rfl) (by decide) ?_
                refine zx_E.go 1 (s' := (128, [some (.inr (some (25, 0, 0, 0))), some (.inl w1), some (.inl w2), some (.inl 1), some (.inl 1)], [.inl 1], (zx_lay M, n))) rfl ?_
                refine zx_E.bf (c := ((1 : Int32) = 0 : Prop)) (s1 := (131, [some (.inr (some (25, 0, 0, 0))), some (.inl w1), some (.inl w2), some (.inl 1), some (.inl 1)], [], (zx_lay M, n))) (s2 := (143, [some (.inr (some (25, 0, 0, 0))), some (.inl w1), some (.inl w2), some (.inl 1), some (.inl 1)], [], (zx_lay M, n))) (zx_if_ne rfl) (by decide) ?_
                refine zx_E.go 4 (s' := (24, [some (.inr (some (25, 0, 0, 0))), some (.inl 0), some (.inl (w2 + 1)), some (.inl 1), some (.inl 1)], [], (zx_lay M, n))) rfl ?_
                exact rl_X11_isStill_24 hk q _ _ 0 (w2 + 1) h
        · refine zx_E.go 3 (s' := (119, [some (.inr (some (25, 0, 0, 0))), some (.inl w1), some (.inl w2), some (.inl 1), some (.inl 0)], [.inl w1], (zx_lay M, n))) rfl ?_
          refine zx_E.brh (c := w1 = 0) (s1 := (143, [some (.inr (some (25, 0, 0, 0))), some (.inl w1), some (.inl w2), some (.inl 1), some (.inl 0)], [], (zx_lay M, n))) (s2 := (122, [some (.inr (some (25, 0, 0, 0))), some (.inl w1), some (.inl w2), some (.inl 1), some (.inl 0)], [], (zx_lay M, n))) h (zx_if_eq rfl) (fun _ h => ?_) (fun _ h => ?_)
          · refine zx_E.go 4 (s' := (24, [some (.inr (some (25, 0, 0, 0))), some (.inl 0), some (.inl (w2 + 1)), some (.inl 1), some (.inl 0)], [], (zx_lay M, n))) rfl ?_
            exact rl_X11_isStill_24 hk q _ _ 0 (w2 + 1) h
          · refine zx_E.go 1 (s' := (123, [some (.inr (some (25, 0, 0, 0))), some (.inl w1), some (.inl w2), some (.inl 1), some (.inl 0)], [.inl 1], (zx_lay M, n))) rfl ?_
            refine zx_E.bf (c := ((1 : Int32) = 0 : Prop)) (s1 := (143, [some (.inr (some (25, 0, 0, 0))), some (.inl w1), some (.inl w2), some (.inl 1), some (.inl 0)], [], (zx_lay M, n))) (s2 := (126, [some (.inr (some (25, 0, 0, 0))), some (.inl w1), some (.inl w2), some (.inl 1), some (.inl 0)], [], (zx_lay M, n))) (zx_if_eq rfl) (by decide) ?_
            refine zx_E.go 1 (s' := (128, [some (.inr (some (25, 0, 0, 0))), some (.inl w1), some (.inl w2), some (.inl 1), some (.inl 0)], [.inl 0], (zx_lay M, n))) rfl ?_
            refine zx_E.bt (c := ((0 : Int32) = 0 : Prop)) (s1 := (131, [some (.inr (some (25, 0, 0, 0))), some (.inl w1), some (.inl w2), some (.inl 1), some (.inl 0)], [], (zx_lay M, n))) (s2 := (143, [some (.inr (some (25, 0, 0, 0))), some (.inl w1), some (.inl w2), some (.inl 1), some (.inl 0)], [], (zx_lay M, n))) (zx_if_ne rfl) (by decide) ?_
            refine zx_E.go 2 (s' := (133, [some (.inr (some (25, 0, 0, 0))), some (.inl w1), some (.inl w2), some (.inl 1), some (.inl 0)], [.inl w2, .inr (some (25, 0, 0, 0))], (zx_lay M, n))) rfl ?_
            refine zx_E.cb (y := 139) (as := [.inr (some (25, 0, 0, 0)), .inl w2]) (rest := []) h rfl (fun _ hv => zx_run_up (by omega) (r_X11_mayRun (d := d) hv)) (fun v26 h => ?_)
            show zx_E _ _ _ (136, [some (.inr (some (25, 0, 0, 0))), some (.inl w1), some (.inl w2), some (.inl 1), some (.inl 0)], [.inl v26], (zx_lay M, n)) _
            refine zx_E.brh (c := v26 = 0) (s1 := (139, [some (.inr (some (25, 0, 0, 0))), some (.inl w1), some (.inl w2), some (.inl 1), some (.inl 0)], [], (zx_lay M, n))) (s2 := (143, [some (.inr (some (25, 0, 0, 0))), some (.inl w1), some (.inl w2), some (.inl 1), some (.inl 0)], [], (zx_lay M, n))) h (zx_if_ne rfl) (fun _ h => ?_) (fun _ h => ?_)
            · refine zx_E.go 5 (s' := (24, [some (.inr (some (25, 0, 0, 0))), some (.inl 1), some (.inl (w2 + 1)), some (.inl 1), some (.inl 0)], [], (zx_lay M, n))) rfl ?_
              exact rl_X11_isStill_24 hk q _ _ 1 (w2 + 1) h
            · refine zx_E.go 4 (s' := (24, [some (.inr (some (25, 0, 0, 0))), some (.inl 0), some (.inl (w2 + 1)), some (.inl 1), some (.inl 0)], [], (zx_lay M, n))) rfl ?_
              exact rl_X11_isStill_24 hk q _ _ 0 (w2 + 1) h
def g_X11_isStill (M : zx_Y) : Option Int32 := (zb (g_X11_counted M 2) fun v1 => (if v1 = 0 then (zb (g_X11_counted M 3) fun v2 => (if v2 = 0 then (lg_X11_isStill_24 M (fun v3 v4 => (zo v3 ((some v3)))) 1000 1 0) else (lg_X11_isStill_24 M (fun v5 v6 => (zo v5 ((some v5)))) 1000 0 0))) else (lg_X11_isStill_24 M (fun v7 v8 => (zo v7 ((some v7)))) 1000 0 0)))
set_option maxRecDepth 100000 in
set_option maxHeartbeats 4000000 in
theorem r_X11_isStill {X : zx_X} {d n : Nat} {M : zx_Y} {rv : Int32} (h : g_X11_isStill M = some rv) : zx_run X (d + 8) 189 [.inr (some (25, 0, 0, 0))] (zx_lay M, n) (some (.inl rv), (zx_lay M, n)) := by
  refine zx_run_of zc_X11_isStill [some (.inr (some (25, 0, 0, 0))), none, none, none, none] rfl rfl ?_
  unfold g_X11_isStill at h
  refine zx_E.go 2 (s' := (2, [some (.inr (some (25, 0, 0, 0))), none, none, none, none], [.inl 2, .inr (some (25, 0, 0, 0))], (zx_lay M, n))) rfl ?_
  refine zx_E.cb (y := 188) (as := [.inr (some (25, 0, 0, 0)), .inl 2]) (rest := []) h rfl (fun _ hv => zx_run_up (by omega) (r_X11_counted (d := d) hv)) (fun v1 h => ?_)
  show zx_E _ _ _ (5, [some (.inr (some (25, 0, 0, 0))), none, none, none, none], [.inl v1], (zx_lay M, n)) _
  refine zx_E.brh (c := v1 = 0) (s1 := (8, [some (.inr (some (25, 0, 0, 0))), none, none, none, none], [], (zx_lay M, n))) (s2 := (20, [some (.inr (some (25, 0, 0, 0))), none, none, none, none], [], (zx_lay M, n))) h (zx_if_ne rfl) (fun _ h => ?_) (fun _ h => ?_)
  · refine zx_E.go 2 (s' := (10, [some (.inr (some (25, 0, 0, 0))), none, none, none, none], [.inl 3, .inr (some (25, 0, 0, 0))], (zx_lay M, n))) rfl ?_
    refine zx_E.cb (y := 188) (as := [.inr (some (25, 0, 0, 0)), .inl 3]) (rest := []) h rfl (fun _ hv => zx_run_up (by omega) (r_X11_counted (d := d) hv)) (fun v2 h => ?_)
    show zx_E _ _ _ (13, [some (.inr (some (25, 0, 0, 0))), none, none, none, none], [.inl v2], (zx_lay M, n)) _
    refine zx_E.brh (c := v2 = 0) (s1 := (16, [some (.inr (some (25, 0, 0, 0))), none, none, none, none], [], (zx_lay M, n))) (s2 := (20, [some (.inr (some (25, 0, 0, 0))), none, none, none, none], [], (zx_lay M, n))) h (zx_if_ne rfl) (fun _ h => ?_) (fun _ h => ?_)
    · refine zx_E.go 5 (s' := (24, [some (.inr (some (25, 0, 0, 0))), some (.inl 1), some (.inl 0), none, none], [], (zx_lay M, n))) rfl ?_
      refine rl_X11_isStill_24 (fun v3 v4 e1 e2 h => ?_) 1000 _ _ 1 0  h
      refine zx_E.go 1 (s' := (152, [some (.inr (some (25, 0, 0, 0))), some (.inl v3), some (.inl v4), e1, e2], [.inl v3], (zx_lay M, n))) rfl ?_
      refine zx_E.ob h (fun hv h => ?_)
      exact zx_E.rp h rfl (fun _ => hv)
    · refine zx_E.go 4 (s' := (24, [some (.inr (some (25, 0, 0, 0))), some (.inl 0), some (.inl 0), none, none], [], (zx_lay M, n))) rfl ?_
      refine rl_X11_isStill_24 (fun v5 v6 e3 e4 h => ?_) 1000 _ _ 0 0  h
      refine zx_E.go 1 (s' := (152, [some (.inr (some (25, 0, 0, 0))), some (.inl v5), some (.inl v6), e3, e4], [.inl v5], (zx_lay M, n))) rfl ?_
      refine zx_E.ob h (fun hv h => ?_)
      exact zx_E.rp h rfl (fun _ => hv)
  · refine zx_E.go 4 (s' := (24, [some (.inr (some (25, 0, 0, 0))), some (.inl 0), some (.inl 0), none, none], [], (zx_lay M, n))) rfl ?_
    refine rl_X11_isStill_24 (fun v7 v8 e5 e6 h => ?_) 1000 _ _ 0 0  h
    refine zx_E.go 1 (s' := (152, [some (.inr (some (25, 0, 0, 0))), some (.inl v7), some (.inl v8), e5, e6], [.inl v7], (zx_lay M, n))) rfl ?_
    refine zx_E.ob h (fun hv h => ?_)
    exact zx_E.rp h rfl (fun _ => hv)
def g_X11_ahead (M : zx_Y) (x0 : Int32) (x1 : Int32) : Option (Int32 × zx_Y) := (if (M (26, 0, 0, 0) 1) = 0 then (some ((-3), M)) else (zb (g_X11_isIn M x0 1 500) fun v1 => (if v1 = 0 then (some ((-2), M)) else (zb (g_X11_isIn M x1 0 3) fun v2 => (if v2 = 0 then (some ((-1), M)) else (zm (g_X11_tryMinutes M x0) fun M1 => (lg_X11_ahead_47 M1 x1 (fun v3 v4 => (if x1 = 0 then (zb (g_X11_counted M1 4) fun v5 => (zl (zy_ck 31 26 640 M1) fun M2 => (some (v5, M2)))) else (if x1 = 1 then (zb (g_X11_counted M1 2) fun v6 => (zl (zy_ck 31 26 640 M1) fun M3 => (some (v6, M3)))) else (if x1 = 2 then (zl (zy_ck 31 26 640 M1) fun M4 => (some (v3, M4))) else (zb (g_X11_isStill M1) fun v7 => (if v7 = 0 then (zl (zy_ck 31 26 640 M1) fun M5 => (some (0, M5))) else (zl (zy_ck 31 26 640 M1) fun M6 => (some (1, M6))))))))) 1000 0 0)))))))
set_option maxRecDepth 100000 in
set_option maxHeartbeats 4000000 in
theorem r_X11_ahead {X : zx_X} {d n : Nat} {M : zx_Y} {x0 : Int32} {x1 : Int32} {rv : Int32} {rM : zx_Y} (h : g_X11_ahead M x0 x1 = some (rv, rM)) : zx_run X (d + 10) 190 [.inr (some (25, 0, 0, 0)), .inl x0, .inl x1] (zx_lay M, n) (some (.inl rv), (zx_lay rM, n)) := by
  refine zx_run_of zc_X11_ahead [some (.inr (some (25, 0, 0, 0))), some (.inl x0), some (.inl x1), none, none] rfl rfl ?_
  unfold g_X11_ahead at h
  refine zx_E.go 3 (s' := (5, [some (.inr (some (25, 0, 0, 0))), some (.inl x0), some (.inl x1), none, none], [.inl 1, .inr (some (26, 0, 0, 0))], (zx_lay M, n))) rfl ?_
  refine zx_E.iald (k := 1) (h := (26, 0, 0, 0)) rfl rfl rfl (by decide) ?_
  show zx_E _ _ _ (6, [some (.inr (some (25, 0, 0, 0))), some (.inl x0), some (.inl x1), none, none], [.inl (M (26, 0, 0, 0) 1)], (zx_lay M, n)) _
  refine zx_E.brh (c := (M (26, 0, 0, 0) 1) = 0) (s1 := (9, [some (.inr (some (25, 0, 0, 0))), some (.inl x0), some (.inl x1), none, none], [], (zx_lay M, n))) (s2 := (12, [some (.inr (some (25, 0, 0, 0))), some (.inl x0), some (.inl x1), none, none], [], (zx_lay M, n))) h (zx_if_ne rfl) (fun _ h => ?_) (fun _ h => ?_)
  · refine zx_E.go 1 (s' := (11, [some (.inr (some (25, 0, 0, 0))), some (.inl x0), some (.inl x1), none, none], [.inl (-3)], (zx_lay M, n))) rfl ?_
    exact zx_E.ri h rfl (fun h => absurd h (by decide))
  · refine zx_E.go 3 (s' := (17, [some (.inr (some (25, 0, 0, 0))), some (.inl x0), some (.inl x1), none, none], [.inl 500, .inl 1, .inl x0], (zx_lay M, n))) rfl ?_
    refine zx_E.cb (y := 121) (as := [.inl x0, .inl 1, .inl 500]) (rest := []) h rfl (fun _ hv => zx_run_up (by omega) (r_X11_isIn (d := d) hv)) (fun v1 h => ?_)
    show zx_E _ _ _ (20, [some (.inr (some (25, 0, 0, 0))), some (.inl x0), some (.inl x1), none, none], [.inl v1], (zx_lay M, n)) _
    refine zx_E.brh (c := v1 = 0) (s1 := (23, [some (.inr (some (25, 0, 0, 0))), some (.inl x0), some (.inl x1), none, none], [], (zx_lay M, n))) (s2 := (26, [some (.inr (some (25, 0, 0, 0))), some (.inl x0), some (.inl x1), none, none], [], (zx_lay M, n))) h (zx_if_ne rfl) (fun _ h => ?_) (fun _ h => ?_)
    · refine zx_E.go 1 (s' := (25, [some (.inr (some (25, 0, 0, 0))), some (.inl x0), some (.inl x1), none, none], [.inl (-2)], (zx_lay M, n))) rfl ?_
      exact zx_E.ri h rfl (fun h => absurd h (by decide))
    · refine zx_E.go 3 (s' := (29, [some (.inr (some (25, 0, 0, 0))), some (.inl x0), some (.inl x1), none, none], [.inl 3, .inl 0, .inl x1], (zx_lay M, n))) rfl ?_
      refine zx_E.cb (y := 121) (as := [.inl x1, .inl 0, .inl 3]) (rest := []) h rfl (fun _ hv => zx_run_up (by omega) (r_X11_isIn (d := d) hv)) (fun v2 h => ?_)
      show zx_E _ _ _ (32, [some (.inr (some (25, 0, 0, 0))), some (.inl x0), some (.inl x1), none, none], [.inl v2], (zx_lay M, n)) _
      refine zx_E.brh (c := v2 = 0) (s1 := (35, [some (.inr (some (25, 0, 0, 0))), some (.inl x0), some (.inl x1), none, none], [], (zx_lay M, n))) (s2 := (37, [some (.inr (some (25, 0, 0, 0))), some (.inl x0), some (.inl x1), none, none], [], (zx_lay M, n))) h (zx_if_ne rfl) (fun _ h => ?_) (fun _ h => ?_)
      · refine zx_E.go 1 (s' := (36, [some (.inr (some (25, 0, 0, 0))), some (.inl x0), some (.inl x1), none, none], [.inl (-1)], (zx_lay M, n))) rfl ?_
        exact zx_E.ri h rfl (fun h => absurd h (by decide))
      · refine zx_E.go 2 (s' := (39, [some (.inr (some (25, 0, 0, 0))), some (.inl x0), some (.inl x1), none, none], [.inl x0, .inr (some (25, 0, 0, 0))], (zx_lay M, n))) rfl ?_
        refine zx_E.cm (y := 183) (as := [.inr (some (25, 0, 0, 0)), .inl x0]) (rest := []) h rfl (fun _ hv => zx_run_up (by omega) (r_X11_tryMinutes (d := d) hv)) (fun M1 h => ?_)
        show zx_E _ _ _ (42, [some (.inr (some (25, 0, 0, 0))), some (.inl x0), some (.inl x1), none, none], [], (zx_lay M1, n)) _
        refine zx_E.go 4 (s' := (47, [some (.inr (some (25, 0, 0, 0))), some (.inl x0), some (.inl x1), some (.inl 0), some (.inl 0)], [], (zx_lay M1, n))) rfl ?_
        refine rl_X11_ahead_47 (fun v3 v4 h => ?_) 1000  0 0  h
        refine zx_E.go 1 (s' := (77, [some (.inr (some (25, 0, 0, 0))), some (.inl x0), some (.inl x1), some (.inl v3), some (.inl v4)], [.inl x1], (zx_lay M1, n))) rfl ?_
        refine zx_E.brh (c := x1 = 0) (s1 := (80, [some (.inr (some (25, 0, 0, 0))), some (.inl x0), some (.inl x1), some (.inl v3), some (.inl v4)], [], (zx_lay M1, n))) (s2 := (88, [some (.inr (some (25, 0, 0, 0))), some (.inl x0), some (.inl x1), some (.inl v3), some (.inl v4)], [], (zx_lay M1, n))) h (zx_if_ne rfl) (fun _ h => ?_) (fun _ h => ?_)
        · refine zx_E.go 2 (s' := (82, [some (.inr (some (25, 0, 0, 0))), some (.inl x0), some (.inl x1), some (.inl v3), some (.inl v4)], [.inl 4, .inr (some (25, 0, 0, 0))], (zx_lay M1, n))) rfl ?_
          refine zx_E.cb (y := 188) (as := [.inr (some (25, 0, 0, 0)), .inl 4]) (rest := []) h rfl (fun _ hv => zx_run_up (by omega) (r_X11_counted (d := d) hv)) (fun v5 h => ?_)
          show zx_E _ _ _ (85, [some (.inr (some (25, 0, 0, 0))), some (.inl x0), some (.inl x1), some (.inl v3), some (.inl v4)], [.inl v5], (zx_lay M1, n)) _
          refine zx_E.go 6 (s' := (132, [some (.inr (some (25, 0, 0, 0))), some (.inl x0), some (.inl x1), some (.inl v3), some (.inl v5)], [.inr (some (26, 0, 0, 0)), .inr (some (31, 0, 0, 0))], (zx_lay M1, n))) rfl ?_
          refine zx_E.cl (y := 171) (as := [.inr (some (31, 0, 0, 0)), .inr (some (26, 0, 0, 0))]) (rest := []) h rfl (zx_run_up (by omega) (r_copy (d := d) (by decide) (by decide) (by decide))) (fun M2 h => ?_)
          show zx_E _ _ _ (135, [some (.inr (some (25, 0, 0, 0))), some (.inl x0), some (.inl x1), some (.inl v3), some (.inl v5)], [], (zx_lay M2, n)) _
          refine zx_E.go 1 (s' := (137, [some (.inr (some (25, 0, 0, 0))), some (.inl x0), some (.inl x1), some (.inl v3), some (.inl v5)], [.inl v5], (zx_lay M2, n))) rfl ?_
          exact zx_E.ri h rfl (fun h => absurd h (by decide))
        · refine zx_E.go 2 (s' := (90, [some (.inr (some (25, 0, 0, 0))), some (.inl x0), some (.inl x1), some (.inl v3), some (.inl v4)], [.inl 1, .inl x1], (zx_lay M1, n))) rfl ?_
          refine zx_E.brh (c := x1 = 1) (s1 := (93, [some (.inr (some (25, 0, 0, 0))), some (.inl x0), some (.inl x1), some (.inl v3), some (.inl v4)], [], (zx_lay M1, n))) (s2 := (101, [some (.inr (some (25, 0, 0, 0))), some (.inl x0), some (.inl x1), some (.inl v3), some (.inl v4)], [], (zx_lay M1, n))) h (zx_ic_ne rfl) (fun _ h => ?_) (fun _ h => ?_)
          · refine zx_E.go 2 (s' := (95, [some (.inr (some (25, 0, 0, 0))), some (.inl x0), some (.inl x1), some (.inl v3), some (.inl v4)], [.inl 2, .inr (some (25, 0, 0, 0))], (zx_lay M1, n))) rfl ?_
            refine zx_E.cb (y := 188) (as := [.inr (some (25, 0, 0, 0)), .inl 2]) (rest := []) h rfl (fun _ hv => zx_run_up (by omega) (r_X11_counted (d := d) hv)) (fun v6 h => ?_)
            show zx_E _ _ _ (98, [some (.inr (some (25, 0, 0, 0))), some (.inl x0), some (.inl x1), some (.inl v3), some (.inl v4)], [.inl v6], (zx_lay M1, n)) _
            refine zx_E.go 6 (s' := (132, [some (.inr (some (25, 0, 0, 0))), some (.inl x0), some (.inl x1), some (.inl v3), some (.inl v6)], [.inr (some (26, 0, 0, 0)), .inr (some (31, 0, 0, 0))], (zx_lay M1, n))) rfl ?_
            refine zx_E.cl (y := 171) (as := [.inr (some (31, 0, 0, 0)), .inr (some (26, 0, 0, 0))]) (rest := []) h rfl (zx_run_up (by omega) (r_copy (d := d) (by decide) (by decide) (by decide))) (fun M3 h => ?_)
            show zx_E _ _ _ (135, [some (.inr (some (25, 0, 0, 0))), some (.inl x0), some (.inl x1), some (.inl v3), some (.inl v6)], [], (zx_lay M3, n)) _
            refine zx_E.go 1 (s' := (137, [some (.inr (some (25, 0, 0, 0))), some (.inl x0), some (.inl x1), some (.inl v3), some (.inl v6)], [.inl v6], (zx_lay M3, n))) rfl ?_
            exact zx_E.ri h rfl (fun h => absurd h (by decide))
          · refine zx_E.go 2 (s' := (103, [some (.inr (some (25, 0, 0, 0))), some (.inl x0), some (.inl x1), some (.inl v3), some (.inl v4)], [.inl 2, .inl x1], (zx_lay M1, n))) rfl ?_
            refine zx_E.brh (c := x1 = 2) (s1 := (106, [some (.inr (some (25, 0, 0, 0))), some (.inl x0), some (.inl x1), some (.inl v3), some (.inl v4)], [], (zx_lay M1, n))) (s2 := (110, [some (.inr (some (25, 0, 0, 0))), some (.inl x0), some (.inl x1), some (.inl v3), some (.inl v4)], [], (zx_lay M1, n))) h (zx_ic_ne rfl) (fun _ h => ?_) (fun _ h => ?_)
            · refine zx_E.go 7 (s' := (132, [some (.inr (some (25, 0, 0, 0))), some (.inl x0), some (.inl x1), some (.inl v3), some (.inl v3)], [.inr (some (26, 0, 0, 0)), .inr (some (31, 0, 0, 0))], (zx_lay M1, n))) rfl ?_
              refine zx_E.cl (y := 171) (as := [.inr (some (31, 0, 0, 0)), .inr (some (26, 0, 0, 0))]) (rest := []) h rfl (zx_run_up (by omega) (r_copy (d := d) (by decide) (by decide) (by decide))) (fun M4 h => ?_)
              show zx_E _ _ _ (135, [some (.inr (some (25, 0, 0, 0))), some (.inl x0), some (.inl x1), some (.inl v3), some (.inl v3)], [], (zx_lay M4, n)) _
              refine zx_E.go 1 (s' := (137, [some (.inr (some (25, 0, 0, 0))), some (.inl x0), some (.inl x1), some (.inl v3), some (.inl v3)], [.inl v3], (zx_lay M4, n))) rfl ?_
              exact zx_E.ri h rfl (fun h => absurd h (by decide))
            · refine zx_E.go 1 (s' := (111, [some (.inr (some (25, 0, 0, 0))), some (.inl x0), some (.inl x1), some (.inl v3), some (.inl v4)], [.inr (some (25, 0, 0, 0))], (zx_lay M1, n))) rfl ?_
              refine zx_E.cb (y := 189) (as := [.inr (some (25, 0, 0, 0))]) (rest := []) h rfl (fun _ hv => zx_run_up (by omega) (r_X11_isStill (d := d) hv)) (fun v7 h => ?_)
              show zx_E _ _ _ (114, [some (.inr (some (25, 0, 0, 0))), some (.inl x0), some (.inl x1), some (.inl v3), some (.inl v4)], [.inl v7], (zx_lay M1, n)) _
              refine zx_E.brh (c := v7 = 0) (s1 := (121, [some (.inr (some (25, 0, 0, 0))), some (.inl x0), some (.inl x1), some (.inl v3), some (.inl v4)], [], (zx_lay M1, n))) (s2 := (117, [some (.inr (some (25, 0, 0, 0))), some (.inl x0), some (.inl x1), some (.inl v3), some (.inl v4)], [], (zx_lay M1, n))) h (zx_if_eq rfl) (fun _ h => ?_) (fun _ h => ?_)
              · refine zx_E.go 6 (s' := (132, [some (.inr (some (25, 0, 0, 0))), some (.inl x0), some (.inl x1), some (.inl v3), some (.inl 0)], [.inr (some (26, 0, 0, 0)), .inr (some (31, 0, 0, 0))], (zx_lay M1, n))) rfl ?_
                refine zx_E.cl (y := 171) (as := [.inr (some (31, 0, 0, 0)), .inr (some (26, 0, 0, 0))]) (rest := []) h rfl (zx_run_up (by omega) (r_copy (d := d) (by decide) (by decide) (by decide))) (fun M5 h => ?_)
                show zx_E _ _ _ (135, [some (.inr (some (25, 0, 0, 0))), some (.inl x0), some (.inl x1), some (.inl v3), some (.inl 0)], [], (zx_lay M5, n)) _
                refine zx_E.go 1 (s' := (137, [some (.inr (some (25, 0, 0, 0))), some (.inl x0), some (.inl x1), some (.inl v3), some (.inl 0)], [.inl 0], (zx_lay M5, n))) rfl ?_
                exact zx_E.ri h rfl (fun h => absurd h (by decide))
              · refine zx_E.go 7 (s' := (132, [some (.inr (some (25, 0, 0, 0))), some (.inl x0), some (.inl x1), some (.inl v3), some (.inl 1)], [.inr (some (26, 0, 0, 0)), .inr (some (31, 0, 0, 0))], (zx_lay M1, n))) rfl ?_
                refine zx_E.cl (y := 171) (as := [.inr (some (31, 0, 0, 0)), .inr (some (26, 0, 0, 0))]) (rest := []) h rfl (zx_run_up (by omega) (r_copy (d := d) (by decide) (by decide) (by decide))) (fun M6 h => ?_)
                show zx_E _ _ _ (135, [some (.inr (some (25, 0, 0, 0))), some (.inl x0), some (.inl x1), some (.inl v3), some (.inl 1)], [], (zx_lay M6, n)) _
                refine zx_E.go 1 (s' := (137, [some (.inr (some (25, 0, 0, 0))), some (.inl x0), some (.inl x1), some (.inl v3), some (.inl 1)], [.inl 1], (zx_lay M6, n))) rfl ?_
                exact zx_E.ri h rfl (fun h => absurd h (by decide))
def g_X9_entered (M : zx_Y) (l : Nat) (i : Nat) (x0 : Int32) : Option Int32 := (if (M (7, l, i, 0) 3) ≤ (M (7, l, i, 0) 2) then (if (x0 + 1) < 0 then (some (-5)) else (if (x0 + 1) < 8 then (zi (x0 + 1) 8 fun k1 => (some (M (13, l, i, 1) k1))) else (some (-5)))) else (if x0 < 0 then (some (-5)) else (if x0 < 8 then (zi x0 8 fun k2 => (some (M (13, l, i, 1) k2))) else (some (-5)))))
set_option maxRecDepth 100000 in
set_option maxHeartbeats 4000000 in
theorem r_X9_entered {X : zx_X} {d n : Nat} {M : zx_Y} {l : Nat} {i : Nat} {x0 : Int32} {rv : Int32} (h : g_X9_entered M l i x0 = some rv) : zx_run X (d + 1) 89 [.inr (some (7, l, i, 0)), .inl x0] (zx_lay M, n) (some (.inl rv), (zx_lay M, n)) := by
  refine zx_run_of zc_X9_entered [some (.inr (some (7, l, i, 0))), some (.inl x0), none] rfl rfl ?_
  unfold g_X9_entered at h
  refine zx_E.go 4 (s' := (8, [some (.inr (some (7, l, i, 0))), some (.inl x0), none], [.inl (M (7, l, i, 0) 2), .inl (M (7, l, i, 0) 3)], (zx_lay M, n))) rfl ?_
  refine zx_E.brh (c := (M (7, l, i, 0) 3) ≤ (M (7, l, i, 0) 2)) (s1 := (15, [some (.inr (some (7, l, i, 0))), some (.inl x0), none], [], (zx_lay M, n))) (s2 := (11, [some (.inr (some (7, l, i, 0))), some (.inl x0), none], [], (zx_lay M, n))) h (zx_ic_le rfl) (fun _ h => ?_) (fun _ h => ?_)
  · refine zx_E.go 5 (s' := (20, [some (.inr (some (7, l, i, 0))), some (.inl x0), some (.inl (x0 + 1))], [.inl (x0 + 1)], (zx_lay M, n))) rfl ?_
    refine zx_E.brh (c := (x0 + 1) < 0) (s1 := (29, [some (.inr (some (7, l, i, 0))), some (.inl x0), some (.inl (x0 + 1))], [], (zx_lay M, n))) (s2 := (23, [some (.inr (some (7, l, i, 0))), some (.inl x0), some (.inl (x0 + 1))], [], (zx_lay M, n))) h (zx_if_lt rfl) (fun _ h => ?_) (fun _ h => ?_)
    · refine zx_E.go 2 (s' := (42, [some (.inr (some (7, l, i, 0))), some (.inl x0), some (.inl (x0 + 1))], [.inl (-5)], (zx_lay M, n))) rfl ?_
      exact zx_E.rp h rfl (fun h => absurd h (by decide))
    · refine zx_E.go 2 (s' := (26, [some (.inr (some (7, l, i, 0))), some (.inl x0), some (.inl (x0 + 1))], [.inl 8, .inl (x0 + 1)], (zx_lay M, n))) rfl ?_
      refine zx_E.brh (c := (x0 + 1) < 8) (s1 := (34, [some (.inr (some (7, l, i, 0))), some (.inl x0), some (.inl (x0 + 1))], [], (zx_lay M, n))) (s2 := (29, [some (.inr (some (7, l, i, 0))), some (.inl x0), some (.inl (x0 + 1))], [], (zx_lay M, n))) h (zx_ic_lt rfl) (fun _ h => ?_) (fun _ h => ?_)
      · refine zx_E.go 3 (s' := (39, [some (.inr (some (7, l, i, 0))), some (.inl x0), some (.inl (x0 + 1))], [.inl 1, .inr (some (12, l, i, 0))], (zx_lay M, n))) rfl ?_
        refine zx_E.aald (k := 1) (h := (12, l, i, 0)) (h' := (13, l, i, 1)) rfl rfl rfl (by decide) rfl ?_
        show zx_E _ _ _ (40, [some (.inr (some (7, l, i, 0))), some (.inl x0), some (.inl (x0 + 1))], [.inr (some (13, l, i, 1))], (zx_lay M, n)) _
        refine zx_E.go 1 (s' := (41, [some (.inr (some (7, l, i, 0))), some (.inl x0), some (.inl (x0 + 1))], [.inl (x0 + 1), .inr (some (13, l, i, 1))], (zx_lay M, n))) rfl ?_
        refine zx_E.ix h (fun k1 hx_k1 hl_k1 h => ?_)
        refine zx_E.iald (k := k1) (h := (13, l, i, 1)) rfl rfl hx_k1 hl_k1 ?_
        show zx_E _ _ _ (42, [some (.inr (some (7, l, i, 0))), some (.inl x0), some (.inl (x0 + 1))], [.inl (M (13, l, i, 1) k1)], (zx_lay M, n)) _
        exact zx_E.rp h rfl (fun h => absurd h (by decide))
      · refine zx_E.go 2 (s' := (42, [some (.inr (some (7, l, i, 0))), some (.inl x0), some (.inl (x0 + 1))], [.inl (-5)], (zx_lay M, n))) rfl ?_
        exact zx_E.rp h rfl (fun h => absurd h (by decide))
  · refine zx_E.go 4 (s' := (20, [some (.inr (some (7, l, i, 0))), some (.inl x0), some (.inl x0)], [.inl x0], (zx_lay M, n))) rfl ?_
    refine zx_E.brh (c := x0 < 0) (s1 := (29, [some (.inr (some (7, l, i, 0))), some (.inl x0), some (.inl x0)], [], (zx_lay M, n))) (s2 := (23, [some (.inr (some (7, l, i, 0))), some (.inl x0), some (.inl x0)], [], (zx_lay M, n))) h (zx_if_lt rfl) (fun _ h => ?_) (fun _ h => ?_)
    · refine zx_E.go 2 (s' := (42, [some (.inr (some (7, l, i, 0))), some (.inl x0), some (.inl x0)], [.inl (-5)], (zx_lay M, n))) rfl ?_
      exact zx_E.rp h rfl (fun h => absurd h (by decide))
    · refine zx_E.go 2 (s' := (26, [some (.inr (some (7, l, i, 0))), some (.inl x0), some (.inl x0)], [.inl 8, .inl x0], (zx_lay M, n))) rfl ?_
      refine zx_E.brh (c := x0 < 8) (s1 := (34, [some (.inr (some (7, l, i, 0))), some (.inl x0), some (.inl x0)], [], (zx_lay M, n))) (s2 := (29, [some (.inr (some (7, l, i, 0))), some (.inl x0), some (.inl x0)], [], (zx_lay M, n))) h (zx_ic_lt rfl) (fun _ h => ?_) (fun _ h => ?_)
      · refine zx_E.go 3 (s' := (39, [some (.inr (some (7, l, i, 0))), some (.inl x0), some (.inl x0)], [.inl 1, .inr (some (12, l, i, 0))], (zx_lay M, n))) rfl ?_
        refine zx_E.aald (k := 1) (h := (12, l, i, 0)) (h' := (13, l, i, 1)) rfl rfl rfl (by decide) rfl ?_
        show zx_E _ _ _ (40, [some (.inr (some (7, l, i, 0))), some (.inl x0), some (.inl x0)], [.inr (some (13, l, i, 1))], (zx_lay M, n)) _
        refine zx_E.go 1 (s' := (41, [some (.inr (some (7, l, i, 0))), some (.inl x0), some (.inl x0)], [.inl x0, .inr (some (13, l, i, 1))], (zx_lay M, n))) rfl ?_
        refine zx_E.ix h (fun k2 hx_k2 hl_k2 h => ?_)
        refine zx_E.iald (k := k2) (h := (13, l, i, 1)) rfl rfl hx_k2 hl_k2 ?_
        show zx_E _ _ _ (42, [some (.inr (some (7, l, i, 0))), some (.inl x0), some (.inl x0)], [.inl (M (13, l, i, 1) k2)], (zx_lay M, n)) _
        exact zx_E.rp h rfl (fun h => absurd h (by decide))
      · refine zx_E.go 2 (s' := (42, [some (.inr (some (7, l, i, 0))), some (.inl x0), some (.inl x0)], [.inl (-5)], (zx_lay M, n))) rfl ?_
        exact zx_E.rp h rfl (fun h => absurd h (by decide))
