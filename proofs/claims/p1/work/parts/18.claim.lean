set_option maxRecDepth 100000 in
set_option maxHeartbeats 4000000 in
theorem p1_len_0 (xs : Nat → Int32) : zx_E (0, xs) 11 zc_L_law (18, [some (.inr (some (33, 0, 0, 0))), some (.inr (some (0, 0, 0, 0))), some (.inr (some (25, 0, 0, 0))), some (.inl 0)], [], (zx_lay zM0, 308)) (some (.inl 1), (zx_lay zM0, 308)) := by
  refine zx_E.go 4 (s' := (23, [some (.inr (some (33, 0, 0, 0))), some (.inr (some (0, 0, 0, 0))), some (.inr (some (25, 0, 0, 0))), some (.inl 0)], [.inl 7, .inl 0, .inl 0], (zx_lay zM0, 308))) rfl ?_
  refine zx_E.go 1 (s' := (24, [some (.inr (some (33, 0, 0, 0))), some (.inr (some (0, 0, 0, 0))), some (.inr (some (25, 0, 0, 0))), some (.inl 0)], [.inl (-7), .inl 0], (zx_lay zM0, 308))) rfl ?_
  refine zx_E.bt (c := (-7) < 0) (s1 := (740, [some (.inr (some (33, 0, 0, 0))), some (.inr (some (0, 0, 0, 0))), some (.inr (some (25, 0, 0, 0))), some (.inl 0)], [], (zx_lay zM0, 308))) (s2 := (27, [some (.inr (some (33, 0, 0, 0))), some (.inr (some (0, 0, 0, 0))), some (.inr (some (25, 0, 0, 0))), some (.inl 0)], [], (zx_lay zM0, 308))) rfl (by decide) ?_
  refine zx_E.go 1 (s' := (741, [some (.inr (some (33, 0, 0, 0))), some (.inr (some (0, 0, 0, 0))), some (.inr (some (25, 0, 0, 0))), some (.inl 0)], [.inl 1], (zx_lay zM0, 308))) rfl ?_
  exact zx_E.iret rfl (fun _ => Or.inr rfl) rfl
set_option maxRecDepth 100000 in
set_option maxHeartbeats 4000000 in
theorem p1_len_1 (xs : Nat → Int32) : zx_E (1, xs) 11 zc_L_law (18, [some (.inr (some (33, 0, 0, 0))), some (.inr (some (0, 0, 0, 0))), some (.inr (some (25, 0, 0, 0))), some (.inl 0)], [], (zx_lay zM0, 308)) (some (.inl 1), (zx_lay zM0, 308)) := by
  refine zx_E.go 4 (s' := (23, [some (.inr (some (33, 0, 0, 0))), some (.inr (some (0, 0, 0, 0))), some (.inr (some (25, 0, 0, 0))), some (.inl 0)], [.inl 7, .inl 1, .inl 0], (zx_lay zM0, 308))) rfl ?_
  refine zx_E.go 1 (s' := (24, [some (.inr (some (33, 0, 0, 0))), some (.inr (some (0, 0, 0, 0))), some (.inr (some (25, 0, 0, 0))), some (.inl 0)], [.inl (-6), .inl 0], (zx_lay zM0, 308))) rfl ?_
  refine zx_E.bt (c := (-6) < 0) (s1 := (740, [some (.inr (some (33, 0, 0, 0))), some (.inr (some (0, 0, 0, 0))), some (.inr (some (25, 0, 0, 0))), some (.inl 0)], [], (zx_lay zM0, 308))) (s2 := (27, [some (.inr (some (33, 0, 0, 0))), some (.inr (some (0, 0, 0, 0))), some (.inr (some (25, 0, 0, 0))), some (.inl 0)], [], (zx_lay zM0, 308))) rfl (by decide) ?_
  refine zx_E.go 1 (s' := (741, [some (.inr (some (33, 0, 0, 0))), some (.inr (some (0, 0, 0, 0))), some (.inr (some (25, 0, 0, 0))), some (.inl 0)], [.inl 1], (zx_lay zM0, 308))) rfl ?_
  exact zx_E.iret rfl (fun _ => Or.inr rfl) rfl
set_option maxRecDepth 100000 in
set_option maxHeartbeats 4000000 in
theorem p1_len_2 (xs : Nat → Int32) : zx_E (2, xs) 11 zc_L_law (18, [some (.inr (some (33, 0, 0, 0))), some (.inr (some (0, 0, 0, 0))), some (.inr (some (25, 0, 0, 0))), some (.inl 0)], [], (zx_lay zM0, 308)) (some (.inl 1), (zx_lay zM0, 308)) := by
  refine zx_E.go 4 (s' := (23, [some (.inr (some (33, 0, 0, 0))), some (.inr (some (0, 0, 0, 0))), some (.inr (some (25, 0, 0, 0))), some (.inl 0)], [.inl 7, .inl 2, .inl 0], (zx_lay zM0, 308))) rfl ?_
  refine zx_E.go 1 (s' := (24, [some (.inr (some (33, 0, 0, 0))), some (.inr (some (0, 0, 0, 0))), some (.inr (some (25, 0, 0, 0))), some (.inl 0)], [.inl (-5), .inl 0], (zx_lay zM0, 308))) rfl ?_
  refine zx_E.bt (c := (-5) < 0) (s1 := (740, [some (.inr (some (33, 0, 0, 0))), some (.inr (some (0, 0, 0, 0))), some (.inr (some (25, 0, 0, 0))), some (.inl 0)], [], (zx_lay zM0, 308))) (s2 := (27, [some (.inr (some (33, 0, 0, 0))), some (.inr (some (0, 0, 0, 0))), some (.inr (some (25, 0, 0, 0))), some (.inl 0)], [], (zx_lay zM0, 308))) rfl (by decide) ?_
  refine zx_E.go 1 (s' := (741, [some (.inr (some (33, 0, 0, 0))), some (.inr (some (0, 0, 0, 0))), some (.inr (some (25, 0, 0, 0))), some (.inl 0)], [.inl 1], (zx_lay zM0, 308))) rfl ?_
  exact zx_E.iret rfl (fun _ => Or.inr rfl) rfl
set_option maxRecDepth 100000 in
set_option maxHeartbeats 4000000 in
theorem p1_len_3 (xs : Nat → Int32) : zx_E (3, xs) 11 zc_L_law (18, [some (.inr (some (33, 0, 0, 0))), some (.inr (some (0, 0, 0, 0))), some (.inr (some (25, 0, 0, 0))), some (.inl 0)], [], (zx_lay zM0, 308)) (some (.inl 1), (zx_lay zM0, 308)) := by
  refine zx_E.go 4 (s' := (23, [some (.inr (some (33, 0, 0, 0))), some (.inr (some (0, 0, 0, 0))), some (.inr (some (25, 0, 0, 0))), some (.inl 0)], [.inl 7, .inl 3, .inl 0], (zx_lay zM0, 308))) rfl ?_
  refine zx_E.go 1 (s' := (24, [some (.inr (some (33, 0, 0, 0))), some (.inr (some (0, 0, 0, 0))), some (.inr (some (25, 0, 0, 0))), some (.inl 0)], [.inl (-4), .inl 0], (zx_lay zM0, 308))) rfl ?_
  refine zx_E.bt (c := (-4) < 0) (s1 := (740, [some (.inr (some (33, 0, 0, 0))), some (.inr (some (0, 0, 0, 0))), some (.inr (some (25, 0, 0, 0))), some (.inl 0)], [], (zx_lay zM0, 308))) (s2 := (27, [some (.inr (some (33, 0, 0, 0))), some (.inr (some (0, 0, 0, 0))), some (.inr (some (25, 0, 0, 0))), some (.inl 0)], [], (zx_lay zM0, 308))) rfl (by decide) ?_
  refine zx_E.go 1 (s' := (741, [some (.inr (some (33, 0, 0, 0))), some (.inr (some (0, 0, 0, 0))), some (.inr (some (25, 0, 0, 0))), some (.inl 0)], [.inl 1], (zx_lay zM0, 308))) rfl ?_
  exact zx_E.iret rfl (fun _ => Or.inr rfl) rfl
set_option maxRecDepth 100000 in
set_option maxHeartbeats 4000000 in
theorem p1_len_4 (xs : Nat → Int32) : zx_E (4, xs) 11 zc_L_law (18, [some (.inr (some (33, 0, 0, 0))), some (.inr (some (0, 0, 0, 0))), some (.inr (some (25, 0, 0, 0))), some (.inl 0)], [], (zx_lay zM0, 308)) (some (.inl 1), (zx_lay zM0, 308)) := by
  refine zx_E.go 4 (s' := (23, [some (.inr (some (33, 0, 0, 0))), some (.inr (some (0, 0, 0, 0))), some (.inr (some (25, 0, 0, 0))), some (.inl 0)], [.inl 7, .inl 4, .inl 0], (zx_lay zM0, 308))) rfl ?_
  refine zx_E.go 1 (s' := (24, [some (.inr (some (33, 0, 0, 0))), some (.inr (some (0, 0, 0, 0))), some (.inr (some (25, 0, 0, 0))), some (.inl 0)], [.inl (-3), .inl 0], (zx_lay zM0, 308))) rfl ?_
  refine zx_E.bt (c := (-3) < 0) (s1 := (740, [some (.inr (some (33, 0, 0, 0))), some (.inr (some (0, 0, 0, 0))), some (.inr (some (25, 0, 0, 0))), some (.inl 0)], [], (zx_lay zM0, 308))) (s2 := (27, [some (.inr (some (33, 0, 0, 0))), some (.inr (some (0, 0, 0, 0))), some (.inr (some (25, 0, 0, 0))), some (.inl 0)], [], (zx_lay zM0, 308))) rfl (by decide) ?_
  refine zx_E.go 1 (s' := (741, [some (.inr (some (33, 0, 0, 0))), some (.inr (some (0, 0, 0, 0))), some (.inr (some (25, 0, 0, 0))), some (.inl 0)], [.inl 1], (zx_lay zM0, 308))) rfl ?_
  exact zx_E.iret rfl (fun _ => Or.inr rfl) rfl
set_option maxRecDepth 100000 in
set_option maxHeartbeats 4000000 in
theorem p1_len_5 (xs : Nat → Int32) : zx_E (5, xs) 11 zc_L_law (18, [some (.inr (some (33, 0, 0, 0))), some (.inr (some (0, 0, 0, 0))), some (.inr (some (25, 0, 0, 0))), some (.inl 0)], [], (zx_lay zM0, 308)) (some (.inl 1), (zx_lay zM0, 308)) := by
  refine zx_E.go 4 (s' := (23, [some (.inr (some (33, 0, 0, 0))), some (.inr (some (0, 0, 0, 0))), some (.inr (some (25, 0, 0, 0))), some (.inl 0)], [.inl 7, .inl 5, .inl 0], (zx_lay zM0, 308))) rfl ?_
  refine zx_E.go 1 (s' := (24, [some (.inr (some (33, 0, 0, 0))), some (.inr (some (0, 0, 0, 0))), some (.inr (some (25, 0, 0, 0))), some (.inl 0)], [.inl (-2), .inl 0], (zx_lay zM0, 308))) rfl ?_
  refine zx_E.bt (c := (-2) < 0) (s1 := (740, [some (.inr (some (33, 0, 0, 0))), some (.inr (some (0, 0, 0, 0))), some (.inr (some (25, 0, 0, 0))), some (.inl 0)], [], (zx_lay zM0, 308))) (s2 := (27, [some (.inr (some (33, 0, 0, 0))), some (.inr (some (0, 0, 0, 0))), some (.inr (some (25, 0, 0, 0))), some (.inl 0)], [], (zx_lay zM0, 308))) rfl (by decide) ?_
  refine zx_E.go 1 (s' := (741, [some (.inr (some (33, 0, 0, 0))), some (.inr (some (0, 0, 0, 0))), some (.inr (some (25, 0, 0, 0))), some (.inl 0)], [.inl 1], (zx_lay zM0, 308))) rfl ?_
  exact zx_E.iret rfl (fun _ => Or.inr rfl) rfl
set_option maxRecDepth 100000 in
set_option maxHeartbeats 4000000 in
theorem p1_len_6 (xs : Nat → Int32) : zx_E (6, xs) 11 zc_L_law (18, [some (.inr (some (33, 0, 0, 0))), some (.inr (some (0, 0, 0, 0))), some (.inr (some (25, 0, 0, 0))), some (.inl 0)], [], (zx_lay zM0, 308)) (some (.inl 1), (zx_lay zM0, 308)) := by
  refine zx_E.go 4 (s' := (23, [some (.inr (some (33, 0, 0, 0))), some (.inr (some (0, 0, 0, 0))), some (.inr (some (25, 0, 0, 0))), some (.inl 0)], [.inl 7, .inl 6, .inl 0], (zx_lay zM0, 308))) rfl ?_
  refine zx_E.go 1 (s' := (24, [some (.inr (some (33, 0, 0, 0))), some (.inr (some (0, 0, 0, 0))), some (.inr (some (25, 0, 0, 0))), some (.inl 0)], [.inl (-1), .inl 0], (zx_lay zM0, 308))) rfl ?_
  refine zx_E.bt (c := (-1) < 0) (s1 := (740, [some (.inr (some (33, 0, 0, 0))), some (.inr (some (0, 0, 0, 0))), some (.inr (some (25, 0, 0, 0))), some (.inl 0)], [], (zx_lay zM0, 308))) (s2 := (27, [some (.inr (some (33, 0, 0, 0))), some (.inr (some (0, 0, 0, 0))), some (.inr (some (25, 0, 0, 0))), some (.inl 0)], [], (zx_lay zM0, 308))) rfl (by decide) ?_
  refine zx_E.go 1 (s' := (741, [some (.inr (some (33, 0, 0, 0))), some (.inr (some (0, 0, 0, 0))), some (.inr (some (25, 0, 0, 0))), some (.inl 0)], [.inl 1], (zx_lay zM0, 308))) rfl ?_
  exact zx_E.iret rfl (fun _ => Or.inr rfl) rfl
theorem p1_law {L : Nat} {xs : Nat → Int32} (hL : L ≤ 7) : zx_Law (L, xs) := by
  have key : ∃ μ : zx_M, μ.2 ≤ 308 ∧ zx_E (L, xs) 11 zc_L_law (18, [some (.inr (some (33, 0, 0, 0))), some (.inr (some (0, 0, 0, 0))), some (.inr (some (25, 0, 0, 0))), some (.inl 0)], [], (zx_lay zM0, 308)) (some (.inl 1), μ) := by
    rcases (by omega : L = 0 ∨ L = 1 ∨ L = 2 ∨ L = 3 ∨ L = 4 ∨ L = 5 ∨ L = 6 ∨ L = 7) with rfl | rfl | rfl | rfl | rfl | rfl | rfl | rfl
    · exact ⟨_, Nat.le_refl _, p1_len_0 xs⟩
    · exact ⟨_, Nat.le_refl _, p1_len_1 xs⟩
    · exact ⟨_, Nat.le_refl _, p1_len_2 xs⟩
    · exact ⟨_, Nat.le_refl _, p1_len_3 xs⟩
    · exact ⟨_, Nat.le_refl _, p1_len_4 xs⟩
    · exact ⟨_, Nat.le_refl _, p1_len_5 xs⟩
    · exact ⟨_, Nat.le_refl _, p1_len_6 xs⟩
    · skip
      by_cases hk0 : (xs 0 &&& 31) = 0
      · exact p1_op_0 rfl rfl rfl rfl rfl rfl rfl hk0
      by_cases hk1 : (xs 0 &&& 31) = 1
      · exact p1_op_1 rfl rfl rfl rfl rfl rfl rfl hk1
      by_cases hk2 : (xs 0 &&& 31) = 2
      · exact p1_op_2 rfl rfl rfl rfl rfl rfl rfl hk2
      by_cases hk3 : (xs 0 &&& 31) = 3
      · exact p1_op_3 rfl rfl rfl rfl rfl rfl rfl hk3
      by_cases hk4 : (xs 0 &&& 31) = 4
      · exact p1_op_4 rfl rfl rfl rfl rfl rfl rfl hk4
      by_cases hk5 : (xs 0 &&& 31) = 5
      · exact p1_op_5 rfl rfl rfl rfl rfl rfl rfl hk5
      by_cases hk6 : (xs 0 &&& 31) = 6
      · exact p1_op_6 rfl rfl rfl rfl rfl rfl rfl hk6
      by_cases hk7 : (xs 0 &&& 31) = 7
      · exact p1_op_7 rfl rfl rfl rfl rfl rfl rfl hk7
      by_cases hk8 : (xs 0 &&& 31) = 8
      · exact p1_op_8 rfl rfl rfl rfl rfl rfl rfl hk8
      by_cases hk9 : (xs 0 &&& 31) = 9
      · exact p1_op_9 rfl rfl rfl rfl rfl rfl rfl hk9
      by_cases hk10 : (xs 0 &&& 31) = 10
      · exact p1_op_10 rfl rfl rfl rfl rfl rfl rfl hk10
      by_cases hk11 : (xs 0 &&& 31) = 11
      · exact p1_op_11 rfl rfl rfl rfl rfl rfl rfl hk11
      by_cases hk12 : (xs 0 &&& 31) = 12
      · exact p1_op_12 rfl rfl rfl rfl rfl rfl rfl hk12
      by_cases hk13 : (xs 0 &&& 31) = 13
      · exact p1_op_13 rfl rfl rfl rfl rfl rfl rfl hk13
      by_cases hk14 : (xs 0 &&& 31) = 14
      · exact p1_op_14 rfl rfl rfl rfl rfl rfl rfl hk14
      by_cases hk15 : (xs 0 &&& 31) = 15
      · exact p1_op_15 rfl rfl rfl rfl rfl rfl rfl hk15
      by_cases hk16 : (xs 0 &&& 31) = 16
      · exact p1_op_16 rfl rfl rfl rfl rfl rfl rfl hk16
      by_cases hk17 : (xs 0 &&& 31) = 17
      · exact p1_op_17 rfl rfl rfl rfl rfl rfl rfl hk17
      by_cases hk18 : (xs 0 &&& 31) = 18
      · exact p1_op_18 rfl rfl rfl rfl rfl rfl rfl hk18
      by_cases hk19 : (xs 0 &&& 31) = 19
      · exact p1_op_19 rfl rfl rfl rfl rfl rfl rfl hk19
      by_cases hk20 : (xs 0 &&& 31) = 20
      · exact p1_op_20 rfl rfl rfl rfl rfl rfl rfl hk20
      by_cases hk21 : (xs 0 &&& 31) = 21
      · exact p1_op_21 rfl rfl rfl rfl rfl rfl rfl hk21
      exact p1_op_22 rfl rfl rfl rfl rfl rfl rfl hk0 hk1 hk2 hk3 hk4 hk5 hk6 hk7 hk8 hk9 hk10 hk11 hk12 hk13 hk14 hk15 hk16 hk17 hk18 hk19 hk20 hk21
  obtain ⟨μ, hμ, hE⟩ := key
  obtain ⟨n, hn⟩ := zx_E.eqv (μ := (fun _ _ => .inl 0, 0)) (ν := (zO [], 0)) ⟨rfl, fun k hk => absurd hk (Nat.not_lt_zero _)⟩ (p1_ctor _ hE)
  exact ⟨n, μ, hμ, hn⟩
/-- THE LAW, from its entry -/
theorem whole_start {p : Program} {e : Env} {s : State} {m : MethodId} {below : List Frame} {meth : Method} {c : Code} (l : Launch) (hflags : l.flags = flags0) {b L : Nat} {xs : Nat → Int32} (hL : L ≤ 7) (C0 : lw_At p s m meth c b L xs) : W p l e room_1 s m #[Value.ref b] below meth c s.heap [] 0 0 (lw_Z below #[Value.ref b] s) (entryFrame m ([Value.ref b] : List Value).toArray 4) := by
  exact zx_law_walk l C0 (p1_law hL)
set_option maxHeartbeats 4000000 in
theorem lw_walk (l : Launch) (hflags : l.flags = flags0) (b : Addr) (xs : List Int32) : MetFree l x (headSpec (Jvm.Cond.code x code maxLocals ret :: tables_1) room_1) (lw_P b xs) (fun _ _ _ _ _ => True) lw_Q := by
  refine MetFree.of_bodyS (code := code) (maxLocals := maxLocals) (ret := ret) (by decide) ?_ ?_
  · intro args s m h hn
    obtain ⟨meth, c, h1, h2, h3, h4, h5, h6, -, -⟩ := Cond.code_spec hn (atoms_spec (ws := Jvm.Cond.code x code maxLocals ret :: tables_1) h _ List.mem_cons_self)
    exact ⟨meth, c, h1, h2, h3, h4, h5, h6⟩
  · intro p e s m args below meth c s₁ B hml0 hP _
    obtain ⟨rfl, hx, hbd, hgv⟩ := hP
    obtain ⟨scr, harrAt, hlist, hof, hsmall⟩ := hx
    obtain ⟨hcb, hkn, -, -⟩ := State.arrayAt?_spec harrAt
    have hown : s.vm.findClass R_law = some m.cls := findClass_of_methodNamed B.named
    have hts0 : ∀ c ∈ (Jvm.Cond.code x code maxLocals ret :: tables_1), c.before #[Value.ref b] s = true := atoms_spec (ws := Jvm.Cond.code x code maxLocals ret :: tables_1) B.pre
    have hts : ∀ w ∈ lw_tbl, w.before #[Value.ref b] s = true := k2_hts_sels lw_privs (fun w hw => hts0 w (List.mem_cons_of_mem _ hw)) lw_privs_ok
    have hml : c.maxLocals = 4 := B.maxLocals_eq (hts0 _ List.mem_cons_self)
    have X₀ : Stand p l e room_1 s m #[Value.ref b] below meth c s₁ [] 0 0 := Stand.of_body B
    have hh0 : s₁.heap = s.heap := by rw [B.state]; rfl
    have hsz : scr.slots.size = xs.length := by rw [← Array.length_toList, hlist, List.length_map]
    have hval : ∀ j : Nat, j < xs.length → scr.slots[j]? = some (.int (xs.getD j 0)) := fun j hj => by
      rw [← Array.getElem?_toList, hlist]
      simp [hj]
    have hbl : b < s.heap.size := (Array.getElem?_eq_some_iff.mp hcb).1
    have hX : va_X b xs.length (fun j => xs.getD j 0) s s.heap := ⟨scr, hcb, hof, hkn, hsz, hval⟩
    have K : W p l e room_1 s m #[Value.ref b] below meth c s₁.heap [] 0 0 (lw_Z below #[Value.ref b] s) (entryFrame m ([Value.ref b] : List Value).toArray 4) := by
      rw [hh0]
      exact whole_start l hflags hbd ⟨B.exec, B.bytes, B.returns, hml, hown, hts, hX, hbl, B.notSynchronized, hgv⟩
    obtain ⟨t, a1, o, b1, b2, b3⟩ := K s₁ rfl X₀
    exact ⟨t, o, a1, b1, b2, b3⟩
theorem lw_pre_spec {args : Array Value} {s : State} (h : (Jvm.Cond.and given_1 narrow_1).before args s = true) (hr : rest_1_c.before args s = true) : ∃ (b : Addr) (xs : List Int32), lw_P b xs args s := by
  have hs := flat_of_before _ h
  have hq := flat_of_before _ hr
  have hc : (Cond.count 1).before args s = true := hs _ (by decide +kernel)
  have harr : (Cond.arrayOf (.arg 0) .int).before args s = true := hs _ (by decide +kernel)
  have hle : (Cond.le (.length (.arg 0)) (.int 7)).before args s = true := hs _ (by decide +kernel)
  have hlen : (Cond.isInt (.length (.arg 0))).before args s = true := hq _ (by decide +kernel)
  have hall : (Cond.all (.arg 0) (.isInt (.elem (.arg 0) (.index 0)))).before args s = true := hq _ (by decide +kernel)
  obtain ⟨b, xs, hb, hx⟩ := State.ints_of_pre rfl harr hlen hall
  have hsm : xs.length < 2 ^ 31 := hx.choose_spec.2.2.2
  have hev : (Term.length (.arg 0)).eval args s none [] s = some (.int xs.length.toInt32) := hx.length_eval hb
  have hv := Cond.le_ints hev (show (Term.int 7).eval args s none [] s = some (.int 7) from rfl)
  have hd : xs.length.toInt32 ≤ 7 := by
    simpa [Cond.before, Cond.holds, hv] using hle
  have hN : xs.length ≤ 7 := (Int32.ofNat_le_ofNat hsm (by decide)).mp (show Int32.ofNat xs.length ≤ Int32.ofNat 7 from hd)
  exact ⟨b, xs, Cond.one_arg hc (show args[0]? = some (.ref b) from hb), hx, hN, h⟩
theorem lw_comes (l : Launch) (hflags : l.flags = flags0) : Comes l x (Jvm.Cond.code x code maxLocals ret :: tables_1) room_1 (fun tb e args s => Calls_1 tb e args s ∧ rest_1 tb e args s ∧ Pre_1 tb e args s)
    (fun _ _ args s o t => lw_Q args s o t) := by
  intro p e ha hc hk s m args below hf hfit hheap happ hpre
  obtain ⟨b, xs, hP⟩ := lw_pre_spec hpre.2.2 hpre.2.1
  obtain ⟨k, o, h1, h2, h3, hQ⟩ := lw_walk l hflags b xs p e ha hc hk s m args below hf ((Spec.applies_iff_loose hf).mp happ).1 hP trivial
  exact ⟨k, o, h1, h2, h3, hQ⟩
theorem lw_frame {s t : State} {o : Outcome} {args : Array Value} (h : Framed s o t [] 600000 7302250) :
    Framed s o t (fieldLocs frame_1_writes args s ++ arrayLocs frame_1_arrays args s ++ staticLocs frame_1_statics s) 600000 7302250 := h
theorem lw_limb (L : Cond) (hL : ∀ (args : Array Value) (s t : State), L.after args s (.returned (some (.int 1))) t = true) :
    ArmFor flags0 classFile x code maxLocals ret World_1 tables_1 room_1 Calls_1 rest_1 Pre_1
      (fun tb e a s o t => postC L tb e a s o t ∧ Framed s o t (fieldLocs frame_1_writes a s ++ arrayLocs frame_1_arrays a s ++ staticLocs frame_1_statics s) 600000 7302250) := by
  intro l hflags _ _ p e ha hc hk s m args below hf hfit hheap happ hpre
  obtain ⟨k, o, h1, h2, h3, rfl, hF⟩ := lw_comes l hflags p e ha hc hk s m args below hf hfit hheap happ hpre
  exact ⟨k, _, h1, h2, h3, hL args s _, lw_frame hF⟩
theorem i_vc : Claimed_1_1 ∧ Claimed_1_2 := ⟨lw_limb limb_1_1 (fun args s t => by simp [limb_1_1, Cond.after, Cond.holds, Cond.value]), lw_limb limb_1_2 (fun args s t => Cond.after_iff.mpr (by
  first | (rw [show limb_1_2 = Cond.eq .result (.int 1) from rfl, Cond.eq_ints (x := 1) (y := 1) rfl rfl]; simp; done) | (simp [limb_1_2, Cond.value, Term.eval]; done)))⟩
