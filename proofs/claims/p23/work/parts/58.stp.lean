/-! a step of the law: the class on the memory as it is, then the reference on what the class left -/
theorem zc_lo {c : zx_H} {j : Nat} (h : c.1 < 25) : zc c j < 6 ∨ 100 ≤ zc c j := by
  obtain ⟨k, r⟩ := c
  have y : (bif Nat.beq j 11 then 200 + r.1 else 100 + r.1) = 100 + r.1 ∨ (bif Nat.beq j 11 then 200 + r.1 else 100 + r.1) = 200 + r.1 := by cases Nat.beq j 11 <;> simp
  unfold zc
  simp only at h ⊢
  split <;> omega
theorem zc_hi {c : zx_H} {j : Nat} (h : 25 ≤ c.1) (h2 : c.1 = 25 → j < 19) : zc c j = 0 ∨ (10 ≤ zc c j ∧ zc c j < 100) := by
  obtain ⟨k, r⟩ := c
  unfold zc
  simp only at h h2 ⊢
  split <;> omega
theorem lw_op {M : zx_Y} (hI : II M M) {gc gr : zx_Y → Option (Int32 × zx_Y)} {e : Prop} (hop : ∀ C D, II C D → ∃ v w C' D', gc C = some (v, C') ∧ gr D = some (w, D') ∧ II C' D' ∧ (e → v = w)) (fc : ∀ C v C', gc C = some (v, C') → ∀ c j, 25 ≤ c.1 → (c.1 = 25 → j < 19) → C' c j = C c j) (fr : ∀ D v D', gr D = some (v, D') → ∀ c j, c.1 < 25 → D' c j = D c j) : ∃ v w C' D', gc M = some (v, C') ∧ gr C' = some (w, D') ∧ II D' D' ∧ (e → v = w) := by
  obtain ⟨v, w, C', D', a1, a2, a3, a4⟩ := hop M M hI
  have I2 : II M C' := II_cong (fun _ _ _ => rfl) (fun c j h1 h2 => fc _ _ _ a1 c j h1 h2) hI
  obtain ⟨v2, w2, C2, D2, b1, b2, b3, b4⟩ := hop M C' I2
  have e0 := Option.some.inj (a1.symm.trans b1)
  obtain ⟨rfl, rfl⟩ := Prod.mk.inj e0
  exact ⟨v, w2, C', D2, a1, b2, II_cong (C := C') (fun c j h => fr _ _ _ b2 c j h) (fun _ _ _ _ => rfl) b3, b4⟩
theorem II_fr {C C' D D' : zx_Y} (hc : ∀ h j, zc h j ≠ 200 → C' h j = C h j) (hd : ∀ h j, zc h j ≠ 11 → zc h j ≠ 22 → D' h j = D h j) (h : II C D) : II C' D' := by
  obtain ⟨S, N, O, T, hT, hR, hP, hV, hA, hF⟩ := h
  have c0 : ∀ k c j, zc c j = k → k ≠ 200 → C' c j = C c j := fun k c j e q => hc c j (by rw [e]; exact q)
  have d0 : ∀ k c j, zc c j = k → k ≠ 11 → k ≠ 22 → D' c j = D c j := fun k c j e q q2 => hd c j (by rw [e]; exact q) (by rw [e]; exact q2)
  exact ⟨S, N, O, T, hT, R_fr hc hd hR, RP_cong (fun c j e => c0 _ c j e (by decide)) (fun c j e => d0 _ c j e (by decide) (by decide)) hP, RV_cong (fun c j e => c0 _ c j e (by decide)) (fun c j e => c0 _ c j e (by decide)) (fun c j e => d0 _ c j e (by decide) (by decide)) (fun c j e => d0 _ c j e (by decide) (by decide)) hV, RA_cong (fun c j e => c0 _ c j e (by decide)) (fun c j e => d0 _ c j e (by decide) (by decide)) (fun c j e => d0 _ c j e (by decide) (by decide)) hA, RF_cong (fun c j e => c0 _ c j e (by decide)) (fun c j e => d0 _ c j e (by decide) (by decide)) (fun c j e => d0 _ c j e (by decide) (by decide)) (fun c j e => d0 _ c j e (by decide) (by decide)) hF⟩
theorem II_0 : II zM0 zM0 := by
  refine ⟨0, 0, 0, 0, by omega, ⟨⟨⟨nI_0.symm, nI_0.symm⟩, ⟨rfl, rfl⟩, ⟨nI_0.symm, nI_0.symm⟩, ⟨nI_0.symm, nI_0.symm⟩, ⟨nI_0.symm, nI_0.symm⟩, ⟨by omega, by omega, by omega, by omega, by omega⟩, 10, by omega, rfl⟩, fun s hs => ⟨Or.inl rfl, fun h => absurd h (by omega)⟩, fun b hb => absurd hb (by omega), fun i hi => absurd hi (by omega), fun t ht => rfl, fun t ht => absurd ht (by omega)⟩, Or.inl ⟨rfl, rfl⟩, Or.inl ⟨rfl, rfl⟩, ⟨0, by omega, nI_0.symm, nI_0.symm, fun j hj => absurd hj (by omega)⟩, Or.inl ⟨rfl, rfl, rfl, rfl⟩⟩
theorem Op_order {C D : zx_Y} (hI : II C D) (x0 : Int32) : ∃ v C' D', g_X10_order C x0 = some (v, C') ∧ g_X11_order D x0 = some (v, D') ∧ II C' D' := by
  obtain ⟨S, N, O, T, hT, hR, hP, hV, hA, hF⟩ := id hI
  obtain ⟨v, C', D', h1, h2⟩ := op_order hR x0
  exact ⟨v, C', D', h1, h2, II_fr (fun h j q => fr_X10_order h1 q) (fun h j q1 q2 => fr_X11_order h2 q2 q1) hI⟩
theorem Op_why {C D : zx_Y} (hI : II C D) (x0 x1 : Int32) : ∃ v w C' D', g_X10_why C x0 x1 = some (v, C') ∧ g_X11_why D x0 x1 = some (w, D') ∧ II C' D' := by
  obtain ⟨S, N, O, T, hT, hR, hP, hV, hA, hF⟩ := id hI
  obtain ⟨v, w, C', D', h1, h2⟩ := op_why hR x0 x1
  exact ⟨v, w, C', D', h1, h2, II_fr (fun h j q => fr_X10_why h1 q) (fun h j q1 q2 => fr_X11_why h2 q2 q1) hI⟩
theorem II_len {C D : zx_Y} (hA : RA C D) : C (14, 0, 0, 0) 1 = D (25, 0, 0, 0) 4 := by
  obtain ⟨L, -, h1, h2, -⟩ := hA
  exact h1.trans h2.symm
theorem lw_feed {M : zx_Y} (hI : II M M) (x0 x1 x2 x3 x4 x5 : Int32) : ∃ v w C' D', g_X10_feed M x0 x1 x2 x3 x4 x5 = some (v, C') ∧ g_X11_feed C' x0 x1 x2 x3 x4 x5 = some (w, D') ∧ II D' D' ∧ (True → v = w) :=
  lw_op hI (gc := fun M => g_X10_feed M x0 x1 x2 x3 x4 x5) (gr := fun M => g_X11_feed M x0 x1 x2 x3 x4 x5) (fun C D h => by
    obtain ⟨v, C', D', h1, h2, h3⟩ := Op_feed h x0 x1 x2 x3 x4 x5
    exact ⟨v, v, C', D', h1, h2, h3, fun _ => rfl⟩) (fun C v C' h c j h1 h2 => by
    have z := zc_hi h1 h2
    exact fr_X10_feed h (by omega)) (fun D v D' h c j h1 => by
    have z := zc_lo (j := j) h1
    exact fr_X11_feed h (by omega) (by omega))
theorem lw_execute {M : zx_Y} (hI : II M M) : ∃ v w C' D', g_X10_execute M  = some (v, C') ∧ g_X11_execute C'  = some (w, D') ∧ II D' D' ∧ (True → v = w) :=
  lw_op hI (gc := fun M => g_X10_execute M ) (gr := fun M => g_X11_execute M ) (fun C D h => by
    obtain ⟨v, C', D', h1, h2, h3⟩ := Op_execute h 
    exact ⟨v, v, C', D', h1, h2, h3, fun _ => rfl⟩) (fun C v C' h c j h1 h2 => by
    have z := zc_hi h1 h2
    exact fr_X10_execute h (by omega) (by omega) (by omega) (by omega) (by omega) (by omega)) (fun D v D' h c j h1 => by
    have z := zc_lo (j := j) h1
    exact fr_X11_execute h (by omega) (by omega) (by omega) (by omega) (by omega) (by omega) (by omega) (by omega) (by omega) (by omega) (by omega) (by omega) (by omega))
theorem lw_relief {M : zx_Y} (hI : II M M) (x0 : Int32) : ∃ v w C' D', g_X10_relief M x0 = some (v, C') ∧ g_X11_relief C' x0 = some (w, D') ∧ II D' D' ∧ (True → v = w) :=
  lw_op hI (gc := fun M => g_X10_relief M x0) (gr := fun M => g_X11_relief M x0) (fun C D h => by
    obtain ⟨v, C', D', h1, h2, h3⟩ := Op_relief h x0
    exact ⟨v, v, C', D', h1, h2, h3, fun _ => rfl⟩) (fun C v C' h c j h1 h2 => by
    have z := zc_hi h1 h2
    exact fr_X10_relief h (by omega)) (fun D v D' h c j h1 => by
    have z := zc_lo (j := j) h1
    exact fr_X11_relief h (by omega))
theorem lw_cancel {M : zx_Y} (hI : II M M) (x0 : Int32) : ∃ v w C' D', g_X10_cancel M x0 = some (v, C') ∧ g_X11_cancel C' x0 = some (w, D') ∧ II D' D' ∧ (True → v = w) :=
  lw_op hI (gc := fun M => g_X10_cancel M x0) (gr := fun M => g_X11_cancel M x0) (fun C D h => by
    obtain ⟨v, C', D', h1, h2, h3⟩ := Op_cancel h x0
    exact ⟨v, v, C', D', h1, h2, h3, fun _ => rfl⟩) (fun C v C' h c j h1 h2 => by
    have z := zc_hi h1 h2
    exact fr_X10_cancel h (by omega)) (fun D v D' h c j h1 => by
    have z := zc_lo (j := j) h1
    exact fr_X11_cancel h (by omega))
theorem lw_lift {M : zx_Y} (hI : II M M) (x0 : Int32) : ∃ v w C' D', g_X10_lift M x0 = some (v, C') ∧ g_X11_lift C' x0 = some (w, D') ∧ II D' D' ∧ (True → v = w) :=
  lw_op hI (gc := fun M => g_X10_lift M x0) (gr := fun M => g_X11_lift M x0) (fun C D h => by
    obtain ⟨v, C', D', h1, h2, h3⟩ := Op_lift h x0
    exact ⟨v, v, C', D', h1, h2, h3, fun _ => rfl⟩) (fun C v C' h c j h1 h2 => by
    have z := zc_hi h1 h2
    exact fr_X10_lift h (by omega)) (fun D v D' h c j h1 => by
    have z := zc_lo (j := j) h1
    exact fr_X11_lift h (by omega))
theorem lw_pass {M : zx_Y} (hI : II M M) (x0 : Int32) : ∃ v w C' D', g_X10_pass M x0 = some (v, C') ∧ g_X11_pass C' x0 = some (w, D') ∧ II D' D' ∧ (True → v = w) :=
  lw_op hI (gc := fun M => g_X10_pass M x0) (gr := fun M => g_X11_pass M x0) (fun C D h => by
    obtain ⟨v, C', D', h1, h2, h3⟩ := Op_pass h x0
    exact ⟨v, v, C', D', h1, h2, h3, fun _ => rfl⟩) (fun C v C' h c j h1 h2 => by
    have z := zc_hi h1 h2
    exact fr_X10_pass h (by omega) (by omega)) (fun D v D' h c j h1 => by
    have z := zc_lo (j := j) h1
    exact fr_X11_pass h (by omega) (by omega) (by omega))
theorem lw_order {M : zx_Y} (hI : II M M) (x0 : Int32) : ∃ v w C' D', g_X10_order M x0 = some (v, C') ∧ g_X11_order C' x0 = some (w, D') ∧ II D' D' ∧ (True → v = w) :=
  lw_op hI (gc := fun M => g_X10_order M x0) (gr := fun M => g_X11_order M x0) (fun C D h => by
    obtain ⟨v, C', D', h1, h2, h3⟩ := Op_order h x0
    exact ⟨v, v, C', D', h1, h2, h3, fun _ => rfl⟩) (fun C v C' h c j h1 h2 => by
    have z := zc_hi h1 h2
    exact fr_X10_order h (by omega)) (fun D v D' h c j h1 => by
    have z := zc_lo (j := j) h1
    exact fr_X11_order h (by omega) (by omega))
theorem lw_plan {M : zx_Y} (hI : II M M) (x0 : Int32) : ∃ v w C' D', g_X10_plan M x0 = some (v, C') ∧ g_X11_plan C' x0 = some (w, D') ∧ II D' D' ∧ (True → v = w) :=
  lw_op hI (gc := fun M => g_X10_plan M x0) (gr := fun M => g_X11_plan M x0) (fun C D h => by
    obtain ⟨v, C', D', h1, h2, h3⟩ := Op_plan h x0
    exact ⟨v, v, C', D', h1, h2, h3, fun _ => rfl⟩) (fun C v C' h c j h1 h2 => by
    have z := zc_hi h1 h2
    exact fr_X10_plan h (by omega) (by omega) (by omega)) (fun D v D' h c j h1 => by
    have z := zc_lo (j := j) h1
    exact fr_X11_plan h (by omega) (by omega) (by omega) (by omega))
theorem lw_ahead {M : zx_Y} (hI : II M M) (x0 x1 : Int32) : ∃ v w C' D', g_X10_ahead M x0 x1 = some (v, C') ∧ g_X11_ahead C' x0 x1 = some (w, D') ∧ II D' D' ∧ (True → v = w) :=
  lw_op hI (gc := fun M => g_X10_ahead M x0 x1) (gr := fun M => g_X11_ahead M x0 x1) (fun C D h => by
    obtain ⟨v, C', D', h1, h2, h3⟩ := Op_ahead h x0 x1
    exact ⟨v, v, C', D', h1, h2, h3, fun _ => rfl⟩) (fun C v C' h c j h1 h2 => by
    have z := zc_hi h1 h2
    exact fr_X10_ahead h (by omega) (by omega)) (fun D v D' h c j h1 => by
    have z := zc_lo (j := j) h1
    exact fr_X11_ahead h (by omega) (by omega) (by omega) (by omega))
theorem lw_image {M : zx_Y} (hI : II M M) : ∃ v w C' D', g_X10_image M  = some (v, C') ∧ g_X11_image C'  = some (w, D') ∧ II D' D' ∧ (True → v = w) :=
  lw_op hI (gc := fun M => g_X10_image M ) (gr := fun M => g_X11_image M ) (fun C D h => by
    obtain ⟨v, C', D', h1, h2, h3⟩ := Op_image h 
    exact ⟨v, v, C', D', h1, h2, h3, fun _ => rfl⟩) (fun C v C' h c j h1 h2 => by
    have z := zc_hi h1 h2
    exact fr_X10_image h (by omega) (by omega)) (fun D v D' h c j h1 => by
    have z := zc_lo (j := j) h1
    exact fr_X11_image h (by omega) (by omega))
theorem lw_undo {M : zx_Y} (hI : II M M) : ∃ v w C' D', g_X10_undo M  = some (v, C') ∧ g_X11_undo C'  = some (w, D') ∧ II D' D' ∧ (True → v = w) :=
  lw_op hI (gc := fun M => g_X10_undo M ) (gr := fun M => g_X11_undo M ) (fun C D h => by
    obtain ⟨v, C', D', h1, h2, h3⟩ := Op_undo h 
    exact ⟨v, v, C', D', h1, h2, h3, fun _ => rfl⟩) (fun C v C' h c j h1 h2 => by
    have z := zc_hi h1 h2
    exact fr_X10_undo h (by omega) (by omega)) (fun D v D' h c j h1 => by
    have z := zc_lo (j := j) h1
    exact fr_X11_undo h (by omega))
theorem lw_why {M : zx_Y} (hI : II M M) (x0 x1 : Int32) : ∃ v w C' D', g_X10_why M x0 x1 = some (v, C') ∧ g_X11_why C' x0 x1 = some (w, D') ∧ II D' D' ∧ (False → v = w) :=
  lw_op hI (gc := fun M => g_X10_why M x0 x1) (gr := fun M => g_X11_why M x0 x1) (fun C D h => by
    obtain ⟨v, w, C', D', h1, h2, h3⟩ := Op_why h x0 x1
    exact ⟨v, w, C', D', h1, h2, h3, fun z => absurd z id⟩) (fun C v C' h c j h1 h2 => by
    have z := zc_hi h1 h2
    exact fr_X10_why h (by omega)) (fun D v D' h c j h1 => by
    have z := zc_lo (j := j) h1
    exact fr_X11_why h (by omega) (by omega))
theorem lw_refusal {M : zx_Y} (hI : II M M) (x0 : Int32) : ∃ v w C' D', g_X10_refusal M x0 = some v ∧ C' = M ∧ g_X11_refusal C' x0 = some w ∧ D' = C' ∧ II D' D' ∧ (True → v = w) := by
  obtain ⟨S, N, O, T, hT, hR, hP, hV, hA, hF⟩ := id hI
  obtain ⟨v, h1, h2⟩ := op_refusal hF x0
  exact ⟨v, v, M, M, h1, rfl, h2, rfl, hI, fun _ => rfl⟩
theorem lw_train {M : zx_Y} (hI : II M M) (x0 x1 : Int32) : ∃ v w C' D', g_X10_train M x0 x1 = some v ∧ C' = M ∧ g_X11_train C' x0 x1 = some w ∧ D' = C' ∧ II D' D' ∧ (False → v = w) := by
  obtain ⟨S, N, O, T, hT, hR, hP, hV, hA, hF⟩ := id hI
  obtain ⟨v, w, h1, h2, -⟩ := op_train hR x0 x1
  exact ⟨v, w, M, M, h1, rfl, h2, rfl, hI, fun z => absurd z id⟩
theorem lw_station {M : zx_Y} (hI : II M M) (x0 x1 : Int32) : ∃ v w C' D', g_X10_station M x0 x1 = some v ∧ C' = M ∧ g_X11_station C' x0 x1 = some w ∧ D' = C' ∧ II D' D' ∧ (True → v = w) := by
  obtain ⟨S, N, O, T, hT, hR, hP, hV, hA, hF⟩ := id hI
  obtain ⟨v, h1, h2⟩ := op_station hR x0 x1
  exact ⟨v, v, M, M, h1, rfl, h2, rfl, hI, fun _ => rfl⟩
theorem lw_block {M : zx_Y} (hI : II M M) (x0 x1 : Int32) : ∃ v w C' D', g_X10_block M x0 x1 = some v ∧ C' = M ∧ g_X11_block C' x0 x1 = some w ∧ D' = C' ∧ II D' D' ∧ (True → v = w) := by
  obtain ⟨S, N, O, T, hT, hR, hP, hV, hA, hF⟩ := id hI
  obtain ⟨v, h1, h2⟩ := op_block hR x0 x1
  exact ⟨v, v, M, M, h1, rfl, h2, rfl, hI, fun _ => rfl⟩
theorem lw_held {M : zx_Y} (hI : II M M) (x0 x1 : Int32) : ∃ v w C' D', g_X10_held M x0 x1 = some v ∧ C' = M ∧ g_X11_held C' x0 x1 = some w ∧ D' = C' ∧ II D' D' ∧ (True → v = w) := by
  obtain ⟨S, N, O, T, hT, hR, hP, hV, hA, hF⟩ := id hI
  obtain ⟨v, h1, h2⟩ := op_held hR x0 x1
  exact ⟨v, v, M, M, h1, rfl, h2, rfl, hI, fun _ => rfl⟩
theorem lw_timetable {M : zx_Y} (hI : II M M) (x0 x1 x2 : Int32) : ∃ v w C' D', g_X10_timetable M x0 x1 x2 = some v ∧ C' = M ∧ g_X11_timetable C' x0 x1 x2 = some w ∧ D' = C' ∧ II D' D' ∧ (True → v = w) := by
  obtain ⟨S, N, O, T, hT, hR, hP, hV, hA, hF⟩ := id hI
  obtain ⟨v, h1, h2⟩ := op_timetable hR hP x0 x1 x2
  exact ⟨v, v, M, M, h1, rfl, h2, rfl, hI, fun _ => rfl⟩
theorem lw_drift {M : zx_Y} (hI : II M M) : ∃ v w C' D', g_X10_drift M  = some v ∧ C' = M ∧ g_X11_drift C'  = some w ∧ D' = C' ∧ II D' D' ∧ (True → v = w) := by
  obtain ⟨S, N, O, T, hT, hR, hP, hV, hA, hF⟩ := id hI
  obtain ⟨v, h1, h2⟩ := op_drift hR hP
  exact ⟨v, v, M, M, h1, rfl, h2, rfl, hI, fun _ => rfl⟩
theorem lw_conflicts {M : zx_Y} (hI : II M M) : ∃ v w C' D', g_X10_conflicts M  = some v ∧ C' = M ∧ g_X11_conflicts C'  = some w ∧ D' = C' ∧ II D' D' ∧ (True → v = w) := by
  obtain ⟨S, N, O, T, hT, hR, hP, hV, hA, hF⟩ := id hI
  obtain ⟨v, h1, h2⟩ := cfl_pair hR
  exact ⟨v, v, M, M, h1, rfl, h2, rfl, hI, fun _ => rfl⟩
theorem lw_account {M : zx_Y} (hI : II M M) (x0 x1 : Int32) : ∃ v w C' D', g_X10_account M x0 x1 = some v ∧ C' = M ∧ g_X11_account_ C' x0 x1 = some w ∧ D' = C' ∧ II D' D' ∧ (True → v = w) := by
  obtain ⟨S, N, O, T, hT, hR, hP, hV, hA, hF⟩ := id hI
  obtain ⟨v, h1, h2⟩ := op_account hR x0 x1
  exact ⟨v, v, M, M, h1, rfl, h2, rfl, hI, fun _ => rfl⟩
theorem lw_count {M : zx_Y} (hI : II M M) (x0 : Int32) : ∃ v w C' D', g_X10_count M x0 = some v ∧ C' = M ∧ g_X11_count C' x0 = some w ∧ D' = C' ∧ II D' D' ∧ (True → v = w) := by
  obtain ⟨S, N, O, T, hT, hR, hP, hV, hA, hF⟩ := id hI
  obtain ⟨v, h1, h2⟩ := op_count hR (II_len hA) x0
  exact ⟨v, v, M, M, h1, rfl, h2, rfl, hI, fun _ => rfl⟩
