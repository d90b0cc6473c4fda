section ZZ
variable {p : Program} {l : Launch} {e : Env} {R : Room} {s : State} {m : MethodId} {args : Array Value} {below : List Frame} {meth : Method} {c : Code} {H : Heap} {locs : List Loc} {Q : State → Prop}
variable {D : va_G} {dA : Nat → ClassId} {b base c0 nL : Nat} {X : zx_X} {own : String} {ini : Bool} {by_ : ByteArray} {ls : zx_L} {st : List zx_V} {μ : zx_M} {L : Array Slot}
theorem zx_i0 {x : Int32} (h : 0 ≤ x) : ¬ x < 0 := Int32.not_lt.mpr h
theorem zx_cats (b base : Nat) : ∀ st : List zx_V, ((st.map (zx_cv b base)).map fun v => v.category).sum = st.length
  | [] => rfl
  | v :: st => by
    rw [List.map_cons, List.map_cons, List.sum_cons, zx_cats b base st, zx_cv_cat, List.length_cons]
    omega
theorem zx_cp_d (m : zx_F) (s d : zx_H) (sp dp n : Nat) : zx_cp m s d sp dp n d = fun j => if dp ≤ j ∧ j < dp + n then m s (sp + (j - dp)) else m d j := by
  funext j
  simp [zx_cp]
theorem zx_cp_o (m : zx_F) (s d : zx_H) (sp dp n : Nat) {h' : zx_H} (hh : h' ≠ d) : zx_cp m s d sp dp n h' = m h' := by
  funext j
  simp [zx_cp, hh]
/-- System.arraycopy of ints -/
theorem zx_s_copy {pc k : Nat} {q d : zx_H} {n dp sp : Int32} (F : zx_Fx p s m args meth c D dA b base X own ini by_ nL) (J : zx_J D dA b base s c0 nL ls (.inl n :: .inl dp :: .inr (some d) :: .inl sp :: .inr (some q) :: st) μ H locs L)
    (hn : 0 ≤ n) (hd : 0 ≤ dp) (hs : 0 ≤ sp) (q1 : (zx_kd q.1).1 = 2) (q2 : (zx_kd q.1).2.1 = 0) (q3 : sp.toNatClampNeg + n.toNatClampNeg ≤ (zx_kd q.1).2.2) (d1 : (zx_kd d.1).1 = 2) (d2 : (zx_kd d.1).2.1 = 0) (d3 : dp.toNatClampNeg + n.toNatClampNeg ≤ (zx_kd d.1).2.2)
    (w1 : Cond.methodLink own k arraycopyName ∈ zx_U) (w2 : Cond.native arraycopyName ∈ zx_U) (w3 : Cond.static arraycopyName ∈ zx_U) (w4 : Cond.initialized "java/lang/System" ∈ zx_U) (hdg : decode by_ pc = .ok (.invokestatic k, 3))
    (hfr : 1 ≤ R.frames) (hlo : st.length + 24 ≤ R.locals)
    (kk : zx_Kt p l e R s m args below meth c Q D dA b base c0 nL (pc + 3, ls, st, (zx_cp μ.1 q d sp.toNatClampNeg dp.toNatClampNeg n.toNatClampNeg, μ.2))) : zx_Go p l e R s m args below meth c Q b base c0 H locs L pc (.inl n :: .inl dp :: .inr (some d) :: .inl sp :: .inr (some q) :: st) μ.2 := by
  obtain ⟨hx, hb, hml, hown, hts, hE, hK, hX, hbb, hbs, hi⟩ := F
  have hod : zx_ok μ.2 d := zx_ok_kd (zx_hd (zx_tl (zx_tl J.2.2.2.2.2.2.2))) (by omega)
  have hoq : zx_ok μ.2 q := zx_ok_kd (zx_hd (zx_tl (zx_tl (zx_tl (zx_tl J.2.2.2.2.2.2.2))))) (by omega)
  have hn3 := J.2.1.1
  have hc0 := J.1.get hoq
  have hc1 := J.1.get hod
  rw [zx_ce2 q1 q2] at hc0
  rw [zx_ce2 d1 d2] at hc1
  have hA := hK.2 0 _ (zx_tys_at (dA := dA) (t := 0) (by omega))
  generalize hf : (fun j => zx_vi (μ.1 q j)) = f at hc0
  generalize hg : (fun j => zx_vi (μ.1 d j)) = g at hc1
  generalize hn0 : (zx_kd q.1).2.2 = n0 at q3 hc0
  have hc0 : H[base + zx_inv q]? = some (vp_cell (dA 0) (n0, .inl f)) := hc0
  have hc1 : H[base + zx_inv d]? = some (vp_cell (dA 0) ((zx_kd d.1).2.2, .inl g)) := hc1
  have nn : ∀ z : Int32, 0 ≤ z → z.toInt = (z.toNatClampNeg : Int) := by
    intro z hz
    have hz0 : (0 : Int) ≤ z.toInt := by simpa using Int32.le_iff_toInt_le.mp hz
    show z.toInt = ((z.toInt.toNat : Nat) : Int)
    omega
  have hnat : nativeFrameWords "java/lang/System" "arraycopy" 5 ≤ 13 := by decide +kernel
  unfold zx_Go
  show W p l e R s m args below meth c H locs _ _ Q (F0 m pc L (.int n :: .int dp :: .ref (zx_ad b base d) :: .int sp :: .ref (zx_ad b base q) :: st.map (zx_cv b base)))
  rw [zx_ad_ok hn3 hod, zx_ad_ok hn3 hoq]
  intro T hT Xs
  obtain ⟨-, k0, hk0, cm0, hkk0⟩ := hA.1 n0 (fun j => .int (f j))
  obtain ⟨-, k1, hk1, cm1, hkk1⟩ := hA.1 (zx_kd d.1).2.2 (fun j => .int (g j))
  obtain ⟨vm', X', step⟩ := Xs.arraycopy hx hown (hts _ w1) (hts _ w2) (hts _ w3) (hts _ w4) (src := base + zx_inv q) (dst := base + zx_inv d) (cs := vp_cell (dA 0) (n0, .inl f)) (cd := vp_cell (dA 0) ((zx_kd d.1).2.2, .inl g)) (srcPos := sp) (destPos := dp) (n := n) (by rw [hT]; exact hc0) (by rw [hT]; exact hc1)
    (fun _ h => by cases h) (fun _ h => by cases h) (fun h => by cases h) (fun h => by cases h) hk0 hk1 hkk0 hkk1 (by simp [refKind, zx_aty]) (zx_i0 hs) (zx_i0 hd) (zx_i0 hn)
    (by rw [nn sp hs, nn n hn]; show ¬ _ > ((arrV (dA 0) n0 (fun j => .int (f j))).slots.size : Int); rw [arrV_size]; omega)
    (by rw [nn dp hd, nn n hn]; show ¬ _ > ((arrV (dA 0) (zx_kd d.1).2.2 (fun j => .int (g j))).slots.size : Int); rw [arrV_size]; omega)
    (fun vm₁ _ i hi => by
      have e : (vp_cell (dA 0) (n0, .inl f)).slots.getD (sp.toNatClampNeg + i) .null = .int (f (sp.toNatClampNeg + i)) := by
        show (arrV (dA 0) n0 (fun j => .int (f j))).slots.getD _ _ = _
        rw [Array.getD_eq_getD_getElem?, arrV_read _ _ (by omega)]
        rfl
      refine ⟨?_, ?_⟩
      · rw [e]
        rfl
      · rw [e]
        exact trivial)
    (g := F0 m pc L (.int n :: .int dp :: .ref (base + zx_inv d) :: .int sp :: .ref (base + zx_inv q) :: st.map (zx_cv b base))) rfl (by show L.size = _; rw [J.2.2.2.2.2.1.2.1, hml]) (rest := st.map (zx_cv b base)) rfl (by rw [hb]; exact hdg) hfr (by rw [zx_cats]; show 2 * 0 + _ + _ ≤ _; omega)
  have e1 : copied (vp_cell (dA 0) (n0, .inl f)) (vp_cell (dA 0) ((zx_kd d.1).2.2, .inl g)) sp dp n = vp_cell (dA 0) ((zx_kd d.1).2.2, .inl (va_cpy f g sp.toNatClampNeg dp.toNatClampNeg n.toNatClampNeg)) := va_copied (fun z => .int z) (dA 0) (dA 0) f g q3
  rw [e1] at X' step
  have hl : base + zx_inv d < H.size := (Array.getElem?_eq_some_iff.mp hc1).1
  have hheap : ((T.setVm vm').setCell (base + zx_inv d) (vp_cell (dA 0) ((zx_kd d.1).2.2, .inl (va_cpy f g sp.toNatClampNeg dp.toNatClampNeg n.toNatClampNeg)))).heap = H.setIfInBounds (base + zx_inv d) (vp_cell (dA 0) ((zx_kd d.1).2.2, .inl (va_cpy f g sp.toNatClampNeg dp.toNatClampNeg n.toNatClampNeg))) := by rw [← hT]; rfl
  have oq : ∀ z : Nat, z ≠ base + zx_inv d → (H.setIfInBounds (base + zx_inv d) (vp_cell (dA 0) ((zx_kd d.1).2.2, .inl (va_cpy f g sp.toNatClampNeg dp.toNatClampNeg n.toNatClampNeg))))[z]? = H[z]? := fun z hz => by simp [Array.getElem?_setIfInBounds, Ne.symm hz]
  have hJ : ∀ Lc : List Loc, (∀ z ∈ Lc, base ≤ z.base) → zx_J D dA b base s c0 nL ls st (zx_cp μ.1 q d sp.toNatClampNeg dp.toNatClampNeg n.toNatClampNeg, μ.2) (H.setIfInBounds (base + zx_inv d) (vp_cell (dA 0) ((zx_kd d.1).2.2, .inl (va_cpy f g sp.toNatClampNeg dp.toNatClampNeg n.toNatClampNeg)))) (locs ++ Lc) L := by
    intro Lc hLc
    refine ⟨J.1.set hn3 hod (by simp) oq ?_ (fun h' hh => zx_cp_o _ _ _ _ _ _ hh), ⟨hn3, fun k hk j hj => ?_⟩, J.2.2.1, fun z hz => (oq z (by omega)).trans (J.2.2.2.1 z hz), fun z hz => ?_, J.2.2.2.2.2.1, J.2.2.2.2.2.2.1, zx_tl (zx_tl (zx_tl (zx_tl (zx_tl J.2.2.2.2.2.2.2))))⟩
    · rw [zx_ce2 d1 d2, zx_cp_d]
      show (H.setIfInBounds _ _)[_]? = some (vp_cell _ _)
      rw [vp_cell_i, vp_cell_i, ← hf, ← hg]
      simp only [Array.getElem?_setIfInBounds, hl, if_true]
      refine congrArg some (congrArg (arrV _ _) (funext fun j => ?_))
      simp only [va_cpy]
      split <;> rfl
    · show zx_vk μ.2 _ (zx_cp μ.1 q d _ _ _ (zx_seq k) j)
      by_cases hkd : zx_seq k = d
      · rw [hkd, zx_cp_d]
        rw [hkd] at hj
        dsimp only
        split
        · rename_i hj2
          have h9 := J.2.1.at hoq (j := sp.toNatClampNeg + (j - dp.toNatClampNeg)) (by rw [hn0]; omega)
          rw [zx_ir20 q1 q2] at h9
          rw [zx_ir20 d1 d2]
          exact h9
        · exact J.2.1.at hod hj
      · rw [zx_cp_o _ _ _ _ _ _ hkd]
        exact J.2.1.2 k hk j hj
    · rcases List.mem_append.mp hz with h | h
      · exact J.2.2.2.2.1 z h
      · exact hLc z h
  have hk := fun (Lc : List Loc) (hLc : ∀ z ∈ Lc, base ≤ z.base) => kk _ _ L (hJ Lc hLc)
  obtain ⟨t, a1, b1⟩ := hk _ (fun z hz => by
    obtain ⟨i, -, hi⟩ := List.mem_map.mp hz
    rw [← hi]
    exact Nat.le_add_right _ _) _ hheap X'
  exact ⟨t, step t a1, b1⟩
end ZZ
