theorem vr_outer_zx (c : ClassId) (N h0 : Nat) : ∀ i : Nat, Jvm.Free.Multi.outerC c N h0 i = arrV c N (fun j => va_rf (if j < i then some (h0 + 1 + j) else none))
  | 0 => by
    show ({ cls := c, slots := Array.replicate N .null, vm := .none } : Cell) = _
    rw [arrV_new]
    refine congrArg (arrV c N) (funext fun j => ?_)
    simp [va_rf]
  | i + 1 => by
    show (Jvm.Free.Multi.outerC c N h0 i).setSlot i (.ref (h0 + 1 + i)) = _
    rw [vr_outer_zx c N h0 i, arrV_store]
    refine congrArg (arrV c N) (funext fun j => ?_)
    by_cases e : j = i
    · subst e
      simp [updV, va_rf]
    · by_cases h : j < i
      · simp [updV, e, h, Nat.lt_succ_of_lt h]
      · simp [updV, e, h, show ¬ j < i + 1 by omega]
section ZY
variable {p : Program} {l : Launch} {e : Env} {R : Room} {s : State} {m : MethodId} {args : Array Value} {below : List Frame} {meth : Method} {c : Code} {H : Heap} {locs : List Loc} {Q : State → Prop}
variable {D : va_G} {dA : Nat → ClassId} {b base c0 nL : Nat} {X : zx_X} {own : String} {ini : Bool} {by_ : ByteArray} {ls : zx_L} {st : List zx_V} {μ : zx_M} {L : Array Slot}
theorem zx_kd_big (k : Nat) (h : (zx_kd (zx_seq k).1).1 ≠ 0) : k < 308 := by
  rcases Nat.lt_or_ge k 308 with q | q
  · exact q
  · refine absurd ?_ h
    obtain ⟨j, rfl⟩ : ∃ j, k = j + 308 := ⟨k - 308, by omega⟩
    have : zx_seq (j + 308) = (j + 33, 0, 0, 0) := by
      unfold zx_seq
      rw [if_neg (by omega), if_neg (by omega), if_neg (by omega), if_neg (by omega), if_neg (by omega), if_neg (by omega), if_neg (by omega), if_neg (by omega), show j + 308 - 300 + 25 = j + 33 by omega]
    rw [this]
    rfl
theorem zx_ss_mono {a b : Nat} (h : a ≤ b) : zx_ss a ≤ zx_ss b := by
  induction b with
  | zero => rw [Nat.le_zero.mp h]; exact Nat.le_refl _
  | succ b ih =>
    rcases Nat.lt_or_ge a (b + 1) with q | q
    · exact Nat.le_trans (ih (by omega)) (Nat.le_add_right _ _)
    · rw [show a = b + 1 by omega]; exact Nat.le_refl _
/-- new cells behind the others -/
theorem zx_J.grow (J : zx_J D dA b base s c0 nL ls st μ H locs L) {m' : zx_F} {n : Nat} {H1 : Heap} {st' : List zx_V} (hn : μ.2 + n ≤ 308) (hsz : H1.size = H.size + n) (hold : ∀ q, q < H.size → H1[q]? = H[q]?)
    (hm : ∀ k, k < μ.2 → m' (zx_seq k) = μ.1 (zx_seq k)) (hnew : ∀ k, μ.2 ≤ k → k < μ.2 + n → va_at D vwCl (base + k, zx_ce dA b base (zx_seq k) (m' (zx_seq k))) H1 ∧ ∀ j, j < (zx_kd (zx_seq k).1).2.2 → zx_vk (μ.2 + n) (zx_ir (zx_seq k).1 j) (m' (zx_seq k) j))
    (hs : ∀ v ∈ st', zx_okv (μ.2 + n) v) : zx_J D dA b base s c0 nL ls st' (m', μ.2 + n) H1 locs L := by
  obtain ⟨hR, hG, hc, hlow, hlo, hlc, hlv, hst⟩ := J
  refine ⟨⟨by rw [hsz, hR.1]; exact Nat.add_assoc _ _ _, fun k hk => ?_⟩, ⟨hn, fun k hk j hj => ?_⟩, Nat.le_trans hc (Nat.le_add_right _ _), fun q hq => (hold q (by rw [hR.1]; omega)).trans (hlow q hq), hlo, hlc, fun v hv => zx_okv_up (hlv v hv) (Nat.le_add_right _ _), hs⟩
  · rcases Nat.lt_or_ge k μ.2 with q | q
    · show va_at D vwCl (base + k, zx_ce dA b base (zx_seq k) (m' (zx_seq k))) H1
      rw [hm k q]
      exact (hR.2 k q).kept (hold _ (by show base + k < _; rw [hR.1]; omega))
    · exact (hnew k q hk).1
  · rcases Nat.lt_or_ge k μ.2 with q | q
    · show zx_vk (μ.2 + n) _ (m' (zx_seq k) j)
      rw [hm k q]
      exact zx_vk_up (hG.2 k q j hj) (Nat.le_add_right _ _)
    · exact (hnew k q hk).2 j hj
theorem zx_seq_ne {i j : Nat} (hi : i < 308) (hj : j < 308) (h : i ≠ j) : zx_seq i ≠ zx_seq j := fun q => h (by rw [← zx_is i hi, ← zx_is j hj, q])
theorem zx_df_vk (n k j : Nat) : zx_vk n (zx_ir k j) (zx_df k j) := by
  unfold zx_df
  by_cases h : zx_ir k j = true
  · rw [if_pos h, h]
    exact ⟨rfl, fun _ e => by cases e⟩
  · rw [if_neg h]
    have h2 : zx_ir k j = false := by simpa using h
    rw [h2]
    exact ⟨rfl, fun _ e => by cases e⟩
theorem zx_nw_h (m : zx_F) (h : zx_H) : zx_nw m h h = zx_df h.1 := by
  funext j
  simp [zx_nw]
theorem zx_nw_o (m : zx_F) (h : zx_H) {h' : zx_H} (hh : h' ≠ h) : zx_nw m h h' = m h' := by
  funext j
  simp [zx_nw, hh]
/-- one new cell -/
theorem zx_J.new1 (J : zx_J D dA b base s c0 nL ls st μ H locs L) {H1 : Heap} {st' : List zx_V} (hk : (zx_kd (zx_seq μ.2).1).1 ≠ 0) (hsz : H1.size = H.size + 1) (hold : ∀ q, q < H.size → H1[q]? = H[q]?)
    (hat : va_at D vwCl (base + μ.2, zx_ce dA b base (zx_seq μ.2) (zx_df (zx_seq μ.2).1)) H1) (hs : ∀ v ∈ st', zx_okv μ.2 v) : zx_J D dA b base s c0 nL ls (.inr (some (zx_seq μ.2)) :: st') (zx_nw μ.1 (zx_seq μ.2), μ.2 + 1) H1 locs L := by
  have hb := zx_kd_big _ hk
  refine J.grow (by omega) hsz hold (fun k hk => zx_nw_o _ _ (zx_seq_ne (by omega) hb (by omega))) (fun k h1 h2 => ?_) (zx_mem_cons (zx_okv_h (zx_ok_seq (by omega) (by omega))) fun v hv => zx_okv_up (hs v hv) (by omega))
  have e : k = μ.2 := by omega
  subst e
  rw [zx_nw_h]
  exact ⟨hat, fun j hj => zx_df_vk _ _ _⟩
/-- new -/
theorem zx_s_new {pc k fa : Nat} (F : zx_Fx p s m args meth c D dA b base X own ini by_ nL) (J : zx_J D dA b base s c0 nL ls st μ H locs L)
    (h1 : (zx_kd (zx_seq μ.2).1).1 = 1) (h2 : (zx_kd (zx_seq μ.2).1).2.1 = fa) (w1 : Cond.classLink own k (zx_R fa) ∈ zx_U) (w2 : Cond.instantiable (zx_R fa) (zx_cs fa).2.2 ∈ zx_U) (w3 : Cond.initialized (zx_R fa) ∈ zx_U) (hdg : decode by_ pc = .ok (.new k, 3))
    (hrc : μ.2 + 1 - c0 ≤ R.cells) (hrs : zx_ss (μ.2 + 1) - zx_ss c0 ≤ R.slots)
    (kk : zx_Kt p l e R s m args below meth c Q D dA b base c0 nL (pc + 3, ls, .inr (some (zx_seq μ.2)) :: st, (zx_nw μ.1 (zx_seq μ.2), μ.2 + 1))) : zx_Go p l e R s m args below meth c Q b base c0 H locs L pc st μ.2 := by
  obtain ⟨hx, hb, hml, hown, hts, hE, hK, hX, hbb, hbs, hi⟩ := F
  have hbig := zx_kd_big μ.2 (by omega)
  obtain ⟨hc, hN⟩ := zx_sc _ hbig h1
  subst h2
  have hss := zx_ss_mono J.2.2.1
  have hcc := J.2.2.1
  have e1 : zx_ss (μ.2 + 1) = zx_ss μ.2 + (zx_kd (zx_seq μ.2).1).2.2 := rfl
  have hcl := zx_cs_at _ hc
  have hKn := hK.1 _ _ hcl
  unfold zx_Go
  refine W.newcK hx hb hown (hts _ w1) (hts _ w2) (hts _ w3) rfl hdg (by omega) (by rw [hN]; omega) hKn.2.1 rfl fun H1 kC hkC e1' z1 o1 => ?_
  have hat : va_at D vwCl (base + μ.2, zx_ce dA b base (zx_seq μ.2) (zx_df (zx_seq μ.2).1)) H1 := by
    rw [zx_ce1 h1]
    refine ⟨_, hcl, ?_⟩
    rw [← J.1.1]
    refine (u_born _ hts (zx_lay_in _ hc) hKn hkC e1' (zx_tf_ok _ hc)).to (fun j hj => ?_)
    have hj' : j < (zx_kd (zx_seq μ.2).1).2.2 := by rw [← hN]; exact hj
    simp only [vp_V, List.getD_eq_getElem?_getD, zx_rg _ hj', Option.getD_some]
    have hir : zx_ir (zx_seq μ.2).1 j = (zx_rs (zx_kd (zx_seq μ.2).1).2.1).contains j := by
      unfold zx_ir
      rcases hq : zx_kd (zx_seq μ.2).1 with ⟨q1, q2, q3⟩
      rw [hq] at h1
      subst h1
      rfl
    unfold zx_df
    rw [hir]
    rcases zx_tf_r _ hc j hj with ⟨q, q2⟩ | ⟨q, q2⟩
    · rw [q2, if_neg (by decide)]
      rcases q with q | ⟨q, -⟩ <;> rw [q] <;> rfl
    · rw [q2, if_pos rfl]
      rcases hty : zx_tf (zx_kd (zx_seq μ.2).1).2.1 j <;> rw [hty] at q <;> first | (cases q; done) | rfl
  have hk := kk H1 locs L (J.new1 (by omega) z1 o1 hat J.2.2.2.2.2.2.2)
  unfold zx_Go at hk
  have ha : zx_cv b base (.inr (some (zx_seq μ.2))) = .ref H.size := by
    show Value.ref (zx_ad b base (zx_seq μ.2)) = _
    rw [zx_ad_ok (n := μ.2 + 1) (by omega) (zx_ok_seq (by omega) (by omega)), zx_is _ hbig, J.1.1]
  rw [List.map_cons, ha] at hk
  refine W.cs ?_ ?_ hk
  · show μ.2 - c0 + 1 = μ.2 + 1 - c0
    omega
  · show _ = zx_ss (μ.2 + 1) - zx_ss c0
    rw [hN]
    omega
theorem zx_nI_cl {n : Nat} (h : n < 2 ^ 31) : (Int32.ofNat n).toNatClampNeg = n := nI_clamp h
theorem zx_len_lt (k : Nat) : (zx_kd k).2.2 ≤ 640 := by
  unfold zx_kd
  split <;> first | decide | (dsimp only; omega)
/-- newarray of ints -/
theorem zx_s_newa {pc : Nat} {n : Int32} (F : zx_Fx p s m args meth c D dA b base X own ini by_ nL) (J : zx_J D dA b base s c0 nL ls (.inl n :: st) μ H locs L)
    (h1 : (zx_kd (zx_seq μ.2).1).1 = 2) (h2 : (zx_kd (zx_seq μ.2).1).2.1 = 0) (h3 : n = Int32.ofNat (zx_kd (zx_seq μ.2).1).2.2) (w1 : Cond.arrayClass .int ∈ zx_U) (hdg : decode by_ pc = .ok (.newarray .int, 2))
    (hrc : μ.2 + 1 - c0 ≤ R.cells) (hrs : zx_ss (μ.2 + 1) - zx_ss c0 ≤ R.slots)
    (kk : zx_Kt p l e R s m args below meth c Q D dA b base c0 nL (pc + 2, ls, .inr (some (zx_seq μ.2)) :: st, (zx_nw μ.1 (zx_seq μ.2), μ.2 + 1))) : zx_Go p l e R s m args below meth c Q b base c0 H locs L pc (.inl n :: st) μ.2 := by
  obtain ⟨hx, hb, hml, hown, hts, hE, hK, hX, hbb, hbs, hi⟩ := F
  have hbig := zx_kd_big μ.2 (by omega)
  have hss := zx_ss_mono J.2.2.1
  have hcc := J.2.2.1
  have hlen := zx_len_lt (zx_seq μ.2).1
  have e1 : zx_ss (μ.2 + 1) = zx_ss μ.2 + (zx_kd (zx_seq μ.2).1).2.2 := rfl
  have hn0 : ¬ n < 0 := by rw [h3]; exact nI_pos (by omega)
  have hnc : n.toNatClampNeg = (zx_kd (zx_seq μ.2).1).2.2 := by rw [h3]; exact zx_nI_cl (by omega)
  unfold zx_Go
  show W p l e R s m args below meth c H locs _ _ Q (F0 m pc L (.int n :: st.map (zx_cv b base)))
  refine va_newaK (atype := .int) hx hb (hts _ w1) rfl hdg rfl hn0 hnc (by have : componentBytes (newarray.typeOf .int) = 4 := rfl; rw [this]; omega) (by omega) (by omega) rfl fun H1 cA g1 z1 o1 hAr hNm => ?_
  have hcA : cA = dA 0 := by
    have h9 := (hK.2 0 _ (zx_tys_at (t := 0) (by omega))).2
    exact Option.some.inj (hNm.symm.trans h9)
  have hat : va_at D vwCl (base + μ.2, zx_ce dA b base (zx_seq μ.2) (zx_df (zx_seq μ.2).1)) H1 := by
    rw [zx_ce2 h1 h2, ← J.1.1]
    show H1[H.size]? = some (vp_cell _ _)
    rw [g1, vp_cell_i, hcA]
    refine congrArg some (congrArg (arrV _ _) (funext fun j => ?_))
    show defaultValue _ = Value.int (zx_vi (zx_df (zx_seq μ.2).1 j))
    unfold zx_df
    rw [zx_ir20 h1 h2]
    rfl
  have hk := kk H1 locs L (J.new1 (by omega) z1 o1 hat (zx_tl J.2.2.2.2.2.2.2))
  unfold zx_Go at hk
  have ha : zx_cv b base (.inr (some (zx_seq μ.2))) = .ref H.size := by
    show Value.ref (zx_ad b base (zx_seq μ.2)) = _
    rw [zx_ad_ok (n := μ.2 + 1) (by omega) (zx_ok_seq (by omega) (by omega)), zx_is _ hbig, J.1.1]
  rw [List.map_cons, ha] at hk
  refine W.cs ?_ ?_ hk
  · show μ.2 - c0 + 1 = μ.2 + 1 - c0
    omega
  · show _ = zx_ss (μ.2 + 1) - zx_ss c0
    omega
theorem zx_Es_ao (hE : zx_Es s) (t : Nat) (h : 2 ≤ t ∧ t < 7) : va_AO (zx_R (zx_ac t)) s := by
  obtain ⟨h1, h2⟩ := h
  rcases (by omega : t = 2 ∨ t = 3 ∨ t = 4 ∨ t = 5 ∨ t = 6) with rfl | rfl | rfl | rfl | rfl <;> exact hE _ (by decide +kernel)
/-- anewarray -/
theorem zx_s_anew {pc k fa : Nat} {n : Int32} (F : zx_Fx p s m args meth c D dA b base X own ini by_ nL) (J : zx_J D dA b base s c0 nL ls (.inl n :: st) μ H locs L)
    (h1 : (zx_kd (zx_seq μ.2).1).1 = 2) (h2 : (zx_kd (zx_seq μ.2).1).2.1 = fa) (hfa : 2 ≤ fa ∧ fa < 7) (h3 : n = Int32.ofNat (zx_kd (zx_seq μ.2).1).2.2) (w1 : Cond.classLink own k (zx_R (zx_ac fa)) ∈ zx_U) (hdg : decode by_ pc = .ok (.anewarray k, 3))
    (hrc : μ.2 + 1 - c0 ≤ R.cells) (hrs : zx_ss (μ.2 + 1) - zx_ss c0 ≤ R.slots)
    (kk : zx_Kt p l e R s m args below meth c Q D dA b base c0 nL (pc + 3, ls, .inr (some (zx_seq μ.2)) :: st, (zx_nw μ.1 (zx_seq μ.2), μ.2 + 1))) : zx_Go p l e R s m args below meth c Q b base c0 H locs L pc (.inl n :: st) μ.2 := by
  obtain ⟨hx, hb, hml, hown, hts, hE, hK, hX, hbb, hbs, hi⟩ := F
  have hbig := zx_kd_big μ.2 (by omega)
  have hss := zx_ss_mono J.2.2.1
  have hcc := J.2.2.1
  have hlen := zx_len_lt (zx_seq μ.2).1
  have e1 : zx_ss (μ.2 + 1) = zx_ss μ.2 + (zx_kd (zx_seq μ.2).1).2.2 := rfl
  have hn0 : ¬ n < 0 := by rw [h3]; exact nI_pos (by omega)
  have hnc : n.toNatClampNeg = (zx_kd (zx_seq μ.2).1).2.2 := by rw [h3]; exact zx_nI_cl (by omega)
  have hao : zx_aty fa = .object (zx_R (zx_ac fa)) := by
    obtain ⟨g1, g2⟩ := hfa
    match fa, g1 with
    | k + 2, _ => rfl
  unfold zx_Go
  show W p l e R s m args below meth c H locs _ _ Q (F0 m pc L (.int n :: st.map (zx_cv b base)))
  refine W.anew hx hb hown (hts _ w1) (va_AO.use (zx_Es_ao hE fa hfa)) rfl hdg rfl hn0 (by rw [hnc]; omega) (by omega) (by rw [hnc]; omega) fun cA kA comp g1 g2 g3 g4 => ?_
  have hcA : cA = dA fa := by
    have h9 := (hK.2 fa _ (zx_tys_at (t := fa) hfa.2)).2
    rw [hao] at h9
    obtain ⟨_, _, -, -, -, h10⟩ := h9
    exact Option.some.inj (g1.symm.trans h10)
  have hat : va_at D vwCl (base + μ.2, zx_ce dA b base (zx_seq μ.2) (zx_df (zx_seq μ.2).1)) (H.push { cls := cA, slots := Array.replicate n.toNatClampNeg .null, vm := .none }) := by
    rw [zx_ce3 h1 (by omega), ← J.1.1, h2]
    show (H.push _)[H.size]? = some (vp_cell _ _)
    rw [arrV_new, vp_cell_q, hcA, hnc]
    simp only [Array.getElem?_push_size]
    refine congrArg some (congrArg (arrV _ _) (funext fun j => ?_))
    show Value.null = va_rf (zx_vr b base (zx_df (zx_seq μ.2).1 j))
    unfold zx_df
    rw [zx_ir21 h1 (by omega), if_pos rfl]
    rfl
  have hk := kk (H.push { cls := cA, slots := Array.replicate n.toNatClampNeg .null, vm := .none }) locs L (J.new1 (by omega) (by simp) (fun q hq => by rw [Array.getElem?_push, if_neg (Nat.ne_of_lt hq)]) hat (zx_tl J.2.2.2.2.2.2.2))
  unfold zx_Go at hk
  have ha : zx_cv b base (.inr (some (zx_seq μ.2))) = .ref H.size := by
    show Value.ref (zx_ad b base (zx_seq μ.2)) = _
    rw [zx_ad_ok (n := μ.2 + 1) (by omega) (zx_ok_seq (by omega) (by omega)), zx_is _ hbig, J.1.1]
  rw [List.map_cons, ha] at hk
  refine W.cs ?_ ?_ hk
  · show μ.2 - c0 + 1 = μ.2 + 1 - c0
    omega
  · show _ = zx_ss (μ.2 + 1) - zx_ss c0
    rw [hnc]
    omega
theorem zx_mn_0 (m : zx_F) (n N : Nat) : zx_mn m n N (zx_seq n) = fun j => if j < N then .inr (some (zx_seq (n + 1 + j))) else .inr none := by
  funext j
  simp [zx_mn]
theorem zx_mn_1 (m : zx_F) (n N i : Nat) (hi : i < N) (h : n + 1 + N ≤ 308) : zx_mn m n N (zx_seq (n + 1 + i)) = fun _ => .inl 0 := by
  funext j
  unfold zx_mn
  rw [if_neg (zx_seq_ne (by omega) (by omega) (by omega)), if_pos]
  rw [List.any_eq_true]
  exact ⟨i, List.mem_range.mpr hi, by simp⟩
theorem zx_mn_2 (m : zx_F) (n N k : Nat) (hk : k < n) (h : n + 1 + N ≤ 308) : zx_mn m n N (zx_seq k) = m (zx_seq k) := by
  funext j
  unfold zx_mn
  rw [if_neg (zx_seq_ne (by omega) (by omega) (by omega)), if_neg]
  rw [List.any_eq_true]
  rintro ⟨i, hi, q⟩
  have hi := List.mem_range.mp hi
  exact zx_seq_ne (i := k) (j := n + 1 + i) (by omega) (by omega) (by omega) (by simpa using q)
theorem zx_ss_rows (n N K : Nat) (h : ∀ i, i < N → zx_kd (zx_seq (n + i)).1 = (2, 0, K)) : zx_ss (n + N) = zx_ss n + N * K := by
  induction N with
  | zero => simp
  | succ N ih =>
    have e : zx_ss (n + (N + 1)) = zx_ss (n + N) + (zx_kd (zx_seq (n + N)).1).2.2 := rfl
    rw [e, ih (fun i hi => h i (by omega)), h N (by omega)]
    show _ + K = _
    rw [Nat.succ_mul]
    omega
/-- multianewarray: int rows -/
theorem zx_s_mna {pc k : Nat} {n q : Int32} {K : Nat} (F : zx_Fx p s m args meth c D dA b base X own ini by_ nL) (J : zx_J D dA b base s c0 nL ls (.inl q :: .inl n :: st) μ H locs L)
    (h1 : (zx_kd (zx_seq μ.2).1).1 = 2) (h2 : (zx_kd (zx_seq μ.2).1).2.1 = 1) (h3 : n = Int32.ofNat (zx_kd (zx_seq μ.2).1).2.2) (h4 : q = Int32.ofNat K) (h5 : ∀ i : Nat, i < (zx_kd (zx_seq μ.2).1).2.2 → zx_kd (zx_seq (μ.2 + 1 + i)).1 = (2, 0, K)) (hK640 : K ≤ 640)
    (w1 : Cond.classLink own k ("[" ++ (FieldType.array .int).toString) ∈ zx_U) (w2 : Cond.arrayClass .int ∈ zx_U) (hdg : decode by_ pc = .ok (.multianewarray k 2, 4))
    (hrc : μ.2 + 1 + (zx_kd (zx_seq μ.2).1).2.2 - c0 ≤ R.cells) (hrs : zx_ss (μ.2 + 1 + (zx_kd (zx_seq μ.2).1).2.2) - zx_ss c0 ≤ R.slots)
    (kk : zx_Kt p l e R s m args below meth c Q D dA b base c0 nL (pc + 4, ls, .inr (some (zx_seq μ.2)) :: st, (zx_mn μ.1 μ.2 (zx_kd (zx_seq μ.2).1).2.2, μ.2 + 1 + (zx_kd (zx_seq μ.2).1).2.2))) : zx_Go p l e R s m args below meth c Q b base c0 H locs L pc (.inl q :: .inl n :: st) μ.2 := by
  obtain ⟨hx, hb, hml, hown, hts, hE, hK, hX, hbb, hbs, hi⟩ := F
  generalize hNN : (zx_kd (zx_seq μ.2).1).2.2 = N at *
  have hbig := zx_kd_big μ.2 (by omega)
  have hbigN : μ.2 + 1 + N ≤ 308 := by
    rcases Nat.eq_zero_or_pos N with z | z
    · omega
    · have := zx_kd_big (μ.2 + 1 + (N - 1)) (by rw [h5 (N - 1) (by omega)]; show (2 : Nat) ≠ 0; decide)
      omega
  have hss := zx_ss_mono J.2.2.1
  have hcc := J.2.2.1
  have hlen : N ≤ 640 := by rw [← hNN]; exact zx_len_lt _
  have e1 : zx_ss (μ.2 + 1) = zx_ss μ.2 + N := by rw [← hNN]; rfl
  have e2 := zx_ss_rows (μ.2 + 1) N K h5
  have hn0 : ¬ n < 0 := by rw [h3]; exact nI_pos (by omega)
  have hq0 : ¬ q < 0 := by rw [h4]; exact nI_pos (by omega)
  have hnc : n.toNatClampNeg = N := by rw [h3]; exact zx_nI_cl (by omega)
  have hqc : q.toNatClampNeg = K := by rw [h4]; exact zx_nI_cl (by omega)
  unfold zx_Go
  show W p l e R s m args below meth c H locs _ _ Q (F0 m pc L (.int q :: .int n :: st.map (zx_cv b base)))
  intro T hT Xs
  have hover : (Cond.arrayOver (.array .int)).before args s = true := (show va_Nw (.arrayOver (.array .int)) s from hE _ (by decide +kernel))
  obtain ⟨vm₁, cA, comp, -, fA, fC, hO, -, X', step⟩ := Xs.multianewarray2F hx hown (hts _ w1) hover (hts _ w2) (g := F0 m pc L (.int q :: .int n :: st.map (zx_cv b base))) rfl (by rw [hb]; exact hdg) rfl hn0 hq0 (by rw [hnc]; omega) (by rw [hqc]; show K * 4 ≤ _; omega) (by rw [hqc]; omega) rfl rfl (by rw [hnc]; omega) (by rw [hnc, hqc]; omega)
  have hcA : cA = dA 1 := by
    have h9 := (hK.2 1 _ (zx_tys_at (t := 1) (by omega))).2
    exact Option.some.inj (fA.symm.trans h9)
  have hco : comp = dA 0 := by
    have h9 := (hK.2 0 _ (zx_tys_at (t := 0) (by omega))).2
    exact Option.some.inj (fC.symm.trans h9)
  subst hcA
  subst hco
  generalize hF : Jvm.Free.Multi.fill (T.setVm vm₁) (dA 1) (dA 0) n.toNatClampNeg q.toNatClampNeg (defaultValue .int) n.toNatClampNeg = F at X' step
  have hTh : (T.setVm vm₁).heap = H := hT
  obtain ⟨f1, f2, -, -⟩ := Jvm.Free.Multi.fill_facts (T.setVm vm₁) (dA 1) (dA 0) n.toNatClampNeg q.toNatClampNeg (defaultValue .int) n.toNatClampNeg
  rw [hF, hTh, hnc] at f1 f2
  have hold : ∀ x : Nat, x < H.size → F.heap[x]? = H[x]? := fun x hx => by
    have := Jvm.Free.Multi.fill_old (T.setVm vm₁) (dA 1) (dA 0) n.toNatClampNeg q.toNatClampNeg (defaultValue .int) (a := x) (by rw [hTh]; exact hx) n.toNatClampNeg
    rw [hF, hTh] at this
    exact this
  have hrow : ∀ j : Nat, j < N → F.heap[H.size + 1 + j]? = some (vp_cell (dA 0) (K, .inl (fun _ => 0))) := fun j hj => by
    have := Jvm.Free.Multi.fill_inner (T.setVm vm₁) (dA 1) (dA 0) n.toNatClampNeg q.toNatClampNeg (defaultValue .int) n.toNatClampNeg j (by rw [hnc]; exact hj)
    rw [hF, hTh, hqc] at this
    rw [this, vp_cell_i, ← arrV_new]
    rfl
  have hao : ∀ k, k < 308 → zx_ad b base (zx_seq k) = base + k := fun k hk => by rw [zx_ad_ok (n := 308) (Nat.le_refl _) (zx_ok_seq hk (Nat.le_refl _)), zx_is _ hk]
  have hJ := J.grow (m' := zx_mn μ.1 μ.2 N) (n := 1 + N) (H1 := F.heap) (st' := .inr (some (zx_seq μ.2)) :: st) (by omega) (by rw [f1]; omega) hold (fun k hk => zx_mn_2 _ _ _ _ hk hbigN) (fun k g1 g2 => by
    rcases Nat.eq_or_lt_of_le g1 with z | z
    · subst z
      rw [zx_mn_0, zx_ce3 h1 (by omega), h2, hNN]
      refine ⟨?_, fun j hj => ?_⟩
      · show F.heap[base + μ.2]? = some (vp_cell _ _)
        rw [← J.1.1, f2, vp_cell_q, vr_outer_zx (dA 1) N H.size N]
        refine congrArg some (congrArg (arrV _ _) (funext fun j => ?_))
        by_cases hj : j < N
        · rw [if_pos hj, if_pos hj]
          show _ = va_rf (some (zx_ad b base (zx_seq (μ.2 + 1 + j))))
          rw [hao _ (by omega), J.1.1]
          refine congrArg (fun z => va_rf (some z)) ?_
          omega
        · rw [if_neg hj, if_neg hj]
          rfl
      · rw [zx_ir21 h1 (by omega)]
        show zx_vk _ true (if j < N then .inr (some (zx_seq (μ.2 + 1 + j))) else .inr none)
        by_cases hj2 : j < N
        · rw [if_pos hj2]
          exact ⟨rfl, fun h e => by cases e; exact zx_ok_seq (by omega) (by omega)⟩
        · rw [if_neg hj2]
          exact ⟨rfl, fun h e => by cases e⟩
    · obtain ⟨i, rfl⟩ : ∃ i, k = μ.2 + 1 + i := ⟨k - μ.2 - 1, by omega⟩
      have hi : i < N := by omega
      rw [zx_mn_1 _ _ _ _ hi hbigN, zx_ce2 (by rw [h5 i hi]) (by rw [h5 i hi]), h5 i hi]
      refine ⟨?_, fun j hj => ?_⟩
      · show F.heap[base + (μ.2 + 1 + i)]? = some (vp_cell _ _)
        have := hrow i hi
        rw [J.1.1] at this
        rw [show base + (μ.2 + 1 + i) = base + μ.2 + 1 + i by omega, this]
        rfl
      · rw [zx_ir20 (by rw [h5 i hi]) (by rw [h5 i hi])]
        exact ⟨rfl, fun h e => by cases e⟩) (zx_mem_cons (zx_okv_h (zx_ok_seq (by omega) (by omega))) fun v hv => zx_okv_up (zx_tl (zx_tl J.2.2.2.2.2.2.2) v hv) (by omega))
  rw [show μ.2 + (1 + N) = μ.2 + 1 + N by omega] at hJ
  have hk := kk F.heap locs L hJ
  unfold zx_Go at hk
  rw [List.map_cons, show zx_cv b base (.inr (some (zx_seq μ.2))) = .ref (base + μ.2) by show Value.ref _ = _; rw [hao _ hbig]] at hk
  have hk2 : W p l e R s m args below meth c F.heap locs (μ.2 - c0 + 1 + N) (zx_ss μ.2 - zx_ss c0 + N + N * K) Q (F0 m (pc + 4) L (.ref (base + μ.2) :: st.map (zx_cv b base))) := by
    refine W.cs ?_ ?_ hk
    · show _ = μ.2 + 1 + N - c0
      omega
    · show _ = zx_ss (μ.2 + 1 + N) - zx_ss c0
      omega
  obtain ⟨t, a1, b1⟩ := hk2 F rfl (by rw [hnc, hqc] at X'; exact X')
  refine ⟨t, step t ?_, b1⟩
  have e9 : T.heap.size = base + μ.2 := by rw [hT]; exact J.1.1
  rw [e9]
  exact a1
end ZY
