/-! commands as the reference reads them -/
def TD (b : Nat → Nat) (L : Nat) (D : zx_Y) : Prop := L ≤ 60 ∧ D (25, 0, 0, 0) 5 = nI L ∧ ∀ j, j < L → b j < 128 ∧ D (28, 0, 0, 0) j = nI (b j)
def GD (D D0 : zx_Y) : Prop := ∀ h j, h ≠ (30, 0, 0, 0) → ¬ (h = (25, 0, 0, 0) ∧ (j = 6 ∨ j = 7 ∨ j = 11)) → D h j = D0 h j
/-- all well so far -/
def Gs (D0 : zx_Y) (p : Nat) (ns : List Nat) (D : zx_Y) : Prop := GD D D0 ∧ D (25, 0, 0, 0) 6 = nI p ∧ D (25, 0, 0, 0) 7 = -1 ∧ D (25, 0, 0, 0) 11 = nI ns.length ∧ ∀ j, j < ns.length → D (30, 0, 0, 0) j = nI (ns.getD j 0)
/-- a fault at e -/
def Zs (D0 : zx_Y) (e c : Nat) (D : zx_Y) : Prop := GD D D0 ∧ D (25, 0, 0, 0) 7 = nI e ∧ e ≤ 60 ∧ D (25, 0, 0, 0) 11 = nI c ∧ ∃ q, q ≤ 60 ∧ D (25, 0, 0, 0) 6 = nI q
def RS (D0 : zx_Y) (o : Option zx_Y) (r : PR) : Prop := match r with
  | .inl e => ∃ D', o = some D' ∧ GD D' D0 ∧ D' (25, 0, 0, 0) 7 = nI e
  | .inr (p, ns) => ∃ D', o = some D' ∧ Gs D0 p ns D'
section DT
variable {b : Nat → Nat} {L p e c : Nat} {D0 D : zx_Y} {ns : List Nat} {x : Int32} {kk : zx_Y → Option zx_Y}
theorem GD_30 {k : Nat} {v : Int32} (h : GD D D0) : GD (zx_up D (30, 0, 0, 0) k v) D0 := fun a j h1 h2 => (zx_up_h _ _ _ _ h1).trans (h a j h1 h2)
theorem GD_25 {f : Nat} {v : Int32} (hf : f = 6 ∨ f = 7 ∨ f = 11) (h : GD D D0) : GD (zx_up D (25, 0, 0, 0) f v) D0 := fun a j h1 h2 => (show zx_up D (25, 0, 0, 0) f v a j = D a j from if_neg fun e => h2 ⟨e.2, by rw [e.1]; exact hf⟩).trans (h a j h1 h2)
theorem TD_G (T : TD b L D0) (G : GD D D0) : TD b L D := ⟨T.1, (G _ _ (by simp) (by simp)).trans T.2.1, fun j hj => ⟨(T.2.2 j hj).1, (G _ _ (by simp) (by simp)).trans (T.2.2 j hj).2⟩⟩
theorem sg_1 (T0 : TD b L D0) (G : Gs D0 p ns D) (h : p < L) : g_X11_sign D = some (nI (b p)) := by
  have T := TD_G T0 G.1
  have hL := T.1
  unfold g_X11_sign
  rw [T.2.1, G.2.1, if_neg (nI_ge h (by omega)), zi_n _ (by omega) (by omega), (T.2.2 p h).2]
theorem sg_0 (T0 : TD b L D0) (G : Gs D0 p ns D) (h : p = L) : g_X11_sign D = some (-1) := by
  have T := TD_G T0 G.1
  have hL := T.1
  unfold g_X11_sign
  rw [T.2.1, G.2.1, if_pos (nI_le (by omega) (by omega))]
theorem isn {a lo hi : Nat} {y z : Int32} (ha : a < 2 ^ 31) (hy : y = nI lo) (hz : z = nI hi) (h1 : lo < 2 ^ 31) (h2 : hi < 2 ^ 31) : g_X11_isIn D (nI a) y z = some (if lo ≤ a ∧ a ≤ hi then 1 else 0) := by
  unfold g_X11_isIn
  rw [hy, hz]
  by_cases c1 : a < lo
  · rw [if_pos (nI_lt c1 (by omega)), if_neg (by omega)]
  · rw [if_neg (fun h => c1 ((nI_ltI ha h1).mp h))]
    by_cases c2 : hi < a
    · rw [if_pos (nI_lt c2 (by omega)), if_neg (by omega)]
    · rw [if_neg (fun h => c2 ((nI_ltI h2 ha).mp h)), if_pos (by omega)]
theorem is57 {a : Nat} (ha : a < 2 ^ 31) : g_X11_isIn D (nI a) 48 57 = some (if 48 ≤ a ∧ a ≤ 57 then 1 else 0) := isn ha rfl rfl (by omega) (by omega)
theorem Gs_6 {p' : Nat} (G : Gs D0 p ns D) : Gs D0 p' ns (zx_up D (25, 0, 0, 0) 6 (nI p')) := ⟨GD_25 (by omega) G.1, up_e (by omega), (up_n (by omega)).trans G.2.2.1, (up_n (by omega)).trans G.2.2.2.1, fun j hj => (up_n (by omega)).trans (G.2.2.2.2 j hj)⟩
theorem gs_1 (T0 : TD b L D0) (G : Gs D0 p ns D) (hx : x = nI c) (h : p < L ∧ b p = c) : g_X11_goes D x = some (1, zx_up D (25, 0, 0, 0) 6 (nI (p + 1))) := by
  unfold g_X11_goes
  rw [if_pos G.2.2.1, sg_1 T0 G h.1, zb_some, hx, h.2, if_pos rfl, G.2.1, nI_1, zl_def]
theorem gs_0 (T0 : TD b L D0) (G : Gs D0 p ns D) (hp : p ≤ L) (hx : x = nI c) (hc : c < 128) (h : ¬ (p < L ∧ b p = c)) : g_X11_goes D x = some (0, D) := by
  unfold g_X11_goes
  rw [if_pos G.2.2.1, zl_def, zl_def, up_id (v := D (25, 0, 0, 0) 6 + 0) (by simp)]
  by_cases q : p < L
  · rw [sg_1 T0 G q, zb_some, if_neg (fun z => h ⟨q, nI_inj (z.trans hx) (by have := (T0.2.2 p q).1; omega) (by omega)⟩)]
  · rw [sg_0 T0 G (by omega), zb_some, if_neg (fun z => nI_m1 (a := c) (by omega) (z.trans hx).symm)]
theorem gz_0 (Z : Zs D0 e c D) : g_X11_goes D x = some (0, D) := by
  have h1 := Z.2.2.1
  unfold g_X11_goes
  rw [if_neg (by rw [Z.2.1]; exact nI_m1 (by omega)), zl_def, up_id (v := D (25, 0, 0, 0) 6 + 0) (by simp)]
theorem fh_g (G : Gs D0 p ns D) : g_X11_faultHere D = some (zx_up D (25, 0, 0, 0) 7 (nI p)) := by
  unfold g_X11_faultHere
  rw [if_pos G.2.2.1, G.2.1, zl_def]
theorem fh_z (Z : Zs D0 e c D) : g_X11_faultHere D = some D := by
  have h1 := Z.2.2.1
  unfold g_X11_faultHere
  rw [if_neg (by rw [Z.2.1]; exact nI_m1 (by omega)), zl_def, up_same]
theorem Zs_7 (G : Gs D0 p ns D) (hp : p ≤ 60) : Zs D0 p ns.length (zx_up D (25, 0, 0, 0) 7 (nI p)) := ⟨GD_25 (by omega) G.1, up_e (by omega), hp, (up_n (by omega)).trans G.2.2.2.1, p, hp, (up_n (by omega)).trans G.2.1⟩
theorem kn (h : D (25, 0, 0, 0) 11 = nI c) (hc : c < 8) : g_X11_keepNumber D x = some (zx_up (zx_up D (30, 0, 0, 0) c x) (25, 0, 0, 0) 11 (nI (c + 1))) := by
  unfold g_X11_keepNumber
  rw [h, zi_n _ hc (by omega), zl_def, zl_def, up_n (by omega), h, nI_1]
theorem Gs_k {v : Nat} (G : Gs D0 p ns D) : Gs D0 p (ns ++ [v]) (zx_up (zx_up D (30, 0, 0, 0) ns.length (nI v)) (25, 0, 0, 0) 11 (nI (ns.length + 1))) := by
  refine ⟨GD_25 (by omega) (GD_30 G.1), ?_, ?_, ?_, fun j hj => ?_⟩
  · simp (disch := omega) only [up_n]
    exact G.2.1
  · simp (disch := omega) only [up_n]
    exact G.2.2.1
  · rw [up_e (by omega), List.length_append]
    rfl
  · rw [List.length_append, List.length_singleton] at hj
    by_cases z : j = ns.length
    · subst z
      rw [up_n (by omega), up_e (by omega), gd_r]
    · simp (disch := omega) only [up_n]
      rw [gd_l (by omega)]
      exact G.2.2.2.2 j (by omega)
theorem Zs_k (Z : Zs D0 e c D) {y : Int32} : Zs D0 e (c + 1) (zx_up (zx_up D (30, 0, 0, 0) c y) (25, 0, 0, 0) 11 (nI (c + 1))) := by
  obtain ⟨Z1, Z2, Z3, Z4, q, Z5, Z6⟩ := Z
  refine ⟨GD_25 (by omega) (GD_30 Z1), ?_, Z3, up_e (by omega), q, Z5, ?_⟩
  · simp (disch := omega) only [up_n]
    exact Z2
  · simp (disch := omega) only [up_n]
    exact Z6
theorem d_g {m : Nat} {k : List Nat → Nat → PR} (T0 : TD b L D0) (hx : x = nI m) (hm : m < 128) (G : Gs D0 p ns D) (hl : ns.length < 8) (hp : p ≤ L) (k1 : ∀ D', p < L → Gs D0 (p + 1) (ns ++ [b p - 48]) D' → RS D0 (kk D') (k (ns ++ [b p - 48]) (p + 1))) (k0 : ∀ D', Zs D0 p (ns.length + 1) D' → RS D0 (kk D') (.inl p)) : RS D0 (zm (g_X11_digit D x) kk) (sD b L m ns p k) := by
  have hL := T0.1
  unfold g_X11_digit
  by_cases q : p < L
  · have h128 := (T0.2.2 p q).1
    rw [sg_1 T0 G q, zb_some, if_pos G.2.2.1, zb_some, isn (lo := 48) (hi := m) (a := b p) (by omega) (show (48 : Int32) = nI 48 from rfl) hx (by omega) (by omega), zb_some]
    by_cases c : 48 ≤ b p ∧ b p ≤ m
    · rw [if_pos c, if_neg n10, sD_1 ⟨q, c⟩, G.2.1, nI_1, zl_def, nI_sub48 c.1, kn (c := ns.length) ((up_n (by omega)).trans G.2.2.2.1) hl, zm_some]
      exact k1 _ q (Gs_k (Gs_6 G))
    · rw [if_neg c, if_pos rfl, sD_0 (fun z => c z.2), fh_g G, zm_some, kn (c := ns.length) ((up_n (by omega)).trans G.2.2.2.1) hl, zm_some]
      exact k0 _ (Zs_k (Zs_7 G (by omega)))
  · rw [sg_0 T0 G (by omega), zb_some, if_pos G.2.2.1, zb_some, sD_0 (fun z => q z.1), show g_X11_isIn D (-1) 48 x = some 0 from if_pos (by decide), zb_some, if_pos rfl, fh_g G, zm_some, kn (c := ns.length) ((up_n (by omega)).trans G.2.2.2.1) hl, zm_some]
    exact k0 _ (Zs_k (Zs_7 G (by omega)))
theorem sg_z (T0 : TD b L D0) (G : GD D D0) (h6 : ∃ q, q ≤ 60 ∧ D (25, 0, 0, 0) 6 = nI q) : ∃ v, g_X11_sign D = some v := by
  have T := TD_G T0 G
  have hL := T.1
  obtain ⟨q, hq, e⟩ := h6
  unfold g_X11_sign
  rw [T.2.1, e]
  by_cases c : q < L
  · exact ⟨_, by rw [if_neg (nI_ge c (by omega)), zi_n _ (by omega) (by omega)]⟩
  · exact ⟨_, by rw [if_pos (nI_le (by omega) (by omega))]⟩
theorem d_z {x' : Int32} (T0 : TD b L D0) (Z : Zs D0 e c D) (hc : c < 8) (k0 : ∀ D', Zs D0 e (c + 1) D' → RS D0 (kk D') (.inl e)) : RS D0 (zm (g_X11_digit D x) kk) (.inl e) := by
  obtain ⟨v, hv⟩ := sg_z T0 Z.1 Z.2.2.2.2
  have h1 := Z.2.2.1
  unfold g_X11_digit
  rw [hv, zb_some, if_neg (by rw [Z.2.1]; exact nI_m1 (by omega)), fh_z Z, zm_some, kn Z.2.2.2.1 hc, zm_some]
  exact k0 _ (Zs_k Z)
theorem m_g {k : Nat → PR} (T0 : TD b L D0) (hx : x = nI c) (hm : c < 128) (G : Gs D0 p ns D) (hp : p ≤ L) (k1 : ∀ D', p < L → Gs D0 (p + 1) ns D' → RS D0 (kk D') (k (p + 1))) (k0 : ∀ D', Zs D0 p ns.length D' → RS D0 (kk D') (.inl p)) : RS D0 (zm (g_X11_must D x) kk) (sM b L c p k) := by
  have hL := T0.1
  unfold g_X11_must
  by_cases q : p < L ∧ b p = c
  · rw [gs_1 T0 G hx q, zv_some, if_neg n10, sM_1 q]
    exact k1 _ q.1 (Gs_6 G)
  · rw [gs_0 T0 G hp hx hm q, zv_some, if_pos rfl, fh_g G, zm_some, sM_0 q]
    exact k0 _ (Zs_7 G (by omega))
theorem m_z (T0 : TD b L D0) (Z : Zs D0 e c D) (k0 : ∀ D', Zs D0 e c D' → RS D0 (kk D') (.inl e)) : RS D0 (zm (g_X11_must D x) kk) (.inl e) := by
  unfold g_X11_must
  rw [gz_0 Z, zv_some, if_pos rfl, fh_z Z, zm_some]
  exact k0 _ Z
theorem rn_lp {kq : Int32 → Int32 → zx_Y → Option zx_Y} (T0 : TD b L D0) : ∀ (k p z q v : Nat) (D : zx_Y), k + z = 4 → k < q → p ≤ L → 1 ≤ v → v < 10 ^ z → 1 ≤ z → Gs D0 p ns D → ∃ w D', 1 ≤ w ∧ w ≤ 4 ∧ Gs D0 (ngo b L k p v).2 ns D' ∧ lg_X11_readNumber_4 kq q (nI v) (nI z) D = kq (nI (ngo b L k p v).1) (nI w) D' := by
  intro k
  induction k with
  | zero =>
    intro p z q v D e h hp hv hv2 hz G
    have hL := T0.1
    obtain ⟨q, rfl⟩ : ∃ q', q = q' + 1 := ⟨q - 1, by omega⟩
    have e : z = 4 := by omega
    subst e
    refine ⟨4, D, by omega, by omega, G, ?_⟩
    rw [lg_X11_readNumber_4.eq_2, if_pos G.2.2.1]
    by_cases y : p < L
    · have h128 := (T0.2.2 p y).1
      rw [sg_1 T0 G y, zb_some, is57 (a := b p) (by omega), zb_some]
      by_cases c : 48 ≤ b p ∧ b p ≤ 57
      · rw [if_pos c, if_neg n10, if_pos (show (4 : Int32) ≤ nI 4 by decide)]
        rfl
      · rw [if_neg c, if_pos rfl]
        rfl
    · rw [sg_0 T0 G (by omega), zb_some, show g_X11_isIn D (-1) 48 57 = some 0 from if_pos (by decide), zb_some, if_pos rfl]
      rfl
  | succ k ih =>
    intro p z q v D e h hp hv hv2 hz G
    have hL := T0.1
    obtain ⟨q, rfl⟩ : ∃ q', q = q' + 1 := ⟨q - 1, by omega⟩
    rw [lg_X11_readNumber_4.eq_2, if_pos G.2.2.1, ngo.eq_2]
    by_cases y : p < L
    · have h128 := (T0.2.2 p y).1
      rw [sg_1 T0 G y, zb_some, is57 (a := b p) (by omega), zb_some]
      by_cases c : 48 ≤ b p ∧ b p ≤ 57
      · have zv1 : v < 10 ^ 4 := Nat.lt_of_lt_of_le hv2 (Nat.pow_le_pow_right (by omega) (by omega))
        have zv0 : v < 2 ^ 31 := by omega
        have zv2 : 10 * v + (b p - 48) < 10 ^ (z + 1) := by
          rw [Nat.pow_succ]
          omega
        · rw [if_pos c, if_neg n10, if_neg (show ¬ (4 : Int32) ≤ nI z from nI_ge (b := 4) (by omega) (by omega)), if_neg (show ¬ nI z = (0 : Int32) from fun y => by have := nI_inj (b := 0) y (by omega) (by omega); omega), if_neg (show ¬ nI v ≤ (0 : Int32) from fun y => by rw [← nI_0] at y; exact nI_ge (a := 0) (by omega) zv0 y), zb_some, zl_def, if_pos ⟨y, c⟩, G.2.1, nI_1, nI_1, show (10 * nI v + nI (b p) - 48 : Int32) = nI (10 * v + (b p - 48)) from by rw [show (10 : Int32) = nI 10 from rfl, pk_mul, nI_add, nI_sub48 (by omega), show 10 * v + b p - 48 = 10 * v + (b p - 48) by omega]]
          exact ih (p + 1) (z + 1) q _ _ (by omega) (by omega) (by omega) (by omega) zv2 (by omega) (Gs_6 G)
      · rw [if_neg c, if_pos rfl, if_neg (fun h => c h.2)]
        exact ⟨z, D, by omega, by omega, G, rfl⟩
    · rw [sg_0 T0 G (by omega), zb_some, show g_X11_isIn D (-1) 48 57 = some 0 from if_pos (by decide), zb_some, if_pos rfl, if_neg (fun h => y h.1)]
      exact ⟨z, D, by omega, by omega, G, rfl⟩
theorem n_g {k : List Nat → Nat → PR} (T0 : TD b L D0) (G : Gs D0 p ns D) (hl : ns.length < 8) (hp : p ≤ L) (k1 : ∀ D' v p', p < p' → p' ≤ L → Gs D0 p' (ns ++ [v]) D' → RS D0 (kk D') (k (ns ++ [v]) p')) (k0 : ∀ D', Zs D0 p (ns.length + 1) D' → RS D0 (kk D') (.inl p)) : RS D0 (zm (g_X11_readNumber D) kk) (sN b L ns p k) := by
  have hL := T0.1
  unfold g_X11_readNumber
  rw [lg_X11_readNumber_4.eq_2, if_pos G.2.2.1]
  by_cases y : p < L ∧ 48 ≤ b p ∧ b p ≤ 57
  · have h128 := (T0.2.2 p y.1).1
    rw [sg_1 T0 G y.1, zb_some, is57 (a := b p) (by omega), zb_some, if_pos y.2, if_neg n10, if_neg (show ¬ (4 : Int32) ≤ 0 by decide), if_pos (show (0 : Int32) = 0 from rfl), zb_some, zl_def, G.2.1, nI_1, show (10 * 0 + nI (b p) - 48 : Int32) = nI (b p - 48) from by rw [show (10 * 0 : Int32) = 0 from rfl, Int32.zero_add, nI_sub48 y.2.1], show (0 + 1 : Int32) = nI 1 from rfl]
    by_cases c0 : b p = 48
    · have e : nums b L p = some (0, p + 1) := by
        unfold nums
        rw [if_pos y, if_pos c0]
      rw [sN_1 e, c0, show nI (48 - 48) = (0 : Int32) from nI_0]
      have G1 : Gs D0 (p + 1) ns (zx_up D (25, 0, 0, 0) 6 (nI (p + 1))) := Gs_6 G
      have fin : lg_X11_readNumber_4 (fun v1 v2 M1 => (if v2 = 0 then (zm (g_X11_faultHere M1) fun M2 => (zm (g_X11_keepNumber M2 v1) fun M3 => (some M3))) else (zm (g_X11_keepNumber M1 v1) fun M4 => (some M4)))) 999 0 (nI 1) (zx_up D (25, 0, 0, 0) 6 (nI (p + 1))) = g_X11_keepNumber (zx_up D (25, 0, 0, 0) 6 (nI (p + 1))) 0 := by
        have m : ∀ o : Option zx_Y, (zm o fun M => some M) = o := fun o => by cases o <;> rfl
        rw [lg_X11_readNumber_4.eq_2, if_pos G1.2.2.1]
        by_cases y2 : p + 1 < L
        · have h128 := (T0.2.2 (p + 1) y2).1
          rw [sg_1 T0 G1 y2, zb_some, is57 (a := b (p + 1)) (by omega), zb_some]
          by_cases c : 48 ≤ b (p + 1) ∧ b (p + 1) ≤ 57
          · rw [if_pos c, if_neg n10, if_neg (show ¬ (4 : Int32) ≤ nI 1 by decide), if_neg (show ¬ nI 1 = (0 : Int32) by decide), if_pos (show (0 : Int32) ≤ 0 by decide), if_neg (show ¬ nI 1 = (0 : Int32) by decide), m]
          · rw [if_neg c, if_pos rfl, if_neg (show ¬ nI 1 = (0 : Int32) by decide), m]
        · rw [sg_0 T0 G1 (by omega), zb_some, show g_X11_isIn (zx_up D (25, 0, 0, 0) 6 (nI (p + 1))) (-1) 48 57 = some 0 from if_pos (by decide), zb_some, if_pos rfl, if_neg (show ¬ nI 1 = (0 : Int32) by decide), m]
      rw [fin, kn (c := ns.length) G1.2.2.2.1 hl, zm_some]
      exact k1 _ 0 (p + 1) (by omega) (by omega) (by have := Gs_k (v := 0) G1; rw [nI_0] at this; exact this)
    · have e : nums b L p = some (ngo b L 3 (p + 1) (b p - 48)) := by
        unfold nums
        rw [if_pos y, if_neg c0]
      have eb := nums_b (v := (ngo b L 3 (p + 1) (b p - 48)).1) (p' := (ngo b L 3 (p + 1) (b p - 48)).2) e
      rw [sN_1 (v := (ngo b L 3 (p + 1) (b p - 48)).1) (p' := (ngo b L 3 (p + 1) (b p - 48)).2) e]
      obtain ⟨w, D', h1, h2, h3, h4⟩ := rn_lp T0 (kq := fun v1 v2 M1 => (if v2 = 0 then (zm (g_X11_faultHere M1) fun M2 => (zm (g_X11_keepNumber M2 v1) fun M3 => (some M3))) else (zm (g_X11_keepNumber M1 v1) fun M4 => (some M4)))) 3 (p + 1) 1 999 (b p - 48) _ (by omega) (by omega) (by omega) (by omega) (by show b p - 48 < 10 ^ 1; omega) (by omega) (Gs_6 G)
      rw [h4, if_neg (show ¬ nI w = (0 : Int32) from fun y => by have := nI_inj (b := 0) y (by omega) (by omega); omega), kn (c := ns.length) h3.2.2.2.1 hl, zm_some, zm_some]
      exact k1 _ _ _ eb.2.1 eb.2.2 (Gs_k h3)
  · have e : nums b L p = none := if_neg y
    have fin : RS D0 (zm (zm (g_X11_faultHere D) fun M2 => (zm (g_X11_keepNumber M2 0) fun M3 => (some M3))) kk) (.inl p) := by
      rw [fh_g G, zm_some, kn (c := ns.length) ((up_n (by omega)).trans G.2.2.2.1) hl, zm_some, zm_some]
      exact k0 _ (Zs_k (Zs_7 G (by omega)))
    rw [sN_0 e]
    by_cases y2 : p < L
    · have h128 := (T0.2.2 p y2).1
      rw [sg_1 T0 G y2, zb_some, is57 (a := b p) (by omega), zb_some, if_neg (fun c => y ⟨y2, c⟩), if_pos (show (0 : Int32) = 0 from rfl), if_pos (show (0 : Int32) = 0 from rfl)]
      exact fin
    · rw [sg_0 T0 G (by omega), zb_some, show g_X11_isIn D (-1) 48 57 = some 0 from if_pos (by decide), zb_some, if_pos (show (0 : Int32) = 0 from rfl), if_pos (show (0 : Int32) = 0 from rfl)]
      exact fin
theorem n_z (Z : Zs D0 e c D) (hc : c < 8) (k0 : ∀ D', Zs D0 e (c + 1) D' → RS D0 (kk D') (.inl e)) : RS D0 (zm (g_X11_readNumber D) kk) (.inl e) := by
  have h1 := Z.2.2.1
  unfold g_X11_readNumber
  rw [lg_X11_readNumber_4.eq_2, if_neg (by rw [Z.2.1]; exact nI_m1 (by omega)), if_pos (show (0 : Int32) = 0 from rfl), fh_z Z, zm_some, kn Z.2.2.2.1 hc, zm_some, zm_some]
  exact k0 _ (Zs_k Z)
end DT
