/-! the whole text -/
/-- places stay in the text -/
def PB (L q : Nat) (r : PR) : Prop := match r with
  | .inl e => e ≤ L
  | .inr (p', _) => q ≤ p' ∧ p' ≤ L
section PBs
variable {b : Nat → Nat} {L q p m c : Nat} {ns : List Nat}
theorem sD_b {k : List Nat → Nat → PR} (hp : p ≤ L) (h : p < L → PB L q (k (ns ++ [b p - 48]) (p + 1))) : PB L q (sD b L m ns p k) := by
  unfold sD
  split
  · rename_i z
    exact h z.1
  · exact hp
theorem sM_b {k : Nat → PR} (hp : p ≤ L) (h : p < L → PB L q (k (p + 1))) : PB L q (sM b L c p k) := by
  unfold sM
  split
  · rename_i z
    exact h z.1
  · exact hp
theorem sN_b {k : List Nat → Nat → PR} (hp : p ≤ L) (h : ∀ v p', p < p' → p' ≤ L → PB L q (k (ns ++ [v]) p')) : PB L q (sN b L ns p k) := by
  unfold sN
  split
  · rename_i v p' z
    exact h _ _ (nums_b z).2.1 (nums_b z).2.2
  · exact hp
theorem sL_b : ∀ (k : Nat) (ns : List Nat) (p : Nat), q ≤ p → p ≤ L → PB L q (sL b L k ns p)
  | 0, ns, p, h, hp => ⟨h, hp⟩
  | k + 1, ns, p, h, hp => by
    rw [sL.eq_2]
    split
    · rename_i z
      exact sN_b z.1 fun v p' h1 h2 => sL_b k _ _ (by omega) h2
    · exact ⟨h, hp⟩
theorem sH_b (h : q ≤ p) (hp : p ≤ L) : PB L q (sH b L ns p) := by
  unfold sH
  split
  · rename_i z
    exact sN_b z.1 fun v p' h1 h2 => ⟨by omega, h2⟩
  · exact ⟨h, hp⟩
theorem sX_b (h : q ≤ p) (hp : p ≤ L) : PB L q (sX b L ns p) := by
  unfold sX
  split
  · rename_i z
    exact sD_b z.1 fun h2 => sH_b (by omega) h2
  · exact sH_b h hp
theorem sR_b (h : q ≤ p) (hp : p ≤ L) : PB L q (sR b L ns p) := by
  unfold sR
  split
  · rename_i z
    exact ⟨by omega, z.1⟩
  · exact ⟨h, hp⟩
theorem sC_b (hp : p ≤ L) : PB L (p + 2) (sC b L p) := by
  unfold sC
  split
  · rename_i z
    exact sN_b z.1 fun v p' h1 h2 => sL_b _ _ _ (by omega) h2
  split
  · rename_i z
    exact sD_b z.1 fun h1 => sM_b h1 fun h2 => sD_b h2 fun h3 => sR_b (by omega) h3
  split
  · rename_i z
    exact sD_b z.1 fun h1 => sM_b h1 fun h2 => sD_b h2 fun h3 => sM_b h3 fun h4 => sD_b h4 fun h5 => sM_b h5 fun h6 => sN_b h6 fun v p' h7 h8 => sX_b (by omega) h8
  split
  · rename_i z
    exact sD_b z.1 fun h1 => sM_b h1 fun h2 => sN_b h2 fun v p' h3 h4 => sM_b h4 fun h5 => sN_b h5 fun v p' h6 h7 => sM_b h7 fun h8 => sN_b h8 fun v p' h9 h10 => ⟨by omega, h10⟩
  split
  · rename_i z
    exact sN_b z.1 fun v p' h1 h2 => ⟨by omega, h2⟩
  · exact hp
end PBs
/-- k commands from command i on, from place p on -/
def TX (b : Nat → Nat) (L : Nat) : Nat → Nat → Nat → zx_Y → Prop
  | 0, _, _, _ => False
  | k + 1, i, p, C => ∃ p' ns, sC b L p = .inr (p', ns) ∧ CP i (b p) ns C ∧ ((k = 0 ∧ p' = L) ∨ (p' < L ∧ b p' = 59 ∧ TX b L k (i + 1) (p' + 1) C))
/-- what reading from command i on leaves alone -/
def KT (i : Nat) (C' C : zx_Y) : Prop := ∀ h j, (∀ m, i ≤ m → h ≠ (17, m, 0, 0) ∧ h ≠ (18, m, 0, 0)) → ¬ (h = (14, 0, 0, 0) ∧ (j = 3 ∨ j = 4)) → C' h j = C h j
def GT (D' D : zx_Y) : Prop := ∀ h j, h ≠ (30, 0, 0, 0) → ¬ (h = (25, 0, 0, 0) ∧ (j = 6 ∨ j = 7 ∨ j = 8 ∨ j = 11 ∨ j = 15)) → D' h j = D h j
theorem CP_k {i k : Nat} {ns : List Nat} {C C' : zx_Y} (h1 : ∀ j, C' (17, i, 0, 0) j = C (17, i, 0, 0) j) (h2 : ∀ j, C' (18, i, 0, 0) j = C (18, i, 0, 0) j) (h : CP i k ns C) : CP i k ns C' := by
  unfold CP at h ⊢
  simp only [h1, h2]
  exact h
theorem KT_r {i : Nat} {C : zx_Y} : KT i C C := fun _ _ _ _ => rfl
theorem KT_t {i : Nat} {C C' C'' : zx_Y} (h1 : KT i C'' C') (h2 : KT i C' C) : KT i C'' C := fun h j a c => (h1 h j a c).trans (h2 h j a c)
theorem KT_s {i : Nat} {C C' : zx_Y} (h1 : KT (i + 1) C' C) : KT i C' C := fun h j a c => h1 h j (fun m hm => a m (by omega)) c
theorem KT_K {i : Nat} {C C' : zx_Y} (h : Kpi i C' C) : KT i C' C := fun a j z c => h a j (z i (Nat.le_refl i)).1 (z i (Nat.le_refl i)).2 (fun e => c ⟨e.1, Or.inr e.2⟩)
theorem KT_u {i f : Nat} {C C' : zx_Y} {v : Int32} (hf : f = 3 ∨ f = 4) (h : KT i C' C) : KT i (zx_up C' (14, 0, 0, 0) f v) C := fun a j z c => (show zx_up C' (14, 0, 0, 0) f v a j = C' a j from if_neg fun e => c ⟨e.2, by rw [e.1]; exact hf⟩).trans (h a j z c)
theorem GT_t {D D' D'' : zx_Y} (h1 : GT D'' D') (h2 : GT D' D) : GT D'' D := fun h j a c => (h1 h j a c).trans (h2 h j a c)
theorem GT_u {f : Nat} {D D' : zx_Y} {v : Int32} (hf : f = 6 ∨ f = 7 ∨ f = 8 ∨ f = 11 ∨ f = 15) (h : GT D' D) : GT (zx_up D' (25, 0, 0, 0) f v) D := fun a j z c => (show zx_up D' (25, 0, 0, 0) f v a j = D' a j from if_neg fun e => c ⟨e.2, by rw [e.1]; exact hf⟩).trans (h a j z c)
theorem GT_r {D : zx_Y} : GT D D := fun _ _ _ _ => rfl
theorem GT_G {D D' : zx_Y} {v : Int32} (h : GD D' (zx_up D (25, 0, 0, 0) 15 v)) : GT D' D := fun a j z c => (h a j z (fun e => c ⟨e.1, by omega⟩)).trans (show zx_up D (25, 0, 0, 0) 15 v a j = D a j from if_neg fun e => c ⟨e.2, by omega⟩)
theorem TP_T {b : Nat → Nat} {L i : Nat} {C C' : zx_Y} (T : TP b L C) (K : KT i C' C) : TP b L C' := ⟨T.1, (K _ _ (by simp) (by simp)).trans T.2.1, fun j hj => ⟨(T.2.2 j hj).1, (K _ _ (by simp) (by simp)).trans (T.2.2 j hj).2⟩⟩
theorem TD_T {b : Nat → Nat} {L : Nat} {D D' : zx_Y} (T : TD b L D) (G : GT D' D) : TD b L D' := ⟨T.1, (G _ _ (by simp) (by simp)).trans T.2.1, fun j hj => ⟨(T.2.2 j hj).1, (G _ _ (by simp) (by simp)).trans (T.2.2 j hj).2⟩⟩
theorem goes_no {D : zx_Y} {x : Int32} (h : ¬ D (25, 0, 0, 0) 7 = -1) : g_X11_goes D x = some (0, D) := by
  unfold g_X11_goes
  rw [if_neg h, zl_def, up_id (v := D (25, 0, 0, 0) 6 + 0) (by simp)]
def kend (M3 : zx_Y) : Option zx_Y := if M3 (25, 0, 0, 0) 5 ≤ M3 (25, 0, 0, 0) 6 then some M3 else zm (g_X11_faultHere M3) fun M4 => some M4
theorem kend_z {D : zx_Y} (h : ¬ D (25, 0, 0, 0) 7 = -1) : kend D = some D := by
  unfold kend g_X11_faultHere
  rw [if_neg h, zl_def, up_same, zm_some]
  split <;> rfl
theorem go_0 {D : zx_Y} {q : Nat} {kk : Int32 → zx_Y → Option zx_Y} {x : Int32} : lg_X11_go_12 x kk (q + 1) 0 D = kk 0 D := by
  rw [lg_X11_go_12.eq_2, if_pos rfl]
theorem sC_lt {b : Nat → Nat} {L p p' : Nat} {ns : List Nat} (h : sC b L p = .inr (p', ns)) : p < L := by
  by_cases q : p < L
  · exact q
  · exfalso
    unfold sC at h
    simp [q] at h
theorem txt {b : Nat → Nat} {L : Nat} : ∀ (k i p q q' : Nat) (C D : zx_Y), i + k = 20 → 3 * i ≤ p → p ≤ L → k < q → k + 2 < q' → TP b L C → C (14, 0, 0, 0) 4 = nI p → TD b L D → D (25, 0, 0, 0) 6 = nI p → D (25, 0, 0, 0) 7 = -1 → D (25, 0, 0, 0) 13 = -5 →
  (∃ e C' D', e ≤ L ∧ lg_X8_readText_12 (fun v1 M3 => some (0, M3)) q (nI i) C = some (0, C') ∧ C' (14, 0, 0, 0) 4 = nI e ∧ KT i C' C ∧ lg_X11_go_12 0 (fun v1 M3 => kend M3) q' 1 D = some D' ∧ D' (25, 0, 0, 0) 7 = nI e ∧ GT D' D) ∨
  (∃ n C' D', lg_X8_readText_12 (fun v1 M3 => some (0, M3)) q (nI i) C = some (1, C') ∧ TX b L n i p C' ∧ C' (14, 0, 0, 0) 3 = nI (i + n) ∧ i + n ≤ 20 ∧ KT i C' C ∧ lg_X11_go_12 0 (fun v1 M3 => kend M3) q' 1 D = some D' ∧ D' (25, 0, 0, 0) 7 = -1 ∧ GT D' D) := by
  intro k
  induction k with
  | zero =>
    intro i p q q' C D e h3 hp hq hq' T A TDD A6 A7 A13
    have hL := T.1
    obtain ⟨q, rfl⟩ : ∃ r, q = r + 1 := ⟨q - 1, by omega⟩
    obtain ⟨q', rfl⟩ : ∃ r, q' = r + 1 + 1 := ⟨q' - 2, by omega⟩
    have e : i = 20 := by omega
    subst e
    obtain ⟨v, hv, hr⟩ := rC TDD A6 A7 hp
    have es : sC b L p = .inl p := by
      unfold sC
      simp [show ¬ p < L by omega]
    rw [es] at hr
    obtain ⟨D', r1, r2, r3⟩ := hr
    have n7 : ¬ D' (25, 0, 0, 0) 7 = -1 := by
      rw [r3]
      exact nI_m1 (by omega)
    have G1 := GT_G r2
    refine Or.inl ⟨p, C, D', hp, ?_, A, KT_r, ?_, r3, G1⟩
    · rw [lg_X8_readText_12.eq_2, if_pos (show (20 : Int32) ≤ nI 20 by decide)]
    · rw [lg_X11_go_12.eq_2, if_neg n10, r1, zm_some, if_pos (show (0 : Int32) = 0 from rfl), if_pos ((G1 _ _ (by simp) (by simp)).trans A13), goes_no n7, zv_some, if_pos rfl, zl_def, up_id (v := D' (25, 0, 0, 0) 8 + 0) (by simp), go_0, kend_z n7]
  | succ k ih =>
    intro i p q q' C D e h3 hp hq hq' T A TDD A6 A7 A13
    have hL := T.1
    obtain ⟨q, rfl⟩ : ∃ r, q = r + 1 := ⟨q - 1, by omega⟩
    obtain ⟨q', rfl⟩ : ∃ r, q' = r + 1 + 1 := ⟨q' - 2, by omega⟩
    obtain ⟨v, hv, hr⟩ := rC TDD A6 A7 hp
    have hc := cC (i := i) T A hp
    have hb := sC_b (b := b) hp
    rw [lg_X8_readText_12.eq_2, if_neg (show ¬ (20 : Int32) ≤ nI i from nI_ge (b := 20) (by omega) (by omega)), zi_n _ (by omega) (by omega), lg_X11_go_12.eq_2, if_neg n10]
    rcases es : sC b L p with e | ⟨p', ns⟩
    · rw [es] at hr hc hb
      obtain ⟨D', r1, r2, r3⟩ := hr
      obtain ⟨C', c1, c2, c3⟩ := hc
      have he : e ≤ L := hb
      have n7 : ¬ D' (25, 0, 0, 0) 7 = -1 := by
        rw [r3]
        exact nI_m1 (by omega)
      have G1 := GT_G r2
      refine Or.inl ⟨e, C', D', he, ?_, c2, KT_K c3, ?_, r3, G1⟩
      · rw [c1, zv_some, if_pos rfl]
      · rw [r1, zm_some, if_pos (show (0 : Int32) = 0 from rfl), if_pos ((G1 _ _ (by simp) (by simp)).trans A13), goes_no n7, zv_some, if_pos rfl, zl_def, up_id (v := D' (25, 0, 0, 0) 8 + 0) (by simp), go_0, kend_z n7]
    · rw [es] at hr hc hb
      obtain ⟨D1, r1, r2⟩ := hr
      obtain ⟨C1, c1, c2, c3, c4⟩ := hc
      obtain ⟨hb1, hb2⟩ : p + 2 ≤ p' ∧ p' ≤ L := hb
      have T0 : TD b L (zx_up D (25, 0, 0, 0) 15 v) := ⟨TDD.1, (up_n (by omega)).trans TDD.2.1, fun j hj => ⟨(TDD.2.2 j hj).1, (up_n (by omega)).trans (TDD.2.2 j hj).2⟩⟩
      have G1 := GT_G r2.1
      have KC : KT i (zx_up C1 (14, 0, 0, 0) 3 (nI (i + 1))) C := KT_u (by omega) (KT_K c3)
      have T2 := TP_T T KC
      have A2 : (zx_up C1 (14, 0, 0, 0) 3 (nI (i + 1))) (14, 0, 0, 0) 4 = nI p' := (up_n (by omega)).trans c2
      have L2 := T2.2.1
      rw [c1, zv_some, if_neg n10, nI_1, zl_def, A2, L2, r1, zm_some, if_pos (show (0 : Int32) = 0 from rfl), if_pos ((G1 _ _ (by simp) (by simp)).trans A13)]
      have CP2 : CP i (b p) ns (zx_up C1 (14, 0, 0, 0) 3 (nI (i + 1))) := CP_k (fun j => up_n (by omega)) (fun j => up_n (by omega)) c4
      by_cases cL : p' = L
      · subst cL
        rw [if_pos (show nI p' = nI p' from rfl), gs_0 T0 r2 (Nat.le_refl _) (show (59 : Int32) = nI 59 from rfl) (by omega) (fun z => Nat.lt_irrefl _ z.1), zv_some, if_pos (show (0 : Int32) = 0 from rfl), zl_def, up_id (v := D1 (25, 0, 0, 0) 8 + 0) (by simp), go_0]
        refine Or.inr ⟨1, _, D1, rfl, ⟨p', ns, es, CP2, Or.inl ⟨rfl, rfl⟩⟩, up_e (by omega), by omega, KC, ?_, r2.2.2.1, G1⟩
        unfold kend
        rw [(TD_T TDD G1).2.1, r2.2.1, if_pos (nI_le (Nat.le_refl _) (by omega))]
      · rw [if_neg (show ¬ nI p' = nI L from fun z => cL (nI_inj z (by omega) (by omega)))]
        by_cases c9 : p' < L ∧ b p' = 59
        · rw [tk_1 (i := i) (c := 59) (x := 59) T2 Kp_r A2 rfl c9, zv_some, if_neg n10, gs_1 T0 r2 (show (59 : Int32) = nI 59 from rfl) c9, zv_some, if_neg n10, zl_def]
          generalize hD2 : zx_up (zx_up D1 (25, 0, 0, 0) 6 (nI (p' + 1))) (25, 0, 0, 0) 8 _ = D2
          have G2 : GT D2 D := by
            subst hD2
            exact GT_u (by omega) (GT_u (by omega) G1)
          have K3 : KT i (zx_up (zx_up C1 (14, 0, 0, 0) 3 (nI (i + 1))) (14, 0, 0, 0) 4 (nI (p' + 1))) C := KT_u (by omega) KC
          have ih2 := ih (i + 1) (p' + 1) q (q' + 1) _ D2 (by omega) (by omega) (by omega) (by omega) (by omega) (TP_T T K3) (up_e (by omega)) (TD_T TDD G2) (by subst hD2; simp (disch := omega) only [up_n, up_e]) (by subst hD2; simp (disch := omega) only [up_n]; exact r2.2.2.1) ((G2 _ _ (by simp) (by simp)).trans A13)
          rcases ih2 with ⟨e, C', D', g1, g2, g3, g4, g5, g6, g7⟩ | ⟨n, C', D', g1, g2, g3, g4, g5, g6, g7, g8⟩
          · exact Or.inl ⟨e, C', D', g1, g2, g3, KT_t (KT_s g4) K3, g5, g6, GT_t g7 G2⟩
          · refine Or.inr ⟨n + 1, C', D', g1, ⟨p', ns, es, ?_, Or.inr ⟨c9.1, c9.2, g2⟩⟩, by rw [g3, show i + 1 + n = i + (n + 1) by omega], by omega, KT_t (KT_s g5) K3, g6, g7, GT_t g8 G2⟩
            have dis : ∀ m, i + 1 ≤ m → ((17, i, 0, 0) : zx_H) ≠ (17, m, 0, 0) ∧ ((17, i, 0, 0) : zx_H) ≠ (18, m, 0, 0) := fun m hm => ⟨by simp; omega, by simp⟩
            have dis2 : ∀ m, i + 1 ≤ m → ((18, i, 0, 0) : zx_H) ≠ (17, m, 0, 0) ∧ ((18, i, 0, 0) : zx_H) ≠ (18, m, 0, 0) := fun m hm => ⟨by simp, by simp; omega⟩
            exact CP_k (fun j => (g5 _ _ dis (by simp)).trans (up_n (by omega))) (fun j => (g5 _ _ dis2 (by simp)).trans (up_n (by omega))) CP2
        · rw [tk_0 (i := i) (c := 59) (x := 59) T2 Kp_r A2 rfl (by omega) hb2 c9, zv_some, if_pos (show (0 : Int32) = 0 from rfl), gs_0 T0 r2 hb2 (show (59 : Int32) = nI 59 from rfl) (by omega) c9, zv_some, if_pos (show (0 : Int32) = 0 from rfl), zl_def, up_id (v := D1 (25, 0, 0, 0) 8 + 0) (by simp), go_0]
          refine Or.inl ⟨p', _, zx_up D1 (25, 0, 0, 0) 7 (nI p'), hb2, rfl, A2, KC, ?_, up_e (by omega), GT_u (by omega) G1⟩
          unfold kend
          rw [(TD_T TDD G1).2.1, r2.2.1, if_neg (nI_ge (by omega) (by omega)), fh_g r2, zm_some]
