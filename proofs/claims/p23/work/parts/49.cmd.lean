/-! commands as they are read: the place of the error, or the place behind and the numbers -/
abbrev PR : Type := Nat ⊕ (Nat × List Nat)
def sD (b : Nat → Nat) (L m : Nat) (ns : List Nat) (p : Nat) (k : List Nat → Nat → PR) : PR := if p < L ∧ 48 ≤ b p ∧ b p ≤ m then k (ns ++ [b p - 48]) (p + 1) else .inl p
def sM (b : Nat → Nat) (L c p : Nat) (k : Nat → PR) : PR := if p < L ∧ b p = c then k (p + 1) else .inl p
def sN (b : Nat → Nat) (L : Nat) (ns : List Nat) (p : Nat) (k : List Nat → Nat → PR) : PR := match nums b L p with
  | some (v, p') => k (ns ++ [v]) p'
  | none => .inl p
def sE (ns : List Nat) (p : Nat) : PR := .inr (p, ns)
def sL (b : Nat → Nat) (L : Nat) : Nat → List Nat → Nat → PR
  | 0, ns, p => .inr (p, ns)
  | k + 1, ns, p => if p < L ∧ b p = 44 then sN b L ns (p + 1) (sL b L k) else .inr (p, ns)
def sR (b : Nat → Nat) (L : Nat) (ns : List Nat) (p : Nat) : PR := if p < L ∧ b p = 114 then .inr (p + 1, ns ++ [1]) else .inr (p, ns ++ [0])
def sS (b : Nat → Nat) (L p : Nat) : PR := sD b L 55 [] p fun ns p => sM b L 58 p fun p => sD b L 57 ns p fun ns p => sR b L ns p
def sH (b : Nat → Nat) (L : Nat) (ns : List Nat) (p : Nat) : PR := if p < L ∧ b p = 104 then sN b L ns (p + 1) sE else .inr (p, ns ++ [480])
def sX (b : Nat → Nat) (L : Nat) (ns : List Nat) (p : Nat) : PR := if p < L ∧ b p = 43 then sD b L 57 ns (p + 1) (sH b L) else sH b L (ns ++ [0]) p
def sT (b : Nat → Nat) (L p : Nat) : PR := sD b L 55 [] p fun ns p => sM b L 62 p fun p => sD b L 55 ns p fun ns p => sM b L 112 p fun p => sD b L 57 ns p fun ns p => sM b L 64 p fun p => sN b L ns p fun ns p => sX b L ns p
def sO (b : Nat → Nat) (L p : Nat) : PR := sD b L 55 [] p fun ns p => sM b L 43 p fun p => sN b L ns p fun ns p => sM b L 64 p fun p => sN b L ns p fun ns p => sM b L 45 p fun p => sN b L ns p sE
def sW (b : Nat → Nat) (L p : Nat) : PR := sN b L [] p sE
def sC (b : Nat → Nat) (L p : Nat) : PR := if p < L ∧ b p = 76 then sN b L [] (p + 1) (sL b L 6) else if p < L ∧ b p = 83 then sS b L (p + 1) else if p < L ∧ b p = 84 then sT b L (p + 1) else if p < L ∧ b p = 79 then sO b L (p + 1) else if p < L ∧ b p = 87 then sW b L (p + 1) else .inl p
section SP
variable {b : Nat → Nat} {L m c p : Nat} {ns : List Nat} {k : List Nat → Nat → PR} {k1 : Nat → PR}
theorem sD_1 (h : p < L ∧ 48 ≤ b p ∧ b p ≤ m) : sD b L m ns p k = k (ns ++ [b p - 48]) (p + 1) := if_pos h
theorem sD_0 (h : ¬ (p < L ∧ 48 ≤ b p ∧ b p ≤ m)) : sD b L m ns p k = .inl p := if_neg h
theorem sM_1 (h : p < L ∧ b p = c) : sM b L c p k1 = k1 (p + 1) := if_pos h
theorem sM_0 (h : ¬ (p < L ∧ b p = c)) : sM b L c p k1 = .inl p := if_neg h
theorem sN_1 {v p' : Nat} (h : nums b L p = some (v, p')) : sN b L ns p k = k (ns ++ [v]) p' := by
  unfold sN
  rw [h]
theorem sN_0 (h : nums b L p = none) : sN b L ns p k = .inl p := by
  unfold sN
  rw [h]
end SP
/-- what the class has read of a command -/
def CS (i : Nat) (C0 : zx_Y) (o : Option (Int32 × zx_Y)) (r : PR) (P : List Nat → zx_Y → Prop) : Prop := match r with
  | .inl e => ∃ C', o = some (0, C') ∧ C' (14, 0, 0, 0) 4 = nI e ∧ Kpi i C' C0
  | .inr (p, ns) => ∃ C', o = some (1, C') ∧ C' (14, 0, 0, 0) 4 = nI p ∧ Kpi i C' C0 ∧ P ns C'
theorem gd_l {ns : List Nat} {v j : Nat} (h : j < ns.length) : (ns ++ [v]).getD j 0 = ns.getD j 0 := by simp [List.getD, List.getElem?_append_left h]
theorem gd_r {ns : List Nat} {v : Nat} : (ns ++ [v]).getD ns.length 0 = v := by simp [List.getD]
section SQ
variable {b : Nat → Nat} {L i p : Nat} {C0 C : zx_Y}
theorem cS (T0 : TP b L C) (A : C (14, 0, 0, 0) 4 = nI p) (hp : p ≤ L) : CS i C (g_X8_readStation C i) (sS b L p) (fun ns C' => ∃ x0 x1 x2, ns = [x0, x1, x2] ∧ x0 ≤ 7 ∧ x1 ≤ 9 ∧ x2 ≤ 1 ∧ C' (17, i, 0, 0) 1 = nI x0 ∧ C' (17, i, 0, 0) 3 = nI x1 ∧ C' (17, i, 0, 0) 9 = nI x2 ∧ C' (17, i, 0, 0) 0 = C (17, i, 0, 0) 0) := by
  unfold g_X8_readStation sS
  by_cases c1 : p < L ∧ 48 ≤ b (p) ∧ b (p) ≤ 55
  rotate_left
  · rw [rd_0 (i := i) (m := 7) (x := 7) (p := p) T0 (by repeat (first | exact Kp_r | apply Kp_4 | apply Kp_17 | apply Kp_18)) (by first | exact A | (simp (disch := omega) only [up_n, up_e]; done) | (simp (disch := omega) only [up_n, up_e]; exact A)) rfl (by omega) (by omega) c1, zv_some, zl_def, up_e (by omega), if_pos (show (-1 : Int32) < 0 by decide), sD_0 c1]
    exact ⟨_, rfl, (by first | exact A | (simp (disch := omega) only [up_n, up_e]; done) | (simp (disch := omega) only [up_n, up_e]; exact A)), (by repeat (first | exact Kp_r | apply Kp_4 | apply Kp_17 | apply Kp_18))⟩
  rw [rd_1 (i := i) (m := 7) (x := 7) (p := p) T0 (by repeat (first | exact Kp_r | apply Kp_4 | apply Kp_17 | apply Kp_18)) (by first | exact A | (simp (disch := omega) only [up_n, up_e]; done) | (simp (disch := omega) only [up_n, up_e]; exact A)) rfl (by omega) c1, zv_some, zl_def, up_e (by omega), if_neg (nI_pos (by omega)), sD_1 c1]
  by_cases c2 : p + 1 < L ∧ b (p + 1) = 58
  rotate_left
  · rw [tk_0 (i := i) (c := 58) (x := 58) (p := p + 1) T0 (by repeat (first | exact Kp_r | apply Kp_4 | apply Kp_17 | apply Kp_18)) (by first | exact A | (simp (disch := omega) only [up_n, up_e]; done) | (simp (disch := omega) only [up_n, up_e]; exact A)) rfl (by omega) (by omega) c2, zv_some, if_pos rfl, sM_0 c2]
    exact ⟨_, rfl, (by first | exact A | (simp (disch := omega) only [up_n, up_e]; done) | (simp (disch := omega) only [up_n, up_e]; exact A)), (by repeat (first | exact Kp_r | apply Kp_4 | apply Kp_17 | apply Kp_18))⟩
  rw [tk_1 (i := i) (c := 58) (x := 58) (p := p + 1) T0 (by repeat (first | exact Kp_r | apply Kp_4 | apply Kp_17 | apply Kp_18)) (by first | exact A | (simp (disch := omega) only [up_n, up_e]; done) | (simp (disch := omega) only [up_n, up_e]; exact A)) rfl c2, zv_some, if_neg n10, sM_1 c2]
  by_cases c3 : p + 1 + 1 < L ∧ 48 ≤ b (p + 1 + 1) ∧ b (p + 1 + 1) ≤ 57
  rotate_left
  · rw [rd_0 (i := i) (m := 9) (x := 9) (p := p + 1 + 1) T0 (by repeat (first | exact Kp_r | apply Kp_4 | apply Kp_17 | apply Kp_18)) (by first | exact A | (simp (disch := omega) only [up_n, up_e]; done) | (simp (disch := omega) only [up_n, up_e]; exact A)) rfl (by omega) (by omega) c3, zv_some, zl_def, up_e (by omega), if_neg (show ¬ (0 : Int32) ≤ -1 by decide), sD_0 c3]
    exact ⟨_, rfl, (by first | exact A | (simp (disch := omega) only [up_n, up_e]; done) | (simp (disch := omega) only [up_n, up_e]; exact A)), (by repeat (first | exact Kp_r | apply Kp_4 | apply Kp_17 | apply Kp_18))⟩
  rw [rd_1 (i := i) (m := 9) (x := 9) (p := p + 1 + 1) T0 (by repeat (first | exact Kp_r | apply Kp_4 | apply Kp_17 | apply Kp_18)) (by first | exact A | (simp (disch := omega) only [up_n, up_e]; done) | (simp (disch := omega) only [up_n, up_e]; exact A)) rfl (by omega) c3, zv_some, zl_def, up_e (by omega), if_pos (show (0 : Int32) ≤ _ from nI_pos' (by omega)), sD_1 c3]
  unfold sR
  by_cases c9 : p + 1 + 1 + 1 < L ∧ b (p + 1 + 1 + 1) = 114
  · rw [tk_1 (i := i) (c := 114) (x := 114) (p := p + 1 + 1 + 1) T0 (by repeat (first | exact Kp_r | apply Kp_4 | apply Kp_17 | apply Kp_18)) (by first | exact A | (simp (disch := omega) only [up_n, up_e]; done) | (simp (disch := omega) only [up_n, up_e]; exact A)) rfl c9, zv_some, zo_1, zl_def, if_pos c9]
    exact ⟨_, rfl, (by first | exact A | (simp (disch := omega) only [up_n, up_e]; done) | (simp (disch := omega) only [up_n, up_e]; exact A)), (by repeat (first | exact Kp_r | apply Kp_4 | apply Kp_17 | apply Kp_18)), b p - 48, b (p + 1 + 1) - 48, 1, rfl, by omega, by omega, by omega, (by first | (simp (disch := omega) only [up_n, up_e]; done) | (simp (disch := omega) only [up_n, up_e]; rfl)), (by first | (simp (disch := omega) only [up_n, up_e]; done) | (simp (disch := omega) only [up_n, up_e]; rfl)), (by first | (simp (disch := omega) only [up_n, up_e]; done) | (simp (disch := omega) only [up_n, up_e]; rfl)), (by first | (simp (disch := omega) only [up_n, up_e]; done) | (simp (disch := omega) only [up_n, up_e]; rfl))⟩
  · rw [tk_0 (i := i) (c := 114) (x := 114) (p := p + 1 + 1 + 1) T0 (by repeat (first | exact Kp_r | apply Kp_4 | apply Kp_17 | apply Kp_18)) (by first | exact A | (simp (disch := omega) only [up_n, up_e]; done) | (simp (disch := omega) only [up_n, up_e]; exact A)) rfl (by omega) (by omega) c9, zv_some, zo_0, zl_def, if_neg c9]
    exact ⟨_, rfl, (by first | exact A | (simp (disch := omega) only [up_n, up_e]; done) | (simp (disch := omega) only [up_n, up_e]; exact A)), (by repeat (first | exact Kp_r | apply Kp_4 | apply Kp_17 | apply Kp_18)), b p - 48, b (p + 1 + 1) - 48, 0, rfl, by omega, by omega, by omega, (by first | (simp (disch := omega) only [up_n, up_e]; done) | (simp (disch := omega) only [up_n, up_e]; rfl)), (by first | (simp (disch := omega) only [up_n, up_e]; done) | (simp (disch := omega) only [up_n, up_e]; rfl)), (by first | (simp (disch := omega) only [up_n, up_e]; done) | (simp (disch := omega) only [up_n, up_e]; rfl)), (by first | (simp (disch := omega) only [up_n, up_e]; done) | (simp (disch := omega) only [up_n, up_e]; rfl))⟩
theorem cO (T0 : TP b L C) (A : C (14, 0, 0, 0) 4 = nI p) (hp : p ≤ L) : CS i C (g_X8_readOrder C i) (sO b L p) (fun ns C' => ∃ x0 x1 x2 x3, ns = [x0, x1, x2, x3] ∧ x0 ≤ 7 ∧ x1 ≤ 9999 ∧ x2 ≤ 9999 ∧ x3 ≤ 9999 ∧ C' (17, i, 0, 0) 1 = nI x0 ∧ C' (17, i, 0, 0) 7 = nI x1 ∧ C' (17, i, 0, 0) 4 = nI x2 ∧ C' (17, i, 0, 0) 8 = nI x3 ∧ C' (17, i, 0, 0) 0 = C (17, i, 0, 0) 0) := by
  unfold g_X8_readOrder sO
  by_cases c1 : p < L ∧ 48 ≤ b (p) ∧ b (p) ≤ 55
  rotate_left
  · rw [rd_0 (i := i) (m := 7) (x := 7) (p := p) T0 (by repeat (first | exact Kp_r | apply Kp_4 | apply Kp_17 | apply Kp_18)) (by first | exact A | (simp (disch := omega) only [up_n, up_e]; done) | (simp (disch := omega) only [up_n, up_e]; exact A)) rfl (by omega) (by omega) c1, zv_some, zl_def, up_e (by omega), if_pos (show (-1 : Int32) < 0 by decide), sD_0 c1]
    exact ⟨_, rfl, (by first | exact A | (simp (disch := omega) only [up_n, up_e]; done) | (simp (disch := omega) only [up_n, up_e]; exact A)), (by repeat (first | exact Kp_r | apply Kp_4 | apply Kp_17 | apply Kp_18))⟩
  rw [rd_1 (i := i) (m := 7) (x := 7) (p := p) T0 (by repeat (first | exact Kp_r | apply Kp_4 | apply Kp_17 | apply Kp_18)) (by first | exact A | (simp (disch := omega) only [up_n, up_e]; done) | (simp (disch := omega) only [up_n, up_e]; exact A)) rfl (by omega) c1, zv_some, zl_def, up_e (by omega), if_neg (nI_pos (by omega)), sD_1 c1]
  by_cases c2 : p + 1 < L ∧ b (p + 1) = 43
  rotate_left
  · rw [tk_0 (i := i) (c := 43) (x := 43) (p := p + 1) T0 (by repeat (first | exact Kp_r | apply Kp_4 | apply Kp_17 | apply Kp_18)) (by first | exact A | (simp (disch := omega) only [up_n, up_e]; done) | (simp (disch := omega) only [up_n, up_e]; exact A)) rfl (by omega) (by omega) c2, zv_some, if_pos rfl, sM_0 c2]
    exact ⟨_, rfl, (by first | exact A | (simp (disch := omega) only [up_n, up_e]; done) | (simp (disch := omega) only [up_n, up_e]; exact A)), (by repeat (first | exact Kp_r | apply Kp_4 | apply Kp_17 | apply Kp_18))⟩
  rw [tk_1 (i := i) (c := 43) (x := 43) (p := p + 1) T0 (by repeat (first | exact Kp_r | apply Kp_4 | apply Kp_17 | apply Kp_18)) (by first | exact A | (simp (disch := omega) only [up_n, up_e]; done) | (simp (disch := omega) only [up_n, up_e]; exact A)) rfl c2, zv_some, if_neg n10, sM_1 c2]
  rcases c3 : nums b L (p + 1 + 1) with _ | ⟨v1, pv1⟩
  · rw [rn_0 (i := i) (p := p + 1 + 1) T0 (by repeat (first | exact Kp_r | apply Kp_4 | apply Kp_17 | apply Kp_18)) (by first | exact A | (simp (disch := omega) only [up_n, up_e]; done) | (simp (disch := omega) only [up_n, up_e]; exact A)) (by omega) c3, zv_some, zl_def, up_e (by omega), if_pos (show (-1 : Int32) < 0 by decide), sN_0 c3]
    exact ⟨_, rfl, (by first | exact A | (simp (disch := omega) only [up_n, up_e]; done) | (simp (disch := omega) only [up_n, up_e]; exact A)), (by repeat (first | exact Kp_r | apply Kp_4 | apply Kp_17 | apply Kp_18))⟩
  have bc3 := nums_b c3
  rw [rn_1 (i := i) (p := p + 1 + 1) T0 (by repeat (first | exact Kp_r | apply Kp_4 | apply Kp_17 | apply Kp_18)) (by first | exact A | (simp (disch := omega) only [up_n, up_e]; done) | (simp (disch := omega) only [up_n, up_e]; exact A)) c3, zv_some, zl_def, up_e (by omega), if_neg (nI_pos (by omega)), sN_1 c3]
  by_cases c4 : pv1 < L ∧ b (pv1) = 64
  rotate_left
  · rw [tk_0 (i := i) (c := 64) (x := 64) (p := pv1) T0 (by repeat (first | exact Kp_r | apply Kp_4 | apply Kp_17 | apply Kp_18)) (by first | exact A | (simp (disch := omega) only [up_n, up_e]; done) | (simp (disch := omega) only [up_n, up_e]; exact A)) rfl (by omega) (by omega) c4, zv_some, if_pos rfl, sM_0 c4]
    exact ⟨_, rfl, (by first | exact A | (simp (disch := omega) only [up_n, up_e]; done) | (simp (disch := omega) only [up_n, up_e]; exact A)), (by repeat (first | exact Kp_r | apply Kp_4 | apply Kp_17 | apply Kp_18))⟩
  rw [tk_1 (i := i) (c := 64) (x := 64) (p := pv1) T0 (by repeat (first | exact Kp_r | apply Kp_4 | apply Kp_17 | apply Kp_18)) (by first | exact A | (simp (disch := omega) only [up_n, up_e]; done) | (simp (disch := omega) only [up_n, up_e]; exact A)) rfl c4, zv_some, if_neg n10, sM_1 c4]
  rcases c5 : nums b L (pv1 + 1) with _ | ⟨v2, pv2⟩
  · rw [rn_0 (i := i) (p := pv1 + 1) T0 (by repeat (first | exact Kp_r | apply Kp_4 | apply Kp_17 | apply Kp_18)) (by first | exact A | (simp (disch := omega) only [up_n, up_e]; done) | (simp (disch := omega) only [up_n, up_e]; exact A)) (by omega) c5, zv_some, zl_def, up_e (by omega), if_pos (show (-1 : Int32) < 0 by decide), sN_0 c5]
    exact ⟨_, rfl, (by first | exact A | (simp (disch := omega) only [up_n, up_e]; done) | (simp (disch := omega) only [up_n, up_e]; exact A)), (by repeat (first | exact Kp_r | apply Kp_4 | apply Kp_17 | apply Kp_18))⟩
  have bc5 := nums_b c5
  rw [rn_1 (i := i) (p := pv1 + 1) T0 (by repeat (first | exact Kp_r | apply Kp_4 | apply Kp_17 | apply Kp_18)) (by first | exact A | (simp (disch := omega) only [up_n, up_e]; done) | (simp (disch := omega) only [up_n, up_e]; exact A)) c5, zv_some, zl_def, up_e (by omega), if_neg (nI_pos (by omega)), sN_1 c5]
  by_cases c6 : pv2 < L ∧ b (pv2) = 45
  rotate_left
  · rw [tk_0 (i := i) (c := 45) (x := 45) (p := pv2) T0 (by repeat (first | exact Kp_r | apply Kp_4 | apply Kp_17 | apply Kp_18)) (by first | exact A | (simp (disch := omega) only [up_n, up_e]; done) | (simp (disch := omega) only [up_n, up_e]; exact A)) rfl (by omega) (by omega) c6, zv_some, if_pos rfl, sM_0 c6]
    exact ⟨_, rfl, (by first | exact A | (simp (disch := omega) only [up_n, up_e]; done) | (simp (disch := omega) only [up_n, up_e]; exact A)), (by repeat (first | exact Kp_r | apply Kp_4 | apply Kp_17 | apply Kp_18))⟩
  rw [tk_1 (i := i) (c := 45) (x := 45) (p := pv2) T0 (by repeat (first | exact Kp_r | apply Kp_4 | apply Kp_17 | apply Kp_18)) (by first | exact A | (simp (disch := omega) only [up_n, up_e]; done) | (simp (disch := omega) only [up_n, up_e]; exact A)) rfl c6, zv_some, if_neg n10, sM_1 c6]
  rcases c7 : nums b L (pv2 + 1) with _ | ⟨v3, pv3⟩
  · rw [rn_0 (i := i) (p := pv2 + 1) T0 (by repeat (first | exact Kp_r | apply Kp_4 | apply Kp_17 | apply Kp_18)) (by first | exact A | (simp (disch := omega) only [up_n, up_e]; done) | (simp (disch := omega) only [up_n, up_e]; exact A)) (by omega) c7, zv_some, zl_def, up_e (by omega), if_pos (show (-1 : Int32) < 0 by decide), sN_0 c7]
    exact ⟨_, rfl, (by first | exact A | (simp (disch := omega) only [up_n, up_e]; done) | (simp (disch := omega) only [up_n, up_e]; exact A)), (by repeat (first | exact Kp_r | apply Kp_4 | apply Kp_17 | apply Kp_18))⟩
  have bc7 := nums_b c7
  rw [rn_1 (i := i) (p := pv2 + 1) T0 (by repeat (first | exact Kp_r | apply Kp_4 | apply Kp_17 | apply Kp_18)) (by first | exact A | (simp (disch := omega) only [up_n, up_e]; done) | (simp (disch := omega) only [up_n, up_e]; exact A)) c7, zv_some, zl_def, up_e (by omega), if_neg (nI_pos (by omega)), sN_1 c7]
  exact ⟨_, rfl, (by first | exact A | (simp (disch := omega) only [up_n, up_e]; done) | (simp (disch := omega) only [up_n, up_e]; exact A)), (by repeat (first | exact Kp_r | apply Kp_4 | apply Kp_17 | apply Kp_18)), b p - 48, v1, v2, v3, rfl, by omega, by omega, by omega, by omega, (by first | (simp (disch := omega) only [up_n, up_e]; done) | (simp (disch := omega) only [up_n, up_e]; rfl)), (by first | (simp (disch := omega) only [up_n, up_e]; done) | (simp (disch := omega) only [up_n, up_e]; rfl)), (by first | (simp (disch := omega) only [up_n, up_e]; done) | (simp (disch := omega) only [up_n, up_e]; rfl)), (by first | (simp (disch := omega) only [up_n, up_e]; done) | (simp (disch := omega) only [up_n, up_e]; rfl)), (by first | (simp (disch := omega) only [up_n, up_e]; done) | (simp (disch := omega) only [up_n, up_e]; rfl))⟩
theorem cW (T0 : TP b L C) (A : C (14, 0, 0, 0) 4 = nI p) (hp : p ≤ L) : CS i C (g_X8_readBound C i) (sW b L p) (fun ns C' => ∃ x0, ns = [x0] ∧ x0 ≤ 9999 ∧ C' (17, i, 0, 0) 7 = nI x0 ∧ C' (17, i, 0, 0) 0 = C (17, i, 0, 0) 0) := by
  unfold g_X8_readBound sW
  rcases c1 : nums b L (p) with _ | ⟨v1, pv1⟩
  · rw [rn_0 (i := i) (p := p) T0 (by repeat (first | exact Kp_r | apply Kp_4 | apply Kp_17 | apply Kp_18)) (by first | exact A | (simp (disch := omega) only [up_n, up_e]; done) | (simp (disch := omega) only [up_n, up_e]; exact A)) (by omega) c1, zv_some, zl_def, up_e (by omega), if_pos (show (-1 : Int32) < 0 by decide), sN_0 c1]
    exact ⟨_, rfl, (by first | exact A | (simp (disch := omega) only [up_n, up_e]; done) | (simp (disch := omega) only [up_n, up_e]; exact A)), (by repeat (first | exact Kp_r | apply Kp_4 | apply Kp_17 | apply Kp_18))⟩
  have bc1 := nums_b c1
  rw [rn_1 (i := i) (p := p) T0 (by repeat (first | exact Kp_r | apply Kp_4 | apply Kp_17 | apply Kp_18)) (by first | exact A | (simp (disch := omega) only [up_n, up_e]; done) | (simp (disch := omega) only [up_n, up_e]; exact A)) c1, zv_some, zl_def, up_e (by omega), if_neg (nI_pos (by omega)), sN_1 c1]
  exact ⟨_, rfl, (by first | exact A | (simp (disch := omega) only [up_n, up_e]; done) | (simp (disch := omega) only [up_n, up_e]; exact A)), (by repeat (first | exact Kp_r | apply Kp_4 | apply Kp_17 | apply Kp_18)), v1, rfl, by omega, (by first | (simp (disch := omega) only [up_n, up_e]; done) | (simp (disch := omega) only [up_n, up_e]; rfl)), (by first | (simp (disch := omega) only [up_n, up_e]; done) | (simp (disch := omega) only [up_n, up_e]; rfl))⟩
theorem cT (T0 : TP b L C) (A : C (14, 0, 0, 0) 4 = nI p) (hp : p ≤ L) : CS i C (g_X8_readTrain C i) (sT b L p) (fun ns C' => ∃ x0 x1 x2 x3 x4 x5, ns = [x0, x1, x2, x3, x4, x5] ∧ x0 ≤ 7 ∧ x1 ≤ 7 ∧ x2 ≤ 9 ∧ x3 ≤ 9999 ∧ x4 ≤ 9 ∧ x5 ≤ 9999 ∧ C' (17, i, 0, 0) 1 = nI x0 ∧ C' (17, i, 0, 0) 2 = nI x1 ∧ C' (17, i, 0, 0) 3 = nI x2 ∧ C' (17, i, 0, 0) 4 = nI x3 ∧ C' (17, i, 0, 0) 5 = nI x4 ∧ C' (17, i, 0, 0) 6 = nI x5 ∧ C' (17, i, 0, 0) 0 = C (17, i, 0, 0) 0) := by
  unfold g_X8_readTrain sT
  by_cases c1 : p < L ∧ 48 ≤ b (p) ∧ b (p) ≤ 55
  rotate_left
  · rw [rd_0 (i := i) (m := 7) (x := 7) (p := p) T0 (by repeat (first | exact Kp_r | apply Kp_4 | apply Kp_17 | apply Kp_18)) (by first | exact A | (simp (disch := omega) only [up_n, up_e]; done) | (simp (disch := omega) only [up_n, up_e]; exact A)) rfl (by omega) (by omega) c1, zv_some, zl_def, up_e (by omega), if_pos (show (-1 : Int32) < 0 by decide), sD_0 c1]
    exact ⟨_, rfl, (by first | exact A | (simp (disch := omega) only [up_n, up_e]; done) | (simp (disch := omega) only [up_n, up_e]; exact A)), (by repeat (first | exact Kp_r | apply Kp_4 | apply Kp_17 | apply Kp_18))⟩
  rw [rd_1 (i := i) (m := 7) (x := 7) (p := p) T0 (by repeat (first | exact Kp_r | apply Kp_4 | apply Kp_17 | apply Kp_18)) (by first | exact A | (simp (disch := omega) only [up_n, up_e]; done) | (simp (disch := omega) only [up_n, up_e]; exact A)) rfl (by omega) c1, zv_some, zl_def, up_e (by omega), if_neg (nI_pos (by omega)), sD_1 c1]
  by_cases c2 : p + 1 < L ∧ b (p + 1) = 62
  rotate_left
  · rw [tk_0 (i := i) (c := 62) (x := 62) (p := p + 1) T0 (by repeat (first | exact Kp_r | apply Kp_4 | apply Kp_17 | apply Kp_18)) (by first | exact A | (simp (disch := omega) only [up_n, up_e]; done) | (simp (disch := omega) only [up_n, up_e]; exact A)) rfl (by omega) (by omega) c2, zv_some, if_pos rfl, sM_0 c2]
    exact ⟨_, rfl, (by first | exact A | (simp (disch := omega) only [up_n, up_e]; done) | (simp (disch := omega) only [up_n, up_e]; exact A)), (by repeat (first | exact Kp_r | apply Kp_4 | apply Kp_17 | apply Kp_18))⟩
  rw [tk_1 (i := i) (c := 62) (x := 62) (p := p + 1) T0 (by repeat (first | exact Kp_r | apply Kp_4 | apply Kp_17 | apply Kp_18)) (by first | exact A | (simp (disch := omega) only [up_n, up_e]; done) | (simp (disch := omega) only [up_n, up_e]; exact A)) rfl c2, zv_some, if_neg n10, sM_1 c2]
  by_cases c3 : p + 1 + 1 < L ∧ 48 ≤ b (p + 1 + 1) ∧ b (p + 1 + 1) ≤ 55
  rotate_left
  · rw [rd_0 (i := i) (m := 7) (x := 7) (p := p + 1 + 1) T0 (by repeat (first | exact Kp_r | apply Kp_4 | apply Kp_17 | apply Kp_18)) (by first | exact A | (simp (disch := omega) only [up_n, up_e]; done) | (simp (disch := omega) only [up_n, up_e]; exact A)) rfl (by omega) (by omega) c3, zv_some, zl_def, up_e (by omega), if_pos (show (-1 : Int32) < 0 by decide), sD_0 c3]
    exact ⟨_, rfl, (by first | exact A | (simp (disch := omega) only [up_n, up_e]; done) | (simp (disch := omega) only [up_n, up_e]; exact A)), (by repeat (first | exact Kp_r | apply Kp_4 | apply Kp_17 | apply Kp_18))⟩
  rw [rd_1 (i := i) (m := 7) (x := 7) (p := p + 1 + 1) T0 (by repeat (first | exact Kp_r | apply Kp_4 | apply Kp_17 | apply Kp_18)) (by first | exact A | (simp (disch := omega) only [up_n, up_e]; done) | (simp (disch := omega) only [up_n, up_e]; exact A)) rfl (by omega) c3, zv_some, zl_def, up_e (by omega), if_neg (nI_pos (by omega)), sD_1 c3]
  by_cases c4 : p + 1 + 1 + 1 < L ∧ b (p + 1 + 1 + 1) = 112
  rotate_left
  · rw [tk_0 (i := i) (c := 112) (x := 112) (p := p + 1 + 1 + 1) T0 (by repeat (first | exact Kp_r | apply Kp_4 | apply Kp_17 | apply Kp_18)) (by first | exact A | (simp (disch := omega) only [up_n, up_e]; done) | (simp (disch := omega) only [up_n, up_e]; exact A)) rfl (by omega) (by omega) c4, zv_some, if_pos rfl, sM_0 c4]
    exact ⟨_, rfl, (by first | exact A | (simp (disch := omega) only [up_n, up_e]; done) | (simp (disch := omega) only [up_n, up_e]; exact A)), (by repeat (first | exact Kp_r | apply Kp_4 | apply Kp_17 | apply Kp_18))⟩
  rw [tk_1 (i := i) (c := 112) (x := 112) (p := p + 1 + 1 + 1) T0 (by repeat (first | exact Kp_r | apply Kp_4 | apply Kp_17 | apply Kp_18)) (by first | exact A | (simp (disch := omega) only [up_n, up_e]; done) | (simp (disch := omega) only [up_n, up_e]; exact A)) rfl c4, zv_some, if_neg n10, sM_1 c4]
  by_cases c5 : p + 1 + 1 + 1 + 1 < L ∧ 48 ≤ b (p + 1 + 1 + 1 + 1) ∧ b (p + 1 + 1 + 1 + 1) ≤ 57
  rotate_left
  · rw [rd_0 (i := i) (m := 9) (x := 9) (p := p + 1 + 1 + 1 + 1) T0 (by repeat (first | exact Kp_r | apply Kp_4 | apply Kp_17 | apply Kp_18)) (by first | exact A | (simp (disch := omega) only [up_n, up_e]; done) | (simp (disch := omega) only [up_n, up_e]; exact A)) rfl (by omega) (by omega) c5, zv_some, zl_def, up_e (by omega), if_pos (show (-1 : Int32) < 0 by decide), sD_0 c5]
    exact ⟨_, rfl, (by first | exact A | (simp (disch := omega) only [up_n, up_e]; done) | (simp (disch := omega) only [up_n, up_e]; exact A)), (by repeat (first | exact Kp_r | apply Kp_4 | apply Kp_17 | apply Kp_18))⟩
  rw [rd_1 (i := i) (m := 9) (x := 9) (p := p + 1 + 1 + 1 + 1) T0 (by repeat (first | exact Kp_r | apply Kp_4 | apply Kp_17 | apply Kp_18)) (by first | exact A | (simp (disch := omega) only [up_n, up_e]; done) | (simp (disch := omega) only [up_n, up_e]; exact A)) rfl (by omega) c5, zv_some, zl_def, up_e (by omega), if_neg (nI_pos (by omega)), sD_1 c5]
  by_cases c6 : p + 1 + 1 + 1 + 1 + 1 < L ∧ b (p + 1 + 1 + 1 + 1 + 1) = 64
  rotate_left
  · rw [tk_0 (i := i) (c := 64) (x := 64) (p := p + 1 + 1 + 1 + 1 + 1) T0 (by repeat (first | exact Kp_r | apply Kp_4 | apply Kp_17 | apply Kp_18)) (by first | exact A | (simp (disch := omega) only [up_n, up_e]; done) | (simp (disch := omega) only [up_n, up_e]; exact A)) rfl (by omega) (by omega) c6, zv_some, if_pos rfl, sM_0 c6]
    exact ⟨_, rfl, (by first | exact A | (simp (disch := omega) only [up_n, up_e]; done) | (simp (disch := omega) only [up_n, up_e]; exact A)), (by repeat (first | exact Kp_r | apply Kp_4 | apply Kp_17 | apply Kp_18))⟩
  rw [tk_1 (i := i) (c := 64) (x := 64) (p := p + 1 + 1 + 1 + 1 + 1) T0 (by repeat (first | exact Kp_r | apply Kp_4 | apply Kp_17 | apply Kp_18)) (by first | exact A | (simp (disch := omega) only [up_n, up_e]; done) | (simp (disch := omega) only [up_n, up_e]; exact A)) rfl c6, zv_some, if_neg n10, sM_1 c6]
  rcases c7 : nums b L (p + 1 + 1 + 1 + 1 + 1 + 1) with _ | ⟨v1, pv1⟩
  · rw [rn_0 (i := i) (p := p + 1 + 1 + 1 + 1 + 1 + 1) T0 (by repeat (first | exact Kp_r | apply Kp_4 | apply Kp_17 | apply Kp_18)) (by first | exact A | (simp (disch := omega) only [up_n, up_e]; done) | (simp (disch := omega) only [up_n, up_e]; exact A)) (by omega) c7, zv_some, zl_def, up_e (by omega), if_neg (show ¬ (0 : Int32) ≤ -1 by decide), sN_0 c7]
    exact ⟨_, rfl, (by first | exact A | (simp (disch := omega) only [up_n, up_e]; done) | (simp (disch := omega) only [up_n, up_e]; exact A)), (by repeat (first | exact Kp_r | apply Kp_4 | apply Kp_17 | apply Kp_18))⟩
  have bc7 := nums_b c7
  rw [rn_1 (i := i) (p := p + 1 + 1 + 1 + 1 + 1 + 1) T0 (by repeat (first | exact Kp_r | apply Kp_4 | apply Kp_17 | apply Kp_18)) (by first | exact A | (simp (disch := omega) only [up_n, up_e]; done) | (simp (disch := omega) only [up_n, up_e]; exact A)) c7, zv_some, zl_def, up_e (by omega), if_pos (show (0 : Int32) ≤ _ from nI_pos' (by omega)), sN_1 c7]
  unfold sX
  by_cases ca : pv1 < L ∧ b (pv1) = 43
  · rw [tk_1 (i := i) (c := 43) (x := 43) (p := pv1) T0 (by repeat (first | exact Kp_r | apply Kp_4 | apply Kp_17 | apply Kp_18)) (by first | exact A | (simp (disch := omega) only [up_n, up_e]; done) | (simp (disch := omega) only [up_n, up_e]; exact A)) rfl ca, zv_some, if_neg n10, if_pos ca]
    by_cases c8 : pv1 + 1 < L ∧ 48 ≤ b (pv1 + 1) ∧ b (pv1 + 1) ≤ 57
    rotate_left
    · rw [rd_0 (i := i) (m := 9) (x := 9) (p := pv1 + 1) T0 (by repeat (first | exact Kp_r | apply Kp_4 | apply Kp_17 | apply Kp_18)) (by first | exact A | (simp (disch := omega) only [up_n, up_e]; done) | (simp (disch := omega) only [up_n, up_e]; exact A)) rfl (by omega) (by omega) c8, zv_some, zl_def, up_e (by omega), if_neg (show ¬ (0 : Int32) ≤ -1 by decide), sD_0 c8]
      exact ⟨_, rfl, (by first | exact A | (simp (disch := omega) only [up_n, up_e]; done) | (simp (disch := omega) only [up_n, up_e]; exact A)), (by repeat (first | exact Kp_r | apply Kp_4 | apply Kp_17 | apply Kp_18))⟩
    rw [rd_1 (i := i) (m := 9) (x := 9) (p := pv1 + 1) T0 (by repeat (first | exact Kp_r | apply Kp_4 | apply Kp_17 | apply Kp_18)) (by first | exact A | (simp (disch := omega) only [up_n, up_e]; done) | (simp (disch := omega) only [up_n, up_e]; exact A)) rfl (by omega) c8, zv_some, zl_def, up_e (by omega), if_pos (show (0 : Int32) ≤ _ from nI_pos' (by omega)), sD_1 c8]
    unfold sH
    by_cases ch_ : pv1 + 1 + 1 < L ∧ b (pv1 + 1 + 1) = 104
    · rw [tk_1 (i := i) (c := 104) (x := 104) (p := pv1 + 1 + 1) T0 (by repeat (first | exact Kp_r | apply Kp_4 | apply Kp_17 | apply Kp_18)) (by first | exact A | (simp (disch := omega) only [up_n, up_e]; done) | (simp (disch := omega) only [up_n, up_e]; exact A)) rfl ch_, zv_some, if_neg n10, if_pos ch_]
      rcases c9 : nums b L (pv1 + 1 + 1 + 1) with _ | ⟨v9, pv9⟩
      · rw [rn_0 (i := i) (p := pv1 + 1 + 1 + 1) T0 (by repeat (first | exact Kp_r | apply Kp_4 | apply Kp_17 | apply Kp_18)) (by first | exact A | (simp (disch := omega) only [up_n, up_e]; done) | (simp (disch := omega) only [up_n, up_e]; exact A)) (by omega) c9, zv_some, zl_def, up_e (by omega), if_pos (show (-1 : Int32) < 0 by decide), sN_0 c9]
        exact ⟨_, rfl, (by first | exact A | (simp (disch := omega) only [up_n, up_e]; done) | (simp (disch := omega) only [up_n, up_e]; exact A)), (by repeat (first | exact Kp_r | apply Kp_4 | apply Kp_17 | apply Kp_18))⟩
      have bc9 := nums_b c9
      rw [rn_1 (i := i) (p := pv1 + 1 + 1 + 1) T0 (by repeat (first | exact Kp_r | apply Kp_4 | apply Kp_17 | apply Kp_18)) (by first | exact A | (simp (disch := omega) only [up_n, up_e]; done) | (simp (disch := omega) only [up_n, up_e]; exact A)) c9, zv_some, zl_def, up_e (by omega), if_neg (nI_pos (by omega)), sN_1 c9]
      exact ⟨_, rfl, (by first | exact A | (simp (disch := omega) only [up_n, up_e]; done) | (simp (disch := omega) only [up_n, up_e]; exact A)), (by repeat (first | exact Kp_r | apply Kp_4 | apply Kp_17 | apply Kp_18)), b p - 48, b (p + 1 + 1) - 48, b (p + 1 + 1 + 1 + 1) - 48, v1, b (pv1 + 1) - 48, v9, rfl, by omega, by omega, by omega, by omega, by omega, by omega, (by first | (simp (disch := omega) only [up_n, up_e]; done) | (simp (disch := omega) only [up_n, up_e]; rfl)), (by first | (simp (disch := omega) only [up_n, up_e]; done) | (simp (disch := omega) only [up_n, up_e]; rfl)), (by first | (simp (disch := omega) only [up_n, up_e]; done) | (simp (disch := omega) only [up_n, up_e]; rfl)), (by first | (simp (disch := omega) only [up_n, up_e]; done) | (simp (disch := omega) only [up_n, up_e]; rfl)), (by first | (simp (disch := omega) only [up_n, up_e]; done) | (simp (disch := omega) only [up_n, up_e]; rfl)), (by first | (simp (disch := omega) only [up_n, up_e]; done) | (simp (disch := omega) only [up_n, up_e]; rfl)), (by first | (simp (disch := omega) only [up_n, up_e]; done) | (simp (disch := omega) only [up_n, up_e]; rfl))⟩
    · rw [tk_0 (i := i) (c := 104) (x := 104) (p := pv1 + 1 + 1) T0 (by repeat (first | exact Kp_r | apply Kp_4 | apply Kp_17 | apply Kp_18)) (by first | exact A | (simp (disch := omega) only [up_n, up_e]; done) | (simp (disch := omega) only [up_n, up_e]; exact A)) rfl (by omega) (by omega) ch_, zv_some, if_pos rfl, zl_def, up_e (by omega), if_neg (show ¬ (480 : Int32) < 0 by decide), if_neg ch_]
      exact ⟨_, rfl, (by first | exact A | (simp (disch := omega) only [up_n, up_e]; done) | (simp (disch := omega) only [up_n, up_e]; exact A)), (by repeat (first | exact Kp_r | apply Kp_4 | apply Kp_17 | apply Kp_18)), b p - 48, b (p + 1 + 1) - 48, b (p + 1 + 1 + 1 + 1) - 48, v1, b (pv1 + 1) - 48, 480, rfl, by omega, by omega, by omega, by omega, by omega, by omega, (by first | (simp (disch := omega) only [up_n, up_e]; done) | (simp (disch := omega) only [up_n, up_e]; rfl)), (by first | (simp (disch := omega) only [up_n, up_e]; done) | (simp (disch := omega) only [up_n, up_e]; rfl)), (by first | (simp (disch := omega) only [up_n, up_e]; done) | (simp (disch := omega) only [up_n, up_e]; rfl)), (by first | (simp (disch := omega) only [up_n, up_e]; done) | (simp (disch := omega) only [up_n, up_e]; rfl)), (by first | (simp (disch := omega) only [up_n, up_e]; done) | (simp (disch := omega) only [up_n, up_e]; rfl)), (by first | (simp (disch := omega) only [up_n, up_e]; done) | (simp (disch := omega) only [up_n, up_e]; rfl)), (by first | (simp (disch := omega) only [up_n, up_e]; done) | (simp (disch := omega) only [up_n, up_e]; rfl))⟩
  · rw [tk_0 (i := i) (c := 43) (x := 43) (p := pv1) T0 (by repeat (first | exact Kp_r | apply Kp_4 | apply Kp_17 | apply Kp_18)) (by first | exact A | (simp (disch := omega) only [up_n, up_e]; done) | (simp (disch := omega) only [up_n, up_e]; exact A)) rfl (by omega) (by omega) ca, zv_some, if_pos rfl, zl_def, up_e (by omega), if_pos (show (0 : Int32) ≤ 0 by decide), if_neg ca]
    unfold sH
    by_cases ch_ : pv1 < L ∧ b (pv1) = 104
    · rw [tk_1 (i := i) (c := 104) (x := 104) (p := pv1) T0 (by repeat (first | exact Kp_r | apply Kp_4 | apply Kp_17 | apply Kp_18)) (by first | exact A | (simp (disch := omega) only [up_n, up_e]; done) | (simp (disch := omega) only [up_n, up_e]; exact A)) rfl ch_, zv_some, if_neg n10, if_pos ch_]
      rcases c10 : nums b L (pv1 + 1) with _ | ⟨v9, pv9⟩
      · rw [rn_0 (i := i) (p := pv1 + 1) T0 (by repeat (first | exact Kp_r | apply Kp_4 | apply Kp_17 | apply Kp_18)) (by first | exact A | (simp (disch := omega) only [up_n, up_e]; done) | (simp (disch := omega) only [up_n, up_e]; exact A)) (by omega) c10, zv_some, zl_def, up_e (by omega), if_pos (show (-1 : Int32) < 0 by decide), sN_0 c10]
        exact ⟨_, rfl, (by first | exact A | (simp (disch := omega) only [up_n, up_e]; done) | (simp (disch := omega) only [up_n, up_e]; exact A)), (by repeat (first | exact Kp_r | apply Kp_4 | apply Kp_17 | apply Kp_18))⟩
      have bc10 := nums_b c10
      rw [rn_1 (i := i) (p := pv1 + 1) T0 (by repeat (first | exact Kp_r | apply Kp_4 | apply Kp_17 | apply Kp_18)) (by first | exact A | (simp (disch := omega) only [up_n, up_e]; done) | (simp (disch := omega) only [up_n, up_e]; exact A)) c10, zv_some, zl_def, up_e (by omega), if_neg (nI_pos (by omega)), sN_1 c10]
      exact ⟨_, rfl, (by first | exact A | (simp (disch := omega) only [up_n, up_e]; done) | (simp (disch := omega) only [up_n, up_e]; exact A)), (by repeat (first | exact Kp_r | apply Kp_4 | apply Kp_17 | apply Kp_18)), b p - 48, b (p + 1 + 1) - 48, b (p + 1 + 1 + 1 + 1) - 48, v1, 0, v9, rfl, by omega, by omega, by omega, by omega, by omega, by omega, (by first | (simp (disch := omega) only [up_n, up_e]; done) | (simp (disch := omega) only [up_n, up_e]; rfl)), (by first | (simp (disch := omega) only [up_n, up_e]; done) | (simp (disch := omega) only [up_n, up_e]; rfl)), (by first | (simp (disch := omega) only [up_n, up_e]; done) | (simp (disch := omega) only [up_n, up_e]; rfl)), (by first | (simp (disch := omega) only [up_n, up_e]; done) | (simp (disch := omega) only [up_n, up_e]; rfl)), (by first | (simp (disch := omega) only [up_n, up_e]; done) | (simp (disch := omega) only [up_n, up_e]; rfl)), (by first | (simp (disch := omega) only [up_n, up_e]; done) | (simp (disch := omega) only [up_n, up_e]; rfl)), (by first | (simp (disch := omega) only [up_n, up_e]; done) | (simp (disch := omega) only [up_n, up_e]; rfl))⟩
    · rw [tk_0 (i := i) (c := 104) (x := 104) (p := pv1) T0 (by repeat (first | exact Kp_r | apply Kp_4 | apply Kp_17 | apply Kp_18)) (by first | exact A | (simp (disch := omega) only [up_n, up_e]; done) | (simp (disch := omega) only [up_n, up_e]; exact A)) rfl (by omega) (by omega) ch_, zv_some, if_pos rfl, zl_def, up_e (by omega), if_neg (show ¬ (480 : Int32) < 0 by decide), if_neg ch_]
      exact ⟨_, rfl, (by first | exact A | (simp (disch := omega) only [up_n, up_e]; done) | (simp (disch := omega) only [up_n, up_e]; exact A)), (by repeat (first | exact Kp_r | apply Kp_4 | apply Kp_17 | apply Kp_18)), b p - 48, b (p + 1 + 1) - 48, b (p + 1 + 1 + 1 + 1) - 48, v1, 0, 480, rfl, by omega, by omega, by omega, by omega, by omega, by omega, (by first | (simp (disch := omega) only [up_n, up_e]; done) | (simp (disch := omega) only [up_n, up_e]; rfl)), (by first | (simp (disch := omega) only [up_n, up_e]; done) | (simp (disch := omega) only [up_n, up_e]; rfl)), (by first | (simp (disch := omega) only [up_n, up_e]; done) | (simp (disch := omega) only [up_n, up_e]; rfl)), (by first | (simp (disch := omega) only [up_n, up_e]; done) | (simp (disch := omega) only [up_n, up_e]; rfl)), (by first | (simp (disch := omega) only [up_n, up_e]; done) | (simp (disch := omega) only [up_n, up_e]; rfl)), (by first | (simp (disch := omega) only [up_n, up_e]; done) | (simp (disch := omega) only [up_n, up_e]; rfl)), (by first | (simp (disch := omega) only [up_n, up_e]; done) | (simp (disch := omega) only [up_n, up_e]; rfl))⟩
theorem cLn (T0 : TP b L C0) (kk : Int32 → zx_Y → Option (Int32 × zx_Y)) : ∀ (k : Nat) (ns : List Nat) (p q : Nat) (C : zx_Y), k + ns.length = 6 → k + 1 < q → Kpi i C C0 → C (14, 0, 0, 0) 4 = nI p → p ≤ L → (∀ j, j < ns.length → C (18, i, 0, 0) j = nI (ns.getD j 0)) → C (17, i, 0, 0) 0 = C0 (17, i, 0, 0) 0 → (∀ j, j < ns.length → ns.getD j 0 ≤ 9999) → CS i C0 (lg_X8_readLengths_2 i kk q (nI ns.length) C) (sN b L ns p (sL b L k)) (fun ns C' => 1 ≤ ns.length ∧ ns.length ≤ 7 ∧ (∀ j, j < ns.length → ns.getD j 0 ≤ 9999 ∧ C' (18, i, 0, 0) j = nI (ns.getD j 0)) ∧ C' (17, i, 0, 0) 11 = nI ns.length ∧ C' (17, i, 0, 0) 0 = C0 (17, i, 0, 0) 0) := by
  intro k
  induction k with
  | zero =>
    intro ns p q C e h K A hp hn h0 hb
    obtain ⟨q, rfl⟩ : ∃ q', q = q' + 1 := ⟨q - 1, by omega⟩
    have el : ns.length = 6 := by omega
    rw [lg_X8_readLengths_2.eq_2, el, if_neg (show ¬ (7 : Int32) ≤ nI 6 by decide)]
    rcases c1 : nums b L p with _ | ⟨v, p'⟩
    · rw [rn_0 (i := i) (p := p) T0 K A hp c1, zv_some, zi_n _ (by omega) (by omega), zl_def, zl_def, zi_n _ (by omega) (by omega), up_n (by omega), up_e (by omega), if_neg (show ¬ (0 : Int32) ≤ -1 by decide), sN_0 c1]
      exact ⟨_, rfl, by simp (disch := omega) only [up_n]; exact A, Kp_17 (Kp_18 K)⟩
    · have bc := nums_b c1
      rw [rn_1 (i := i) (p := p) T0 K A c1, zv_some, zi_n _ (by omega) (by omega), zl_def, zl_def, zi_n _ (by omega) (by omega), up_n (by omega), up_e (by omega), if_pos (show (0 : Int32) ≤ nI v from nI_pos' (by omega)), if_pos (show nI 6 + 1 = (7 : Int32) by decide), sN_1 c1]
      refine ⟨_, rfl, by simp (disch := omega) only [up_n, up_e], Kp_17 (Kp_18 (Kp_4 K)), by simp, by simp [el], fun j hj => ?_, ?_, ?_⟩
      · rw [List.length_append, List.length_singleton] at hj
        by_cases z : j = 6
        · subst z
          rw [up_n (by omega), up_e (by omega), ← el, gd_r]
          exact ⟨bc.1, rfl⟩
        · simp (disch := omega) only [up_n]
          rw [gd_l (by omega)]
          exact ⟨hb j (by omega), hn j (by omega)⟩
      · rw [up_e (by omega), List.length_append, el]
        rfl
      · simp (disch := omega) only [up_n]
        exact h0
  | succ k ih =>
    intro ns p q C e h K A hp hn h0 hb
    obtain ⟨q, rfl⟩ : ∃ q', q = q' + 1 := ⟨q - 1, by omega⟩
    have el : ns.length < 6 := by omega
    rw [lg_X8_readLengths_2.eq_2, if_neg (show ¬ (7 : Int32) ≤ nI ns.length from nI_ge (b := 7) (by omega) (by omega))]
    rcases c1 : nums b L p with _ | ⟨v, p'⟩
    · rw [rn_0 (i := i) (p := p) T0 K A hp c1, zv_some, zi_n _ (by omega) (by omega), zl_def, zl_def, zi_n _ (by omega) (by omega), up_n (by omega), up_e (by omega), if_neg (show ¬ (0 : Int32) ≤ -1 by decide), sN_0 c1]
      exact ⟨_, rfl, by simp (disch := omega) only [up_n]; exact A, Kp_17 (Kp_18 K)⟩
    · have bc := nums_b c1
      rw [rn_1 (i := i) (p := p) T0 K A c1, zv_some, zi_n _ (by omega) (by omega), zl_def, zl_def, zi_n _ (by omega) (by omega), up_n (by omega), up_e (by omega), if_pos (show (0 : Int32) ≤ nI v from nI_pos' (by omega)), nI_1, if_neg (show ¬ nI (ns.length + 1) = (7 : Int32) from fun e => by have := nI_inj (b := 7) e (by omega) (by omega); omega), sN_1 c1]
      have K2 : Kpi i (zx_up (zx_up (zx_up C (14, 0, 0, 0) 4 (nI p')) (18, i, 0, 0) ns.length (nI v)) (17, i, 0, 0) 11 (nI (ns.length + 1))) C0 := Kp_17 (Kp_18 (Kp_4 K))
      have A2 : (zx_up (zx_up (zx_up C (14, 0, 0, 0) 4 (nI p')) (18, i, 0, 0) ns.length (nI v)) (17, i, 0, 0) 11 (nI (ns.length + 1))) (14, 0, 0, 0) 4 = nI p' := by simp (disch := omega) only [up_n, up_e]
      have N2 : ∀ j, j < (ns ++ [v]).length → (zx_up (zx_up (zx_up C (14, 0, 0, 0) 4 (nI p')) (18, i, 0, 0) ns.length (nI v)) (17, i, 0, 0) 11 (nI (ns.length + 1))) (18, i, 0, 0) j = nI ((ns ++ [v]).getD j 0) := fun j hj => by
        rw [List.length_append, List.length_singleton] at hj
        by_cases z : j = ns.length
        · subst z
          rw [up_n (by omega), up_e (by omega), gd_r]
        · simp (disch := omega) only [up_n]
          rw [gd_l (by omega)]
          exact hn j (by omega)
      have B2 : ∀ j, j < (ns ++ [v]).length → (ns ++ [v]).getD j 0 ≤ 9999 := fun j hj => by
        rw [List.length_append, List.length_singleton] at hj
        by_cases z : j = ns.length
        · subst z
          rw [gd_r]
          exact bc.1
        · rw [gd_l (by omega)]
          exact hb j (by omega)
      have H2 : (zx_up (zx_up (zx_up C (14, 0, 0, 0) 4 (nI p')) (18, i, 0, 0) ns.length (nI v)) (17, i, 0, 0) 11 (nI (ns.length + 1))) (17, i, 0, 0) 0 = C0 (17, i, 0, 0) 0 := by
        simp (disch := omega) only [up_n]
        exact h0
      have e2 : (ns ++ [v]).length = ns.length + 1 := by simp
      rw [sL.eq_2]
      by_cases c2 : p' < L ∧ b p' = 44
      · rw [tk_1 (i := i) (c := 44) (x := 44) (p := p') T0 K2 A2 rfl c2, zv_some, if_neg n10, if_pos c2]
        have ih2 := ih (ns ++ [v]) (p' + 1) q _ (by rw [e2]; omega) (by omega) (Kp_4 (v := nI (p' + 1)) K2) (up_e (by omega)) (by omega) (fun j hj => (up_n (by omega)).trans (N2 j hj)) ((up_n (by omega)).trans H2) B2
        rw [e2] at ih2
        exact ih2
      · rw [tk_0 (i := i) (c := 44) (x := 44) (p := p') T0 K2 A2 rfl (by omega) (by omega) c2, zv_some, if_pos rfl, if_neg c2]
        exact ⟨_, rfl, A2, K2, by omega, by omega, fun j hj => ⟨B2 j hj, N2 j hj⟩, by rw [up_e (by omega), e2], H2⟩
theorem cL (T0 : TP b L C) (A : C (14, 0, 0, 0) 4 = nI p) (hp : p ≤ L) : CS i C (g_X8_readLengths C i) (sN b L [] p (sL b L 6)) (fun ns C' => 1 ≤ ns.length ∧ ns.length ≤ 7 ∧ (∀ j, j < ns.length → ns.getD j 0 ≤ 9999 ∧ C' (18, i, 0, 0) j = nI (ns.getD j 0)) ∧ C' (17, i, 0, 0) 11 = nI ns.length ∧ C' (17, i, 0, 0) 0 = C (17, i, 0, 0) 0) := by
  have h := cLn (i := i) T0 (fun v1 M1 => some (1, M1)) 6 [] p 1000 C (by simp) (by omega) Kp_r A hp (fun j hj => absurd hj (by simp)) rfl (fun j hj => absurd hj (by simp))
  rw [show nI ([] : List Nat).length = 0 from nI_0] at h
  unfold g_X8_readLengths
  exact h
/-- what a command is, as the class keeps it -/
def CP (i : Nat) (k : Nat) (ns : List Nat) (C : zx_Y) : Prop := C (17, i, 0, 0) 0 = nI k ∧
  ((k = 76 ∧ 1 ≤ ns.length ∧ ns.length ≤ 7 ∧ (∀ j, j < ns.length → ns.getD j 0 ≤ 9999 ∧ C (18, i, 0, 0) j = nI (ns.getD j 0)) ∧ C (17, i, 0, 0) 11 = nI ns.length) ∨
   (k = 83 ∧ ∃ x0 x1 x2, ns = [x0, x1, x2] ∧ x0 ≤ 7 ∧ x1 ≤ 9 ∧ x2 ≤ 1 ∧ C (17, i, 0, 0) 1 = nI x0 ∧ C (17, i, 0, 0) 3 = nI x1 ∧ C (17, i, 0, 0) 9 = nI x2) ∨
   (k = 84 ∧ ∃ x0 x1 x2 x3 x4 x5, ns = [x0, x1, x2, x3, x4, x5] ∧ x0 ≤ 7 ∧ x1 ≤ 7 ∧ x2 ≤ 9 ∧ x3 ≤ 9999 ∧ x4 ≤ 9 ∧ x5 ≤ 9999 ∧ C (17, i, 0, 0) 1 = nI x0 ∧ C (17, i, 0, 0) 2 = nI x1 ∧ C (17, i, 0, 0) 3 = nI x2 ∧ C (17, i, 0, 0) 4 = nI x3 ∧ C (17, i, 0, 0) 5 = nI x4 ∧ C (17, i, 0, 0) 6 = nI x5) ∨
   (k = 79 ∧ ∃ x0 x1 x2 x3, ns = [x0, x1, x2, x3] ∧ x0 ≤ 7 ∧ x1 ≤ 9999 ∧ x2 ≤ 9999 ∧ x3 ≤ 9999 ∧ C (17, i, 0, 0) 1 = nI x0 ∧ C (17, i, 0, 0) 7 = nI x1 ∧ C (17, i, 0, 0) 4 = nI x2 ∧ C (17, i, 0, 0) 8 = nI x3) ∨
   (k = 87 ∧ ∃ x0, ns = [x0] ∧ x0 ≤ 9999 ∧ C (17, i, 0, 0) 7 = nI x0))
theorem CS_mono {o : Option (Int32 × zx_Y)} {r : PR} {P P' : List Nat → zx_Y → Prop} {C1 : zx_Y} (h : CS i C1 o r P) (K : Kpi i C1 C0) (hP : ∀ ns C', P ns C' → P' ns C') : CS i C0 (zv o fun v M => zo v (some (v, M))) r P' := by
  unfold CS at h ⊢
  split at h
  · obtain ⟨C', rfl, h2, h3⟩ := h
    refine ⟨C', by rw [zv_some, zo_0], h2, fun a j q1 q2 q3 => (h3 a j q1 q2 q3).trans (K a j q1 q2 q3)⟩
  · obtain ⟨C', rfl, h2, h3, h4⟩ := h
    exact ⟨C', by rw [zv_some, zo_1], h2, fun a j q1 q2 q3 => (h3 a j q1 q2 q3).trans (K a j q1 q2 q3), hP _ _ h4⟩
theorem cC (T0 : TP b L C) (A : C (14, 0, 0, 0) 4 = nI p) (hp : p ≤ L) : CS i C (g_X8_readCommand C i) (sC b L p) (fun ns C' => CP i (b p) ns C') := by
  unfold g_X8_readCommand
  by_cases q : p < L
  · have h128 := (T0.2.2 p q).1
    rw [pk_1 (i := i) (p := p) T0 Kp_r A q, zb_some, zl_def, up_e (by omega)]
    have K1 : Kpi i (zx_up C (17, i, 0, 0) 0 (nI (b p))) C := Kp_17 Kp_r
    have ne : ∀ k : Nat, k < 128 → ¬ b p = k → ¬ nI (b p) = nI k := fun k hk h e => h (nI_inj e (by omega) (by omega))
    have K2 : Kpi i (zx_up (zx_up C (17, i, 0, 0) 0 (nI (b p))) (14, 0, 0, 0) 4 (nI (p + 1))) C := Kp_4 K1
    have T2 := TP_K T0 K2
    have A2 : (zx_up (zx_up C (17, i, 0, 0) 0 (nI (b p))) (14, 0, 0, 0) 4 (nI (p + 1))) (14, 0, 0, 0) 4 = nI (p + 1) := up_e (by omega)
    have F2 : (zx_up (zx_up C (17, i, 0, 0) 0 (nI (b p))) (14, 0, 0, 0) 4 (nI (p + 1))) (17, i, 0, 0) 0 = nI (b p) := by simp (disch := omega) only [up_n, up_e]
    have m4 : (zx_up C (17, i, 0, 0) 0 (nI (b p))) (14, 0, 0, 0) 4 + 1 = nI (p + 1) := by rw [up_n (by omega), A, nI_1]
    have bad : ¬ b p = 76 → ¬ b p = 83 → ¬ b p = 84 → ¬ b p = 79 → ¬ b p = 87 → CS i C (some (0, zx_up C (17, i, 0, 0) 0 (nI (b p)))) (sC b L p) (fun ns C' => CP i (b p) ns C') := fun h1 h2 h3 h4 h5 => by
      unfold sC
      rw [if_neg (fun z => h1 z.2), if_neg (fun z => h2 z.2), if_neg (fun z => h3 z.2), if_neg (fun z => h4 z.2), if_neg (fun z => h5 z.2)]
      exact ⟨_, rfl, (up_n (by omega)).trans A, K1⟩
    by_cases c76 : b p = 76
    · rw [if_pos (show nI (b p) = 76 by rw [c76]; rfl), zl_def, m4]
      unfold sC
      rw [if_pos ⟨q, c76⟩]
      exact CS_mono (cL T2 A2 q) K2 fun ns C' h => ⟨h.2.2.2.2.trans F2, Or.inl ⟨c76, h.1, h.2.1, h.2.2.1, h.2.2.2.1⟩⟩
    rw [if_neg (show ¬ nI (b p) = 76 from ne 76 (by omega) c76)]
    by_cases c79 : b p = 79
    · rw [if_neg (show ¬ nI (b p) = 77 from ne 77 (by omega) (by omega)), if_neg (show ¬ nI (b p) = 78 from ne 78 (by omega) (by omega)), if_pos (show nI (b p) = 79 by rw [c79]; rfl), zl_def, m4]
      unfold sC
      rw [if_neg (fun z => c76 z.2), if_neg (fun z => by have := z.2; omega), if_neg (fun z => by have := z.2; omega), if_pos ⟨q, c79⟩]
      exact CS_mono (cO T2 A2 q) K2 fun ns C' ⟨x0, x1, x2, x3, h1, h2, h3, h4, h5, h6, h7, h8, h9, h10⟩ => ⟨h10.trans F2, Or.inr (Or.inr (Or.inr (Or.inl ⟨c79, x0, x1, x2, x3, h1, h2, h3, h4, h5, h6, h7, h8, h9⟩)))⟩
    by_cases c83 : b p = 83
    · rw [if_neg (show ¬ nI (b p) = 77 from ne 77 (by omega) (by omega)), if_neg (show ¬ nI (b p) = 78 from ne 78 (by omega) (by omega)), if_neg (show ¬ nI (b p) = 79 from ne 79 (by omega) (by omega)), if_neg (show ¬ nI (b p) = 80 from ne 80 (by omega) (by omega)), if_neg (show ¬ nI (b p) = 81 from ne 81 (by omega) (by omega)), if_neg (show ¬ nI (b p) = 82 from ne 82 (by omega) (by omega)), if_pos (show nI (b p) = 83 by rw [c83]; rfl), zl_def, m4]
      unfold sC
      rw [if_neg (fun z => c76 z.2), if_pos ⟨q, c83⟩]
      exact CS_mono (cS T2 A2 q) K2 fun ns C' ⟨x0, x1, x2, h1, h2, h3, h4, h5, h6, h7, h8⟩ => ⟨h8.trans F2, Or.inr (Or.inl ⟨c83, x0, x1, x2, h1, h2, h3, h4, h5, h6, h7⟩)⟩
    by_cases c84 : b p = 84
    · rw [if_neg (show ¬ nI (b p) = 77 from ne 77 (by omega) (by omega)), if_neg (show ¬ nI (b p) = 78 from ne 78 (by omega) (by omega)), if_neg (show ¬ nI (b p) = 79 from ne 79 (by omega) (by omega)), if_neg (show ¬ nI (b p) = 80 from ne 80 (by omega) (by omega)), if_neg (show ¬ nI (b p) = 81 from ne 81 (by omega) (by omega)), if_neg (show ¬ nI (b p) = 82 from ne 82 (by omega) (by omega)), if_neg (show ¬ nI (b p) = 83 from ne 83 (by omega) (by omega)), if_pos (show nI (b p) = 84 by rw [c84]; rfl), zl_def, m4]
      unfold sC
      rw [if_neg (fun z => c76 z.2), if_neg (fun z => c83 z.2), if_pos ⟨q, c84⟩]
      exact CS_mono (cT T2 A2 q) K2 fun ns C' ⟨x0, x1, x2, x3, x4, x5, h1, h2, h3, h4, h5, h6, h7, h8, h9, h10, h11, h12, h13, h14⟩ => ⟨h14.trans F2, Or.inr (Or.inr (Or.inl ⟨c84, x0, x1, x2, x3, x4, x5, h1, h2, h3, h4, h5, h6, h7, h8, h9, h10, h11, h12, h13⟩))⟩
    by_cases c87 : b p = 87
    · rw [if_neg (show ¬ nI (b p) = 77 from ne 77 (by omega) (by omega)), if_neg (show ¬ nI (b p) = 78 from ne 78 (by omega) (by omega)), if_neg (show ¬ nI (b p) = 79 from ne 79 (by omega) (by omega)), if_neg (show ¬ nI (b p) = 80 from ne 80 (by omega) (by omega)), if_neg (show ¬ nI (b p) = 81 from ne 81 (by omega) (by omega)), if_neg (show ¬ nI (b p) = 82 from ne 82 (by omega) (by omega)), if_neg (show ¬ nI (b p) = 83 from ne 83 (by omega) (by omega)), if_neg (show ¬ nI (b p) = 84 from ne 84 (by omega) (by omega)), if_neg (show ¬ nI (b p) = 85 from ne 85 (by omega) (by omega)), if_neg (show ¬ nI (b p) = 86 from ne 86 (by omega) (by omega)), if_pos (show nI (b p) = 87 by rw [c87]; rfl), zl_def, m4]
      unfold sC
      rw [if_neg (fun z => c76 z.2), if_neg (fun z => c83 z.2), if_neg (fun z => c84 z.2), if_neg (fun z => c79 z.2), if_pos ⟨q, c87⟩]
      exact CS_mono (cW T2 A2 q) K2 fun ns C' ⟨x0, h1, h2, h3, h4⟩ => ⟨h4.trans F2, Or.inr (Or.inr (Or.inr (Or.inr ⟨c87, x0, h1, h2, h3⟩)))⟩
    have bd := bad c76 c83 c84 c79 c87
    rw [if_neg (show ¬ nI (b p) = 79 from ne 79 (by omega) c79), if_neg (show ¬ nI (b p) = 83 from ne 83 (by omega) c83), if_neg (show ¬ nI (b p) = 84 from ne 84 (by omega) c84), if_neg (show ¬ nI (b p) = 87 from ne 87 (by omega) c87)]
    (repeat' split) <;> exact bd
  · rw [pk_0 (i := i) (p := p) T0 Kp_r A (by omega), zb_some, zl_def, up_e (by omega)]
    have e : sC b L p = .inl p := by
      unfold sC
      simp [q]
    rw [e]
    simp (decide := true) only [↓reduceIte]
    exact ⟨_, rfl, (up_n (by omega)).trans A, Kp_17 Kp_r⟩
end SQ
