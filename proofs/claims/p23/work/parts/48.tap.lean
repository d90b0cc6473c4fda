/-! the text: what both sides read -/
/-- the tape: L bytes b -/
def TP (b : Nat → Nat) (L : Nat) (C : zx_Y) : Prop := L ≤ 60 ∧ C (14, 0, 0, 0) 1 = nI L ∧ ∀ j, j < L → b j < 128 ∧ C (15, 0, 0, 0) j = nI (b j)
/-- only command i and the place have changed -/
def Kpi (i : Nat) (C' C : zx_Y) : Prop := ∀ h j, h ≠ (17, i, 0, 0) → h ≠ (18, i, 0, 0) → ¬ (h = (14, 0, 0, 0) ∧ j = 4) → C' h j = C h j
theorem Kp_r {i : Nat} {C : zx_Y} : Kpi i C C := fun _ _ _ _ _ => rfl
theorem Kp_4 {i : Nat} {C C' : zx_Y} {v : Int32} (h : Kpi i C' C) : Kpi i (zx_up C' (14, 0, 0, 0) 4 v) C := fun a j h1 h2 h3 => (show zx_up C' (14, 0, 0, 0) 4 v a j = C' a j from if_neg fun e => h3 ⟨e.2, e.1⟩).trans (h a j h1 h2 h3)
theorem Kp_17 {i f : Nat} {C C' : zx_Y} {v : Int32} (h : Kpi i C' C) : Kpi i (zx_up C' (17, i, 0, 0) f v) C := fun a j h1 h2 h3 => (zx_up_h _ _ _ _ h1).trans (h a j h1 h2 h3)
theorem Kp_18 {i f : Nat} {C C' : zx_Y} {v : Int32} (h : Kpi i C' C) : Kpi i (zx_up C' (18, i, 0, 0) f v) C := fun a j h1 h2 h3 => (zx_up_h _ _ _ _ h2).trans (h a j h1 h2 h3)
theorem TP_K {b : Nat → Nat} {L i : Nat} {C C' : zx_Y} (T : TP b L C) (K : Kpi i C' C) : TP b L C' := ⟨T.1, (K _ _ (by simp) (by simp) (by simp)).trans T.2.1, fun j hj => ⟨(T.2.2 j hj).1, (K _ _ (by simp) (by simp) (by simp)).trans (T.2.2 j hj).2⟩⟩
def dg (b : Nat → Nat) (L p m : Nat) : Prop := p < L ∧ 48 ≤ b p ∧ b p ≤ m
def ch (b : Nat → Nat) (L p c : Nat) : Prop := p < L ∧ b p = c
/-- up to k more digits behind v -/
def ngo (b : Nat → Nat) (L : Nat) : Nat → Nat → Nat → Nat × Nat
  | 0, p, v => (v, p)
  | k + 1, p, v => if p < L ∧ 48 ≤ b p ∧ b p ≤ 57 then ngo b L k (p + 1) (10 * v + (b p - 48)) else (v, p)
/-- a number: its value and the place behind it -/
def nums (b : Nat → Nat) (L p : Nat) : Option (Nat × Nat) := if p < L ∧ 48 ≤ b p ∧ b p ≤ 57 then (if b p = 48 then some (0, p + 1) else some (ngo b L 3 (p + 1) (b p - 48))) else none
theorem ngo_b {b : Nat → Nat} {L : Nat} : ∀ (k p v : Nat), p ≤ L → v < 10 ^ (4 - k) → k ≤ 3 → (ngo b L k p v).1 ≤ 9999 ∧ p ≤ (ngo b L k p v).2 ∧ (ngo b L k p v).2 ≤ L
  | 0, p, v, h1, h2, h3 => by
    refine ⟨?_, Nat.le_refl _, h1⟩
    show v ≤ 9999
    have : v < 10 ^ (4 - 0) := h2
    omega
  | k + 1, p, v, h1, h2, h3 => by
    rw [ngo.eq_2]
    have e : 10 ^ (4 - k) = 10 * 10 ^ (4 - (k + 1)) := by
      rw [show 4 - k = (4 - (k + 1)) + 1 by omega, Nat.pow_succ]
      omega
    have h4 : v < 10 ^ 4 := Nat.lt_of_lt_of_le h2 (Nat.pow_le_pow_right (by omega) (by omega))
    split
    · rename_i c
      have ih := ngo_b (b := b) (L := L) k (p + 1) (10 * v + (b p - 48)) (by omega) (by omega) (by omega)
      omega
    · refine ⟨?_, Nat.le_refl _, h1⟩
      show v ≤ 9999
      omega
theorem nums_b {b : Nat → Nat} {L p v p' : Nat} (h : nums b L p = some (v, p')) : v ≤ 9999 ∧ p < p' ∧ p' ≤ L := by
  unfold nums at h
  split at h
  · rename_i c
    split at h
    · cases h
      omega
    · have z := ngo_b (b := b) (L := L) 3 (p + 1) (b p - 48) (by omega) (by show b p - 48 < 10 ^ 1; omega) (by omega)
      rw [Option.some.inj h] at z
      dsimp only at z
      omega
  · cases h
section CT
variable {b : Nat → Nat} {L i p : Nat} {C0 C : zx_Y}
theorem pk_1 (T0 : TP b L C0) (K : Kpi i C C0) (A : C (14, 0, 0, 0) 4 = nI p) (h : p < L) : g_X8_peek C = some (nI (b p)) := by
  have T := TP_K T0 K
  have hL := T.1
  unfold g_X8_peek
  rw [A, T.2.1, if_neg (nI_pos (by omega)), if_neg (nI_ge h (by omega)), if_neg (show ¬ (60 : Int32) ≤ nI p from nI_ge (b := 60) (by omega) (by omega)), zi_n _ (by omega) (by omega), (T.2.2 p h).2]
theorem pk_0 (T0 : TP b L C0) (K : Kpi i C C0) (A : C (14, 0, 0, 0) 4 = nI p) (h : p = L) : g_X8_peek C = some (-1) := by
  have T := TP_K T0 K
  have hL := T.1
  unfold g_X8_peek
  rw [A, T.2.1, if_neg (nI_pos (by omega)), if_pos (nI_le (by omega) (by omega))]
theorem tk_1 {c : Nat} {x : Int32} (T0 : TP b L C0) (K : Kpi i C C0) (A : C (14, 0, 0, 0) 4 = nI p) (hx : x = nI c) (h : ch b L p c) : g_X8_take C x = some (1, zx_up C (14, 0, 0, 0) 4 (nI (p + 1))) := by
  unfold g_X8_take
  rw [pk_1 T0 K A h.1, zb_some, hx, h.2, if_pos rfl, A, nI_1, zl_def]
theorem tk_0 {c : Nat} {x : Int32} (T0 : TP b L C0) (K : Kpi i C C0) (A : C (14, 0, 0, 0) 4 = nI p) (hx : x = nI c) (hc : c < 128) (hp : p ≤ L) (h : ¬ ch b L p c) : g_X8_take C x = some (0, C) := by
  unfold g_X8_take
  have T := TP_K T0 K
  by_cases q : p < L
  · have e : ¬ nI (b p) = x := fun e => h ⟨q, nI_inj (e.trans hx) (by have := (T.2.2 p q).1; omega) (by omega)⟩
    rw [pk_1 T0 K A q, zb_some, if_neg e]
  · have e : ¬ (-1 : Int32) = x := fun e => nI_m1 (a := c) (by omega) (e.trans hx).symm
    rw [pk_0 T0 K A (by omega), zb_some, if_neg e]
theorem nI_sub48 {a : Nat} (h : 48 ≤ a) : nI a - 48 = nI (a - 48) := pk_sub (b := 48) h
theorem lo48 {a : Nat} (h : a < 48) : nI a - 48 < 0 := pk_sneg (b := 48) (by omega) h
theorem rd_1 {m : Nat} {x : Int32} (T0 : TP b L C0) (K : Kpi i C C0) (A : C (14, 0, 0, 0) 4 = nI p) (hx : x = nI m) (hm : m < 10) (h : dg b L p (48 + m)) : g_X8_readDigit C x = some (nI (b p - 48), zx_up C (14, 0, 0, 0) 4 (nI (p + 1))) := by
  have T := TP_K T0 K
  have h128 := (T.2.2 p h.1).1
  have h2 := h.2
  unfold g_X8_readDigit
  rw [pk_1 T0 K A h.1, zb_some, nI_sub48 h.2.1, if_neg (nI_pos (by omega)), hx, if_pos (nI_le (by omega) (by omega)), A, nI_1, zl_def]
theorem rd_0 {m : Nat} {x : Int32} (T0 : TP b L C0) (K : Kpi i C C0) (A : C (14, 0, 0, 0) 4 = nI p) (hx : x = nI m) (hm : m < 10) (hp : p ≤ L) (h : ¬ dg b L p (48 + m)) : g_X8_readDigit C x = some (-1, C) := by
  have T := TP_K T0 K
  unfold g_X8_readDigit
  by_cases q : p < L
  · have h128 := (T.2.2 p q).1
    rw [pk_1 T0 K A q, zb_some]
    by_cases c : b p < 48
    · rw [if_pos (lo48 c)]
    · have h3 : ¬ b p ≤ 48 + m := fun z => h ⟨q, by omega, z⟩
      rw [nI_sub48 (by omega), if_neg (nI_pos (by omega)), hx, if_neg (nI_ge (by omega) (by omega))]
  · rw [pk_0 T0 K A (by omega), zb_some, if_pos (show (-1 : Int32) - 48 < 0 by decide)]
theorem up_up {M : zx_Y} {h : zx_H} {j : Nat} {v w : Int32} : zx_up (zx_up M h j v) h j w = zx_up M h j w := by
  funext h' j'
  unfold zx_up
  by_cases q : j' = j ∧ h' = h
  · rw [if_pos q, if_pos q]
  · rw [if_neg q, if_neg q, if_neg q]
theorem rn_loop (T0 : TP b L C0) (K : Kpi i C C0) : ∀ (k p z q v : Nat), k + z = 4 → k < q → p ≤ L → lg_X8_readNumber_15 (fun v2 v3 M2 => some (v2, M2)) q (nI v) (nI z) (zx_up C (14, 0, 0, 0) 4 (nI p)) = some (nI (ngo b L k p v).1, zx_up C (14, 0, 0, 0) 4 (nI (ngo b L k p v).2)) := by
  intro k
  induction k with
  | zero =>
    intro p z q v e h hp
    obtain ⟨q, rfl⟩ : ∃ q', q = q' + 1 := ⟨q - 1, by omega⟩
    have e : z = 4 := by omega
    subst e
    rw [lg_X8_readNumber_15.eq_2, if_pos (show (4 : Int32) ≤ nI 4 by decide)]
    rfl
  | succ k ih =>
    intro p z q v e h hp
    obtain ⟨q, rfl⟩ : ∃ q', q = q' + 1 := ⟨q - 1, by omega⟩
    have K1 : Kpi i (zx_up C (14, 0, 0, 0) 4 (nI p)) C0 := Kp_4 K
    have A1 : (zx_up C (14, 0, 0, 0) 4 (nI p)) (14, 0, 0, 0) 4 = nI p := up_e (by omega)
    rw [lg_X8_readNumber_15.eq_2, if_neg (show ¬ (4 : Int32) ≤ nI z from nI_ge (b := 4) (by omega) (by omega)), ngo.eq_2]
    by_cases c : p < L ∧ 48 ≤ b p ∧ b p ≤ 57
    · rw [if_pos c, rd_1 T0 K1 A1 (show (9 : Int32) = nI 9 from rfl) (by omega) c, zv_some, if_pos (nI_pos' (by omega)), up_up, nI_1, show (10 * nI v + nI (b p - 48) : Int32) = nI (10 * v + (b p - 48)) from by rw [show (10 : Int32) = nI 10 from rfl, pk_mul, nI_add]]
      exact ih (p + 1) (z + 1) q _ (by omega) (by omega) (by omega)
    · rw [if_neg c, rd_0 T0 K1 A1 (show (9 : Int32) = nI 9 from rfl) (by omega) hp c, zv_some, if_neg (show ¬ (0 : Int32) ≤ -1 by decide)]
theorem rn_1 {v p' : Nat} (T0 : TP b L C0) (K : Kpi i C C0) (A : C (14, 0, 0, 0) 4 = nI p) (h : nums b L p = some (v, p')) : g_X8_readNumber C = some (nI v, zx_up C (14, 0, 0, 0) 4 (nI p')) := by
  unfold g_X8_readNumber
  unfold nums at h
  split at h
  · rename_i c
    rw [rd_1 T0 K A (show (9 : Int32) = nI 9 from rfl) (by omega) c, zv_some]
    split at h
    · rename_i c0
      cases h
      rw [c0, if_neg (show ¬ (0 : Int32) < nI (48 - 48) by decide)]
    · rename_i c0
      have lp := rn_loop T0 K 3 (p + 1) 1 1000 (b p - 48) (by omega) (by omega) (by omega)
      rw [if_pos (show (0 : Int32) < nI (b p - 48) from by rw [← nI_0]; exact nI_lt (by omega) (by omega)), show (1 : Int32) = nI 1 from rfl, lp, Option.some.inj h]
  · cases h
theorem rn_0 (T0 : TP b L C0) (K : Kpi i C C0) (A : C (14, 0, 0, 0) 4 = nI p) (hp : p ≤ L) (h : nums b L p = none) : g_X8_readNumber C = some (-1, C) := by
  unfold g_X8_readNumber
  unfold nums at h
  split at h
  · split at h <;> cases h
  · rename_i c
    rw [rd_0 T0 K A (show (9 : Int32) = nI 9 from rfl) (by omega) hp c, zv_some, if_neg (show ¬ (0 : Int32) < -1 by decide)]
end CT
