/-! two memories: C is the class's, D the reference's -/
theorem zb_some {α : Type} (v : Int32) (k : Int32 → Option α) : zb (some v) k = k v := rfl
theorem zm_some {α : Type} (v : zx_Y) (k : zx_Y → Option α) : zm (some v) k = k v := rfl
theorem zv_some {α : Type} (v : Int32) (M : zx_Y) (k : Int32 → zx_Y → Option α) : zv (some (v, M)) k = k v M := rfl
theorem zl_def {α : Type} (M : zx_Y) (k : zx_Y → Option α) : zl M k = k M := rfl
theorem zo_0 {α : Type} (k : Option α) : zo 0 k = k := if_pos (Or.inl rfl)
theorem zo_1 {α : Type} (k : Option α) : zo 1 k = k := if_pos (Or.inr rfl)
theorem zo_v {α : Type} {v : Int32} (h : v = 0 ∨ v = 1) (k : Option α) : zo v k = k := if_pos h
theorem zi_n {α : Type} {k n : Nat} (f : Nat → Option α) (h : k < n) (hn : n ≤ 640) : zi (nI k) n f = f k := by
  unfold zi
  rw [if_pos (zx_in_iff.mpr (by rw [nI_clamp (by omega)]; exact ⟨rfl, h⟩)), nI_clamp (by omega)]
theorem zi_0 {α : Type} {n : Nat} (f : Nat → Option α) (h : 0 < n) (hn : n ≤ 640) : zi 0 n f = f 0 := zi_n f h hn
theorem zi_1 {α : Type} {n : Nat} (f : Nat → Option α) (h : 1 < n) (hn : n ≤ 640) : zi 1 n f = f 1 := zi_n f h hn
theorem zi_eq {α : Type} {x : Int32} {k n : Nat} (f : Nat → Option α) (hx : x = nI k) (h : k < n) (hn : n ≤ 640) : zi x n f = f k := by
  rw [hx, zi_n f h hn]
theorem up_e {M : zx_Y} {a b c d i a' b' c' d' j : Nat} {v : Int32} (h : j = i ∧ a' = a ∧ b' = b ∧ c' = c ∧ d' = d) : zx_up M (a, b, c, d) i v (a', b', c', d') j = v := by
  obtain ⟨rfl, rfl, rfl, rfl, rfl⟩ := h
  exact zx_up_s _ _ _ _
theorem up_n {M : zx_Y} {a b c d i a' b' c' d' j : Nat} {v : Int32} (h : ¬ (j = i ∧ a' = a ∧ b' = b ∧ c' = c ∧ d' = d)) : zx_up M (a, b, c, d) i v (a', b', c', d') j = M (a', b', c', d') j := by
  unfold zx_up
  rw [if_neg]
  rintro ⟨h1, h2⟩
  simp only [Prod.mk.injEq] at h2
  exact h ⟨h1, h2.1, h2.2.1, h2.2.2.1, h2.2.2.2⟩
theorem nI_m5 {a : Nat} (h : a < 2 ^ 31) : ¬ nI a = -5 := fun e => by
  have := congrArg Int32.toInt e
  rw [nI_toInt h] at this
  have e5 : (-5 : Int32).toInt = -5 := by decide
  omega
theorem nI_m1 {a : Nat} (h : a < 2 ^ 31) : ¬ nI a = -1 := fun e => by
  have := congrArg Int32.toInt e
  rw [nI_toInt h] at this
  have e5 : (-1 : Int32).toInt = -1 := by decide
  omega
theorem nI_inj {a b : Nat} (e : nI a = nI b) (ha : a < 2 ^ 31) (hb : b < 2 ^ 31) : a = b := (nI_eq ha hb).mp e
theorem nI_cases {x : Int32} {n : Nat} (hn : n < 2 ^ 31) : (∃ k, k < n ∧ x = nI k) ∨ (x < 0 ∧ ¬ nI n ≤ x) ∨ (¬ x < 0 ∧ nI n ≤ x) := by
  rcases pk_ix x hn with h | h | h
  · refine Or.inr (Or.inl ⟨h, fun q => ?_⟩)
    have := Int32.lt_of_le_of_lt q h
    exact nI_pos hn this
  · refine Or.inr (Or.inr ⟨fun q => ?_, h⟩)
    have := Int32.lt_of_le_of_lt h q
    exact nI_pos hn this
  · exact Or.inl h
theorem at_n {D : zx_Y} {t p : Nat} (ht : t < 10) (hp : p < 40) : g_X11_at D (nI t) (nI p) = some (D (26, 0, 0, 0) (75 + 40 * t + p)) := by
  unfold g_X11_at
  rw [show (75 : Int32) = nI 75 from rfl, show (40 : Int32) = nI 40 from rfl, pk_mul, nI_add, nI_add, zi_n _ (by omega) (by omega)]
theorem set_n {D : zx_Y} {t p : Nat} {v : Int32} (ht : t < 10) (hp : p < 40) : g_X11_set D (nI t) (nI p) v = some (zx_up D (26, 0, 0, 0) (75 + 40 * t + p) v) := by
  unfold g_X11_set
  rw [show (75 : Int32) = nI 75 from rfl, show (40 : Int32) = nI 40 from rfl, pk_mul, nI_add, nI_add, zi_n _ (by omega) (by omega), zl_def]
theorem at_0 {D : zx_Y} {t : Nat} (ht : t < 10) : g_X11_at D (nI t) 0 = some (D (26, 0, 0, 0) (75 + 40 * t)) := at_n (p := 0) ht (by omega)
theorem set_0 {D : zx_Y} {t : Nat} {v : Int32} (ht : t < 10) : g_X11_set D (nI t) 0 v = some (zx_up D (26, 0, 0, 0) (75 + 40 * t) v) := set_n (p := 0) ht (by omega)
theorem at_1 {D : zx_Y} {t : Nat} (ht : t < 10) : g_X11_at D (nI t) 1 = some (D (26, 0, 0, 0) (75 + 40 * t + 1)) := at_n (p := 1) ht (by omega)
theorem set_1 {D : zx_Y} {t : Nat} {v : Int32} (ht : t < 10) : g_X11_set D (nI t) 1 v = some (zx_up D (26, 0, 0, 0) (75 + 40 * t + 1) v) := set_n (p := 1) ht (by omega)
theorem at_2 {D : zx_Y} {t : Nat} (ht : t < 10) : g_X11_at D (nI t) 2 = some (D (26, 0, 0, 0) (75 + 40 * t + 2)) := at_n (p := 2) ht (by omega)
theorem set_2 {D : zx_Y} {t : Nat} {v : Int32} (ht : t < 10) : g_X11_set D (nI t) 2 v = some (zx_up D (26, 0, 0, 0) (75 + 40 * t + 2) v) := set_n (p := 2) ht (by omega)
theorem at_3 {D : zx_Y} {t : Nat} (ht : t < 10) : g_X11_at D (nI t) 3 = some (D (26, 0, 0, 0) (75 + 40 * t + 3)) := at_n (p := 3) ht (by omega)
theorem set_3 {D : zx_Y} {t : Nat} {v : Int32} (ht : t < 10) : g_X11_set D (nI t) 3 v = some (zx_up D (26, 0, 0, 0) (75 + 40 * t + 3) v) := set_n (p := 3) ht (by omega)
theorem at_4 {D : zx_Y} {t : Nat} (ht : t < 10) : g_X11_at D (nI t) 4 = some (D (26, 0, 0, 0) (75 + 40 * t + 4)) := at_n (p := 4) ht (by omega)
theorem set_4 {D : zx_Y} {t : Nat} {v : Int32} (ht : t < 10) : g_X11_set D (nI t) 4 v = some (zx_up D (26, 0, 0, 0) (75 + 40 * t + 4) v) := set_n (p := 4) ht (by omega)
theorem at_5 {D : zx_Y} {t : Nat} (ht : t < 10) : g_X11_at D (nI t) 5 = some (D (26, 0, 0, 0) (75 + 40 * t + 5)) := at_n (p := 5) ht (by omega)
theorem set_5 {D : zx_Y} {t : Nat} {v : Int32} (ht : t < 10) : g_X11_set D (nI t) 5 v = some (zx_up D (26, 0, 0, 0) (75 + 40 * t + 5) v) := set_n (p := 5) ht (by omega)
theorem at_6 {D : zx_Y} {t : Nat} (ht : t < 10) : g_X11_at D (nI t) 6 = some (D (26, 0, 0, 0) (75 + 40 * t + 6)) := at_n (p := 6) ht (by omega)
theorem set_6 {D : zx_Y} {t : Nat} {v : Int32} (ht : t < 10) : g_X11_set D (nI t) 6 v = some (zx_up D (26, 0, 0, 0) (75 + 40 * t + 6) v) := set_n (p := 6) ht (by omega)
theorem at_7 {D : zx_Y} {t : Nat} (ht : t < 10) : g_X11_at D (nI t) 7 = some (D (26, 0, 0, 0) (75 + 40 * t + 7)) := at_n (p := 7) ht (by omega)
theorem set_7 {D : zx_Y} {t : Nat} {v : Int32} (ht : t < 10) : g_X11_set D (nI t) 7 v = some (zx_up D (26, 0, 0, 0) (75 + 40 * t + 7) v) := set_n (p := 7) ht (by omega)
theorem at_8 {D : zx_Y} {t : Nat} (ht : t < 10) : g_X11_at D (nI t) 8 = some (D (26, 0, 0, 0) (75 + 40 * t + 8)) := at_n (p := 8) ht (by omega)
theorem set_8 {D : zx_Y} {t : Nat} {v : Int32} (ht : t < 10) : g_X11_set D (nI t) 8 v = some (zx_up D (26, 0, 0, 0) (75 + 40 * t + 8) v) := set_n (p := 8) ht (by omega)
theorem at_9 {D : zx_Y} {t : Nat} (ht : t < 10) : g_X11_at D (nI t) 9 = some (D (26, 0, 0, 0) (75 + 40 * t + 9)) := at_n (p := 9) ht (by omega)
theorem set_9 {D : zx_Y} {t : Nat} {v : Int32} (ht : t < 10) : g_X11_set D (nI t) 9 v = some (zx_up D (26, 0, 0, 0) (75 + 40 * t + 9) v) := set_n (p := 9) ht (by omega)
theorem at_10 {D : zx_Y} {t : Nat} (ht : t < 10) : g_X11_at D (nI t) 10 = some (D (26, 0, 0, 0) (75 + 40 * t + 10)) := at_n (p := 10) ht (by omega)
theorem set_10 {D : zx_Y} {t : Nat} {v : Int32} (ht : t < 10) : g_X11_set D (nI t) 10 v = some (zx_up D (26, 0, 0, 0) (75 + 40 * t + 10) v) := set_n (p := 10) ht (by omega)
theorem at_11 {D : zx_Y} {t : Nat} (ht : t < 10) : g_X11_at D (nI t) 11 = some (D (26, 0, 0, 0) (75 + 40 * t + 11)) := at_n (p := 11) ht (by omega)
theorem set_11 {D : zx_Y} {t : Nat} {v : Int32} (ht : t < 10) : g_X11_set D (nI t) 11 v = some (zx_up D (26, 0, 0, 0) (75 + 40 * t + 11) v) := set_n (p := 11) ht (by omega)
theorem at_12 {D : zx_Y} {t : Nat} (ht : t < 10) : g_X11_at D (nI t) 12 = some (D (26, 0, 0, 0) (75 + 40 * t + 12)) := at_n (p := 12) ht (by omega)
theorem set_12 {D : zx_Y} {t : Nat} {v : Int32} (ht : t < 10) : g_X11_set D (nI t) 12 v = some (zx_up D (26, 0, 0, 0) (75 + 40 * t + 12) v) := set_n (p := 12) ht (by omega)
theorem at_13 {D : zx_Y} {t : Nat} (ht : t < 10) : g_X11_at D (nI t) 13 = some (D (26, 0, 0, 0) (75 + 40 * t + 13)) := at_n (p := 13) ht (by omega)
theorem set_13 {D : zx_Y} {t : Nat} {v : Int32} (ht : t < 10) : g_X11_set D (nI t) 13 v = some (zx_up D (26, 0, 0, 0) (75 + 40 * t + 13) v) := set_n (p := 13) ht (by omega)
theorem at_14 {D : zx_Y} {t : Nat} (ht : t < 10) : g_X11_at D (nI t) 14 = some (D (26, 0, 0, 0) (75 + 40 * t + 14)) := at_n (p := 14) ht (by omega)
theorem set_14 {D : zx_Y} {t : Nat} {v : Int32} (ht : t < 10) : g_X11_set D (nI t) 14 v = some (zx_up D (26, 0, 0, 0) (75 + 40 * t + 14) v) := set_n (p := 14) ht (by omega)
theorem at_15 {D : zx_Y} {t : Nat} (ht : t < 10) : g_X11_at D (nI t) 15 = some (D (26, 0, 0, 0) (75 + 40 * t + 15)) := at_n (p := 15) ht (by omega)
theorem set_15 {D : zx_Y} {t : Nat} {v : Int32} (ht : t < 10) : g_X11_set D (nI t) 15 v = some (zx_up D (26, 0, 0, 0) (75 + 40 * t + 15) v) := set_n (p := 15) ht (by omega)
theorem at_16 {D : zx_Y} {t : Nat} (ht : t < 10) : g_X11_at D (nI t) 16 = some (D (26, 0, 0, 0) (75 + 40 * t + 16)) := at_n (p := 16) ht (by omega)
theorem set_16 {D : zx_Y} {t : Nat} {v : Int32} (ht : t < 10) : g_X11_set D (nI t) 16 v = some (zx_up D (26, 0, 0, 0) (75 + 40 * t + 16) v) := set_n (p := 16) ht (by omega)
theorem bat_0 {α : Type} {D : zx_Y} {t : Nat} (ht : t < 10) (k : Int32 → Option α) : zb (g_X11_at D (nI t) 0) k = k (D (26, 0, 0, 0) (75 + 40 * t)) := by rw [at_0 ht, zb_some]
theorem mset_0 {α : Type} {D : zx_Y} {t : Nat} {v : Int32} (ht : t < 10) (k : zx_Y → Option α) : zm (g_X11_set D (nI t) 0 v) k = k (zx_up D (26, 0, 0, 0) (75 + 40 * t) v) := by rw [set_0 ht, zm_some]
theorem bat_1 {α : Type} {D : zx_Y} {t : Nat} (ht : t < 10) (k : Int32 → Option α) : zb (g_X11_at D (nI t) 1) k = k (D (26, 0, 0, 0) (75 + 40 * t + 1)) := by rw [at_1 ht, zb_some]
theorem mset_1 {α : Type} {D : zx_Y} {t : Nat} {v : Int32} (ht : t < 10) (k : zx_Y → Option α) : zm (g_X11_set D (nI t) 1 v) k = k (zx_up D (26, 0, 0, 0) (75 + 40 * t + 1) v) := by rw [set_1 ht, zm_some]
theorem bat_2 {α : Type} {D : zx_Y} {t : Nat} (ht : t < 10) (k : Int32 → Option α) : zb (g_X11_at D (nI t) 2) k = k (D (26, 0, 0, 0) (75 + 40 * t + 2)) := by rw [at_2 ht, zb_some]
theorem mset_2 {α : Type} {D : zx_Y} {t : Nat} {v : Int32} (ht : t < 10) (k : zx_Y → Option α) : zm (g_X11_set D (nI t) 2 v) k = k (zx_up D (26, 0, 0, 0) (75 + 40 * t + 2) v) := by rw [set_2 ht, zm_some]
theorem bat_3 {α : Type} {D : zx_Y} {t : Nat} (ht : t < 10) (k : Int32 → Option α) : zb (g_X11_at D (nI t) 3) k = k (D (26, 0, 0, 0) (75 + 40 * t + 3)) := by rw [at_3 ht, zb_some]
theorem mset_3 {α : Type} {D : zx_Y} {t : Nat} {v : Int32} (ht : t < 10) (k : zx_Y → Option α) : zm (g_X11_set D (nI t) 3 v) k = k (zx_up D (26, 0, 0, 0) (75 + 40 * t + 3) v) := by rw [set_3 ht, zm_some]
theorem bat_4 {α : Type} {D : zx_Y} {t : Nat} (ht : t < 10) (k : Int32 → Option α) : zb (g_X11_at D (nI t) 4) k = k (D (26, 0, 0, 0) (75 + 40 * t + 4)) := by rw [at_4 ht, zb_some]
theorem mset_4 {α : Type} {D : zx_Y} {t : Nat} {v : Int32} (ht : t < 10) (k : zx_Y → Option α) : zm (g_X11_set D (nI t) 4 v) k = k (zx_up D (26, 0, 0, 0) (75 + 40 * t + 4) v) := by rw [set_4 ht, zm_some]
theorem bat_5 {α : Type} {D : zx_Y} {t : Nat} (ht : t < 10) (k : Int32 → Option α) : zb (g_X11_at D (nI t) 5) k = k (D (26, 0, 0, 0) (75 + 40 * t + 5)) := by rw [at_5 ht, zb_some]
theorem mset_5 {α : Type} {D : zx_Y} {t : Nat} {v : Int32} (ht : t < 10) (k : zx_Y → Option α) : zm (g_X11_set D (nI t) 5 v) k = k (zx_up D (26, 0, 0, 0) (75 + 40 * t + 5) v) := by rw [set_5 ht, zm_some]
theorem bat_6 {α : Type} {D : zx_Y} {t : Nat} (ht : t < 10) (k : Int32 → Option α) : zb (g_X11_at D (nI t) 6) k = k (D (26, 0, 0, 0) (75 + 40 * t + 6)) := by rw [at_6 ht, zb_some]
theorem mset_6 {α : Type} {D : zx_Y} {t : Nat} {v : Int32} (ht : t < 10) (k : zx_Y → Option α) : zm (g_X11_set D (nI t) 6 v) k = k (zx_up D (26, 0, 0, 0) (75 + 40 * t + 6) v) := by rw [set_6 ht, zm_some]
theorem bat_7 {α : Type} {D : zx_Y} {t : Nat} (ht : t < 10) (k : Int32 → Option α) : zb (g_X11_at D (nI t) 7) k = k (D (26, 0, 0, 0) (75 + 40 * t + 7)) := by rw [at_7 ht, zb_some]
theorem mset_7 {α : Type} {D : zx_Y} {t : Nat} {v : Int32} (ht : t < 10) (k : zx_Y → Option α) : zm (g_X11_set D (nI t) 7 v) k = k (zx_up D (26, 0, 0, 0) (75 + 40 * t + 7) v) := by rw [set_7 ht, zm_some]
theorem bat_8 {α : Type} {D : zx_Y} {t : Nat} (ht : t < 10) (k : Int32 → Option α) : zb (g_X11_at D (nI t) 8) k = k (D (26, 0, 0, 0) (75 + 40 * t + 8)) := by rw [at_8 ht, zb_some]
theorem mset_8 {α : Type} {D : zx_Y} {t : Nat} {v : Int32} (ht : t < 10) (k : zx_Y → Option α) : zm (g_X11_set D (nI t) 8 v) k = k (zx_up D (26, 0, 0, 0) (75 + 40 * t + 8) v) := by rw [set_8 ht, zm_some]
theorem bat_9 {α : Type} {D : zx_Y} {t : Nat} (ht : t < 10) (k : Int32 → Option α) : zb (g_X11_at D (nI t) 9) k = k (D (26, 0, 0, 0) (75 + 40 * t + 9)) := by rw [at_9 ht, zb_some]
theorem mset_9 {α : Type} {D : zx_Y} {t : Nat} {v : Int32} (ht : t < 10) (k : zx_Y → Option α) : zm (g_X11_set D (nI t) 9 v) k = k (zx_up D (26, 0, 0, 0) (75 + 40 * t + 9) v) := by rw [set_9 ht, zm_some]
theorem bat_10 {α : Type} {D : zx_Y} {t : Nat} (ht : t < 10) (k : Int32 → Option α) : zb (g_X11_at D (nI t) 10) k = k (D (26, 0, 0, 0) (75 + 40 * t + 10)) := by rw [at_10 ht, zb_some]
theorem mset_10 {α : Type} {D : zx_Y} {t : Nat} {v : Int32} (ht : t < 10) (k : zx_Y → Option α) : zm (g_X11_set D (nI t) 10 v) k = k (zx_up D (26, 0, 0, 0) (75 + 40 * t + 10) v) := by rw [set_10 ht, zm_some]
theorem bat_11 {α : Type} {D : zx_Y} {t : Nat} (ht : t < 10) (k : Int32 → Option α) : zb (g_X11_at D (nI t) 11) k = k (D (26, 0, 0, 0) (75 + 40 * t + 11)) := by rw [at_11 ht, zb_some]
theorem mset_11 {α : Type} {D : zx_Y} {t : Nat} {v : Int32} (ht : t < 10) (k : zx_Y → Option α) : zm (g_X11_set D (nI t) 11 v) k = k (zx_up D (26, 0, 0, 0) (75 + 40 * t + 11) v) := by rw [set_11 ht, zm_some]
theorem bat_12 {α : Type} {D : zx_Y} {t : Nat} (ht : t < 10) (k : Int32 → Option α) : zb (g_X11_at D (nI t) 12) k = k (D (26, 0, 0, 0) (75 + 40 * t + 12)) := by rw [at_12 ht, zb_some]
theorem mset_12 {α : Type} {D : zx_Y} {t : Nat} {v : Int32} (ht : t < 10) (k : zx_Y → Option α) : zm (g_X11_set D (nI t) 12 v) k = k (zx_up D (26, 0, 0, 0) (75 + 40 * t + 12) v) := by rw [set_12 ht, zm_some]
theorem bat_13 {α : Type} {D : zx_Y} {t : Nat} (ht : t < 10) (k : Int32 → Option α) : zb (g_X11_at D (nI t) 13) k = k (D (26, 0, 0, 0) (75 + 40 * t + 13)) := by rw [at_13 ht, zb_some]
theorem mset_13 {α : Type} {D : zx_Y} {t : Nat} {v : Int32} (ht : t < 10) (k : zx_Y → Option α) : zm (g_X11_set D (nI t) 13 v) k = k (zx_up D (26, 0, 0, 0) (75 + 40 * t + 13) v) := by rw [set_13 ht, zm_some]
theorem bat_14 {α : Type} {D : zx_Y} {t : Nat} (ht : t < 10) (k : Int32 → Option α) : zb (g_X11_at D (nI t) 14) k = k (D (26, 0, 0, 0) (75 + 40 * t + 14)) := by rw [at_14 ht, zb_some]
theorem mset_14 {α : Type} {D : zx_Y} {t : Nat} {v : Int32} (ht : t < 10) (k : zx_Y → Option α) : zm (g_X11_set D (nI t) 14 v) k = k (zx_up D (26, 0, 0, 0) (75 + 40 * t + 14) v) := by rw [set_14 ht, zm_some]
theorem bat_15 {α : Type} {D : zx_Y} {t : Nat} (ht : t < 10) (k : Int32 → Option α) : zb (g_X11_at D (nI t) 15) k = k (D (26, 0, 0, 0) (75 + 40 * t + 15)) := by rw [at_15 ht, zb_some]
theorem mset_15 {α : Type} {D : zx_Y} {t : Nat} {v : Int32} (ht : t < 10) (k : zx_Y → Option α) : zm (g_X11_set D (nI t) 15 v) k = k (zx_up D (26, 0, 0, 0) (75 + 40 * t + 15) v) := by rw [set_15 ht, zm_some]
theorem bat_16 {α : Type} {D : zx_Y} {t : Nat} (ht : t < 10) (k : Int32 → Option α) : zb (g_X11_at D (nI t) 16) k = k (D (26, 0, 0, 0) (75 + 40 * t + 16)) := by rw [at_16 ht, zb_some]
theorem mset_16 {α : Type} {D : zx_Y} {t : Nat} {v : Int32} (ht : t < 10) (k : zx_Y → Option α) : zm (g_X11_set D (nI t) 16 v) k = k (zx_up D (26, 0, 0, 0) (75 + 40 * t + 16) v) := by rw [set_16 ht, zm_some]
theorem at_arr {D : zx_Y} {t s : Nat} (ht : t < 10) (hs : s < 16) : g_X11_at D (nI t) (17 + nI s) = some (D (26, 0, 0, 0) (75 + 40 * t + 17 + s)) := by
  rw [show (17 : Int32) = nI 17 from rfl, nI_add, at_n ht (by omega), ← Nat.add_assoc]
theorem at_dep {D : zx_Y} {t s : Nat} (ht : t < 10) (hs : s < 8) : g_X11_at D (nI t) (25 + nI s) = some (D (26, 0, 0, 0) (75 + 40 * t + 25 + s)) := by
  rw [show (25 : Int32) = nI 25 from rfl, nI_add, at_n ht (by omega), ← Nat.add_assoc]
theorem set_arr {D : zx_Y} {t s : Nat} {v : Int32} (ht : t < 10) (hs : s < 8) : g_X11_set D (nI t) (17 + nI s) v = some (zx_up D (26, 0, 0, 0) (75 + 40 * t + 17 + s) v) := by
  rw [show (17 : Int32) = nI 17 from rfl, nI_add, set_n ht (by omega), ← Nat.add_assoc]
theorem set_dep {D : zx_Y} {t s : Nat} {v : Int32} (ht : t < 10) (hs : s < 8) : g_X11_set D (nI t) (25 + nI s) v = some (zx_up D (26, 0, 0, 0) (75 + 40 * t + 25 + s) v) := by
  rw [show (25 : Int32) = nI 25 from rfl, nI_add, set_n ht (by omega), ← Nat.add_assoc]
theorem hst_1 {C : zx_Y} {l S s : Nat} (e : C (1, l, 0, 0) 3 = nI S) (hS : S ≤ 8) (h : s < S) : g_X2_hasStation C l (nI s) = some 1 := by
  unfold g_X2_hasStation
  rw [if_neg (nI_pos (by omega)), e, if_neg (nI_ge h (by omega)), if_neg (by rw [show (8 : Int32) = nI 8 from rfl]; exact nI_ge (by omega) (by omega))]
theorem hst_0 {C : zx_Y} {l S : Nat} {x : Int32} (e : C (1, l, 0, 0) 3 = nI S) (hS : S ≤ 8) (h : ¬ ∃ s, s < S ∧ x = nI s) : g_X2_hasStation C l x = some 0 := by
  unfold g_X2_hasStation
  rw [e]
  rcases nI_cases (x := x) (n := S) (by omega) with q | q | q
  · exact absurd q h
  · rw [if_pos q.1]
  · rw [if_neg q.1, if_pos q.2]
theorem hbl_1 {C : zx_Y} {l S b : Nat} (e : C (1, l, 0, 0) 3 = nI S) (hS : S ≤ 8) (h : b + 1 < S) : g_X2_hasBlock C l (nI b) = some 1 := by
  unfold g_X2_hasBlock
  rw [if_neg (nI_pos (by omega)), e, show nI S - 1 = nI (S - 1) from by rw [show S = (S - 1) + 1 by omega, nI_pred]; rfl, if_neg (nI_ge (by omega) (by omega)), if_neg (by rw [show (7 : Int32) = nI 7 from rfl]; exact nI_ge (by omega) (by omega))]
theorem hbl_0 {C : zx_Y} {l S : Nat} {x : Int32} (e : C (1, l, 0, 0) 3 = nI S) (hS : S ≤ 8) (h : ¬ ∃ b, b + 1 < S ∧ x = nI b) : g_X2_hasBlock C l x = some 0 := by
  unfold g_X2_hasBlock
  rw [e]
  rcases Nat.eq_zero_or_pos S with rfl | hp
  · by_cases q : x < 0
    · rw [if_pos q]
    · rw [if_neg q, if_pos]
      exact Int32.le_trans (by decide) (Int32.not_lt.mp q)
  · rw [show nI S - 1 = nI (S - 1) from by rw [show S = (S - 1) + 1 by omega, nI_pred]; rfl]
    rcases nI_cases (x := x) (n := S - 1) (by omega) with ⟨k, hk, q⟩ | q | q
    · exact absurd ⟨k, by omega, q⟩ h
    · rw [if_pos q.1]
    · rw [if_neg q.1, if_pos q.2]
theorem isIn_1 {D : zx_Y} {x a b : Int32} (h1 : ¬ x < a) (h2 : ¬ b < x) : g_X11_isIn D x a b = some 1 := by
  unfold g_X11_isIn
  rw [if_neg h1, if_neg h2]
theorem isIn_0 {D : zx_Y} {x a b : Int32} (h : x < a ∨ b < x) : g_X11_isIn D x a b = some 0 := by
  unfold g_X11_isIn
  rcases h with h | h
  · rw [if_pos h]
  · by_cases q : x < a
    · rw [if_pos q]
    · rw [if_neg q, if_pos h]
/-- is a number below n, as the reference asks -/
theorem isN_1 {D : zx_Y} {n k : Nat} (h : k < n) (hn : n ≤ 640) : g_X11_isIn D (nI k) 0 (nI n - 1) = some 1 := by
  refine isIn_1 (nI_pos (by omega)) ?_
  rw [show nI n - 1 = nI (n - 1) from by rw [show n = (n - 1) + 1 by omega, nI_pred]; rfl]
  exact nI_nlt (by omega) (by omega)
theorem isN_0 {D : zx_Y} {n : Nat} {x : Int32} (hn : n ≤ 640) (h : ¬ ∃ k, k < n ∧ x = nI k) : g_X11_isIn D x 0 (nI n - 1) = some 0 := by
  refine isIn_0 ?_
  rcases nI_cases (x := x) (n := n) (by omega) with q | q | q
  · exact absurd q h
  · exact Or.inl q.1
  · right
    have h1 : nI n - 1 < nI n := by
      rcases Nat.eq_zero_or_pos n with rfl | hp
      · decide
      · rw [show nI n - 1 = nI (n - 1) from by rw [show n = (n - 1) + 1 by omega, nI_pred]; rfl]
        exact nI_lt (by omega) (by omega)
    exact Int32.lt_of_lt_of_le h1 q.2
theorem isSt_1 {D : zx_Y} {S s : Nat} (e : D (26, 0, 0, 0) 1 = nI S) (hS : S ≤ 8) (h : s < S) : g_X11_isStation D (nI s) = some 1 := by
  unfold g_X11_isStation
  rw [e, isN_1 h (by omega), zb_some, zo_1]
theorem isSt_0 {D : zx_Y} {S : Nat} {x : Int32} (e : D (26, 0, 0, 0) 1 = nI S) (hS : S ≤ 8) (h : ¬ ∃ s, s < S ∧ x = nI s) : g_X11_isStation D x = some 0 := by
  unfold g_X11_isStation
  rw [e, isN_0 (by omega) h, zb_some, zo_0]
theorem isTr_1 {D : zx_Y} {N t : Nat} (e : D (26, 0, 0, 0) 27 = nI N) (hN : N ≤ 10) (h : t < N) : g_X11_isTrain D (nI t) = some 1 := by
  unfold g_X11_isTrain
  rw [e, isN_1 h (by omega), zb_some, zo_1]
theorem isTr_0 {D : zx_Y} {N : Nat} {x : Int32} (e : D (26, 0, 0, 0) 27 = nI N) (hN : N ≤ 10) (h : ¬ ∃ s, s < N ∧ x = nI s) : g_X11_isTrain D x = some 0 := by
  unfold g_X11_isTrain
  rw [e, isN_0 (by omega) h, zb_some, zo_0]
theorem isBl_1 {D : zx_Y} {S b : Nat} (e : D (26, 0, 0, 0) 1 = nI S) (hS : S ≤ 8) (h : b + 1 < S) : g_X11_isBlock D (nI b) = some 1 := by
  unfold g_X11_isBlock
  rw [e, show nI S - 2 = nI (S - 1) - 1 from by rw [show (2 : Int32) = nI 2 from rfl, show (1 : Int32) = nI 1 from rfl, pk_sub (by omega), pk_sub (by omega)]; rfl, isN_1 (by omega) (by omega), zb_some, zo_1]
theorem isBl_0 {D : zx_Y} {S : Nat} {x : Int32} (e : D (26, 0, 0, 0) 1 = nI S) (hS : S ≤ 8) (h : ¬ ∃ b, b + 1 < S ∧ x = nI b) : g_X11_isBlock D x = some 0 := by
  unfold g_X11_isBlock
  rw [e]
  have e2 : g_X11_isIn D x 0 (nI S - 2) = some 0 := by
    rcases Nat.eq_zero_or_pos S with rfl | hp
    · refine isIn_0 ?_
      by_cases q : x < 0
      · exact Or.inl q
      · right
        exact Int32.lt_of_lt_of_le (by decide) (Int32.not_lt.mp q)
    · have e3 : nI S - 2 = nI (S - 1) - 1 := by
        rw [show nI (S - 1) = nI S - 1 from by rw [show (1 : Int32) = nI 1 from rfl, pk_sub (by omega)], show (2 : Int32) = 1 + 1 from rfl, Int32.sub_sub]
      rw [e3]
      exact isN_0 (by omega) (fun ⟨k, hk, q⟩ => h ⟨k, by omega, q⟩)
  rw [e2, zb_some, zo_0]
theorem tw_1 {α : Type} {C : zx_Y} {l N t : Nat} {f : Nat → Option α} {e : Option α} (h4 : C (1, l, 0, 0) 4 = nI N) (hN : N ≤ 10) (h : t < N) : zt C l (nI t) f e = f t := by
  unfold zt
  rw [if_pos ⟨nI_pos (by omega), by rw [h4]; exact nI_lt h (by omega), by rw [show (10 : Int32) = nI 10 from rfl]; exact nI_lt (by omega) (by omega)⟩, nI_clamp (by omega)]
theorem tw_0 {α : Type} {C : zx_Y} {l N : Nat} {x : Int32} {f : Nat → Option α} {e : Option α} (h4 : C (1, l, 0, 0) 4 = nI N) (hN : N ≤ 10) (h : ¬ ∃ s, s < N ∧ x = nI s) : zt C l x f e = e := by
  unfold zt
  rw [if_neg]
  rintro ⟨q1, q2, q3⟩
  rw [h4] at q2
  rcases nI_cases (x := x) (n := N) (by omega) with q | q | q
  · exact h q
  · exact q1 q.1
  · exact absurd q2 (Int32.not_lt.mpr q.2)
