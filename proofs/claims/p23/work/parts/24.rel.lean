/-! the relation: line l of the class's memory C, and the reference's row A -/
def Wy (f g p : Nat) : Prop := (f < g ∧ f ≤ p ∧ p < g) ∨ (g < f ∧ g < p ∧ p ≤ f)
def Ah (f g p s : Nat) : Prop := (f < g ∧ p < s) ∨ (g < f ∧ s < p)
def Aj (f g p q : Nat) : Prop := (f < g ∧ q = p + 1) ∨ (g < f ∧ p = q + 1)
def nx (f g p : Nat) : Nat := if f < g then p + 1 else p - 1
def bk (f g p : Nat) : Nat := if f < g then p else p - 1
/-- the state of train t -/
def St (l B t f g : Nat) (C : zx_Y) (A : Nat → Int32) : Prop :=
  (A (75 + 40 * t) = 0 ∧ C (7, l, t, 0) 12 = A (75 + 40 * t + 8) ∧ A (75 + 40 * t + 11) = -5 ∧ A (75 + 40 * t + 9) = -5 ∧ ∀ s, s < 8 → A (75 + 40 * t + 17 + s) = -5 ∧ A (75 + 40 * t + 25 + s) = -5) ∨
  (A (75 + 40 * t) = 1 ∧ C (7, l, t, 0) 12 = A (75 + 40 * t + 8) ∧ C (7, l, t, 0) 13 = A (75 + 40 * t + 12) ∧ ∃ p, A (75 + 40 * t + 11) = nI p ∧ Wy f g p ∧ ∀ s, s < 8 → Ah f g p s → A (75 + 40 * t + 17 + s) = -5) ∨
  (A (75 + 40 * t) = 2 ∧ ∃ p u d, A (75 + 40 * t + 11) = nI (bk f g p) ∧ C (7, l, t, 0) 10 = nI (nx f g p) ∧ Wy f g p ∧ A (75 + 40 * t + 25 + p) = nI d ∧ d < u ∧ u ≤ 90000 ∧ A (75 + 40 * t + 8) = nI u ∧ C (7, l, t, 0) 12 = nI u ∧ ∀ s, s < 8 → Ah f g p s → A (75 + 40 * t + 17 + s) = -5) ∨
  (A (75 + 40 * t) = 3 ∧ C (7, l, t, 0) 13 = A (75 + 40 * t + 12) ∧ ∃ p s0 u w, A (75 + 40 * t + 11) = nI p ∧ Wy f g p ∧ (∀ s, s < 8 → Ah f g p s → A (75 + 40 * t + 17 + s) = -5) ∧ A (75 + 40 * t + 7) = nI s0 ∧ s0 < B ∧ A (75 + 40 * t + 8) = nI u ∧ u ≤ 20000 ∧ C (7, l, t, 0) 12 = nI w ∧ ((w = u ∧ s0 + 1 ≤ u) ∨ (w = s0 + 1 ∧ u ≤ s0))) ∨
  ((A (75 + 40 * t) = 4 ∨ A (75 + 40 * t) = 5) ∧ C (7, l, t, 0) 12 = A (75 + 40 * t + 8) ∧ A (75 + 40 * t + 11) = -5)
/-- train t -/
def Rt (l S T B t : Nat) (C : zx_Y) (A : Nat → Int32) : Prop := ∃ f g e r : Nat,
  (f < S ∧ g < S ∧ f ≠ g ∧ e ≤ 9 ∧ r ≤ 9999) ∧
  (C (7, l, t, 0) 1 = A (75 + 40 * t) ∧ C (7, l, t, 0) 2 = nI f ∧ A (75 + 40 * t + 1) = nI f ∧ C (7, l, t, 0) 3 = nI g ∧ A (75 + 40 * t + 2) = nI g ∧ C (7, l, t, 0) 4 = A (75 + 40 * t + 3) ∧ C (7, l, t, 0) 5 = nI r ∧ A (75 + 40 * t + 4) = nI r ∧ C (7, l, t, 0) 6 = nI e ∧ A (75 + 40 * t + 5) = nI e ∧ C (7, l, t, 0) 7 = A (75 + 40 * t + 6) ∧ C (7, l, t, 0) 8 = A (75 + 40 * t + 10) ∧ C (7, l, t, 0) 9 = A (75 + 40 * t + 11) ∧ C (7, l, t, 0) 11 = A (75 + 40 * t + 7) ∧ C (7, l, t, 0) 14 = A (75 + 40 * t + 9)) ∧
  (C (11, l, t, 0) 0 = A (75 + 40 * t + 13) ∧ C (11, l, t, 0) 1 = A (75 + 40 * t + 16) ∧ C (11, l, t, 0) 2 = A (75 + 40 * t + 14) ∧ C (11, l, t, 0) 3 = A (75 + 40 * t + 15)) ∧
  (∀ s, s < 8 → C (13, l, t, 0) s = A (75 + 40 * t + 17 + s) ∧ C (13, l, t, 1) s = A (75 + 40 * t + 25 + s) ∧ (A (75 + 40 * t + 17 + s) = -5 ∨ ∃ a, a ≤ T ∧ A (75 + 40 * t + 17 + s) = nI a) ∧ (A (75 + 40 * t + 25 + s) = -5 ∨ ∃ a, a ≤ T ∧ A (75 + 40 * t + 25 + s) = nI a)) ∧
  (∀ p q, p < 8 → q < 8 → Aj f g p q → ∀ d a, d < 2 ^ 31 → a < 2 ^ 31 → A (75 + 40 * t + 25 + p) = nI d → A (75 + 40 * t + 17 + q) = nI a → d < a) ∧
  St l B t f g C A
def Rb (l S N O T : Nat) (C : zx_Y) (A : Nat → Int32) : Prop :=
  (C (1, l, 0, 0) 0 = nI T ∧ A 0 = nI T) ∧ (C (1, l, 0, 0) 1 = A 25 ∧ C (1, l, 0, 0) 2 = A 26) ∧ (C (1, l, 0, 0) 3 = nI S ∧ A 1 = nI S) ∧ (C (1, l, 0, 0) 4 = nI N ∧ A 27 = nI N) ∧ (C (1, l, 0, 0) 5 = nI O ∧ A 50 = nI O) ∧ (S ≤ 8 ∧ S ≠ 1 ∧ N ≤ 10 ∧ O ≤ 6 ∧ T ≤ 10499) ∧ ∃ m, m ≤ 60 ∧ A 26 = nI m
def Rs (l S : Nat) (C : zx_Y) (A : Nat → Int32) : Prop := ∀ s, s < 8 → (C (3, l, s, 0) 1 = 0 ∨ C (3, l, s, 0) 1 = 1) ∧ (s < S → C (3, l, s, 0) 0 = A (9 + s) ∧ C (3, l, s, 0) 1 = A (17 + s) ∧ C (3, l, s, 0) 2 = A (28 + s))
def Rk (l S : Nat) (C : zx_Y) (A : Nat → Int32) : Prop := ∀ b, b + 1 < S → (∃ n, 1 ≤ n ∧ n ≤ 99 ∧ C (5, l, b, 0) 0 = nI n ∧ A (2 + b) = nI n) ∧ C (5, l, b, 0) 1 = A (36 + b) ∧ C (5, l, b, 0) 2 = A (43 + b)
def Ro (l O : Nat) (C : zx_Y) (A : Nat → Int32) : Prop := ∀ i, i < O → C (9, l, i, 0) 0 = A (51 + 4 * i) ∧ (∃ w, w ≤ 9999 ∧ C (9, l, i, 0) 1 = nI w ∧ A (51 + 4 * i + 1) = nI w) ∧ C (9, l, i, 0) 2 = A (51 + 4 * i + 2) ∧ C (9, l, i, 0) 3 = A (51 + 4 * i + 3)
def R (l S N O T B : Nat) (C : zx_Y) (A : Nat → Int32) : Prop :=
  Rb l S N O T C A ∧ Rs l S C A ∧ Rk l S C A ∧ Ro l O C A ∧ (∀ t, t < 10 → C (7, l, t, 0) 0 = nI t) ∧ ∀ t, t < N → Rt l S T B t C A
/-- line l of C' is line m of C -/
def Lq (l m : Nat) (C' C : zx_Y) : Prop := (∀ j, j < 6 → C' (1, l, 0, 0) j = C (1, m, 0, 0) j) ∧ (∀ s j, s < 8 → j < 3 → C' (3, l, s, 0) j = C (3, m, s, 0) j) ∧ (∀ b j, b < 7 → j < 3 → C' (5, l, b, 0) j = C (5, m, b, 0) j) ∧ (∀ i j, i < 6 → j < 4 → C' (9, l, i, 0) j = C (9, m, i, 0) j) ∧ (∀ t j, t < 10 → j < 15 → C' (7, l, t, 0) j = C (7, m, t, 0) j) ∧ (∀ t j, t < 10 → j < 4 → C' (11, l, t, 0) j = C (11, m, t, 0) j) ∧ (∀ t k s, t < 10 → k < 2 → s < 8 → C' (13, l, t, k) s = C (13, m, t, k) s)
theorem St_cong {l m B t f g : Nat} {C C' : zx_Y} {A A' : Nat → Int32} (ht : t < 10) (hf : f < 8) (hg : g < 8) (h7 : ∀ j, j < 15 → C' (7, l, t, 0) j = C (7, m, t, 0) j) (hA : ∀ j, 75 + 40 * t ≤ j → j < 115 + 40 * t → (j < 88 + 40 * t ∨ 92 + 40 * t ≤ j) → A' j = A j) (h : St m B t f g C A) : St l B t f g C' A' := by
  unfold St at h ⊢
  rcases h with ⟨a1, a2, a3, a4, a5⟩ | ⟨a1, a2, a3, p, a4, a5, a6⟩ | ⟨a1, p, u, d, a2, a3, a4, a5, a6, a7, a8, a9, a10⟩ | ⟨a1, a2, p, s0, u, w, a3, a4, a5, a6, a7, a8, a9, a10, a11⟩ | ⟨a1, a2, a3⟩
  · exact Or.inl ⟨(by simp (disch := omega) only [h7, hA]; exact a1), (by simp (disch := omega) only [h7, hA]; exact a2), (by simp (disch := omega) only [h7, hA]; exact a3), (by simp (disch := omega) only [h7, hA]; exact a4), fun s hs => by simp (disch := omega) only [hA]; exact a5 s hs⟩
  · exact Or.inr (Or.inl ⟨(by simp (disch := omega) only [h7, hA]; exact a1), (by simp (disch := omega) only [h7, hA]; exact a2), (by simp (disch := omega) only [h7, hA]; exact a3), p, (by simp (disch := omega) only [h7, hA]; exact a4), a5, fun s hs hq => by simp (disch := omega) only [hA]; exact a6 s hs hq⟩)
  · have hp : p < 8 := by unfold Wy at a4; omega
    exact Or.inr (Or.inr (Or.inl ⟨(by simp (disch := omega) only [h7, hA]; exact a1), p, u, d, (by simp (disch := omega) only [h7, hA]; exact a2), (by simp (disch := omega) only [h7, hA]; exact a3), a4, (by simp (disch := omega) only [h7, hA]; exact a5), a6, a7, (by simp (disch := omega) only [h7, hA]; exact a8), (by simp (disch := omega) only [h7, hA]; exact a9), fun s hs hq => by simp (disch := omega) only [hA]; exact a10 s hs hq⟩))
  · exact Or.inr (Or.inr (Or.inr (Or.inl ⟨(by simp (disch := omega) only [h7, hA]; exact a1), (by simp (disch := omega) only [h7, hA]; exact a2), p, s0, u, w, (by simp (disch := omega) only [h7, hA]; exact a3), a4, (fun s hs hq => by simp (disch := omega) only [hA]; exact a5 s hs hq), (by simp (disch := omega) only [h7, hA]; exact a6), a7, (by simp (disch := omega) only [h7, hA]; exact a8), a9, (by simp (disch := omega) only [h7, hA]; exact a10), a11⟩)))
  · exact Or.inr (Or.inr (Or.inr (Or.inr ⟨(by simp (disch := omega) only [h7, hA]; exact a1), (by simp (disch := omega) only [h7, hA]; exact a2), (by simp (disch := omega) only [h7, hA]; exact a3)⟩)))
theorem Rt_cong {l m S T B t : Nat} {C C' : zx_Y} {A A' : Nat → Int32} (ht : t < 10) (hS : S ≤ 8) (h7 : ∀ j, j < 15 → C' (7, l, t, 0) j = C (7, m, t, 0) j) (h11 : ∀ j, j < 4 → C' (11, l, t, 0) j = C (11, m, t, 0) j) (h13 : ∀ k s, k < 2 → s < 8 → C' (13, l, t, k) s = C (13, m, t, k) s) (hA : ∀ j, 75 + 40 * t ≤ j → j < 115 + 40 * t → A' j = A j) (h : Rt m S T B t C A) : Rt l S T B t C' A' := by
  obtain ⟨f, g, e, r, hw, ⟨q1, q2, q2d, q3, q3d, q4, q5, q5d, q6, q6d, q7, q8, q9, q11, q14⟩, ⟨p0, p1, p2, p3⟩, ha, hord, hst⟩ := h
  refine ⟨f, g, e, r, hw, ⟨(by simp (disch := omega) only [h7, h11, h13, hA]; exact q1), (by simp (disch := omega) only [h7, h11, h13, hA]; exact q2), (by simp (disch := omega) only [h7, h11, h13, hA]; exact q2d), (by simp (disch := omega) only [h7, h11, h13, hA]; exact q3), (by simp (disch := omega) only [h7, h11, h13, hA]; exact q3d), (by simp (disch := omega) only [h7, h11, h13, hA]; exact q4), (by simp (disch := omega) only [h7, h11, h13, hA]; exact q5), (by simp (disch := omega) only [h7, h11, h13, hA]; exact q5d), (by simp (disch := omega) only [h7, h11, h13, hA]; exact q6), (by simp (disch := omega) only [h7, h11, h13, hA]; exact q6d), (by simp (disch := omega) only [h7, h11, h13, hA]; exact q7), (by simp (disch := omega) only [h7, h11, h13, hA]; exact q8), (by simp (disch := omega) only [h7, h11, h13, hA]; exact q9), (by simp (disch := omega) only [h7, h11, h13, hA]; exact q11), (by simp (disch := omega) only [h7, h11, h13, hA]; exact q14)⟩, ⟨(by simp (disch := omega) only [h7, h11, h13, hA]; exact p0), (by simp (disch := omega) only [h7, h11, h13, hA]; exact p1), (by simp (disch := omega) only [h7, h11, h13, hA]; exact p2), (by simp (disch := omega) only [h7, h11, h13, hA]; exact p3)⟩, fun s hs => ?_, fun p q hp hq hj d a hd hb => ?_, St_cong ht (by omega) (by omega) h7 (fun j h1 h2 _ => hA j h1 h2) hst⟩
  · simp (disch := omega) only [h13, hA]
    exact ha s hs
  · simp (disch := omega) only [hA]
    exact hord p q hp hq hj d a hd hb
theorem R_cong {l m S N O T B : Nat} {C C' : zx_Y} {A A' : Nat → Int32} (hL : Lq l m C' C) (hA : ∀ j, j < 475 → A' j = A j) (h : R m S N O T B C A) : R l S N O T B C' A' := by
  obtain ⟨h1, h3, h5, h9, h7, h11, h13⟩ := hL
  obtain ⟨hb, hs, hk, ho, hn, ht⟩ := h
  have hS : S ≤ 8 := hb.2.2.2.2.2.1.1
  have hN : N ≤ 10 := hb.2.2.2.2.2.1.2.2.1
  have hO : O ≤ 6 := hb.2.2.2.2.2.1.2.2.2.1
  refine ⟨?_, fun s hq => ?_, fun b hq => ?_, fun i hq => ?_, fun t hq => ?_, fun t hq => ?_⟩
  · unfold Rb at hb ⊢
    simp (disch := omega) only [h1, hA]
    exact hb
  · simp (disch := omega) only [h3]
    refine ⟨(hs s hq).1, fun hq2 => ?_⟩
    simp (disch := omega) only [hA]
    exact (hs s hq).2 hq2
  · simp (disch := omega) only [h5, hA]
    exact hk b hq
  · simp (disch := omega) only [h9, hA]
    exact ho i hq
  · rw [h7 t 0 hq (by omega)]
    exact hn t hq
  · exact Rt_cong (by omega) hS (fun j hj => h7 t j (by omega) hj) (fun j hj => h11 t j (by omega) hj) (fun k s hk2 hs2 => h13 t k s (by omega) hk2 hs2) (fun j _ hj2 => hA j (by omega)) (ht t hq)
/-- train t and the counters may have changed, the rest is as it was -/
def Kp (l t : Nat) (C' C : zx_Y) : Prop := (∀ j, j < 6 → C' (1, l, 0, 0) j = C (1, l, 0, 0) j) ∧ (∀ i j, i < 6 → j < 4 → C' (9, l, i, 0) j = C (9, l, i, 0) j) ∧ (∀ u j, u ≠ t → C' (7, l, u, 0) j = C (7, l, u, 0) j) ∧ C' (7, l, t, 0) 0 = C (7, l, t, 0) 0 ∧ (∀ u j, u ≠ t → C' (11, l, u, 0) j = C (11, l, u, 0) j) ∧ (∀ u k s, u ≠ t → C' (13, l, u, k) s = C (13, l, u, k) s)
theorem R_tr {l S N O T B t : Nat} {C C' : zx_Y} {A A' : Nat → Int32} (h : R l S N O T B C A) (htN : t < N) (hK : Kp l t C' C) (hA : ∀ j, j < 75 → (j < 28 ∨ 50 ≤ j) → A' j = A j) (hA2 : ∀ j, 75 ≤ j → j < 475 → ¬ (75 + 40 * t ≤ j ∧ j < 115 + 40 * t) → A' j = A j) (hs : Rs l S C' A') (hk : Rk l S C' A') (hr : Rt l S T B t C' A') : R l S N O T B C' A' := by
  obtain ⟨h1, h9, h7, h70, h11, h13⟩ := hK
  obtain ⟨hb, -, -, ho, hn, ht⟩ := h
  have hS : S ≤ 8 := hb.2.2.2.2.2.1.1
  have hN : N ≤ 10 := hb.2.2.2.2.2.1.2.2.1
  have hO : O ≤ 6 := hb.2.2.2.2.2.1.2.2.2.1
  refine ⟨?_, hs, hk, fun i hq => ?_, fun u hq => ?_, fun u hq => ?_⟩
  · unfold Rb at hb ⊢
    simp (disch := omega) only [h1, hA]
    exact hb
  · simp (disch := omega) only [h9, hA]
    exact ho i hq
  · by_cases e : u = t
    · subst e
      rw [h70]
      exact hn u hq
    · rw [h7 u 0 e]
      exact hn u hq
  · by_cases e : u = t
    · subst e
      exact hr
    · exact Rt_cong (by omega) hS (fun j _ => h7 u j e) (fun j _ => h11 u j e) (fun k s _ _ => h13 u k s e) (fun j hj1 hj2 => hA2 j (by omega) (by omega) (by omega)) (ht u hq)
theorem Rs_keep {l S : Nat} {C C' : zx_Y} {A A' : Nat → Int32} (hS : S ≤ 8) (h3 : ∀ s j, C' (3, l, s, 0) j = C (3, l, s, 0) j) (hA : ∀ j, 9 ≤ j → j < 36 → (j < 25 ∨ 28 ≤ j) → A' j = A j) (h : Rs l S C A) : Rs l S C' A' := fun s hs => by
  rw [h3, h3, h3]
  refine ⟨(h s hs).1, fun q => ?_⟩
  rw [hA _ (by omega) (by omega) (by omega), hA _ (by omega) (by omega) (by omega), hA _ (by omega) (by omega) (by omega)]
  exact (h s hs).2 q
theorem Rk_keep {l S : Nat} {C C' : zx_Y} {A A' : Nat → Int32} (hS : S ≤ 8) (h5 : ∀ s j, C' (5, l, s, 0) j = C (5, l, s, 0) j) (hA : ∀ j, (2 ≤ j ∧ j < 9) ∨ (36 ≤ j ∧ j < 50) → A' j = A j) (h : Rk l S C A) : Rk l S C' A' := fun b hb => by
  rw [h5, h5, h5]
  rw [hA _ (by omega), hA _ (by omega), hA _ (by omega)]
  exact h b hb
/-- time goes on -/
theorem Rt_time {l S T T' B t : Nat} {C : zx_Y} {A : Nat → Int32} (hT : T ≤ T') (h : Rt l S T B t C A) : Rt l S T' B t C A := by
  obtain ⟨f, g, e, r, hw, hq, hp, ha, hord, hst⟩ := h
  exact ⟨f, g, e, r, hw, hq, hp, fun s hs => ⟨(ha s hs).1, (ha s hs).2.1, (ha s hs).2.2.1.imp id fun ⟨a, h1, h2⟩ => ⟨a, by omega, h2⟩, (ha s hs).2.2.2.imp id fun ⟨a, h1, h2⟩ => ⟨a, by omega, h2⟩⟩, hord, hst⟩
theorem St_B {l B B' t f g : Nat} {C : zx_Y} {A : Nat → Int32} (hB : B ≤ B') (h : St l B t f g C A) : St l B' t f g C A := by
  unfold St at h ⊢
  rcases h with h | h | h | ⟨a1, a2, p, s0, u, w, a3, a4, a5, a6, a7, h⟩ | h
  · exact Or.inl h
  · exact Or.inr (Or.inl h)
  · exact Or.inr (Or.inr (Or.inl h))
  · exact Or.inr (Or.inr (Or.inr (Or.inl ⟨a1, a2, p, s0, u, w, a3, a4, a5, a6, by omega, h⟩)))
  · exact Or.inr (Or.inr (Or.inr (Or.inr h)))
theorem Rt_B {l S T B B' t : Nat} {C : zx_Y} {A : Nat → Int32} (hB : B ≤ B') (h : Rt l S T B t C A) : Rt l S T B' t C A := by
  obtain ⟨f, g, e, r, hw, hq, hp, ha, hord, hst⟩ := h
  exact ⟨f, g, e, r, hw, hq, hp, ha, hord, St_B hB hst⟩
theorem R_B {l S N O T B B' : Nat} {C : zx_Y} {A : Nat → Int32} (hB : B ≤ B') (h : R l S N O T B C A) : R l S N O T B' C A :=
  ⟨h.1, h.2.1, h.2.2.1, h.2.2.2.1, h.2.2.2.2.1, fun t ht => Rt_B hB (h.2.2.2.2.2 t ht)⟩
