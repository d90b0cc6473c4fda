/-- sums of numbers -/
def sm (a : Nat → Nat) : Nat → Nat
  | 0 => 0
  | n + 1 => sm a n + a n
theorem sm_congr {a b : Nat → Nat} : ∀ (n : Nat), (∀ i, i < n → a i = b i) → sm a n = sm b n
  | 0, _ => rfl
  | n + 1, h => by
    show sm a n + a n = sm b n + b n
    rw [sm_congr n (fun i hi => h i (by omega)), h n (by omega)]
theorem sm_add {a b : Nat → Nat} : ∀ (n : Nat), sm (fun i => a i + b i) n = sm a n + sm b n
  | 0 => rfl
  | n + 1 => by
    show sm (fun i => a i + b i) n + (a n + b n) = (sm a n + a n) + (sm b n + b n)
    rw [sm_add n]
    omega
theorem sm_tri {f : Nat → Nat → Nat} : ∀ (n : Nat), (∀ i j, i < n → j < n → f i j = f j i) → sm (fun t => sm (fun j => f t (t + 1 + j)) (n - 1 - t)) n = sm (fun i => sm (f i) i) n
  | 0, _ => rfl
  | n + 1, h => by
    have ih := sm_tri (f := f) n (fun i j hi hj => h i j (by omega) (by omega))
    show sm (fun t => sm (fun j => f t (t + 1 + j)) (n + 1 - 1 - t)) n + sm (fun j => f n (n + 1 + j)) (n + 1 - 1 - n) = sm (fun i => sm (f i) i) n + sm (f n) n
    rw [show n + 1 - 1 - n = 0 by omega, ← ih]
    have e : sm (fun t => sm (fun j => f t (t + 1 + j)) (n + 1 - 1 - t)) n = sm (fun t => sm (fun j => f t (t + 1 + j)) (n - 1 - t) + f t n) n := sm_congr n fun t ht => by
      rw [show n + 1 - 1 - t = (n - 1 - t) + 1 by omega]
      show sm _ (n - 1 - t) + f t (t + 1 + (n - 1 - t)) = _
      rw [show t + 1 + (n - 1 - t) = n by omega]
    rw [e, sm_add, sm_congr (a := f n) (b := fun t => f t n) n (fun i hi => h n i (by omega) (by omega))]
    rfl
section QS
variable {l S N O T B : Nat} {C D : zx_Y}
theorem cf_ex (hR : R l S N O T B C (D (26, 0, 0, 0))) {b : Nat} (hb : b + 1 < S) : ∃ f : Nat → Nat → Nat, (∀ i j, f i j = 0 ∨ f i j = 1) ∧ (∀ i j, i < N → j < N → f i j = f j i) ∧ (∀ i j, i < N → j < N → g_X2_isConflict C l i j (nI b) = some (nI (f i j))) ∧
    (∀ t o, t < N → o < N → ∀ (k : Int32 → Option Int32) (w : Nat), (zb (g_X11_entered D (nI t) (nI b)) fun v1 => (if v1 = (-5) then (k (nI w + 0)) else (zb (g_X11_entered D (nI o) (nI b)) fun v2 => (if v2 = (-5) then (k (nI w + 0)) else (zb (g_X11_entered D (nI t) (nI b)) fun v3 => (zb (g_X11_left D (nI o) (nI b)) fun v4 => (if v4 ≤ v3 then (k (nI w + 0)) else (zb (g_X11_entered D (nI o) (nI b)) fun v5 => (zb (g_X11_left D (nI t) (nI b)) fun v6 => (if v6 ≤ v5 then (k (nI w + 0)) else (k (nI w + 1)))))))))))) = k (nI (w + f t o))) := by
  have hT := hR.1.2.2.2.2.2.1.2.2.2.2
  have h1 : ∀ t, ∃ vw : Int32 × Int32, t < N → (vw.1 = -5 ∨ ∃ a, a ≤ T ∧ vw.1 = nI a) ∧ (vw.2 = -5 ∨ ∃ a, a ≤ T ∧ vw.2 = nI a) ∧ (∀ a d, vw.1 = nI d → vw.2 = nI a → d < 2 ^ 31 → a < 2 ^ 31 → d < a) ∧ g_X9_entered C l t (nI b) = some vw.1 ∧ g_X11_entered D (nI t) (nI b) = some vw.1 ∧
      g_X9_left C l t (nI b) = some (if vw.2 = -5 then 1000000 else vw.2) ∧ g_X11_left D (nI t) (nI b) = some (if vw.2 = -5 then 100000 else vw.2) := fun t => by
    by_cases ht : t < N
    · obtain ⟨v, w, h⟩ := ent_pair hR ht hb
      exact ⟨(v, w), fun _ => h⟩
    · exact ⟨(0, 0), fun h => absurd h ht⟩
  obtain ⟨p, hp⟩ := Classical.axiomOfChoice h1
  refine ⟨fun i j => if (p i).1 = -5 ∨ (p j).1 = -5 then 0 else if (if (p j).2 = -5 then 100000 else (p j).2) ≤ (p i).1 ∨ (if (p i).2 = -5 then 100000 else (p i).2) ≤ (p j).1 then 0 else 1, fun i j => by grind, fun i j _ _ => ?_, fun i j hi hj => ?_, fun t o ht ho k w => ?_⟩
  · grind
  · obtain ⟨x1, y1, z1, a1, a2, a3, a4⟩ := hp i hi
    obtain ⟨x2, y2, z2, b1, b2, b3, b4⟩ := hp j hj
    unfold g_X2_isConflict
    rw [a1, b1, a3, b3]
    simp only [zb_some]
    by_cases c1 : (p i).1 = -5
    · simp [c1, nI_0]
    · by_cases c2 : (p j).1 = -5
      · simp [c1, c2, nI_0]
      · obtain ⟨d1, e1, g1⟩ := x1.resolve_left c1
        obtain ⟨d2, e2, g2⟩ := x2.resolve_left c2
        rw [if_neg c1, if_neg c2, if_neg (show ¬ ((p i).1 = -5 ∨ (p j).1 = -5) from fun q => q.elim c1 c2), g1, g2]
        have big : ∀ w : Int32, (w = -5 ∨ ∃ a, a ≤ T ∧ w = nI a) → ∃ n m : Nat, (if w = -5 then (1000000 : Int32) else w) = nI n ∧ (if w = -5 then (100000 : Int32) else w) = nI m ∧ n < 2 ^ 31 ∧ m < 2 ^ 31 ∧ ((n = 1000000 ∧ m = 100000) ∨ (n = m ∧ m ≤ T ∧ w = nI m)) := fun w hw => by
          rcases hw with hw | ⟨a, h1, h2⟩
          · exact ⟨1000000, 100000, by rw [if_pos hw]; rfl, by rw [if_pos hw]; rfl, by omega, by omega, Or.inl ⟨rfl, rfl⟩⟩
          · have hne : ¬ w = -5 := by rw [h2]; exact nI_m5 (by omega)
            exact ⟨a, a, by rw [if_neg hne, h2], by rw [if_neg hne, h2], by omega, by omega, Or.inr ⟨rfl, h1, h2⟩⟩
        obtain ⟨n1, m1, i1, i2, i3, i4, i5⟩ := big _ y1
        obtain ⟨n2, m2, j1, j2, j3, j4, j5⟩ := big _ y2
        rw [i1, i2, j1, j2]
        have l1 : d1 < m1 := by
          rcases i5 with i5 | i5
          · omega
          · exact z1 m1 d1 g1 i5.2.2 (by omega) (by omega)
        have l2 : d2 < m2 := by
          rcases j5 with j5 | j5
          · omega
          · exact z2 m2 d2 g2 j5.2.2 (by omega) (by omega)
        have k1 : (m2 ≤ d1 ∨ m1 ≤ d2) ↔ zmin (nI n1) (nI n2) ≤ zmax (nI d1) (nI d2) := by
          unfold zmin zmax
          by_cases q1 : nI n2 < nI n1 <;> by_cases q2 : nI d1 < nI d2
          · rw [if_pos q1, if_pos q2, nI_leI (by omega) (by omega)]
            rw [nI_ltI (by omega) (by omega)] at q1 q2
            omega
          · rw [if_pos q1, if_neg q2, nI_leI (by omega) (by omega)]
            rw [nI_ltI (by omega) (by omega)] at q1 q2
            omega
          · rw [if_neg q1, if_pos q2, nI_leI (by omega) (by omega)]
            rw [nI_ltI (by omega) (by omega)] at q1 q2
            omega
          · rw [if_neg q1, if_neg q2, nI_leI (by omega) (by omega)]
            rw [nI_ltI (by omega) (by omega)] at q1 q2
            omega
        have k2 : (nI m2 ≤ nI d1 ∨ nI m1 ≤ nI d2) ↔ (m2 ≤ d1 ∨ m1 ≤ d2) := by rw [nI_leI (by omega) (by omega), nI_leI (by omega) (by omega)]
        by_cases c : zmin (nI n1) (nI n2) ≤ zmax (nI d1) (nI d2)
        · rw [if_pos c, if_pos (k2.mpr (k1.mpr c))]; rfl
        · rw [if_neg c, if_neg (fun q => c (k1.mp (k2.mp q)))]; rfl
  · obtain ⟨x1, y1, z1, a1, a2, a3, a4⟩ := hp t ht
    obtain ⟨x2, y2, z2, b1, b2, b3, b4⟩ := hp o ho
    rw [a2, b2, a4, b4]
    simp only [zb_some, Int32.add_zero, nI_1]
    by_cases c1 : (p t).1 = -5
    · simp [c1]
    · by_cases c2 : (p o).1 = -5
      · simp [c1, c2]
      · rw [if_neg c1, if_neg c2, if_neg (show ¬ ((p t).1 = -5 ∨ (p o).1 = -5) from fun q => q.elim c1 c2)]
        generalize (if (p o).2 = -5 then 100000 else (p o).2) = LO
        generalize (if (p t).2 = -5 then 100000 else (p t).2) = LT
        by_cases c3 : LO ≤ (p t).1 <;> by_cases c4 : LT ≤ (p o).1 <;> simp [c1, c2, c3, c4]
theorem cfc_in (hR : R l S N O T B C (D (26, 0, 0, 0))) {b i : Nat} {f : Nat → Nat → Nat} (hi : i < N) (hf : ∀ i j, i < N → j < N → g_X2_isConflict C l i j (nI b) = some (nI (f i j))) (h01 : ∀ i j, f i j = 0 ∨ f i j = 1) (kk : Int32 → Int32 → Option Int32) : ∀ (k j q a : Nat), j + k = i → k < q → lg_X2_conflictsIn_15 C l (nI b) (nI i) kk q (nI (a + sm (f i) j)) (nI j) = kk (nI (a + sm (f i) i)) (nI i)
  | _, _, 0, _, _, h => absurd h (by omega)
  | 0, j, q + 1, a, e, _ => by
    have hN := (RN hR).2.1
    have e : j = i := by omega
    subst e
    rw [lg_X2_conflictsIn_15.eq_2, if_pos (nI_le (Nat.le_refl _) (by omega))]
  | k + 1, j, q + 1, a, e, _ => by
    have hN := (RN hR).2.1
    rw [lg_X2_conflictsIn_15.eq_2, if_neg (nI_ge (by omega) (by omega)), zi_n _ (by omega) (by omega), zi_n _ (by omega) (by omega), hf i j hi (by omega), zb_some, nI_1, nI_1]
    have ih := cfc_in hR hi hf h01 kk k (j + 1) q a (by omega) (by omega)
    rw [← ih]
    show _ = lg_X2_conflictsIn_15 C l (nI b) (nI i) kk q (nI (a + (sm (f i) j + f i j))) (nI (j + 1))
    rcases h01 i j with z | z
    · rw [z, if_pos nI_0]
      rfl
    · rw [z, if_neg (by decide)]
      rfl
theorem cfc_out (hR : R l S N O T B C (D (26, 0, 0, 0))) {b : Nat} {f : Nat → Nat → Nat} (hf : ∀ i j, i < N → j < N → g_X2_isConflict C l i j (nI b) = some (nI (f i j))) (h01 : ∀ i j, f i j = 0 ∨ f i j = 1) (kk : Int32 → Int32 → Option Int32) : ∀ (k i q : Nat), i + k = N → k < q → lg_X2_conflictsIn_4 C l (nI b) kk q (nI (sm (fun i => sm (f i) i) i)) (nI i) = kk (nI (sm (fun i => sm (f i) i) N)) (nI N)
  | _, _, 0, _, h => absurd h (by omega)
  | 0, i, q + 1, e, _ => by
    have e : i = N := by omega
    subst e
    rw [lg_X2_conflictsIn_4.eq_2, if_pos (RN hR).2.2.1]
  | k + 1, i, q + 1, e, _ => by
    rw [lg_X2_conflictsIn_4.eq_2, if_neg ((RN hR).2.2.2.2.1 i (by omega))]
    have h := cfc_in hR (show i < N by omega) hf h01 (fun v1 _ => lg_X2_conflictsIn_4 C l (nI b) kk q v1 (nI i + 1)) i 0 1000 (sm (fun i => sm (f i) i) i) (by omega) (by have := (RN hR).2.1; omega)
    rw [nI_0] at h
    refine h.trans ?_
    rw [nI_1]
    exact cfc_out hR hf h01 kk k (i + 1) q (by omega) (by omega)
theorem cfr_in (hR : R l S N O T B C (D (26, 0, 0, 0))) {b t : Nat} {f : Nat → Nat → Nat} (ht : t < N) (hf : ∀ t o, t < N → o < N → ∀ (k : Int32 → Option Int32) (w : Nat), (zb (g_X11_entered D (nI t) (nI b)) fun v1 => (if v1 = (-5) then (k (nI w + 0)) else (zb (g_X11_entered D (nI o) (nI b)) fun v2 => (if v2 = (-5) then (k (nI w + 0)) else (zb (g_X11_entered D (nI t) (nI b)) fun v3 => (zb (g_X11_left D (nI o) (nI b)) fun v4 => (if v4 ≤ v3 then (k (nI w + 0)) else (zb (g_X11_entered D (nI o) (nI b)) fun v5 => (zb (g_X11_left D (nI t) (nI b)) fun v6 => (if v6 ≤ v5 then (k (nI w + 0)) else (k (nI w + 1)))))))))))) = k (nI (w + f t o))) (kk : Int32 → Int32 → Option Int32) : ∀ (k o q a : Nat), t + 1 + o + k = N → k < q → lg_X11_conflicts_34 D (nI b) (nI t) kk q (nI (a + sm (fun j => f t (t + 1 + j)) o)) (nI (t + 1 + o)) = kk (nI (a + sm (fun j => f t (t + 1 + j)) (N - 1 - t))) (nI N)
  | _, _, 0, _, _, h => absurd h (by omega)
  | 0, o, q + 1, a, e, _ => by
    have e2 : o = N - 1 - t := by omega
    rw [lg_X11_conflicts_34.eq_2, show t + 1 + o = N by omega, if_pos (RN hR).2.2.2.1, e2]
  | k + 1, o, q + 1, a, e, _ => by
    rw [lg_X11_conflicts_34.eq_2, if_neg ((RN hR).2.2.2.2.2 _ (by omega))]
    rw [hf t (t + 1 + o) ht (by omega) (fun w => lg_X11_conflicts_34 D (nI b) (nI t) kk q w (nI (t + 1 + o) + 1)), nI_1]
    rw [Nat.add_assoc]
    exact cfr_in hR ht hf kk k (o + 1) q a (by omega) (by omega)
theorem cfr_out (hR : R l S N O T B C (D (26, 0, 0, 0))) {b : Nat} {f : Nat → Nat → Nat} (hf : ∀ t o, t < N → o < N → ∀ (k : Int32 → Option Int32) (w : Nat), (zb (g_X11_entered D (nI t) (nI b)) fun v1 => (if v1 = (-5) then (k (nI w + 0)) else (zb (g_X11_entered D (nI o) (nI b)) fun v2 => (if v2 = (-5) then (k (nI w + 0)) else (zb (g_X11_entered D (nI t) (nI b)) fun v3 => (zb (g_X11_left D (nI o) (nI b)) fun v4 => (if v4 ≤ v3 then (k (nI w + 0)) else (zb (g_X11_entered D (nI o) (nI b)) fun v5 => (zb (g_X11_left D (nI t) (nI b)) fun v6 => (if v6 ≤ v5 then (k (nI w + 0)) else (k (nI w + 1)))))))))))) = k (nI (w + f t o))) (kk : Int32 → Int32 → Option Int32) : ∀ (k t q a : Nat), t + k = N → k < q → lg_X11_conflicts_18 D (nI b) kk q (nI (a + sm (fun t => sm (fun j => f t (t + 1 + j)) (N - 1 - t)) t)) (nI t) = kk (nI (a + sm (fun t => sm (fun j => f t (t + 1 + j)) (N - 1 - t)) N)) (nI N)
  | _, _, 0, _, _, h => absurd h (by omega)
  | 0, t, q + 1, a, e, _ => by
    have e : t = N := by omega
    subst e
    rw [lg_X11_conflicts_18.eq_2, if_pos (RN hR).2.2.2.1]
  | k + 1, t, q + 1, a, e, _ => by
    rw [lg_X11_conflicts_18.eq_2, if_neg ((RN hR).2.2.2.2.2 _ (by omega)), nI_1]
    have h := cfr_in hR (show t < N by omega) hf (fun v1 _ => lg_X11_conflicts_18 D (nI b) kk q v1 (nI (t + 1))) (N - 1 - t) 0 1000 (a + sm (fun t => sm (fun j => f t (t + 1 + j)) (N - 1 - t)) t) (by omega) (by have := (RN hR).2.1; omega)
    refine h.trans ?_
    have ih := cfr_out hR hf kk k (t + 1) q a (by omega) (by omega)
    rw [← ih, Nat.add_assoc]
    rfl
theorem cf_pair (hR : R l S N O T B C (D (26, 0, 0, 0))) {b : Nat} (hb : b + 1 < S) : ∃ c : Nat, g_X2_conflictsIn C l (nI b) = some (nI c) ∧ ∀ (kk : Int32 → Int32 → Option Int32) (a : Nat), lg_X11_conflicts_18 D (nI b) kk 1000 (nI a) 0 = kk (nI (a + c)) (nI N) := by
  have hN := (RN hR).2.1
  obtain ⟨f, h01, hs, hc, hr⟩ := cf_ex hR hb
  refine ⟨sm (fun i => sm (f i) i) N, ?_, fun kk a => ?_⟩
  · have h := cfc_out hR hc h01 (fun v1 _ => some v1) N 0 1000 (by omega) (by omega)
    have h0 : nI (sm (fun i => sm (f i) i) 0) = 0 := nI_0
    rw [h0, nI_0] at h
    unfold g_X2_conflictsIn
    exact h
  · have h := cfr_out hR hr kk N 0 1000 a (by omega) (by omega)
    have h0 : sm (fun t => sm (fun j => f t (t + 1 + j)) (N - 1 - t)) 0 = 0 := rfl
    rw [h0, nI_0, Nat.add_zero, sm_tri N hs] at h
    exact h
theorem sm_zero {c : Nat → Nat} {m : Nat} : ∀ (n : Nat), m ≤ n → (∀ i, m ≤ i → i < n → c i = 0) → sm c n = sm c m
  | 0, h, _ => by rw [show m = 0 by omega]
  | n + 1, h, h2 => by
    by_cases e : m = n + 1
    · rw [e]
    · show sm c n + c n = _
      rw [sm_zero n (by omega) (fun i h3 h4 => h2 i h3 (by omega)), h2 n (by omega) (by omega)]
      rfl
theorem cfl_pair (hR : R 0 S N O T B C (D (26, 0, 0, 0))) : ∃ v, g_X10_conflicts C = some v ∧ g_X11_conflicts D = some v := by
  obtain ⟨hS, hN, -⟩ := RN hR
  have h1 : ∀ b, ∃ c : Nat, b + 1 < S → g_X2_conflictsIn C 0 (nI b) = some (nI c) ∧ ∀ (kk : Int32 → Int32 → Option Int32) (a : Nat), lg_X11_conflicts_18 D (nI b) kk 1000 (nI a) 0 = kk (nI (a + c)) (nI N) := fun b => by
    by_cases hb : b + 1 < S
    · obtain ⟨c, h⟩ := cf_pair hR hb
      exact ⟨c, fun _ => h⟩
    · exact ⟨0, fun h => absurd h hb⟩
  obtain ⟨c, hc⟩ := Classical.axiomOfChoice h1
  have cl : ∀ (k b q : Nat), b + k = 7 → k < q → lg_X10_conflicts_4 C (fun v1 _ => some v1) q (nI (sm (fun i => if i + 1 < S then c i else 0) b)) (nI b) = some (nI (sm (fun i => if i + 1 < S then c i else 0) 7)) := by
    intro k
    induction k with
    | zero =>
      intro b q e h
      obtain ⟨q, rfl⟩ : ∃ q', q = q' + 1 := ⟨q - 1, by omega⟩
      have e : b = 7 := by omega
      subst e
      rw [lg_X10_conflicts_4.eq_2, if_pos (by decide)]
    | succ k ih =>
      intro b q e h
      obtain ⟨q, rfl⟩ : ∃ q', q = q' + 1 := ⟨q - 1, by omega⟩
      rw [lg_X10_conflicts_4.eq_2, if_neg (by rw [show (7 : Int32) = nI 7 from rfl]; exact nI_ge (by omega) (by omega)), nI_1]
      rw [← ih (b + 1) q (by omega) (by omega)]
      show _ = lg_X10_conflicts_4 C _ q (nI (sm (fun i => if i + 1 < S then c i else 0) b + (if b + 1 < S then c b else 0))) _
      by_cases hb : b + 1 < S
      · rw [hbl_1 hR.1.2.2.1.1 hS hb, zb_some, if_neg (by decide), (hc b hb).1, zb_some, nI_add, if_pos hb]
      · rw [hbl_0 hR.1.2.2.1.1 hS (fun ⟨b', h1, h2⟩ => hb (by rw [nI_inj h2 (by omega) (by omega)]; exact h1)), zb_some, if_pos rfl, if_neg hb]
        rfl
  have cr : ∀ (k b q : Nat), b + k = S - 1 → k < q → lg_X11_conflicts_4 D (fun v1 _ => some v1) q (nI (sm (fun i => if i + 1 < S then c i else 0) b)) (nI b) = some (nI (sm (fun i => if i + 1 < S then c i else 0) (S - 1))) := by
    intro k
    induction k with
    | zero =>
      intro b q e h
      obtain ⟨q, rfl⟩ : ∃ q', q = q' + 1 := ⟨q - 1, by omega⟩
      have e : b = S - 1 := by omega
      rw [lg_X11_conflicts_4.eq_2, hR.1.2.2.1.2, if_pos, e]
      rcases Nat.eq_zero_or_pos S with rfl | hp
      · rw [e]; decide
      · rw [sb_m1' hp, e]; exact nI_le (Nat.le_refl _) (by omega)
    | succ k ih =>
      intro b q e h
      obtain ⟨q, rfl⟩ : ∃ q', q = q' + 1 := ⟨q - 1, by omega⟩
      have hb : b + 1 < S := by omega
      rw [lg_X11_conflicts_4.eq_2, hR.1.2.2.1.2, sb_m1' (by omega), if_neg (nI_ge (by omega) (by omega)), (hc b hb).2, nI_1, ← ih (b + 1) q (by omega) (by omega)]
      show _ = lg_X11_conflicts_4 D _ q (nI (sm (fun i => if i + 1 < S then c i else 0) b + (if b + 1 < S then c b else 0))) _
      rw [if_pos hb]
  refine ⟨nI (sm (fun i => if i + 1 < S then c i else 0) 7), ?_, ?_⟩
  · have h := cl 7 0 1000 (by omega) (by omega)
    rw [show nI (sm (fun i => if i + 1 < S then c i else 0) 0) = 0 from nI_0, nI_0] at h
    unfold g_X10_conflicts
    exact h
  · have h := cr (S - 1) 0 1000 (by omega) (by omega)
    rw [show nI (sm (fun i => if i + 1 < S then c i else 0) 0) = 0 from nI_0, nI_0] at h
    unfold g_X11_conflicts
    rw [sm_zero (m := S - 1) 7 (by omega) (fun i h1 h2 => if_neg (by omega))]
    exact h
end QS
