/-! the constructors: the memory is the last one but for a list of places that aren't written yet -/
def zO (O : List (zx_H × Nat × zx_V)) : zx_F := fun h j => match O.find? (fun e => decide (e.1 = h ∧ e.2.1 = j)) with
  | some e => e.2.2
  | none => zx_lay zM0 h j
theorem zO_wr {O O' : List (zx_H × Nat × zx_V)} {h : zx_H} {j : Nat} {v : zx_V} (hf : zx_lay zM0 h j = v) (hO : O.filter (fun e => !(decide (e.1 = h ∧ e.2.1 = j))) = O') : zx_wr (zO O) h j v = zO O' := by
  subst hO
  funext h' j'
  unfold zx_wr zO
  rw [List.find?_filter]
  by_cases e : h' = h ∧ j' = j
  · rw [if_pos e, e.1, e.2]
    have : O.find? (fun a => !(decide (a.1 = h ∧ a.2.1 = j)) && decide (a.1 = h ∧ a.2.1 = j)) = none := by
      rw [List.find?_eq_none]
      intro a _
      by_cases q : a.1 = h ∧ a.2.1 = j <;> simp [q]
    have h9 : (fun a : zx_H × Nat × zx_V => decide ((!(decide (a.1 = h ∧ a.2.1 = j))) = true ∧ decide (a.1 = h ∧ a.2.1 = j) = true)) = (fun a => !(decide (a.1 = h ∧ a.2.1 = j)) && decide (a.1 = h ∧ a.2.1 = j)) := by
      funext a
      by_cases q : a.1 = h ∧ a.2.1 = j <;> simp [q]
    first
      | rw [this]; exact hf.symm
      | rw [h9, this]; exact hf.symm
  · rw [if_neg e]
    have h9 : ∀ a : zx_H × Nat × zx_V, decide (a.1 = h' ∧ a.2.1 = j') = true → (!(decide (a.1 = h ∧ a.2.1 = j))) = true := by
      intro a ha
      have ha := of_decide_eq_true ha
      by_cases q : a.1 = h ∧ a.2.1 = j
      · exact absurd ⟨ha.1.symm.trans q.1, ha.2.symm.trans q.2⟩ e
      · simp [q]
    have h8 : (fun a : zx_H × Nat × zx_V => !(decide (a.1 = h ∧ a.2.1 = j)) && decide (a.1 = h' ∧ a.2.1 = j')) = (fun a => decide (a.1 = h' ∧ a.2.1 = j')) := by
      funext a
      by_cases q : decide (a.1 = h' ∧ a.2.1 = j') = true
      · rw [h9 a q, q]; rfl
      · simp [q]
    first
      | rw [h8]
      | (have h7 : (fun a : zx_H × Nat × zx_V => decide ((!(decide (a.1 = h ∧ a.2.1 = j))) = true ∧ decide (a.1 = h' ∧ a.2.1 = j') = true)) = (fun a => decide (a.1 = h' ∧ a.2.1 = j')) := by
          funext a
          by_cases q : decide (a.1 = h' ∧ a.2.1 = j') = true
          · simp only [h9 a q, q, and_self, decide_true]
          · simp [q]
         rw [h7])
theorem zO_app {P O : List (zx_H × Nat × zx_V)} {h h' : zx_H} {j : Nat} (hP : ∀ e ∈ P, e.1 = h) (hh : h' ≠ h) : zO (P ++ O) h' j = zO O h' j := by
  unfold zO
  rw [List.find?_append]
  have : P.find? (fun e => decide (e.1 = h' ∧ e.2.1 = j)) = none := by
    rw [List.find?_eq_none]
    intro a ha
    rw [hP a ha]
    simp [Ne.symm hh]
  rw [this]
  rfl
theorem zO_new {P O : List (zx_H × Nat × zx_V)} {n : Nat} {h : zx_H} (hs : zx_seq n = h) (hn : n < 308) (hP : P.all (fun e => decide (e.1 = h)) = true) (hd : (List.range (zx_kd h.1).2.2).all (fun j => decide (zx_df h.1 j = zO (P ++ O) h j)) = true) : zx_eqv (zx_nw (zO O) h, n + 1) (zO (P ++ O), n + 1) := by
  refine ⟨rfl, fun k hk j hj => ?_⟩
  have hP' : ∀ e ∈ P, e.1 = h := fun e he => of_decide_eq_true (List.all_eq_true.mp hP e he)
  rcases Nat.lt_or_ge k n with q | q
  · have hne : zx_seq k ≠ h := by rw [← hs]; exact zx_seq_ne (by omega) hn (by omega)
    show zx_nw (zO O) h (zx_seq k) j = zO (P ++ O) (zx_seq k) j
    rw [zx_nw_o _ _ hne, zO_app hP' hne]
  · have e : k = n := by have hk : k < n + 1 := hk; omega
    subst e
    rw [hs] at hj ⊢
    show zx_nw (zO O) h h j = _
    rw [zx_nw_h]
    exact of_decide_eq_true (List.all_eq_true.mp hd j (List.mem_range.mpr hj))
section ZK
variable {X : zx_X} {d : Nat} {code : List zx_I} {r : zx_O}
theorem zx_E.putO {pc k a b n : Nat} {c : Int32} {t : List Nat} {ls : zx_L} {st : List zx_V} {O : List (zx_H × Nat × zx_V)} (O' : List (zx_H × Nat × zx_V)) {h : zx_H} {v : zx_V} (hat : zx_at code pc = some (pc, .putfield k, a, b, c, t)) (hk : (zx_kd h.1).1 = 1 ∧ (zx_kd h.1).2.1 = a ∧ b < (zx_kd h.1).2.2 ∧ v.isRight = zx_ir h.1 b) (h33 : v ≠ .inr (some (33, 0, 0, 0))) (hc : c = 1 → v = .inl 0 ∨ v = .inl 1)
    (hf : zx_lay zM0 h b = v) (hO : O.filter (fun e => !(decide (e.1 = h ∧ e.2.1 = b))) = O') (hE : zx_E X d code (pc + 3, ls, st, (zO O', n)) r) : zx_E X d code (pc, ls, v :: .inr (some h) :: st, (zO O, n)) r :=
  zx_E.putG hat hk h33 hc (by rw [zO_wr hf hO]; exact hE)
theorem zx_E.aastO {pc a b k n : Nat} {c x : Int32} {t : List Nat} {ls : zx_L} {st : List zx_V} {O : List (zx_H × Nat × zx_V)} (O' : List (zx_H × Nat × zx_V)) {h v : zx_H} (hat : zx_at code pc = some (pc, .aastore, a, b, c, t)) (hk : (zx_kd h.1).1 = 2 ∧ 1 < (zx_kd h.1).2.1 ∧ k < (zx_kd h.1).2.2) (hv : (zx_kd v.1).1 = 1 ∧ (zx_kd v.1).2.1 = zx_ac (zx_kd h.1).2.1) (hx : x = nI k)
    (hf : zx_lay zM0 h k = .inr (some v)) (hO : O.filter (fun e => !(decide (e.1 = h ∧ e.2.1 = k))) = O') (hE : zx_E X d code (pc + 1, ls, st, (zO O', n)) r) : zx_E X d code (pc, ls, .inr (some v) :: .inl x :: .inr (some h) :: st, (zO O, n)) r := by
  obtain ⟨h1, h2⟩ := zx_in_of hx hk.2.2 (zx_len_lt h.1)
  refine zx_E.one ?_ (by rw [← zO_wr hf hO] at hE; exact hE)
  unfold zx_st1
  dsimp only
  rw [hat]
  dsimp only
  unfold zx_do
  dsimp only
  rw [if_pos ⟨⟨hk.1, hk.2.1, h1⟩, hv⟩, h2]
theorem zx_E.iastO {pc a b k n : Nat} {c x v : Int32} {t : List Nat} {ls : zx_L} {st : List zx_V} {O : List (zx_H × Nat × zx_V)} (O' : List (zx_H × Nat × zx_V)) {h : zx_H} (hat : zx_at code pc = some (pc, .iastore, a, b, c, t)) (hk : (zx_kd h.1).1 = 2 ∧ (zx_kd h.1).2.1 = 0 ∧ k < (zx_kd h.1).2.2) (hx : x = nI k)
    (hf : zx_lay zM0 h k = .inl v) (hO : O.filter (fun e => !(decide (e.1 = h ∧ e.2.1 = k))) = O') (hE : zx_E X d code (pc + 1, ls, st, (zO O', n)) r) : zx_E X d code (pc, ls, .inl v :: .inl x :: .inr (some h) :: st, (zO O, n)) r := by
  obtain ⟨h1, h2⟩ := zx_in_of hx hk.2.2 (zx_len_lt h.1)
  refine zx_E.one ?_ (by rw [← zO_wr hf hO] at hE; exact hE)
  unfold zx_st1
  dsimp only
  rw [hat]
  dsimp only
  unfold zx_do
  dsimp only
  rw [if_pos ⟨hk.1, hk.2.1, h1⟩, h2]
theorem zx_E.aaldO {pc a b k n : Nat} {c x : Int32} {t : List Nat} {ls : zx_L} {st : List zx_V} {O : List (zx_H × Nat × zx_V)} {h v : zx_H} (hat : zx_at code pc = some (pc, .aaload, a, b, c, t)) (hk : (zx_kd h.1).1 = 2 ∧ 0 < (zx_kd h.1).2.1 ∧ k < (zx_kd h.1).2.2) (hx : x = nI k) (hv : zO O h k = .inr (some v))
    (hE : zx_E X d code (pc + 1, ls, .inr (some v) :: st, (zO O, n)) r) : zx_E X d code (pc, ls, .inl x :: .inr (some h) :: st, (zO O, n)) r := by
  obtain ⟨h1, h2⟩ := zx_in_of hx hk.2.2 (zx_len_lt h.1)
  refine zx_E.one ?_ hE
  unfold zx_st1
  dsimp only
  rw [hat]
  dsimp only
  unfold zx_do
  dsimp only
  rw [if_pos ⟨hk.1, hk.2.1, h1⟩, h2, hv]
theorem zx_E.newO {pc k a b n : Nat} {c : Int32} {t : List Nat} {ls : zx_L} {st : List zx_V} {O : List (zx_H × Nat × zx_V)} (P : List (zx_H × Nat × zx_V)) {h : zx_H} (hat : zx_at code pc = some (pc, .new k, a, b, c, t)) (hs : zx_seq n = h) (hn : n < 308) (hk : (zx_kd h.1).1 = 1 ∧ (zx_kd h.1).2.1 = a)
    (hP : P.all (fun e => decide (e.1 = h)) = true) (hd : (List.range (zx_kd h.1).2.2).all (fun j => decide (zx_df h.1 j = zO (P ++ O) h j)) = true) (hE : zx_E X d code (pc + 3, ls, .inr (some h) :: st, (zO (P ++ O), n + 1)) r) : zx_E X d code (pc, ls, st, (zO O, n)) r := by
  refine zx_E.one ?_ (zx_E.eqv (zO_new hs hn hP hd) hE)
  unfold zx_st1
  dsimp only
  rw [hat]
  dsimp only
  unfold zx_do
  dsimp only
  rw [hs, if_pos hk]
theorem zx_E.newaO {pc a b n : Nat} {c x : Int32} {q : ArrayType} {t : List Nat} {ls : zx_L} {st : List zx_V} {O : List (zx_H × Nat × zx_V)} (P : List (zx_H × Nat × zx_V)) {h : zx_H} (hat : zx_at code pc = some (pc, .newarray q, a, b, c, t)) (hs : zx_seq n = h) (hn : n < 308) (hk : (zx_kd h.1).1 = 2 ∧ (zx_kd h.1).2.1 = 0 ∧ x = Int32.ofNat (zx_kd h.1).2.2)
    (hP : P.all (fun e => decide (e.1 = h)) = true) (hd : (List.range (zx_kd h.1).2.2).all (fun j => decide (zx_df h.1 j = zO (P ++ O) h j)) = true) (hE : zx_E X d code (pc + 2, ls, .inr (some h) :: st, (zO (P ++ O), n + 1)) r) : zx_E X d code (pc, ls, .inl x :: st, (zO O, n)) r := by
  refine zx_E.one ?_ (zx_E.eqv (zO_new hs hn hP hd) hE)
  unfold zx_st1
  dsimp only
  rw [hat]
  dsimp only
  unfold zx_do
  dsimp only
  rw [hs, if_pos hk]
theorem zx_E.anewO {pc k a b n : Nat} {c x : Int32} {t : List Nat} {ls : zx_L} {st : List zx_V} {O : List (zx_H × Nat × zx_V)} (P : List (zx_H × Nat × zx_V)) {h : zx_H} (hat : zx_at code pc = some (pc, .anewarray k, a, b, c, t)) (hs : zx_seq n = h) (hn : n < 308) (hk : (zx_kd h.1).1 = 2 ∧ (zx_kd h.1).2.1 = a ∧ x = Int32.ofNat (zx_kd h.1).2.2)
    (hP : P.all (fun e => decide (e.1 = h)) = true) (hd : (List.range (zx_kd h.1).2.2).all (fun j => decide (zx_df h.1 j = zO (P ++ O) h j)) = true) (hE : zx_E X d code (pc + 3, ls, .inr (some h) :: st, (zO (P ++ O), n + 1)) r) : zx_E X d code (pc, ls, .inl x :: st, (zO O, n)) r := by
  refine zx_E.one ?_ (zx_E.eqv (zO_new hs hn hP hd) hE)
  unfold zx_st1
  dsimp only
  rw [hat]
  dsimp only
  unfold zx_do
  dsimp only
  rw [hs, if_pos hk]
theorem zx_E.mnaO {pc k q a b n N K : Nat} {c x y : Int32} {t : List Nat} {ls : zx_L} {st : List zx_V} {O : List (zx_H × Nat × zx_V)} {h : zx_H} (hat : zx_at code pc = some (pc, .multianewarray k q, a, b, c, t)) (hs : zx_seq n = h) (hn : n + 1 + N ≤ 308) (hk : zx_kd h.1 = (2, 1, N)) (hx : x = Int32.ofNat N) (hy : y = Int32.ofNat K) (hr : (List.range N).all (fun i => decide (zx_kd (zx_seq (n + 1 + i)).1 = (2, 0, K))) = true) (hN : 0 < N)
    (hd : (List.range N).all (fun j => decide (zO O h j = .inr (some (zx_seq (n + 1 + j)))) && (List.range K).all (fun i => decide (zO O (zx_seq (n + 1 + j)) i = .inl 0))) = true) (hE : zx_E X d code (pc + 4, ls, .inr (some h) :: st, (zO O, n + 1 + N)) r) : zx_E X d code (pc, ls, .inl y :: .inl x :: st, (zO O, n)) r := by
  have hr' : ∀ i, i < N → zx_kd (zx_seq (n + 1 + i)).1 = (2, 0, K) := fun i hi => of_decide_eq_true (List.all_eq_true.mp hr i (List.mem_range.mpr hi))
  have hd' : ∀ j, j < N → zO O h j = .inr (some (zx_seq (n + 1 + j))) ∧ ∀ i, i < K → zO O (zx_seq (n + 1 + j)) i = .inl 0 := fun j hj => by
    have := List.all_eq_true.mp hd j (List.mem_range.mpr hj)
    simp only [Bool.and_eq_true, decide_eq_true_eq, List.all_eq_true, List.mem_range] at this
    exact this
  have hN2 : (zx_kd h.1).2.2 = N := by rw [hk]
  have hK2 : (zx_kd (zx_seq (n + 1)).1).2.2 = K := by rw [show n + 1 = n + 1 + 0 from rfl, hr' 0 hN]
  have he : zx_eqv (zx_mn (zO O) n N, n + 1 + N) (zO O, n + 1 + N) := by
    refine ⟨rfl, fun i hi j hj => ?_⟩
    have hi : i < n + 1 + N := hi
    show zx_mn (zO O) n N (zx_seq i) j = zO O (zx_seq i) j
    rcases Nat.lt_or_ge i n with z | z
    · rw [zx_mn_2 _ _ _ _ z hn]
    · rcases Nat.eq_or_lt_of_le z with z | z
      · subst z
        rw [zx_mn_0]
        rw [hs, hN2] at hj
        rw [hs, (hd' j hj).1]
        exact if_pos hj
      · obtain ⟨u, rfl⟩ : ∃ u, i = n + 1 + u := ⟨i - n - 1, by omega⟩
        have hu : u < N := by omega
        rw [zx_mn_1 _ _ _ _ hu hn]
        rw [hr' u hu] at hj
        exact ((hd' u hu).2 j hj).symm
  refine zx_E.one ?_ (zx_E.eqv he hE)
  unfold zx_st1
  dsimp only
  rw [hat]
  dsimp only
  unfold zx_do
  dsimp only
  rw [hs, hN2, hK2, if_pos ⟨⟨by rw [hk], by rw [hk], hx⟩, hy, hr'⟩]
end ZK
