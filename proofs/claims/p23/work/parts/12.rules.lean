/-! walking with the interpreter: the steady memory (which cell refers to which is fixed, the ints are a function), and its rules -/
abbrev zx_Y : Type := zx_H → Nat → Int32
def zx_lr (h : zx_H) (j : Nat) : Option zx_H :=
  match h.1 with
  | 0 => (match j with | 0 => some (14, 0, 0, 0) | 1 => some (19, 0, 0, 0) | 2 => some (21, 0, 0, 0) | 3 => some (22, 0, 0, 0) | 4 => some (1, 0, 0, 0) | 5 => some (1, 1, 0, 0) | 6 => some (1, 2, 0, 0) | _ => none)
  | 1 => (match j with | 6 => some (2, h.2.1, 0, 0) | 7 => some (4, h.2.1, 0, 0) | 8 => some (6, h.2.1, 0, 0) | 9 => some (8, h.2.1, 0, 0) | 10 => some (10, h.2.1, 0, 0) | _ => none)
  | 2 => some (3, h.2.1, j, 0)
  | 4 => some (5, h.2.1, j, 0)
  | 6 => some (7, h.2.1, j, 0)
  | 7 => (match j with | 15 => some (11, h.2.1, h.2.2.1, 0) | 16 => some (12, h.2.1, h.2.2.1, 0) | _ => none)
  | 8 => some (9, h.2.1, j, 0)
  | 12 => some (13, h.2.1, h.2.2.1, j)
  | 14 => (match j with | 0 => some (15, 0, 0, 0) | 2 => some (16, 0, 0, 0) | _ => none)
  | 16 => some (17, j, 0, 0)
  | 17 => (match j with | 10 => some (18, h.2.1, 0, 0) | _ => none)
  | 19 => (match j with | 1 => some (20, 0, 0, 0) | _ => none)
  | 22 => (match j with | 3 => some (23, 0, 0, 0) | _ => none)
  | 23 => some (24, j, 0, 0)
  | 25 => (match j with | 0 => some (26, 0, 0, 0) | 1 => some (27, 0, 0, 0) | 3 => some (28, 0, 0, 0) | 9 => some (29, 0, 0, 0) | 10 => some (30, 0, 0, 0) | 16 => some (31, 0, 0, 0) | 17 => some (32, 0, 0, 0) | _ => none)
  | _ => none
def zx_lay (M : zx_Y) : zx_F := fun h j => match zx_lr h j with
  | some h' => .inr (some h')
  | none => .inl (M h j)
def zx_up (M : zx_Y) (h : zx_H) (j : Nat) (v : Int32) : zx_Y := fun h' j' => if j' = j ∧ h' = h then v else M h' j'
theorem zx_up_s (M : zx_Y) (h : zx_H) (j : Nat) (v : Int32) : zx_up M h j v h j = v := if_pos ⟨rfl, rfl⟩
theorem zx_up_h (M : zx_Y) (h : zx_H) (j : Nat) (v : Int32) {h' : zx_H} {j' : Nat} (q : h' ≠ h) : zx_up M h j v h' j' = M h' j' := if_neg fun e => q e.2
theorem zx_up_j (M : zx_Y) (h : zx_H) (j : Nat) (v : Int32) {h' : zx_H} {j' : Nat} (q : j' ≠ j) : zx_up M h j v h' j' = M h' j' := if_neg fun e => q e.1
theorem zx_lay_none {M : zx_Y} {h : zx_H} {j : Nat} (q : zx_lr h j = none) : zx_lay M h j = .inl (M h j) := by unfold zx_lay; rw [q]
theorem zx_lay_some {M : zx_Y} {h h' : zx_H} {j : Nat} (q : zx_lr h j = some h') : zx_lay M h j = .inr (some h') := by unfold zx_lay; rw [q]
theorem zx_wr_lay {M : zx_Y} {h : zx_H} {j : Nat} {v : Int32} (q : zx_lr h j = none) : zx_wr (zx_lay M) h j (.inl v) = zx_lay (zx_up M h j v) := by
  funext h' j'
  unfold zx_wr
  by_cases e : h' = h ∧ j' = j
  · obtain ⟨rfl, rfl⟩ := e
    rw [if_pos ⟨rfl, rfl⟩, zx_lay_none q, zx_up_s]
  · rw [if_neg e]
    unfold zx_lay zx_up
    rw [if_neg (fun z => e ⟨z.2, z.1⟩)]
/-- an int place of an object -/
def zx_pf (k a b : Nat) : Bool := Nat.beq (zx_kd k).1 1 && Nat.beq (zx_kd k).2.1 a && Nat.ble (b + 1) (zx_kd k).2.2 && !(zx_ir k b)
theorem zx_ir_lr {h : zx_H} {j : Nat} (q : zx_ir h.1 j = false) : zx_lr h j = none := by
  obtain ⟨k, r⟩ := h
  have q : zx_ir k j = false := q
  unfold zx_lr
  dsimp only
  unfold zx_ir at q
  split <;> first | rfl | exact Bool.noConfusion (show true = false from q) | (split <;> first | rfl | exact Bool.noConfusion (show true = false from q))
def zx_E (X : zx_X) (d : Nat) (code : List zx_I) (s : zx_S) (r : zx_O) : Prop := ∃ n, zx_ex X (zx_run X d) code n s r
theorem zx_run_of {X : zx_X} {d y : Nat} {as : List zx_V} {μ : zx_M} {r : zx_O} (code : List zx_I) (ls : zx_L) (hc : zx_cd y = code) (hl : zx_en (zx_ml y) as = ls) (h : zx_E X d code (0, ls, [], μ) r) : zx_run X (d + 1) y as μ r := by
  subst hc
  subst hl
  exact h
def zx_st1 (X : zx_X) (code : List zx_I) : zx_S → Option zx_S
  | (pc, ls, st, μ) => match zx_at code pc with
    | some (_, i, a, b, c, t) => zx_do X i pc a b c t ls st μ
    | none => none
def zx_stn (X : zx_X) (code : List zx_I) : Nat → zx_S → Option zx_S
  | 0, s => some s
  | k + 1, s => match zx_st1 X code s with
    | some s' => zx_stn X code k s'
    | none => none
def zx_rt1 (code : List zx_I) : zx_S → Option zx_O
  | (pc, _, st, μ) => match zx_at code pc with
    | some (_, i, _, _, c, _) => zx_rt i c st μ
    | none => none
def zx_iv1 (code : List zx_I) : zx_S → Option (Nat × List zx_V × List zx_V)
  | (pc, _, st, _) => match zx_at code pc with
    | some (_, i, a, b, _, t) => zx_iv i a b t st
    | none => none
theorem zx_at_pc {code : List zx_I} {pc : Nat} {e : zx_I} (h : zx_at code pc = some e) : e.1 = pc := by
  have := List.find?_some h
  exact Nat.eq_of_beq_eq_true this
section ZE
variable {X : zx_X} {d : Nat} {code : List zx_I} {s s' : zx_S} {r : zx_O}
theorem zx_E.one (h : zx_st1 X code s = some s') (hE : zx_E X d code s' r) : zx_E X d code s r := by
  obtain ⟨pc, ls, st, μ⟩ := s
  obtain ⟨n, hn⟩ := hE
  unfold zx_st1 at h
  dsimp only at h
  split at h
  · rename_i p i a b c t hat
    have hp := zx_at_pc hat
    have hp : p = pc := hp
    subst hp
    exact ⟨n + 1, Or.inr ⟨i, a, b, c, t, hat, Or.inl ⟨s', h, hn⟩⟩⟩
  · cases h
theorem zx_E.go : ∀ (k : Nat) {s : zx_S}, zx_stn X code k s = some s' → zx_E X d code s' r → zx_E X d code s r
  | 0, s, h, hE => by cases h; exact hE
  | k + 1, s, h, hE => by
    unfold zx_stn at h
    split at h
    · rename_i s1 h1
      exact zx_E.one h1 (zx_E.go k h hE)
    · cases h
theorem zx_E.br {c : Prop} {_ : Decidable c} {s1 s2 : zx_S} (h : zx_st1 X code s = some (if c then s1 else s2)) (kt : c → zx_E X d code s1 r) (kf : ¬ c → zx_E X d code s2 r) : zx_E X d code s r := by
  by_cases hc : c
  · rw [if_pos hc] at h
    exact zx_E.one h (kt hc)
  · rw [if_neg hc] at h
    exact zx_E.one h (kf hc)
theorem zx_E.bt {c : Prop} {_ : Decidable c} {s1 s2 : zx_S} (h : zx_st1 X code s = some (if c then s1 else s2)) (hc : c) (kt : zx_E X d code s1 r) : zx_E X d code s r := zx_E.br h (fun _ => kt) (fun q => absurd hc q)
theorem zx_E.bf {c : Prop} {_ : Decidable c} {s1 s2 : zx_S} (h : zx_st1 X code s = some (if c then s1 else s2)) (hc : ¬ c) (kf : zx_E X d code s2 r) : zx_E X d code s r := zx_E.br h (fun q => absurd q hc) (fun _ => kf)
theorem zx_E.ret (h : zx_rt1 code s = some r) : zx_E X d code s r := by
  obtain ⟨pc, ls, st, μ⟩ := s
  unfold zx_rt1 at h
  dsimp only at h
  split at h
  · rename_i p i a b c t hat
    have hp := zx_at_pc hat
    have hp : p = pc := hp
    subst hp
    exact ⟨1, Or.inr ⟨i, a, b, c, t, hat, Or.inr (Or.inl h)⟩⟩
  · cases h
theorem zx_E.iret {pc a b : Nat} {c : Int32} {t : List Nat} {ls : zx_L} {μ : zx_M} {v : Int32} (h : zx_at code pc = some (pc, .ireturn, a, b, c, t)) (hv : c = 1 → v = 0 ∨ v = 1) (hr : ((some (.inl v), μ) : zx_O) = r) : zx_E X d code (pc, ls, [.inl v], μ) r := by
  subst hr
  refine ⟨1, Or.inr ⟨_, a, b, c, t, h, Or.inr (Or.inl ?_)⟩⟩
  show (if c = 1 → v = 0 ∨ v = 1 then (some (some (.inl v), μ) : Option zx_O) else none) = _
  rw [if_pos hv]
theorem zx_E.call {pc y : Nat} {ls : zx_L} {st as rest : List zx_V} {μ μ' : zx_M} {v : Option zx_V} (h : zx_iv1 code (pc, ls, st, μ) = some (y, as, rest)) (hr : zx_run X d y as μ (v, μ')) (hE : zx_E X d code (pc + 3, ls, v.toList ++ rest, μ') r) : zx_E X d code (pc, ls, st, μ) r := by
  obtain ⟨n, hn⟩ := hE
  unfold zx_iv1 at h
  dsimp only at h
  split at h
  · rename_i p i a b c t hat
    have hp := zx_at_pc hat
    have hp : p = pc := hp
    subst hp
    exact ⟨n + 1, Or.inr ⟨i, a, b, c, t, hat, Or.inr (Or.inr ⟨y, as, rest, v, μ', h, hr, hn⟩)⟩⟩
  · cases h
theorem zx_E.call1 {pc y : Nat} {ls : zx_L} {st as rest : List zx_V} {μ μ' : zx_M} {v : zx_V} (h : zx_iv1 code (pc, ls, st, μ) = some (y, as, rest)) (hr : zx_run X d y as μ (some v, μ')) (hE : zx_E X d code (pc + 3, ls, v :: rest, μ') r) : zx_E X d code (pc, ls, st, μ) r := zx_E.call h hr hE
theorem zx_E.call0 {pc y : Nat} {ls : zx_L} {st as rest : List zx_V} {μ μ' : zx_M} (h : zx_iv1 code (pc, ls, st, μ) = some (y, as, rest)) (hr : zx_run X d y as μ (none, μ')) (hE : zx_E X d code (pc + 3, ls, rest, μ') r) : zx_E X d code (pc, ls, st, μ) r := zx_E.call h hr hE
theorem zx_E.eqv {pc : Nat} {ls : zx_L} {st : List zx_V} {μ ν : zx_M} (h : zx_eqv μ ν) (hE : zx_E X d code (pc, ls, st, ν) r) : zx_E X d code (pc, ls, st, μ) r := by
  obtain ⟨n, hn⟩ := hE
  exact ⟨n + 1, Or.inl ⟨ν, h, hn⟩⟩
theorem zx_E.putG {pc k a b : Nat} {c : Int32} {t : List Nat} {ls : zx_L} {st : List zx_V} {f : zx_F} {n : Nat} {h : zx_H} {v : zx_V} (hat : zx_at code pc = some (pc, .putfield k, a, b, c, t)) (hk : (zx_kd h.1).1 = 1 ∧ (zx_kd h.1).2.1 = a ∧ b < (zx_kd h.1).2.2 ∧ v.isRight = zx_ir h.1 b) (h33 : v ≠ .inr (some (33, 0, 0, 0))) (hc : c = 1 → v = .inl 0 ∨ v = .inl 1)
    (hE : zx_E X d code (pc + 3, ls, st, (zx_wr f h b v, n)) r) : zx_E X d code (pc, ls, v :: .inr (some h) :: st, (f, n)) r := by
  refine zx_E.one ?_ hE
  unfold zx_st1
  dsimp only
  rw [hat]
  dsimp only
  unfold zx_do
  dsimp only
  rw [if_neg h33, if_pos ⟨hk, hc⟩]
theorem zx_E.put {pc k a b : Nat} {c : Int32} {t : List Nat} {ls : zx_L} {st : List zx_V} {M : zx_Y} {n : Nat} {h : zx_H} {v : Int32} (hat : zx_at code pc = some (pc, .putfield k, a, b, c, t)) (hk : zx_pf h.1 a b = true) (hc : c = 1 → v = 0 ∨ v = 1)
    (hE : zx_E X d code (pc + 3, ls, st, (zx_lay (zx_up M h b v), n)) r) : zx_E X d code (pc, ls, .inl v :: .inr (some h) :: st, (zx_lay M, n)) r := by
  unfold zx_pf at hk
  simp only [Bool.and_eq_true, Bool.not_eq_true'] at hk
  obtain ⟨⟨⟨h1, h2⟩, h3⟩, h4⟩ := hk
  refine zx_E.putG hat ⟨Nat.eq_of_beq_eq_true h1, Nat.eq_of_beq_eq_true h2, Nat.le_of_ble_eq_true h3, by rw [h4]; rfl⟩ (fun e => by cases e) (fun q => ?_) ?_
  · rcases hc q with e | e <;> rw [e]
    · exact Or.inl rfl
    · exact Or.inr rfl
  · rw [zx_wr_lay (zx_ir_lr h4)]
    exact hE
theorem zx_in_of {x : Int32} {k n : Nat} (hx : x = nI k) (hk : k < n) (hn : n ≤ 640) : zx_in x n = true ∧ x.toNatClampNeg = k := by
  subst hx
  have h1 : (nI k).toNatClampNeg = k := nI_clamp (by omega)
  refine ⟨?_, h1⟩
  simp only [zx_in, Bool.and_eq_true, decide_eq_true_eq]
  exact ⟨nI_pos' (by omega), by rw [h1]; exact hk⟩
theorem zx_E.iald {pc a b k : Nat} {c x : Int32} {t : List Nat} {ls : zx_L} {st : List zx_V} {M : zx_Y} {n len : Nat} {h : zx_H} (hat : zx_at code pc = some (pc, .iaload, a, b, c, t)) (hk : zx_kd h.1 = (2, 0, len)) (hx : x = nI k) (hlt : k < len)
    (hE : zx_E X d code (pc + 1, ls, .inl (M h k) :: st, (zx_lay M, n)) r) : zx_E X d code (pc, ls, .inl x :: .inr (some h) :: st, (zx_lay M, n)) r := by
  have hl := zx_len_lt h.1
  rw [hk] at hl
  obtain ⟨h1, h2⟩ := zx_in_of hx hlt hl
  refine zx_E.one ?_ hE
  unfold zx_st1
  dsimp only
  rw [hat]
  dsimp only
  unfold zx_do
  dsimp only
  rw [if_neg (by rintro rfl; cases hk), if_pos ⟨by rw [hk], by rw [hk], by rw [hk]; exact h1⟩, h2, zx_lay_none (zx_ir_lr (zx_ir20 (by rw [hk]) (by rw [hk]) k))]
theorem zx_E.aald {pc a b k : Nat} {c x : Int32} {t : List Nat} {ls : zx_L} {st : List zx_V} {M : zx_Y} {n len q : Nat} {h h' : zx_H} (hat : zx_at code pc = some (pc, .aaload, a, b, c, t)) (hk : zx_kd h.1 = (2, q + 1, len)) (hx : x = nI k) (hlt : k < len) (hr : zx_lr h k = some h')
    (hE : zx_E X d code (pc + 1, ls, .inr (some h') :: st, (zx_lay M, n)) r) : zx_E X d code (pc, ls, .inl x :: .inr (some h) :: st, (zx_lay M, n)) r := by
  have hl := zx_len_lt h.1
  rw [hk] at hl
  obtain ⟨h1, h2⟩ := zx_in_of hx hlt hl
  refine zx_E.one ?_ hE
  unfold zx_st1
  dsimp only
  rw [hat]
  dsimp only
  unfold zx_do
  dsimp only
  rw [if_pos ⟨by rw [hk], by rw [hk]; exact Nat.succ_pos _, by rw [hk]; exact h1⟩, h2, zx_lay_some hr]
theorem zx_E.iast {pc a b k : Nat} {c x v : Int32} {t : List Nat} {ls : zx_L} {st : List zx_V} {M : zx_Y} {n len : Nat} {h : zx_H} (hat : zx_at code pc = some (pc, .iastore, a, b, c, t)) (hk : zx_kd h.1 = (2, 0, len)) (hx : x = nI k) (hlt : k < len)
    (hE : zx_E X d code (pc + 1, ls, st, (zx_lay (zx_up M h k v), n)) r) : zx_E X d code (pc, ls, .inl v :: .inl x :: .inr (some h) :: st, (zx_lay M, n)) r := by
  have hl := zx_len_lt h.1
  rw [hk] at hl
  obtain ⟨h1, h2⟩ := zx_in_of hx hlt hl
  refine zx_E.one ?_ hE
  unfold zx_st1
  dsimp only
  rw [hat]
  dsimp only
  unfold zx_do
  dsimp only
  rw [if_pos ⟨by rw [hk], by rw [hk], by rw [hk]; exact h1⟩, h2, zx_wr_lay (zx_ir_lr (zx_ir20 (by rw [hk]) (by rw [hk]) k))]
theorem zx_E.iald' {pc a b k : Nat} {c x v : Int32} {t : List Nat} {ls : zx_L} {st : List zx_V} {M : zx_Y} {n len : Nat} {h : zx_H} (hat : zx_at code pc = some (pc, .iaload, a, b, c, t)) (hk : zx_kd h.1 = (2, 0, len)) (hx : x = nI k) (hlt : k < len) (hv : M h k = v)
    (hE : zx_E X d code (pc + 1, ls, .inl v :: st, (zx_lay M, n)) r) : zx_E X d code (pc, ls, .inl x :: .inr (some h) :: st, (zx_lay M, n)) r := zx_E.iald hat hk hx hlt (by rw [hv]; exact hE)
theorem zx_E.sldA {pc a b k : Nat} {c x : Int32} {t : List Nat} {ls : zx_L} {st : List zx_V} {μ : zx_M} (hat : zx_at code pc = some (pc, .iaload, a, b, c, t)) (hx : x = nI k) (hlt : k < X.1) (hs : k < 2 ^ 31)
    (hE : zx_E X d code (pc + 1, ls, .inl (X.2 k) :: st, μ) r) : zx_E X d code (pc, ls, .inl x :: .inr (some (33, 0, 0, 0)) :: st, μ) r := by
  subst hx
  have h1 : (nI k).toNatClampNeg = k := nI_clamp hs
  have h2 : zx_in (nI k) X.1 = true := by
    simp only [zx_in, Bool.and_eq_true, decide_eq_true_eq]
    exact ⟨nI_pos' hs, by rw [h1]; exact hlt⟩
  refine zx_E.one ?_ hE
  unfold zx_st1
  dsimp only
  rw [hat]
  dsimp only
  unfold zx_do
  dsimp only
  rw [if_pos rfl, if_pos h2, h1]
theorem zx_E.sld' {pc a b k : Nat} {c x v : Int32} {t : List Nat} {ls : zx_L} {st : List zx_V} {μ : zx_M} (hat : zx_at code pc = some (pc, .iaload, a, b, c, t)) (hx : x = nI k) (hlt : k < X.1) (hs : k < 2 ^ 31) (hv : X.2 k = v)
    (hE : zx_E X d code (pc + 1, ls, .inl v :: st, μ) r) : zx_E X d code (pc, ls, .inl x :: .inr (some (33, 0, 0, 0)) :: st, μ) r := zx_E.sldA hat hx hlt hs (by rw [hv]; exact hE)
theorem zx_E.pick {x k k' : Int32} {q d0 : Nat} {qs : List Nat} {ls : zx_L} {st : List zx_V} {μ : zx_M} (hk : k + 1 = k') (kt : x = k → zx_E X d code (q, ls, st, μ) r) (kf : ¬ x = k → zx_E X d code (zx_pick x k' qs d0, ls, st, μ) r) : zx_E X d code (zx_pick x k (q :: qs) d0, ls, st, μ) r := by
  subst hk
  unfold zx_pick
  by_cases h : x = k
  · rw [if_pos h]
    exact kt h
  · rw [if_neg h]
    exact kf h
end ZE
/-- more depth does no harm -/
theorem zx_ex_up {X : zx_X} {R R' : Nat → List zx_V → zx_M → zx_O → Prop} {code : List zx_I} (hR : ∀ y as μ r, R y as μ r → R' y as μ r) : ∀ (n : Nat) (z : zx_S) (r : zx_O), zx_ex X R code n z r → zx_ex X R' code n z r
  | 0, _, _, h => h
  | n + 1, (pc, ls, st, μ), r, h => by
    rcases h with ⟨ν, he, h⟩ | ⟨i, a, b, c, t, hat, h | h | h⟩
    · exact Or.inl ⟨ν, he, zx_ex_up hR n _ r h⟩
    · obtain ⟨z', h1, h2⟩ := h
      exact Or.inr ⟨i, a, b, c, t, hat, Or.inl ⟨z', h1, zx_ex_up hR n _ r h2⟩⟩
    · exact Or.inr ⟨i, a, b, c, t, hat, Or.inr (Or.inl h)⟩
    · obtain ⟨y, as, rest, v, μ', h1, h2, h3⟩ := h
      exact Or.inr ⟨i, a, b, c, t, hat, Or.inr (Or.inr ⟨y, as, rest, v, μ', h1, hR _ _ _ _ h2, zx_ex_up hR n _ r h3⟩)⟩
theorem zx_run_up1 (X : zx_X) : ∀ (d y : Nat) (as : List zx_V) (μ : zx_M) (r : zx_O), zx_run X d y as μ r → zx_run X (d + 1) y as μ r
  | 0, _, _, _, _, h => absurd h id
  | d + 1, y, as, μ, r, h => by
    obtain ⟨n, h⟩ := h
    exact ⟨n, zx_ex_up (zx_run_up1 X d) n _ r h⟩
theorem zx_run_up {X : zx_X} {d d' y : Nat} {as : List zx_V} {μ : zx_M} {r : zx_O} (hd : d ≤ d') (h : zx_run X d y as μ r) : zx_run X d' y as μ r := by
  induction hd with
  | refl => exact h
  | step _ ih => exact zx_run_up1 X _ y as μ r ih
/-- the memory behind the two constructors -/
def zM0 : zx_Y := fun h j => match h.1 with
  | 1 => (match j with | 1 => 60 | 2 => 10 | _ => 0)
  | 7 => (match j with | 0 => Int32.ofNat h.2.2.1 | _ => 0)
  | 25 => (match j with | 12 => -5 | 13 => -5 | 14 => -5 | _ => 0)
  | 26 => (match j with | 25 => 60 | 26 => 10 | _ => 0)
  | _ => 0
theorem zx_15 {a : Int32} (h1 : ¬ a < 1) (h2 : ¬ 5 < a) : a = 1 ∨ a = 2 ∨ a = 3 ∨ a = 4 ∨ a = 5 := by
  have e1 : (1 : Int32).toInt = 1 := by decide
  have e5 : (5 : Int32).toInt = 5 := by decide
  rw [Int32.lt_iff_toInt_lt, e1] at h1
  rw [Int32.lt_iff_toInt_lt, e5] at h2
  have h : a.toInt = 1 ∨ a.toInt = 2 ∨ a.toInt = 3 ∨ a.toInt = 4 ∨ a.toInt = 5 := by omega
  rcases h with h | h | h | h | h
  · exact Or.inl (Int32.toInt_inj.mp h)
  · exact Or.inr (Or.inl (Int32.toInt_inj.mp h))
  · exact Or.inr (Or.inr (Or.inl (Int32.toInt_inj.mp h)))
  · exact Or.inr (Or.inr (Or.inr (Or.inl (Int32.toInt_inj.mp h))))
  · exact Or.inr (Or.inr (Or.inr (Or.inr (Int32.toInt_inj.mp h))))
theorem zx_02 {a : Int32} (h1 : ¬ a < 0) (h2 : ¬ 3 ≤ a) : a = 0 ∨ a = 1 ∨ a = 2 := by
  have e1 : (0 : Int32).toInt = 0 := by decide
  have e5 : (3 : Int32).toInt = 3 := by decide
  rw [Int32.lt_iff_toInt_lt, e1] at h1
  rw [Int32.le_iff_toInt_le, e5] at h2
  have h : a.toInt = 0 ∨ a.toInt = 1 ∨ a.toInt = 2 := by omega
  rcases h with h | h | h
  · exact Or.inl (Int32.toInt_inj.mp h)
  · exact Or.inr (Or.inl (Int32.toInt_inj.mp h))
  · exact Or.inr (Or.inr (Int32.toInt_inj.mp h))
theorem zx_m1 {a : Int32} (h : ¬ a < 0) : -1 < a := by
  have e0 : (0 : Int32).toInt = 0 := by decide
  have e1 : (-1 : Int32).toInt = -1 := by decide
  rw [Int32.lt_iff_toInt_lt, e0] at h
  rw [Int32.lt_iff_toInt_lt, e1]
  omega
